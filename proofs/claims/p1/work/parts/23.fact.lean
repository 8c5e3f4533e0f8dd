/-! facts of fields, links and methods -/
section
theorem fd_MC_inputs : FD 0 0 2 "MaskedCauses" "inputs" "LMaskedCauses$Inputs;" true := ⟨T_MC, 12, ty_MC, rfl, ino_MC, tyo_MC, nmo_MC, by decide, rfl, rfl, Or.inr (Or.inr ⟨rfl, Or.inl ⟨_, rfl⟩⟩), rfl⟩
theorem fd_MC_conditions : FD 0 1 2 "MaskedCauses" "conditions" "LMaskedCauses$Conditions;" true := ⟨T_MC, 12, ty_MC, rfl, ino_MC, tyo_MC, nmo_MC, by decide, rfl, rfl, Or.inr (Or.inr ⟨rfl, Or.inl ⟨_, rfl⟩⟩), rfl⟩
theorem fd_MC_text : FD 0 2 2 "MaskedCauses" "text" "LMaskedCauses$Line;" true := ⟨T_MC, 12, ty_MC, rfl, ino_MC, tyo_MC, nmo_MC, by decide, rfl, rfl, Or.inr (Or.inr ⟨rfl, Or.inl ⟨_, rfl⟩⟩), rfl⟩
theorem fd_MC_tree : FD 0 3 2 "MaskedCauses" "tree" "LMaskedCauses$Tree;" true := ⟨T_MC, 12, ty_MC, rfl, ino_MC, tyo_MC, nmo_MC, by decide, rfl, rfl, Or.inr (Or.inr ⟨rfl, Or.inl ⟨_, rfl⟩⟩), rfl⟩
theorem fd_MC_reader : FD 0 4 2 "MaskedCauses" "reader" "LMaskedCauses$Reader;" true := ⟨T_MC, 12, ty_MC, rfl, ino_MC, tyo_MC, nmo_MC, by decide, rfl, rfl, Or.inr (Or.inr ⟨rfl, Or.inl ⟨_, rfl⟩⟩), rfl⟩
theorem fd_MC_walk : FD 0 5 2 "MaskedCauses" "walk" "LMaskedCauses$Walk;" true := ⟨T_MC, 12, ty_MC, rfl, ino_MC, tyo_MC, nmo_MC, by decide, rfl, rfl, Or.inr (Or.inr ⟨rfl, Or.inl ⟨_, rfl⟩⟩), rfl⟩
theorem fd_MC_decisions : FD 0 6 2 "MaskedCauses" "decisions" "[LMaskedCauses$Decision;" true := ⟨T_MC, 12, ty_MC, rfl, ino_MC, tyo_MC, nmo_MC, by decide, rfl, rfl, Or.inr (Or.inr ⟨rfl, Or.inr ⟨_, rfl⟩⟩), rfl⟩
theorem fd_MC_suite : FD 0 7 2 "MaskedCauses" "suite" "LMaskedCauses$Suite;" true := ⟨T_MC, 12, ty_MC, rfl, ino_MC, tyo_MC, nmo_MC, by decide, rfl, rfl, Or.inr (Or.inr ⟨rfl, Or.inl ⟨_, rfl⟩⟩), rfl⟩
theorem fd_MC_fewest : FD 0 8 2 "MaskedCauses" "fewest" "LMaskedCauses$Fewest;" true := ⟨T_MC, 12, ty_MC, rfl, ino_MC, tyo_MC, nmo_MC, by decide, rfl, rfl, Or.inr (Or.inr ⟨rfl, Or.inl ⟨_, rfl⟩⟩), rfl⟩
theorem fd_MC_records : FD 0 9 2 "MaskedCauses" "records" "LMaskedCauses$Records;" true := ⟨T_MC, 12, ty_MC, rfl, ino_MC, tyo_MC, nmo_MC, by decide, rfl, rfl, Or.inr (Or.inr ⟨rfl, Or.inl ⟨_, rfl⟩⟩), rfl⟩
theorem fd_MC_decisionCount : FD 0 10 0 "MaskedCauses" "decisionCount" "I" false := ⟨T_MC, 12, ty_MC, rfl, ino_MC, tyo_MC, nmo_MC, by decide, rfl, rfl, Or.inl ⟨rfl, rfl⟩, rfl⟩
theorem fd_MC_page : FD 0 11 2 "MaskedCauses" "page" "LMaskedCauses$Line;" false := ⟨T_MC, 12, ty_MC, rfl, ino_MC, tyo_MC, nmo_MC, by decide, rfl, rfl, Or.inr (Or.inr ⟨rfl, Or.inl ⟨_, rfl⟩⟩), rfl⟩
theorem fd_In_low : FD 1 0 2 "MaskedCauses$Inputs" "low" "[I" true := ⟨T_In, 3, ty_In, rfl, ino_In, tyo_In, nmo_In, by decide, rfl, rfl, Or.inr (Or.inr ⟨rfl, Or.inr ⟨_, rfl⟩⟩), rfl⟩
theorem fd_In_high : FD 1 1 2 "MaskedCauses$Inputs" "high" "[I" true := ⟨T_In, 3, ty_In, rfl, ino_In, tyo_In, nmo_In, by decide, rfl, rfl, Or.inr (Or.inr ⟨rfl, Or.inr ⟨_, rfl⟩⟩), rfl⟩
theorem fd_In_count : FD 1 2 0 "MaskedCauses$Inputs" "count" "I" false := ⟨T_In, 3, ty_In, rfl, ino_In, tyo_In, nmo_In, by decide, rfl, rfl, Or.inl ⟨rfl, rfl⟩, rfl⟩
theorem fd_Co_kinds : FD 2 0 2 "MaskedCauses$Conditions" "kinds" "[I" true := ⟨T_Co, 5, ty_Co, rfl, ino_Co, tyo_Co, nmo_Co, by decide, rfl, rfl, Or.inr (Or.inr ⟨rfl, Or.inr ⟨_, rfl⟩⟩), rfl⟩
theorem fd_Co_firsts : FD 2 1 2 "MaskedCauses$Conditions" "firsts" "[I" true := ⟨T_Co, 5, ty_Co, rfl, ino_Co, tyo_Co, nmo_Co, by decide, rfl, rfl, Or.inr (Or.inr ⟨rfl, Or.inr ⟨_, rfl⟩⟩), rfl⟩
theorem fd_Co_seconds : FD 2 2 2 "MaskedCauses$Conditions" "seconds" "[I" true := ⟨T_Co, 5, ty_Co, rfl, ino_Co, tyo_Co, nmo_Co, by decide, rfl, rfl, Or.inr (Or.inr ⟨rfl, Or.inr ⟨_, rfl⟩⟩), rfl⟩
theorem fd_Co_limits : FD 2 3 2 "MaskedCauses$Conditions" "limits" "[I" true := ⟨T_Co, 5, ty_Co, rfl, ino_Co, tyo_Co, nmo_Co, by decide, rfl, rfl, Or.inr (Or.inr ⟨rfl, Or.inr ⟨_, rfl⟩⟩), rfl⟩
theorem fd_Co_count : FD 2 4 0 "MaskedCauses$Conditions" "count" "I" false := ⟨T_Co, 5, ty_Co, rfl, ino_Co, tyo_Co, nmo_Co, by decide, rfl, rfl, Or.inl ⟨rfl, rfl⟩, rfl⟩
theorem fd_Li_characters : FD 3 0 2 "MaskedCauses$Line" "characters" "[C" true := ⟨T_Li, 2, ty_Li, rfl, ino_Li, tyo_Li, nmo_Li, by decide, rfl, rfl, Or.inr (Or.inr ⟨rfl, Or.inr ⟨_, rfl⟩⟩), rfl⟩
theorem fd_Li_count : FD 3 1 0 "MaskedCauses$Line" "count" "I" false := ⟨T_Li, 2, ty_Li, rfl, ino_Li, tyo_Li, nmo_Li, by decide, rfl, rfl, Or.inl ⟨rfl, rfl⟩, rfl⟩
theorem fd_Tr_joints : FD 4 0 2 "MaskedCauses$Tree" "joints" "[I" true := ⟨T_Tr, 7, ty_Tr, rfl, ino_Tr, tyo_Tr, nmo_Tr, by decide, rfl, rfl, Or.inr (Or.inr ⟨rfl, Or.inr ⟨_, rfl⟩⟩), rfl⟩
theorem fd_Tr_lefts : FD 4 1 2 "MaskedCauses$Tree" "lefts" "[I" true := ⟨T_Tr, 7, ty_Tr, rfl, ino_Tr, tyo_Tr, nmo_Tr, by decide, rfl, rfl, Or.inr (Or.inr ⟨rfl, Or.inr ⟨_, rfl⟩⟩), rfl⟩
theorem fd_Tr_rights : FD 4 2 2 "MaskedCauses$Tree" "rights" "[I" true := ⟨T_Tr, 7, ty_Tr, rfl, ino_Tr, tyo_Tr, nmo_Tr, by decide, rfl, rfl, Or.inr (Or.inr ⟨rfl, Or.inr ⟨_, rfl⟩⟩), rfl⟩
theorem fd_Tr_truths : FD 4 3 2 "MaskedCauses$Tree" "truths" "[J" true := ⟨T_Tr, 7, ty_Tr, rfl, ino_Tr, tyo_Tr, nmo_Tr, by decide, rfl, rfl, Or.inr (Or.inr ⟨rfl, Or.inr ⟨_, rfl⟩⟩), rfl⟩
theorem fd_Tr_reached : FD 4 4 2 "MaskedCauses$Tree" "reached" "[J" true := ⟨T_Tr, 7, ty_Tr, rfl, ino_Tr, tyo_Tr, nmo_Tr, by decide, rfl, rfl, Or.inr (Or.inr ⟨rfl, Or.inr ⟨_, rfl⟩⟩), rfl⟩
theorem fd_Tr_count : FD 4 5 0 "MaskedCauses$Tree" "count" "I" false := ⟨T_Tr, 7, ty_Tr, rfl, ino_Tr, tyo_Tr, nmo_Tr, by decide, rfl, rfl, Or.inl ⟨rfl, rfl⟩, rfl⟩
theorem fd_Tr_letters : FD 4 6 0 "MaskedCauses$Tree" "letters" "I" false := ⟨T_Tr, 7, ty_Tr, rfl, ino_Tr, tyo_Tr, nmo_Tr, by decide, rfl, rfl, Or.inl ⟨rfl, rfl⟩, rfl⟩
theorem fd_Re_text : FD 5 0 2 "MaskedCauses$Reader" "text" "LMaskedCauses$Line;" true := ⟨T_Re, 5, ty_Re, rfl, ino_Re, tyo_Re, nmo_Re, by decide, rfl, rfl, Or.inr (Or.inr ⟨rfl, Or.inl ⟨_, rfl⟩⟩), rfl⟩
theorem fd_Re_tree : FD 5 1 2 "MaskedCauses$Reader" "tree" "LMaskedCauses$Tree;" true := ⟨T_Re, 5, ty_Re, rfl, ino_Re, tyo_Re, nmo_Re, by decide, rfl, rfl, Or.inr (Or.inr ⟨rfl, Or.inl ⟨_, rfl⟩⟩), rfl⟩
theorem fd_Re_known : FD 5 2 0 "MaskedCauses$Reader" "known" "I" false := ⟨T_Re, 5, ty_Re, rfl, ino_Re, tyo_Re, nmo_Re, by decide, rfl, rfl, Or.inl ⟨rfl, rfl⟩, rfl⟩
theorem fd_Re_place : FD 5 3 0 "MaskedCauses$Reader" "place" "I" false := ⟨T_Re, 5, ty_Re, rfl, ino_Re, tyo_Re, nmo_Re, by decide, rfl, rfl, Or.inl ⟨rfl, rfl⟩, rfl⟩
theorem fd_Re_fault : FD 5 4 0 "MaskedCauses$Reader" "fault" "I" false := ⟨T_Re, 5, ty_Re, rfl, ino_Re, tyo_Re, nmo_Re, by decide, rfl, rfl, Or.inl ⟨rfl, rfl⟩, rfl⟩
theorem fd_De_conditions : FD 6 0 2 "MaskedCauses$Decision" "conditions" "LMaskedCauses$Conditions;" true := ⟨T_De, 10, ty_De, rfl, ino_De, tyo_De, nmo_De, by decide, rfl, rfl, Or.inr (Or.inr ⟨rfl, Or.inl ⟨_, rfl⟩⟩), rfl⟩
theorem fd_De_shown : FD 6 1 2 "MaskedCauses$Decision" "shown" "LMaskedCauses$Line;" true := ⟨T_De, 10, ty_De, rfl, ino_De, tyo_De, nmo_De, by decide, rfl, rfl, Or.inr (Or.inr ⟨rfl, Or.inl ⟨_, rfl⟩⟩), rfl⟩
theorem fd_De_letters : FD 6 2 2 "MaskedCauses$Decision" "letters" "[I" true := ⟨T_De, 10, ty_De, rfl, ino_De, tyo_De, nmo_De, by decide, rfl, rfl, Or.inr (Or.inr ⟨rfl, Or.inr ⟨_, rfl⟩⟩), rfl⟩
theorem fd_De_strangers : FD 6 3 2 "MaskedCauses$Decision" "strangers" "[I" true := ⟨T_De, 10, ty_De, rfl, ino_De, tyo_De, nmo_De, by decide, rfl, rfl, Or.inr (Or.inr ⟨rfl, Or.inr ⟨_, rfl⟩⟩), rfl⟩
theorem fd_De_evaluating : FD 6 4 2 "MaskedCauses$Decision" "evaluating" "[J" true := ⟨T_De, 10, ty_De, rfl, ino_De, tyo_De, nmo_De, by decide, rfl, rfl, Or.inr (Or.inr ⟨rfl, Or.inr ⟨_, rfl⟩⟩), rfl⟩
theorem fd_De_decisive : FD 6 5 2 "MaskedCauses$Decision" "decisive" "[J" true := ⟨T_De, 10, ty_De, rfl, ino_De, tyo_De, nmo_De, by decide, rfl, rfl, Or.inr (Or.inr ⟨rfl, Or.inr ⟨_, rfl⟩⟩), rfl⟩
theorem fd_De_vectors : FD 6 6 2 "MaskedCauses$Decision" "vectors" "[I" true := ⟨T_De, 10, ty_De, rfl, ino_De, tyo_De, nmo_De, by decide, rfl, rfl, Or.inr (Or.inr ⟨rfl, Or.inr ⟨_, rfl⟩⟩), rfl⟩
theorem fd_De_count : FD 6 7 0 "MaskedCauses$Decision" "count" "I" false := ⟨T_De, 10, ty_De, rfl, ino_De, tyo_De, nmo_De, by decide, rfl, rfl, Or.inl ⟨rfl, rfl⟩, rfl⟩
theorem fd_De_trueWords : FD 6 8 1 "MaskedCauses$Decision" "trueWords" "J" false := ⟨T_De, 10, ty_De, rfl, ino_De, tyo_De, nmo_De, by decide, rfl, rfl, Or.inr (Or.inl ⟨rfl, rfl⟩), rfl⟩
theorem fd_De_feasibleWords : FD 6 9 1 "MaskedCauses$Decision" "feasibleWords" "J" false := ⟨T_De, 10, ty_De, rfl, ino_De, tyo_De, nmo_De, by decide, rfl, rfl, Or.inr (Or.inl ⟨rfl, rfl⟩), rfl⟩
theorem fd_Wa_inputs : FD 7 0 2 "MaskedCauses$Walk" "inputs" "LMaskedCauses$Inputs;" true := ⟨T_Wa, 3, ty_Wa, rfl, ino_Wa, tyo_Wa, nmo_Wa, by decide, rfl, rfl, Or.inr (Or.inr ⟨rfl, Or.inl ⟨_, rfl⟩⟩), rfl⟩
theorem fd_Wa_conditions : FD 7 1 2 "MaskedCauses$Walk" "conditions" "LMaskedCauses$Conditions;" true := ⟨T_Wa, 3, ty_Wa, rfl, ino_Wa, tyo_Wa, nmo_Wa, by decide, rfl, rfl, Or.inr (Or.inr ⟨rfl, Or.inl ⟨_, rfl⟩⟩), rfl⟩
theorem fd_Wa_bits : FD 7 2 2 "MaskedCauses$Walk" "bits" "[[I" true := ⟨T_Wa, 3, ty_Wa, rfl, ino_Wa, tyo_Wa, nmo_Wa, by decide, rfl, rfl, Or.inr (Or.inr ⟨rfl, Or.inr ⟨_, rfl⟩⟩), rfl⟩
theorem fd_Su_words : FD 8 0 2 "MaskedCauses$Suite" "words" "[I" true := ⟨T_Su, 3, ty_Su, rfl, ino_Su, tyo_Su, nmo_Su, by decide, rfl, rfl, Or.inr (Or.inr ⟨rfl, Or.inr ⟨_, rfl⟩⟩), rfl⟩
theorem fd_Su_count : FD 8 1 0 "MaskedCauses$Suite" "count" "I" false := ⟨T_Su, 3, ty_Su, rfl, ino_Su, tyo_Su, nmo_Su, by decide, rfl, rfl, Or.inl ⟨rfl, rfl⟩, rfl⟩
theorem fd_Su_set : FD 8 2 1 "MaskedCauses$Suite" "set" "J" false := ⟨T_Su, 3, ty_Su, rfl, ino_Su, tyo_Su, nmo_Su, by decide, rfl, rfl, Or.inr (Or.inl ⟨rfl, rfl⟩), rfl⟩
theorem fd_Fe_partners : FD 9 0 2 "MaskedCauses$Fewest" "partners" "[J" true := ⟨T_Fe, 5, ty_Fe, rfl, ino_Fe, tyo_Fe, nmo_Fe, by decide, rfl, rfl, Or.inr (Or.inr ⟨rfl, Or.inr ⟨_, rfl⟩⟩), rfl⟩
theorem fd_Fe_conditionCount : FD 9 1 0 "MaskedCauses$Fewest" "conditionCount" "I" false := ⟨T_Fe, 5, ty_Fe, rfl, ino_Fe, tyo_Fe, nmo_Fe, by decide, rfl, rfl, Or.inl ⟨rfl, rfl⟩, rfl⟩
theorem fd_Fe_wordCount : FD 9 2 0 "MaskedCauses$Fewest" "wordCount" "I" false := ⟨T_Fe, 5, ty_Fe, rfl, ino_Fe, tyo_Fe, nmo_Fe, by decide, rfl, rfl, Or.inl ⟨rfl, rfl⟩, rfl⟩
theorem fd_Fe_feasibleWords : FD 9 3 1 "MaskedCauses$Fewest" "feasibleWords" "J" false := ⟨T_Fe, 5, ty_Fe, rfl, ino_Fe, tyo_Fe, nmo_Fe, by decide, rfl, rfl, Or.inr (Or.inl ⟨rfl, rfl⟩), rfl⟩
theorem fd_Fe_solved : FD 9 4 0 "MaskedCauses$Fewest" "solved" "I" false := ⟨T_Fe, 5, ty_Fe, rfl, ino_Fe, tyo_Fe, nmo_Fe, by decide, rfl, rfl, Or.inl ⟨rfl, rfl⟩, rfl⟩
theorem fd_Rc_row : FD 10 0 2 "MaskedCauses$Records" "row" "[I" true := ⟨T_Rc, 2, ty_Rc, rfl, ino_Rc, tyo_Rc, nmo_Rc, by decide, rfl, rfl, Or.inr (Or.inr ⟨rfl, Or.inr ⟨_, rfl⟩⟩), rfl⟩
theorem fd_Rc_count : FD 10 1 0 "MaskedCauses$Records" "count" "I" false := ⟨T_Rc, 2, ty_Rc, rfl, ino_Rc, tyo_Rc, nmo_Rc, by decide, rfl, rfl, Or.inl ⟨rfl, rfl⟩, rfl⟩
theorem fd_Mo_fault : FD 11 0 0 "MaskedCausesModel" "fault" "I" false := ⟨T_Mo, 35, ty_Mo, rfl, ino_Mo, tyo_Mo, nmo_Mo, by decide, rfl, rfl, Or.inl ⟨rfl, rfl⟩, rfl⟩
theorem fd_Mo_inputs : FD 11 1 0 "MaskedCausesModel" "inputs" "I" false := ⟨T_Mo, 35, ty_Mo, rfl, ino_Mo, tyo_Mo, nmo_Mo, by decide, rfl, rfl, Or.inl ⟨rfl, rfl⟩, rfl⟩
theorem fd_Mo_low : FD 11 2 2 "MaskedCausesModel" "low" "[I" true := ⟨T_Mo, 35, ty_Mo, rfl, ino_Mo, tyo_Mo, nmo_Mo, by decide, rfl, rfl, Or.inr (Or.inr ⟨rfl, Or.inr ⟨_, rfl⟩⟩), rfl⟩
theorem fd_Mo_high : FD 11 3 2 "MaskedCausesModel" "high" "[I" true := ⟨T_Mo, 35, ty_Mo, rfl, ino_Mo, tyo_Mo, nmo_Mo, by decide, rfl, rfl, Or.inr (Or.inr ⟨rfl, Or.inr ⟨_, rfl⟩⟩), rfl⟩
theorem fd_Mo_made : FD 11 4 0 "MaskedCausesModel" "made" "I" false := ⟨T_Mo, 35, ty_Mo, rfl, ino_Mo, tyo_Mo, nmo_Mo, by decide, rfl, rfl, Or.inl ⟨rfl, rfl⟩, rfl⟩
theorem fd_Mo_kind : FD 11 5 2 "MaskedCausesModel" "kind" "[I" true := ⟨T_Mo, 35, ty_Mo, rfl, ino_Mo, tyo_Mo, nmo_Mo, by decide, rfl, rfl, Or.inr (Or.inr ⟨rfl, Or.inr ⟨_, rfl⟩⟩), rfl⟩
theorem fd_Mo_one : FD 11 6 2 "MaskedCausesModel" "one" "[I" true := ⟨T_Mo, 35, ty_Mo, rfl, ino_Mo, tyo_Mo, nmo_Mo, by decide, rfl, rfl, Or.inr (Or.inr ⟨rfl, Or.inr ⟨_, rfl⟩⟩), rfl⟩
theorem fd_Mo_two : FD 11 7 2 "MaskedCausesModel" "two" "[I" true := ⟨T_Mo, 35, ty_Mo, rfl, ino_Mo, tyo_Mo, nmo_Mo, by decide, rfl, rfl, Or.inr (Or.inr ⟨rfl, Or.inr ⟨_, rfl⟩⟩), rfl⟩
theorem fd_Mo_bound : FD 11 8 2 "MaskedCausesModel" "bound" "[I" true := ⟨T_Mo, 35, ty_Mo, rfl, ino_Mo, tyo_Mo, nmo_Mo, by decide, rfl, rfl, Or.inr (Or.inr ⟨rfl, Or.inr ⟨_, rfl⟩⟩), rfl⟩
theorem fd_Mo_typed : FD 11 9 0 "MaskedCausesModel" "typed" "I" false := ⟨T_Mo, 35, ty_Mo, rfl, ino_Mo, tyo_Mo, nmo_Mo, by decide, rfl, rfl, Or.inl ⟨rfl, rfl⟩, rfl⟩
theorem fd_Mo_text : FD 11 10 2 "MaskedCausesModel" "text" "[I" true := ⟨T_Mo, 35, ty_Mo, rfl, ino_Mo, tyo_Mo, nmo_Mo, by decide, rfl, rfl, Or.inr (Or.inr ⟨rfl, Or.inr ⟨_, rfl⟩⟩), rfl⟩
theorem fd_Mo_decisions : FD 11 11 0 "MaskedCausesModel" "decisions" "I" false := ⟨T_Mo, 35, ty_Mo, rfl, ino_Mo, tyo_Mo, nmo_Mo, by decide, rfl, rfl, Or.inl ⟨rfl, rfl⟩, rfl⟩
theorem fd_Mo_signs : FD 11 12 2 "MaskedCausesModel" "signs" "[I" true := ⟨T_Mo, 35, ty_Mo, rfl, ino_Mo, tyo_Mo, nmo_Mo, by decide, rfl, rfl, Or.inr (Or.inr ⟨rfl, Or.inr ⟨_, rfl⟩⟩), rfl⟩
theorem fd_Mo_length : FD 11 13 2 "MaskedCausesModel" "length" "[I" true := ⟨T_Mo, 35, ty_Mo, rfl, ino_Mo, tyo_Mo, nmo_Mo, by decide, rfl, rfl, Or.inr (Or.inr ⟨rfl, Or.inr ⟨_, rfl⟩⟩), rfl⟩
theorem fd_Mo_isShort : FD 11 14 2 "MaskedCausesModel" "isShort" "[Z" true := ⟨T_Mo, 35, ty_Mo, rfl, ino_Mo, tyo_Mo, nmo_Mo, by decide, rfl, rfl, Or.inr (Or.inr ⟨rfl, Or.inr ⟨_, rfl⟩⟩), rfl⟩
theorem fd_Mo_many : FD 11 15 2 "MaskedCausesModel" "many" "[I" true := ⟨T_Mo, 35, ty_Mo, rfl, ino_Mo, tyo_Mo, nmo_Mo, by decide, rfl, rfl, Or.inr (Or.inr ⟨rfl, Or.inr ⟨_, rfl⟩⟩), rfl⟩
theorem fd_Mo_uses : FD 11 16 2 "MaskedCausesModel" "uses" "[I" true := ⟨T_Mo, 35, ty_Mo, rfl, ino_Mo, tyo_Mo, nmo_Mo, by decide, rfl, rfl, Or.inr (Or.inr ⟨rfl, Or.inr ⟨_, rfl⟩⟩), rfl⟩
theorem fd_Mo_can : FD 11 17 2 "MaskedCausesModel" "can" "[Z" true := ⟨T_Mo, 35, ty_Mo, rfl, ino_Mo, tyo_Mo, nmo_Mo, by decide, rfl, rfl, Or.inr (Or.inr ⟨rfl, Or.inr ⟨_, rfl⟩⟩), rfl⟩
theorem fd_Mo_vectors : FD 11 18 2 "MaskedCausesModel" "vectors" "[I" true := ⟨T_Mo, 35, ty_Mo, rfl, ino_Mo, tyo_Mo, nmo_Mo, by decide, rfl, rfl, Or.inr (Or.inr ⟨rfl, Or.inr ⟨_, rfl⟩⟩), rfl⟩
theorem fd_Mo_comes : FD 11 19 2 "MaskedCausesModel" "comes" "[Z" true := ⟨T_Mo, 35, ty_Mo, rfl, ino_Mo, tyo_Mo, nmo_Mo, by decide, rfl, rfl, Or.inr (Or.inr ⟨rfl, Or.inr ⟨_, rfl⟩⟩), rfl⟩
theorem fd_Mo_sees : FD 11 20 2 "MaskedCausesModel" "sees" "[I" true := ⟨T_Mo, 35, ty_Mo, rfl, ino_Mo, tyo_Mo, nmo_Mo, by decide, rfl, rfl, Or.inr (Or.inr ⟨rfl, Or.inr ⟨_, rfl⟩⟩), rfl⟩
theorem fd_Mo_or : FD 11 21 2 "MaskedCausesModel" "or" "[Z" true := ⟨T_Mo, 35, ty_Mo, rfl, ino_Mo, tyo_Mo, nmo_Mo, by decide, rfl, rfl, Or.inr (Or.inr ⟨rfl, Or.inr ⟨_, rfl⟩⟩), rfl⟩
theorem fd_Mo_xor : FD 11 22 2 "MaskedCausesModel" "xor" "[Z" true := ⟨T_Mo, 35, ty_Mo, rfl, ino_Mo, tyo_Mo, nmo_Mo, by decide, rfl, rfl, Or.inr (Or.inr ⟨rfl, Or.inr ⟨_, rfl⟩⟩), rfl⟩
theorem fd_Mo_and : FD 11 23 2 "MaskedCausesModel" "and" "[Z" true := ⟨T_Mo, 35, ty_Mo, rfl, ino_Mo, tyo_Mo, nmo_Mo, by decide, rfl, rfl, Or.inr (Or.inr ⟨rfl, Or.inr ⟨_, rfl⟩⟩), rfl⟩
theorem fd_Mo_not : FD 11 24 2 "MaskedCausesModel" "not" "[Z" true := ⟨T_Mo, 35, ty_Mo, rfl, ino_Mo, tyo_Mo, nmo_Mo, by decide, rfl, rfl, Or.inr (Or.inr ⟨rfl, Or.inr ⟨_, rfl⟩⟩), rfl⟩
theorem fd_Mo_live : FD 11 25 2 "MaskedCausesModel" "live" "[Z" true := ⟨T_Mo, 35, ty_Mo, rfl, ino_Mo, tyo_Mo, nmo_Mo, by decide, rfl, rfl, Or.inr (Or.inr ⟨rfl, Or.inr ⟨_, rfl⟩⟩), rfl⟩
theorem fd_Mo_deep : FD 11 26 0 "MaskedCausesModel" "deep" "I" false := ⟨T_Mo, 35, ty_Mo, rfl, ino_Mo, tyo_Mo, nmo_Mo, by decide, rfl, rfl, Or.inl ⟨rfl, rfl⟩, rfl⟩
theorem fd_Mo_seen : FD 11 27 0 "MaskedCausesModel" "seen" "I" false := ⟨T_Mo, 35, ty_Mo, rfl, ino_Mo, tyo_Mo, nmo_Mo, by decide, rfl, rfl, Or.inl ⟨rfl, rfl⟩, rfl⟩
theorem fd_Mo_suiteSize : FD 11 28 0 "MaskedCausesModel" "suiteSize" "I" false := ⟨T_Mo, 35, ty_Mo, rfl, ino_Mo, tyo_Mo, nmo_Mo, by decide, rfl, rfl, Or.inl ⟨rfl, rfl⟩, rfl⟩
theorem fd_Mo_suite : FD 11 29 2 "MaskedCausesModel" "suite" "[I" true := ⟨T_Mo, 35, ty_Mo, rfl, ino_Mo, tyo_Mo, nmo_Mo, by decide, rfl, rfl, Or.inr (Or.inr ⟨rfl, Or.inr ⟨_, rfl⟩⟩), rfl⟩
theorem fd_Mo_partners : FD 11 30 2 "MaskedCausesModel" "partners" "[I" true := ⟨T_Mo, 35, ty_Mo, rfl, ino_Mo, tyo_Mo, nmo_Mo, by decide, rfl, rfl, Or.inr (Or.inr ⟨rfl, Or.inr ⟨_, rfl⟩⟩), rfl⟩
theorem fd_Mo_kept : FD 11 31 0 "MaskedCausesModel" "kept" "I" false := ⟨T_Mo, 35, ty_Mo, rfl, ino_Mo, tyo_Mo, nmo_Mo, by decide, rfl, rfl, Or.inl ⟨rfl, rfl⟩, rfl⟩
theorem fd_Mo_records : FD 11 32 2 "MaskedCausesModel" "records" "[I" true := ⟨T_Mo, 35, ty_Mo, rfl, ino_Mo, tyo_Mo, nmo_Mo, by decide, rfl, rfl, Or.inr (Or.inr ⟨rfl, Or.inr ⟨_, rfl⟩⟩), rfl⟩
theorem fd_Mo_written : FD 11 33 0 "MaskedCausesModel" "written" "I" false := ⟨T_Mo, 35, ty_Mo, rfl, ino_Mo, tyo_Mo, nmo_Mo, by decide, rfl, rfl, Or.inl ⟨rfl, rfl⟩, rfl⟩
theorem fd_Mo_page : FD 11 34 2 "MaskedCausesModel" "page" "[I" true := ⟨T_Mo, 35, ty_Mo, rfl, ino_Mo, tyo_Mo, nmo_Mo, by decide, rfl, rfl, Or.inr (Or.inr ⟨rfl, Or.inr ⟨_, rfl⟩⟩), rfl⟩
theorem in_La : Cond.initialized "MaskedCausesLaw" ∈ TB := tb_1 0 rfl rfl
theorem in_MC : Cond.initialized "MaskedCauses" ∈ TB := tb_1 1 rfl rfl
theorem in_In : Cond.initialized "MaskedCauses$Inputs" ∈ TB := tb_1 2 rfl rfl
theorem in_Co : Cond.initialized "MaskedCauses$Conditions" ∈ TB := tb_1 3 rfl rfl
theorem in_Li : Cond.initialized "MaskedCauses$Line" ∈ TB := tb_1 4 rfl rfl
theorem in_Tr : Cond.initialized "MaskedCauses$Tree" ∈ TB := tb_1 5 rfl rfl
theorem in_Re : Cond.initialized "MaskedCauses$Reader" ∈ TB := tb_1 6 rfl rfl
theorem in_Wa : Cond.initialized "MaskedCauses$Walk" ∈ TB := tb_1 7 rfl rfl
theorem in_De : Cond.initialized "MaskedCauses$Decision" ∈ TB := tb_1 8 rfl rfl
theorem in_Su : Cond.initialized "MaskedCauses$Suite" ∈ TB := tb_1 9 rfl rfl
theorem in_Fe : Cond.initialized "MaskedCauses$Fewest" ∈ TB := tb_1 10 rfl rfl
theorem in_Rc : Cond.initialized "MaskedCauses$Records" ∈ TB := tb_1 11 rfl rfl
theorem in_Mo : Cond.initialized "MaskedCausesModel" ∈ TB := tb_1 12 rfl rfl
theorem in_ex0 : Cond.initialized "java/lang/IllegalStateException" ∈ TB := tb_1 16 rfl rfl
theorem in_ex1 : Cond.initialized "java/lang/IllegalArgumentException" ∈ TB := tb_1 17 rfl rfl
theorem in_ex2 : Cond.initialized "java/lang/IndexOutOfBoundsException" ∈ TB := tb_1 18 rfl rfl
theorem in_jS : Cond.initialized "java/lang/String" ∈ TB := tb_1 19 rfl rfl
theorem in_jT : Cond.initialized "java/lang/StringLatin1" ∈ TB := tb_1 20 rfl rfl
theorem in_jI : Cond.initialized "java/lang/Integer" ∈ TB := tb_1 23 rfl rfl
theorem in_jL : Cond.initialized "java/lang/Long" ∈ TB := tb_1 24 rfl rfl
theorem in_jM : Cond.initialized "java/lang/Math" ∈ TB := tb_1 25 rfl rfl
theorem cl_La_8 : Cond.classLink "MaskedCausesLaw" 8 "MaskedCauses" ∈ TB := tb_1 26 rfl rfl
theorem it_MC : Cond.instantiable "MaskedCauses" 12 ∈ TB := tb_1 27 rfl rfl
theorem cl_MC_7 : Cond.classLink "MaskedCauses" 7 "MaskedCauses$Inputs" ∈ TB := tb_1 34 rfl rfl
theorem it_In : Cond.instantiable "MaskedCauses$Inputs" 3 ∈ TB := tb_1 35 rfl rfl
theorem lk_In_9 : LK "MaskedCauses$Inputs" 9 "MaskedCauses$Inputs" "low" "[I" := Or.inl (tb_1 40 rfl rfl)
theorem lp_In_9 : Cond.fieldLink "MaskedCauses$Inputs" 9 "MaskedCauses$Inputs" "low" "[I" ∈ TB := tb_1 40 rfl rfl
theorem lk_In_15 : LK "MaskedCauses$Inputs" 15 "MaskedCauses$Inputs" "high" "[I" := Or.inl (tb_1 41 rfl rfl)
theorem lp_In_15 : Cond.fieldLink "MaskedCauses$Inputs" 15 "MaskedCauses$Inputs" "high" "[I" ∈ TB := tb_1 41 rfl rfl
theorem lk_In_18 : LK "MaskedCauses$Inputs" 18 "MaskedCauses$Inputs" "count" "I" := Or.inl (tb_1 42 rfl rfl)
theorem lp_In_18 : Cond.fieldLink "MaskedCauses$Inputs" 18 "MaskedCauses$Inputs" "count" "I" ∈ TB := tb_1 42 rfl rfl
theorem ac_int : Cond.arrayClass .int ∈ TB := tb_1 50 rfl rfl
theorem cl_MC_16 : Cond.classLink "MaskedCauses" 16 "MaskedCauses$Conditions" ∈ TB := tb_1 51 rfl rfl
theorem it_Co : Cond.instantiable "MaskedCauses$Conditions" 5 ∈ TB := tb_1 52 rfl rfl
theorem lk_Co_9 : LK "MaskedCauses$Conditions" 9 "MaskedCauses$Conditions" "kinds" "[I" := Or.inl (tb_1 57 rfl rfl)
theorem lp_Co_9 : Cond.fieldLink "MaskedCauses$Conditions" 9 "MaskedCauses$Conditions" "kinds" "[I" ∈ TB := tb_1 57 rfl rfl
theorem lk_Co_15 : LK "MaskedCauses$Conditions" 15 "MaskedCauses$Conditions" "firsts" "[I" := Or.inl (tb_1 58 rfl rfl)
theorem lp_Co_15 : Cond.fieldLink "MaskedCauses$Conditions" 15 "MaskedCauses$Conditions" "firsts" "[I" ∈ TB := tb_1 58 rfl rfl
theorem lk_Co_18 : LK "MaskedCauses$Conditions" 18 "MaskedCauses$Conditions" "seconds" "[I" := Or.inl (tb_1 59 rfl rfl)
theorem lp_Co_18 : Cond.fieldLink "MaskedCauses$Conditions" 18 "MaskedCauses$Conditions" "seconds" "[I" ∈ TB := tb_1 59 rfl rfl
theorem lk_Co_21 : LK "MaskedCauses$Conditions" 21 "MaskedCauses$Conditions" "limits" "[I" := Or.inl (tb_1 60 rfl rfl)
theorem lp_Co_21 : Cond.fieldLink "MaskedCauses$Conditions" 21 "MaskedCauses$Conditions" "limits" "[I" ∈ TB := tb_1 60 rfl rfl
theorem lk_Co_24 : LK "MaskedCauses$Conditions" 24 "MaskedCauses$Conditions" "count" "I" := Or.inl (tb_1 61 rfl rfl)
theorem lp_Co_24 : Cond.fieldLink "MaskedCauses$Conditions" 24 "MaskedCauses$Conditions" "count" "I" ∈ TB := tb_1 61 rfl rfl
theorem cl_MC_23 : Cond.classLink "MaskedCauses" 23 "MaskedCauses$Line" ∈ TB := tb_1 73 rfl rfl
theorem it_Li : Cond.instantiable "MaskedCauses$Line" 2 ∈ TB := tb_1 74 rfl rfl
theorem lk_Li_9 : LK "MaskedCauses$Line" 9 "MaskedCauses$Line" "characters" "[C" := Or.inl (tb_1 79 rfl rfl)
theorem lp_Li_9 : Cond.fieldLink "MaskedCauses$Line" 9 "MaskedCauses$Line" "characters" "[C" ∈ TB := tb_1 79 rfl rfl
theorem lk_Li_15 : LK "MaskedCauses$Line" 15 "MaskedCauses$Line" "count" "I" := Or.inl (tb_1 80 rfl rfl)
theorem lp_Li_15 : Cond.fieldLink "MaskedCauses$Line" 15 "MaskedCauses$Line" "count" "I" ∈ TB := tb_1 80 rfl rfl
theorem ac_char : Cond.arrayClass .char ∈ TB := tb_1 86 rfl rfl
theorem cl_MC_30 : Cond.classLink "MaskedCauses" 30 "MaskedCauses$Tree" ∈ TB := tb_1 87 rfl rfl
theorem it_Tr : Cond.instantiable "MaskedCauses$Tree" 7 ∈ TB := tb_1 88 rfl rfl
theorem lk_Tr_9 : LK "MaskedCauses$Tree" 9 "MaskedCauses$Tree" "joints" "[I" := Or.inl (tb_1 93 rfl rfl)
theorem lp_Tr_9 : Cond.fieldLink "MaskedCauses$Tree" 9 "MaskedCauses$Tree" "joints" "[I" ∈ TB := tb_1 93 rfl rfl
theorem lk_Tr_15 : LK "MaskedCauses$Tree" 15 "MaskedCauses$Tree" "lefts" "[I" := Or.inl (tb_1 94 rfl rfl)
theorem lp_Tr_15 : Cond.fieldLink "MaskedCauses$Tree" 15 "MaskedCauses$Tree" "lefts" "[I" ∈ TB := tb_1 94 rfl rfl
theorem lk_Tr_18 : LK "MaskedCauses$Tree" 18 "MaskedCauses$Tree" "rights" "[I" := Or.inl (tb_1 95 rfl rfl)
theorem lp_Tr_18 : Cond.fieldLink "MaskedCauses$Tree" 18 "MaskedCauses$Tree" "rights" "[I" ∈ TB := tb_1 95 rfl rfl
theorem lk_Tr_21 : LK "MaskedCauses$Tree" 21 "MaskedCauses$Tree" "truths" "[J" := Or.inl (tb_1 96 rfl rfl)
theorem lp_Tr_21 : Cond.fieldLink "MaskedCauses$Tree" 21 "MaskedCauses$Tree" "truths" "[J" ∈ TB := tb_1 96 rfl rfl
theorem lk_Tr_25 : LK "MaskedCauses$Tree" 25 "MaskedCauses$Tree" "reached" "[J" := Or.inl (tb_1 97 rfl rfl)
theorem lp_Tr_25 : Cond.fieldLink "MaskedCauses$Tree" 25 "MaskedCauses$Tree" "reached" "[J" ∈ TB := tb_1 97 rfl rfl
theorem lk_Tr_28 : LK "MaskedCauses$Tree" 28 "MaskedCauses$Tree" "count" "I" := Or.inl (tb_1 98 rfl rfl)
theorem lp_Tr_28 : Cond.fieldLink "MaskedCauses$Tree" 28 "MaskedCauses$Tree" "count" "I" ∈ TB := tb_1 98 rfl rfl
theorem lk_Tr_32 : LK "MaskedCauses$Tree" 32 "MaskedCauses$Tree" "letters" "I" := Or.inl (tb_1 99 rfl rfl)
theorem lp_Tr_32 : Cond.fieldLink "MaskedCauses$Tree" 32 "MaskedCauses$Tree" "letters" "I" ∈ TB := tb_1 99 rfl rfl
theorem ac_long : Cond.arrayClass .long ∈ TB := tb_1 115 rfl rfl
theorem cl_MC_37 : Cond.classLink "MaskedCauses" 37 "MaskedCauses$Reader" ∈ TB := tb_1 116 rfl rfl
theorem it_Re : Cond.instantiable "MaskedCauses$Reader" 5 ∈ TB := tb_1 117 rfl rfl
theorem lk_Re_21 : LK "MaskedCauses$Reader" 21 "MaskedCauses$Reader" "text" "LMaskedCauses$Line;" := Or.inl (tb_1 122 rfl rfl)
theorem lp_Re_21 : Cond.fieldLink "MaskedCauses$Reader" 21 "MaskedCauses$Reader" "text" "LMaskedCauses$Line;" ∈ TB := tb_1 122 rfl rfl
theorem lk_Re_25 : LK "MaskedCauses$Reader" 25 "MaskedCauses$Reader" "tree" "LMaskedCauses$Tree;" := Or.inl (tb_1 123 rfl rfl)
theorem lp_Re_25 : Cond.fieldLink "MaskedCauses$Reader" 25 "MaskedCauses$Reader" "tree" "LMaskedCauses$Tree;" ∈ TB := tb_1 123 rfl rfl
theorem lk_Re_9 : LK "MaskedCauses$Reader" 9 "MaskedCauses$Reader" "known" "I" := Or.inl (tb_1 124 rfl rfl)
theorem lp_Re_9 : Cond.fieldLink "MaskedCauses$Reader" 9 "MaskedCauses$Reader" "known" "I" ∈ TB := tb_1 124 rfl rfl
theorem lk_Re_15 : LK "MaskedCauses$Reader" 15 "MaskedCauses$Reader" "place" "I" := Or.inl (tb_1 125 rfl rfl)
theorem lp_Re_15 : Cond.fieldLink "MaskedCauses$Reader" 15 "MaskedCauses$Reader" "place" "I" ∈ TB := tb_1 125 rfl rfl
theorem lk_Re_18 : LK "MaskedCauses$Reader" 18 "MaskedCauses$Reader" "fault" "I" := Or.inl (tb_1 126 rfl rfl)
theorem lp_Re_18 : Cond.fieldLink "MaskedCauses$Reader" 18 "MaskedCauses$Reader" "fault" "I" ∈ TB := tb_1 126 rfl rfl
theorem cl_MC_46 : Cond.classLink "MaskedCauses" 46 "MaskedCauses$Walk" ∈ TB := tb_1 138 rfl rfl
theorem it_Wa : Cond.instantiable "MaskedCauses$Walk" 3 ∈ TB := tb_1 139 rfl rfl
theorem cl_Wa_11 : Cond.classLink "MaskedCauses$Walk" 11 "[[I" ∈ TB := tb_1 144 rfl rfl
theorem ao_i : Cond.arrayOver ((Jvm.ClassFile.FieldType.array Jvm.ClassFile.FieldType.int)) ∈ tables_1 := tm_1 145 rfl
theorem lk_Wa_16 : LK "MaskedCauses$Walk" 16 "MaskedCauses$Walk" "inputs" "LMaskedCauses$Inputs;" := Or.inl (tb_1 146 rfl rfl)
theorem lp_Wa_16 : Cond.fieldLink "MaskedCauses$Walk" 16 "MaskedCauses$Walk" "inputs" "LMaskedCauses$Inputs;" ∈ TB := tb_1 146 rfl rfl
theorem lk_Wa_20 : LK "MaskedCauses$Walk" 20 "MaskedCauses$Walk" "conditions" "LMaskedCauses$Conditions;" := Or.inl (tb_1 147 rfl rfl)
theorem lp_Wa_20 : Cond.fieldLink "MaskedCauses$Walk" 20 "MaskedCauses$Walk" "conditions" "LMaskedCauses$Conditions;" ∈ TB := tb_1 147 rfl rfl
theorem lk_Wa_13 : LK "MaskedCauses$Walk" 13 "MaskedCauses$Walk" "bits" "[[I" := Or.inl (tb_1 148 rfl rfl)
theorem lp_Wa_13 : Cond.fieldLink "MaskedCauses$Walk" 13 "MaskedCauses$Walk" "bits" "[[I" ∈ TB := tb_1 148 rfl rfl
theorem cl_MC_55 : Cond.classLink "MaskedCauses" 55 "MaskedCauses$Decision" ∈ TB := tb_1 156 rfl rfl
theorem ao_d : Cond.arrayOver ((Jvm.ClassFile.FieldType.object "MaskedCauses$Decision")) ∈ tables_1 := tm_1 157 rfl
theorem it_De : Cond.instantiable "MaskedCauses$Decision" 10 ∈ TB := tb_1 158 rfl rfl
theorem cl_De_9 : Cond.classLink "MaskedCauses$Decision" 9 "MaskedCauses$Line" ∈ TB := tb_1 163 rfl rfl
theorem lk_De_46 : LK "MaskedCauses$Decision" 46 "MaskedCauses$Decision" "conditions" "LMaskedCauses$Conditions;" := Or.inl (tb_1 165 rfl rfl)
theorem lp_De_46 : Cond.fieldLink "MaskedCauses$Decision" 46 "MaskedCauses$Decision" "conditions" "LMaskedCauses$Conditions;" ∈ TB := tb_1 165 rfl rfl
theorem lk_De_12 : LK "MaskedCauses$Decision" 12 "MaskedCauses$Decision" "shown" "LMaskedCauses$Line;" := Or.inl (tb_1 166 rfl rfl)
theorem lp_De_12 : Cond.fieldLink "MaskedCauses$Decision" 12 "MaskedCauses$Decision" "shown" "LMaskedCauses$Line;" ∈ TB := tb_1 166 rfl rfl
theorem lk_De_18 : LK "MaskedCauses$Decision" 18 "MaskedCauses$Decision" "letters" "[I" := Or.inl (tb_1 167 rfl rfl)
theorem lp_De_18 : Cond.fieldLink "MaskedCauses$Decision" 18 "MaskedCauses$Decision" "letters" "[I" ∈ TB := tb_1 167 rfl rfl
theorem lk_De_22 : LK "MaskedCauses$Decision" 22 "MaskedCauses$Decision" "strangers" "[I" := Or.inl (tb_1 168 rfl rfl)
theorem lp_De_22 : Cond.fieldLink "MaskedCauses$Decision" 22 "MaskedCauses$Decision" "strangers" "[I" ∈ TB := tb_1 168 rfl rfl
theorem lk_De_25 : LK "MaskedCauses$Decision" 25 "MaskedCauses$Decision" "evaluating" "[J" := Or.inl (tb_1 169 rfl rfl)
theorem lp_De_25 : Cond.fieldLink "MaskedCauses$Decision" 25 "MaskedCauses$Decision" "evaluating" "[J" ∈ TB := tb_1 169 rfl rfl
theorem lk_De_29 : LK "MaskedCauses$Decision" 29 "MaskedCauses$Decision" "decisive" "[J" := Or.inl (tb_1 170 rfl rfl)
theorem lp_De_29 : Cond.fieldLink "MaskedCauses$Decision" 29 "MaskedCauses$Decision" "decisive" "[J" ∈ TB := tb_1 170 rfl rfl
theorem lk_De_32 : LK "MaskedCauses$Decision" 32 "MaskedCauses$Decision" "vectors" "[I" := Or.inl (tb_1 171 rfl rfl)
theorem lp_De_32 : Cond.fieldLink "MaskedCauses$Decision" 32 "MaskedCauses$Decision" "vectors" "[I" ∈ TB := tb_1 171 rfl rfl
theorem lk_De_35 : LK "MaskedCauses$Decision" 35 "MaskedCauses$Decision" "count" "I" := Or.inl (tb_1 172 rfl rfl)
theorem lp_De_35 : Cond.fieldLink "MaskedCauses$Decision" 35 "MaskedCauses$Decision" "count" "I" ∈ TB := tb_1 172 rfl rfl
theorem lk_De_39 : LK "MaskedCauses$Decision" 39 "MaskedCauses$Decision" "trueWords" "J" := Or.inl (tb_1 173 rfl rfl)
theorem lp_De_39 : Cond.fieldLink "MaskedCauses$Decision" 39 "MaskedCauses$Decision" "trueWords" "J" ∈ TB := tb_1 173 rfl rfl
theorem lk_De_43 : LK "MaskedCauses$Decision" 43 "MaskedCauses$Decision" "feasibleWords" "J" := Or.inl (tb_1 174 rfl rfl)
theorem lp_De_43 : Cond.fieldLink "MaskedCauses$Decision" 43 "MaskedCauses$Decision" "feasibleWords" "J" ∈ TB := tb_1 174 rfl rfl
theorem cl_MC_64 : Cond.classLink "MaskedCauses" 64 "MaskedCauses$Suite" ∈ TB := tb_1 196 rfl rfl
theorem it_Su : Cond.instantiable "MaskedCauses$Suite" 3 ∈ TB := tb_1 197 rfl rfl
theorem lk_Su_9 : LK "MaskedCauses$Suite" 9 "MaskedCauses$Suite" "words" "[I" := Or.inl (tb_1 202 rfl rfl)
theorem lp_Su_9 : Cond.fieldLink "MaskedCauses$Suite" 9 "MaskedCauses$Suite" "words" "[I" ∈ TB := tb_1 202 rfl rfl
theorem lk_Su_15 : LK "MaskedCauses$Suite" 15 "MaskedCauses$Suite" "count" "I" := Or.inl (tb_1 203 rfl rfl)
theorem lp_Su_15 : Cond.fieldLink "MaskedCauses$Suite" 15 "MaskedCauses$Suite" "count" "I" ∈ TB := tb_1 203 rfl rfl
theorem lk_Su_19 : LK "MaskedCauses$Suite" 19 "MaskedCauses$Suite" "set" "J" := Or.inl (tb_1 204 rfl rfl)
theorem lp_Su_19 : Cond.fieldLink "MaskedCauses$Suite" 19 "MaskedCauses$Suite" "set" "J" ∈ TB := tb_1 204 rfl rfl
theorem cl_MC_71 : Cond.classLink "MaskedCauses" 71 "MaskedCauses$Fewest" ∈ TB := tb_1 212 rfl rfl
theorem it_Fe : Cond.instantiable "MaskedCauses$Fewest" 5 ∈ TB := tb_1 213 rfl rfl
theorem lk_Fe_9 : LK "MaskedCauses$Fewest" 9 "MaskedCauses$Fewest" "partners" "[J" := Or.inl (tb_1 218 rfl rfl)
theorem lp_Fe_9 : Cond.fieldLink "MaskedCauses$Fewest" 9 "MaskedCauses$Fewest" "partners" "[J" ∈ TB := tb_1 218 rfl rfl
theorem lk_Fe_15 : LK "MaskedCauses$Fewest" 15 "MaskedCauses$Fewest" "conditionCount" "I" := Or.inl (tb_1 219 rfl rfl)
theorem lp_Fe_15 : Cond.fieldLink "MaskedCauses$Fewest" 15 "MaskedCauses$Fewest" "conditionCount" "I" ∈ TB := tb_1 219 rfl rfl
theorem lk_Fe_19 : LK "MaskedCauses$Fewest" 19 "MaskedCauses$Fewest" "wordCount" "I" := Or.inl (tb_1 220 rfl rfl)
theorem lp_Fe_19 : Cond.fieldLink "MaskedCauses$Fewest" 19 "MaskedCauses$Fewest" "wordCount" "I" ∈ TB := tb_1 220 rfl rfl
theorem lk_Fe_22 : LK "MaskedCauses$Fewest" 22 "MaskedCauses$Fewest" "feasibleWords" "J" := Or.inl (tb_1 221 rfl rfl)
theorem lp_Fe_22 : Cond.fieldLink "MaskedCauses$Fewest" 22 "MaskedCauses$Fewest" "feasibleWords" "J" ∈ TB := tb_1 221 rfl rfl
theorem lk_Fe_26 : LK "MaskedCauses$Fewest" 26 "MaskedCauses$Fewest" "solved" "I" := Or.inl (tb_1 222 rfl rfl)
theorem lp_Fe_26 : Cond.fieldLink "MaskedCauses$Fewest" 26 "MaskedCauses$Fewest" "solved" "I" ∈ TB := tb_1 222 rfl rfl
theorem cl_MC_78 : Cond.classLink "MaskedCauses" 78 "MaskedCauses$Records" ∈ TB := tb_1 234 rfl rfl
theorem it_Rc : Cond.instantiable "MaskedCauses$Records" 2 ∈ TB := tb_1 235 rfl rfl
theorem lk_Rc_9 : LK "MaskedCauses$Records" 9 "MaskedCauses$Records" "row" "[I" := Or.inl (tb_2 0 rfl rfl)
theorem lp_Rc_9 : Cond.fieldLink "MaskedCauses$Records" 9 "MaskedCauses$Records" "row" "[I" ∈ TB := tb_2 0 rfl rfl
theorem lk_Rc_15 : LK "MaskedCauses$Records" 15 "MaskedCauses$Records" "count" "I" := Or.inl (tb_2 1 rfl rfl)
theorem lp_Rc_15 : Cond.fieldLink "MaskedCauses$Records" 15 "MaskedCauses$Records" "count" "I" ∈ TB := tb_2 1 rfl rfl
theorem lk_MC_10 : LK "MaskedCauses" 10 "MaskedCauses" "inputs" "LMaskedCauses$Inputs;" := Or.inl (tb_2 7 rfl rfl)
theorem lp_MC_10 : Cond.fieldLink "MaskedCauses" 10 "MaskedCauses" "inputs" "LMaskedCauses$Inputs;" ∈ TB := tb_2 7 rfl rfl
theorem lk_MC_19 : LK "MaskedCauses" 19 "MaskedCauses" "conditions" "LMaskedCauses$Conditions;" := Or.inl (tb_2 8 rfl rfl)
theorem lp_MC_19 : Cond.fieldLink "MaskedCauses" 19 "MaskedCauses" "conditions" "LMaskedCauses$Conditions;" ∈ TB := tb_2 8 rfl rfl
theorem lk_MC_26 : LK "MaskedCauses" 26 "MaskedCauses" "text" "LMaskedCauses$Line;" := Or.inl (tb_2 9 rfl rfl)
theorem lp_MC_26 : Cond.fieldLink "MaskedCauses" 26 "MaskedCauses" "text" "LMaskedCauses$Line;" ∈ TB := tb_2 9 rfl rfl
theorem lk_MC_33 : LK "MaskedCauses" 33 "MaskedCauses" "tree" "LMaskedCauses$Tree;" := Or.inl (tb_2 10 rfl rfl)
theorem lp_MC_33 : Cond.fieldLink "MaskedCauses" 33 "MaskedCauses" "tree" "LMaskedCauses$Tree;" ∈ TB := tb_2 10 rfl rfl
theorem lk_MC_42 : LK "MaskedCauses" 42 "MaskedCauses" "reader" "LMaskedCauses$Reader;" := Or.inl (tb_2 11 rfl rfl)
theorem lp_MC_42 : Cond.fieldLink "MaskedCauses" 42 "MaskedCauses" "reader" "LMaskedCauses$Reader;" ∈ TB := tb_2 11 rfl rfl
theorem lk_MC_51 : LK "MaskedCauses" 51 "MaskedCauses" "walk" "LMaskedCauses$Walk;" := Or.inl (tb_2 12 rfl rfl)
theorem lp_MC_51 : Cond.fieldLink "MaskedCauses" 51 "MaskedCauses" "walk" "LMaskedCauses$Walk;" ∈ TB := tb_2 12 rfl rfl
theorem lk_MC_57 : LK "MaskedCauses" 57 "MaskedCauses" "decisions" "[LMaskedCauses$Decision;" := Or.inl (tb_2 13 rfl rfl)
theorem lp_MC_57 : Cond.fieldLink "MaskedCauses" 57 "MaskedCauses" "decisions" "[LMaskedCauses$Decision;" ∈ TB := tb_2 13 rfl rfl
theorem lk_MC_67 : LK "MaskedCauses" 67 "MaskedCauses" "suite" "LMaskedCauses$Suite;" := Or.inl (tb_2 14 rfl rfl)
theorem lp_MC_67 : Cond.fieldLink "MaskedCauses" 67 "MaskedCauses" "suite" "LMaskedCauses$Suite;" ∈ TB := tb_2 14 rfl rfl
theorem lk_MC_74 : LK "MaskedCauses" 74 "MaskedCauses" "fewest" "LMaskedCauses$Fewest;" := Or.inl (tb_2 15 rfl rfl)
theorem lp_MC_74 : Cond.fieldLink "MaskedCauses" 74 "MaskedCauses" "fewest" "LMaskedCauses$Fewest;" ∈ TB := tb_2 15 rfl rfl
theorem lk_MC_81 : LK "MaskedCauses" 81 "MaskedCauses" "records" "LMaskedCauses$Records;" := Or.inl (tb_2 16 rfl rfl)
theorem lp_MC_81 : Cond.fieldLink "MaskedCauses" 81 "MaskedCauses" "records" "LMaskedCauses$Records;" ∈ TB := tb_2 16 rfl rfl
theorem lk_MC_85 : LK "MaskedCauses" 85 "MaskedCauses" "decisionCount" "I" := Or.inl (tb_2 17 rfl rfl)
theorem lp_MC_85 : Cond.fieldLink "MaskedCauses" 85 "MaskedCauses" "decisionCount" "I" ∈ TB := tb_2 17 rfl rfl
theorem lk_MC_89 : LK "MaskedCauses" 89 "MaskedCauses" "page" "LMaskedCauses$Line;" := Or.inl (tb_2 18 rfl rfl)
theorem lp_MC_89 : Cond.fieldLink "MaskedCauses" 89 "MaskedCauses" "page" "LMaskedCauses$Line;" ∈ TB := tb_2 18 rfl rfl
theorem cl_La_13 : Cond.classLink "MaskedCausesLaw" 13 "java/lang/IllegalStateException" ∈ TB := tb_2 95 rfl rfl
theorem cl_La_15 : Cond.classLink "MaskedCausesLaw" 15 "java/lang/IllegalArgumentException" ∈ TB := tb_2 96 rfl rfl
theorem cl_MC_100 : Cond.classLink "MaskedCauses" 100 "java/lang/IllegalStateException" ∈ TB := tb_2 109 rfl rfl
theorem ca_0 : Cond.castable (exN 0) (exN 0) ∈ tables_1 := tm_2 111 rfl
theorem cl_MC_103 : Cond.classLink "MaskedCauses" 103 "java/lang/IllegalArgumentException" ∈ TB := tb_2 172 rfl rfl
theorem ca_1 : Cond.castable (exN 1) (exN 1) ∈ tables_1 := tm_2 174 rfl
theorem cl_La_21 : Cond.classLink "MaskedCausesLaw" 21 "java/lang/IndexOutOfBoundsException" ∈ TB := tb_2 194 rfl rfl
theorem cl_MC_115 : Cond.classLink "MaskedCauses" 115 "java/lang/IndexOutOfBoundsException" ∈ TB := tb_2 207 rfl rfl
theorem ca_2 : Cond.castable (exN 2) (exN 2) ∈ tables_1 := tm_2 209 rfl
theorem lk_jS_38 : LK "java/lang/String" 38 "java/lang/String" "COMPACT_STRINGS" "Z" := Or.inl (tb_3 20 rfl rfl)
theorem lp_jS_38 : Cond.fieldLink "java/lang/String" 38 "java/lang/String" "COMPACT_STRINGS" "Z" ∈ TB := tb_3 20 rfl rfl
theorem kc_jI_265 : Cond.constant "java/lang/Integer" 265 (1431655765) ∈ TB := tb_3 71 rfl rfl
theorem kc_jI_266 : Cond.constant "java/lang/Integer" 266 (858993459) ∈ TB := tb_3 72 rfl rfl
theorem kc_jI_267 : Cond.constant "java/lang/Integer" 267 (252645135) ∈ TB := tb_3 73 rfl rfl
theorem kc_Tr_50 : Cond.constantLong "MaskedCauses$Tree" 50 (-1) ∈ TB := tb_3 122 rfl rfl
theorem kc_De_86 : Cond.constantLong "MaskedCauses$Decision" 86 (-1) ∈ TB := tb_3 139 rfl rfl
theorem ac_byte : Cond.arrayClass .byte ∈ TB := tb_3 202 rfl rfl
theorem kc_jL_314 : Cond.constantLong "java/lang/Long" 314 (6148914691236517205) ∈ TB := tb_4 0 rfl rfl
theorem kc_jL_316 : Cond.constantLong "java/lang/Long" 316 (3689348814741910323) ∈ TB := tb_4 1 rfl rfl
theorem kc_jL_318 : Cond.constantLong "java/lang/Long" 318 (1085102592571150095) ∈ TB := tb_4 2 rfl rfl
theorem cl_La_68 : Cond.classLink "MaskedCausesLaw" 68 "MaskedCausesModel" ∈ TB := tb_4 188 rfl rfl
theorem it_Mo : Cond.instantiable "MaskedCausesModel" 35 ∈ TB := tb_4 189 rfl rfl
theorem lk_Mo_86 : LK "MaskedCausesModel" 86 "MaskedCausesModel" "fault" "I" := Or.inl (tb_4 194 rfl rfl)
theorem lp_Mo_86 : Cond.fieldLink "MaskedCausesModel" 86 "MaskedCausesModel" "fault" "I" ∈ TB := tb_4 194 rfl rfl
theorem lk_Mo_90 : LK "MaskedCausesModel" 90 "MaskedCausesModel" "inputs" "I" := Or.inl (tb_4 195 rfl rfl)
theorem lp_Mo_90 : Cond.fieldLink "MaskedCausesModel" 90 "MaskedCausesModel" "inputs" "I" ∈ TB := tb_4 195 rfl rfl
theorem lk_Mo_7 : LK "MaskedCausesModel" 7 "MaskedCausesModel" "low" "[I" := Or.inl (tb_4 196 rfl rfl)
theorem lp_Mo_7 : Cond.fieldLink "MaskedCausesModel" 7 "MaskedCausesModel" "low" "[I" ∈ TB := tb_4 196 rfl rfl
theorem lk_Mo_13 : LK "MaskedCausesModel" 13 "MaskedCausesModel" "high" "[I" := Or.inl (tb_4 197 rfl rfl)
theorem lp_Mo_13 : Cond.fieldLink "MaskedCausesModel" 13 "MaskedCausesModel" "high" "[I" ∈ TB := tb_4 197 rfl rfl
theorem lk_Mo_93 : LK "MaskedCausesModel" 93 "MaskedCausesModel" "made" "I" := Or.inl (tb_4 198 rfl rfl)
theorem lp_Mo_93 : Cond.fieldLink "MaskedCausesModel" 93 "MaskedCausesModel" "made" "I" ∈ TB := tb_4 198 rfl rfl
theorem lk_Mo_16 : LK "MaskedCausesModel" 16 "MaskedCausesModel" "kind" "[I" := Or.inl (tb_4 199 rfl rfl)
theorem lp_Mo_16 : Cond.fieldLink "MaskedCausesModel" 16 "MaskedCausesModel" "kind" "[I" ∈ TB := tb_4 199 rfl rfl
theorem lk_Mo_19 : LK "MaskedCausesModel" 19 "MaskedCausesModel" "one" "[I" := Or.inl (tb_4 200 rfl rfl)
theorem lp_Mo_19 : Cond.fieldLink "MaskedCausesModel" 19 "MaskedCausesModel" "one" "[I" ∈ TB := tb_4 200 rfl rfl
theorem lk_Mo_22 : LK "MaskedCausesModel" 22 "MaskedCausesModel" "two" "[I" := Or.inl (tb_4 201 rfl rfl)
theorem lp_Mo_22 : Cond.fieldLink "MaskedCausesModel" 22 "MaskedCausesModel" "two" "[I" ∈ TB := tb_4 201 rfl rfl
theorem lk_Mo_25 : LK "MaskedCausesModel" 25 "MaskedCausesModel" "bound" "[I" := Or.inl (tb_4 202 rfl rfl)
theorem lp_Mo_25 : Cond.fieldLink "MaskedCausesModel" 25 "MaskedCausesModel" "bound" "[I" ∈ TB := tb_4 202 rfl rfl
theorem lk_Mo_100 : LK "MaskedCausesModel" 100 "MaskedCausesModel" "typed" "I" := Or.inl (tb_4 203 rfl rfl)
theorem lp_Mo_100 : Cond.fieldLink "MaskedCausesModel" 100 "MaskedCausesModel" "typed" "I" ∈ TB := tb_4 203 rfl rfl
theorem lk_Mo_28 : LK "MaskedCausesModel" 28 "MaskedCausesModel" "text" "[I" := Or.inl (tb_4 204 rfl rfl)
theorem lp_Mo_28 : Cond.fieldLink "MaskedCausesModel" 28 "MaskedCausesModel" "text" "[I" ∈ TB := tb_4 204 rfl rfl
theorem lk_Mo_146 : LK "MaskedCausesModel" 146 "MaskedCausesModel" "decisions" "I" := Or.inl (tb_4 205 rfl rfl)
theorem lp_Mo_146 : Cond.fieldLink "MaskedCausesModel" 146 "MaskedCausesModel" "decisions" "I" ∈ TB := tb_4 205 rfl rfl
theorem lk_Mo_31 : LK "MaskedCausesModel" 31 "MaskedCausesModel" "signs" "[I" := Or.inl (tb_4 206 rfl rfl)
theorem lp_Mo_31 : Cond.fieldLink "MaskedCausesModel" 31 "MaskedCausesModel" "signs" "[I" ∈ TB := tb_4 206 rfl rfl
theorem lk_Mo_34 : LK "MaskedCausesModel" 34 "MaskedCausesModel" "length" "[I" := Or.inl (tb_4 207 rfl rfl)
theorem lp_Mo_34 : Cond.fieldLink "MaskedCausesModel" 34 "MaskedCausesModel" "length" "[I" ∈ TB := tb_4 207 rfl rfl
theorem lk_Mo_37 : LK "MaskedCausesModel" 37 "MaskedCausesModel" "isShort" "[Z" := Or.inl (tb_4 208 rfl rfl)
theorem lp_Mo_37 : Cond.fieldLink "MaskedCausesModel" 37 "MaskedCausesModel" "isShort" "[Z" ∈ TB := tb_4 208 rfl rfl
theorem lk_Mo_41 : LK "MaskedCausesModel" 41 "MaskedCausesModel" "many" "[I" := Or.inl (tb_4 209 rfl rfl)
theorem lp_Mo_41 : Cond.fieldLink "MaskedCausesModel" 41 "MaskedCausesModel" "many" "[I" ∈ TB := tb_4 209 rfl rfl
theorem lk_Mo_44 : LK "MaskedCausesModel" 44 "MaskedCausesModel" "uses" "[I" := Or.inl (tb_4 210 rfl rfl)
theorem lp_Mo_44 : Cond.fieldLink "MaskedCausesModel" 44 "MaskedCausesModel" "uses" "[I" ∈ TB := tb_4 210 rfl rfl
theorem lk_Mo_47 : LK "MaskedCausesModel" 47 "MaskedCausesModel" "can" "[Z" := Or.inl (tb_4 211 rfl rfl)
theorem lp_Mo_47 : Cond.fieldLink "MaskedCausesModel" 47 "MaskedCausesModel" "can" "[Z" ∈ TB := tb_4 211 rfl rfl
theorem lk_Mo_50 : LK "MaskedCausesModel" 50 "MaskedCausesModel" "vectors" "[I" := Or.inl (tb_4 212 rfl rfl)
theorem lp_Mo_50 : Cond.fieldLink "MaskedCausesModel" 50 "MaskedCausesModel" "vectors" "[I" ∈ TB := tb_4 212 rfl rfl
theorem lk_Mo_53 : LK "MaskedCausesModel" 53 "MaskedCausesModel" "comes" "[Z" := Or.inl (tb_4 213 rfl rfl)
theorem lp_Mo_53 : Cond.fieldLink "MaskedCausesModel" 53 "MaskedCausesModel" "comes" "[Z" ∈ TB := tb_4 213 rfl rfl
theorem lk_Mo_56 : LK "MaskedCausesModel" 56 "MaskedCausesModel" "sees" "[I" := Or.inl (tb_4 214 rfl rfl)
theorem lp_Mo_56 : Cond.fieldLink "MaskedCausesModel" 56 "MaskedCausesModel" "sees" "[I" ∈ TB := tb_4 214 rfl rfl
theorem lk_Mo_59 : LK "MaskedCausesModel" 59 "MaskedCausesModel" "or" "[Z" := Or.inl (tb_4 215 rfl rfl)
theorem lp_Mo_59 : Cond.fieldLink "MaskedCausesModel" 59 "MaskedCausesModel" "or" "[Z" ∈ TB := tb_4 215 rfl rfl
theorem lk_Mo_62 : LK "MaskedCausesModel" 62 "MaskedCausesModel" "xor" "[Z" := Or.inl (tb_4 216 rfl rfl)
theorem lp_Mo_62 : Cond.fieldLink "MaskedCausesModel" 62 "MaskedCausesModel" "xor" "[Z" ∈ TB := tb_4 216 rfl rfl
theorem lk_Mo_65 : LK "MaskedCausesModel" 65 "MaskedCausesModel" "and" "[Z" := Or.inl (tb_4 217 rfl rfl)
theorem lp_Mo_65 : Cond.fieldLink "MaskedCausesModel" 65 "MaskedCausesModel" "and" "[Z" ∈ TB := tb_4 217 rfl rfl
theorem lk_Mo_68 : LK "MaskedCausesModel" 68 "MaskedCausesModel" "not" "[Z" := Or.inl (tb_4 218 rfl rfl)
theorem lp_Mo_68 : Cond.fieldLink "MaskedCausesModel" 68 "MaskedCausesModel" "not" "[Z" ∈ TB := tb_4 218 rfl rfl
theorem lk_Mo_71 : LK "MaskedCausesModel" 71 "MaskedCausesModel" "live" "[Z" := Or.inl (tb_4 219 rfl rfl)
theorem lp_Mo_71 : Cond.fieldLink "MaskedCausesModel" 71 "MaskedCausesModel" "live" "[Z" ∈ TB := tb_4 219 rfl rfl
theorem lk_Mo_110 : LK "MaskedCausesModel" 110 "MaskedCausesModel" "deep" "I" := Or.inl (tb_4 220 rfl rfl)
theorem lp_Mo_110 : Cond.fieldLink "MaskedCausesModel" 110 "MaskedCausesModel" "deep" "I" ∈ TB := tb_4 220 rfl rfl
theorem lk_Mo_103 : LK "MaskedCausesModel" 103 "MaskedCausesModel" "seen" "I" := Or.inl (tb_4 221 rfl rfl)
theorem lp_Mo_103 : Cond.fieldLink "MaskedCausesModel" 103 "MaskedCausesModel" "seen" "I" ∈ TB := tb_4 221 rfl rfl
theorem lk_Mo_198 : LK "MaskedCausesModel" 198 "MaskedCausesModel" "suiteSize" "I" := Or.inl (tb_4 222 rfl rfl)
theorem lp_Mo_198 : Cond.fieldLink "MaskedCausesModel" 198 "MaskedCausesModel" "suiteSize" "I" ∈ TB := tb_4 222 rfl rfl
theorem lk_Mo_74 : LK "MaskedCausesModel" 74 "MaskedCausesModel" "suite" "[I" := Or.inl (tb_4 223 rfl rfl)
theorem lp_Mo_74 : Cond.fieldLink "MaskedCausesModel" 74 "MaskedCausesModel" "suite" "[I" ∈ TB := tb_4 223 rfl rfl
theorem lk_Mo_77 : LK "MaskedCausesModel" 77 "MaskedCausesModel" "partners" "[I" := Or.inl (tb_4 224 rfl rfl)
theorem lp_Mo_77 : Cond.fieldLink "MaskedCausesModel" 77 "MaskedCausesModel" "partners" "[I" ∈ TB := tb_4 224 rfl rfl
theorem lk_Mo_210 : LK "MaskedCausesModel" 210 "MaskedCausesModel" "kept" "I" := Or.inl (tb_4 225 rfl rfl)
theorem lp_Mo_210 : Cond.fieldLink "MaskedCausesModel" 210 "MaskedCausesModel" "kept" "I" ∈ TB := tb_4 225 rfl rfl
theorem lk_Mo_80 : LK "MaskedCausesModel" 80 "MaskedCausesModel" "records" "[I" := Or.inl (tb_4 226 rfl rfl)
theorem lp_Mo_80 : Cond.fieldLink "MaskedCausesModel" 80 "MaskedCausesModel" "records" "[I" ∈ TB := tb_4 226 rfl rfl
theorem lk_Mo_168 : LK "MaskedCausesModel" 168 "MaskedCausesModel" "written" "I" := Or.inl (tb_4 227 rfl rfl)
theorem lp_Mo_168 : Cond.fieldLink "MaskedCausesModel" 168 "MaskedCausesModel" "written" "I" ∈ TB := tb_4 227 rfl rfl
theorem lk_Mo_83 : LK "MaskedCausesModel" 83 "MaskedCausesModel" "page" "[I" := Or.inl (tb_4 228 rfl rfl)
theorem lp_Mo_83 : Cond.fieldLink "MaskedCausesModel" 83 "MaskedCausesModel" "page" "[I" ∈ TB := tb_4 228 rfl rfl
theorem ac_boolean : Cond.arrayClass .boolean ∈ TB := tb_5 60 rfl rfl
theorem lk_jS_15 : LK "java/lang/String" 15 "java/lang/String" "coder" "B" := Or.inl (tb_6 27 rfl rfl)
theorem lp_jS_15 : Cond.fieldLink "java/lang/String" 15 "java/lang/String" "coder" "B" ∈ TB := tb_6 27 rfl rfl
theorem lk_jS_9 : LK "java/lang/String" 9 "java/lang/String" "value" "[B" := Or.inl (tb_6 28 rfl rfl)
theorem lp_jS_9 : Cond.fieldLink "java/lang/String" 9 "java/lang/String" "value" "[B" ∈ TB := tb_6 28 rfl rfl
theorem cd_MC_init : cdY y_MC_init ∈ TB := tb_1 30 rfl rfl
theorem cc_MC_init : Cond.code y_MC_init.1 y_MC_init.2.1 y_MC_init.2.2.1 none ∈ TB := tb_1 30 rfl rfl
theorem im_MC_init : Cond.instanceMethod y_MC_init.1 ∈ TB := tb_1 29 rfl rfl
theorem mh_MC_init : mhOK y_MC_init.1 0 := ⟨⟨by decide, by decide⟩, by decide +kernel⟩
theorem pf_MC_init : plainFor y_MC_init.1 = true := by decide +kernel
theorem cd_MC_input : cdY y_MC_input ∈ TB := tb_2 100 rfl rfl
theorem im_MC_input : Cond.instanceMethod y_MC_input.1 ∈ TB := tb_2 98 rfl rfl
theorem se_MC_input : Cond.selects y_MC_input.1.cls y_MC_input.1 y_MC_input.1 ∈ TB := tb_2 99 rfl rfl
theorem mh_MC_input : mhOK y_MC_input.1 2 := ⟨⟨by decide, by decide⟩, by decide +kernel⟩
theorem pf_MC_input : plainFor y_MC_input.1 = true := by decide +kernel
theorem cd_MC_condition : cdY y_MC_condition ∈ TB := tb_2 198 rfl rfl
theorem im_MC_condition : Cond.instanceMethod y_MC_condition.1 ∈ TB := tb_2 196 rfl rfl
theorem se_MC_condition : Cond.selects y_MC_condition.1.cls y_MC_condition.1 y_MC_condition.1 ∈ TB := tb_2 197 rfl rfl
theorem mh_MC_condition : mhOK y_MC_condition.1 4 := ⟨⟨by decide, by decide⟩, by decide +kernel⟩
theorem pf_MC_condition : plainFor y_MC_condition.1 = true := by decide +kernel
theorem cd_MC_type : cdY y_MC_type ∈ TB := tb_2 47 rfl rfl
theorem im_MC_type : Cond.instanceMethod y_MC_type.1 ∈ TB := tb_2 45 rfl rfl
theorem se_MC_type : Cond.selects y_MC_type.1.cls y_MC_type.1 y_MC_type.1 ∈ TB := tb_2 46 rfl rfl
theorem mh_MC_type : mhOK y_MC_type.1 1 := ⟨⟨by decide, by decide⟩, by decide +kernel⟩
theorem pf_MC_type : plainFor y_MC_type.1 = true := by decide +kernel
theorem cd_MC_wipe : cdY y_MC_wipe ∈ TB := tb_2 55 rfl rfl
theorem im_MC_wipe : Cond.instanceMethod y_MC_wipe.1 ∈ TB := tb_2 53 rfl rfl
theorem se_MC_wipe : Cond.selects y_MC_wipe.1.cls y_MC_wipe.1 y_MC_wipe.1 ∈ TB := tb_2 54 rfl rfl
theorem mh_MC_wipe : mhOK y_MC_wipe.1 0 := ⟨⟨by decide, by decide⟩, by decide +kernel⟩
theorem pf_MC_wipe : plainFor y_MC_wipe.1 = true := by decide +kernel
theorem cd_MC_decision : cdY y_MC_decision ∈ TB := tb_2 232 rfl rfl
theorem im_MC_decision : Cond.instanceMethod y_MC_decision.1 ∈ TB := tb_2 230 rfl rfl
theorem se_MC_decision : Cond.selects y_MC_decision.1.cls y_MC_decision.1 y_MC_decision.1 ∈ TB := tb_2 231 rfl rfl
theorem mh_MC_decision : mhOK y_MC_decision.1 1 := ⟨⟨by decide, by decide⟩, by decide +kernel⟩
theorem pf_MC_decision : plainFor y_MC_decision.1 = true := by decide +kernel
theorem cd_MC_conditions : cdY y_MC_conditions ∈ TB := tb_3 209 rfl rfl
theorem im_MC_conditions : Cond.instanceMethod y_MC_conditions.1 ∈ TB := tb_3 207 rfl rfl
theorem se_MC_conditions : Cond.selects y_MC_conditions.1.cls y_MC_conditions.1 y_MC_conditions.1 ∈ TB := tb_3 208 rfl rfl
theorem mh_MC_conditions : mhOK y_MC_conditions.1 1 := ⟨⟨by decide, by decide⟩, by decide +kernel⟩
theorem pf_MC_conditions : plainFor y_MC_conditions.1 = true := by decide +kernel
theorem cd_MC_show : cdY y_MC_show ∈ TB := tb_3 221 rfl rfl
theorem im_MC_show : Cond.instanceMethod y_MC_show.1 ∈ TB := tb_3 219 rfl rfl
theorem se_MC_show : Cond.selects y_MC_show.1.cls y_MC_show.1 y_MC_show.1 ∈ TB := tb_3 220 rfl rfl
theorem mh_MC_show : mhOK y_MC_show.1 1 := ⟨⟨by decide, by decide⟩, by decide +kernel⟩
theorem pf_MC_show : plainFor y_MC_show.1 = true := by decide +kernel
theorem cd_MC_feasible : cdY y_MC_feasible ∈ TB := tb_3 232 rfl rfl
theorem im_MC_feasible : Cond.instanceMethod y_MC_feasible.1 ∈ TB := tb_3 230 rfl rfl
theorem se_MC_feasible : Cond.selects y_MC_feasible.1.cls y_MC_feasible.1 y_MC_feasible.1 ∈ TB := tb_3 231 rfl rfl
theorem mh_MC_feasible : mhOK y_MC_feasible.1 1 := ⟨⟨by decide, by decide⟩, by decide +kernel⟩
theorem pf_MC_feasible : plainFor y_MC_feasible.1 = true := by decide +kernel
theorem cd_MC_vector : cdY y_MC_vector ∈ TB := tb_4 9 rfl rfl
theorem im_MC_vector : Cond.instanceMethod y_MC_vector.1 ∈ TB := tb_4 7 rfl rfl
theorem se_MC_vector : Cond.selects y_MC_vector.1.cls y_MC_vector.1 y_MC_vector.1 ∈ TB := tb_4 8 rfl rfl
theorem mh_MC_vector : mhOK y_MC_vector.1 3 := ⟨⟨by decide, by decide⟩, by decide +kernel⟩
theorem pf_MC_vector : plainFor y_MC_vector.1 = true := by decide +kernel
theorem cd_MC_outcome : cdY y_MC_outcome ∈ TB := tb_4 29 rfl rfl
theorem im_MC_outcome : Cond.instanceMethod y_MC_outcome.1 ∈ TB := tb_4 27 rfl rfl
theorem se_MC_outcome : Cond.selects y_MC_outcome.1.cls y_MC_outcome.1 y_MC_outcome.1 ∈ TB := tb_4 28 rfl rfl
theorem mh_MC_outcome : mhOK y_MC_outcome.1 2 := ⟨⟨by decide, by decide⟩, by decide +kernel⟩
theorem pf_MC_outcome : plainFor y_MC_outcome.1 = true := by decide +kernel
theorem cd_MC_evaluated : cdY y_MC_evaluated ∈ TB := tb_4 40 rfl rfl
theorem im_MC_evaluated : Cond.instanceMethod y_MC_evaluated.1 ∈ TB := tb_4 38 rfl rfl
theorem se_MC_evaluated : Cond.selects y_MC_evaluated.1.cls y_MC_evaluated.1 y_MC_evaluated.1 ∈ TB := tb_4 39 rfl rfl
theorem mh_MC_evaluated : mhOK y_MC_evaluated.1 3 := ⟨⟨by decide, by decide⟩, by decide +kernel⟩
theorem pf_MC_evaluated : plainFor y_MC_evaluated.1 = true := by decide +kernel
theorem cd_MC_solve : cdY y_MC_solve ∈ TB := tb_4 54 rfl rfl
theorem im_MC_solve : Cond.instanceMethod y_MC_solve.1 ∈ TB := tb_4 52 rfl rfl
theorem se_MC_solve : Cond.selects y_MC_solve.1.cls y_MC_solve.1 y_MC_solve.1 ∈ TB := tb_4 53 rfl rfl
theorem mh_MC_solve : mhOK y_MC_solve.1 3 := ⟨⟨by decide, by decide⟩, by decide +kernel⟩
theorem pf_MC_solve : plainFor y_MC_solve.1 = true := by decide +kernel
theorem cd_MC_suite : cdY y_MC_suite ∈ TB := tb_4 84 rfl rfl
theorem im_MC_suite : Cond.instanceMethod y_MC_suite.1 ∈ TB := tb_4 82 rfl rfl
theorem se_MC_suite : Cond.selects y_MC_suite.1.cls y_MC_suite.1 y_MC_suite.1 ∈ TB := tb_4 83 rfl rfl
theorem mh_MC_suite : mhOK y_MC_suite.1 2 := ⟨⟨by decide, by decide⟩, by decide +kernel⟩
theorem pf_MC_suite : plainFor y_MC_suite.1 = true := by decide +kernel
theorem cd_MC_suiteAt : cdY y_MC_suiteAt ∈ TB := tb_2 63 rfl rfl
theorem im_MC_suiteAt : Cond.instanceMethod y_MC_suiteAt.1 ∈ TB := tb_2 61 rfl rfl
theorem se_MC_suiteAt : Cond.selects y_MC_suiteAt.1.cls y_MC_suiteAt.1 y_MC_suiteAt.1 ∈ TB := tb_2 62 rfl rfl
theorem mh_MC_suiteAt : mhOK y_MC_suiteAt.1 1 := ⟨⟨by decide, by decide⟩, by decide +kernel⟩
theorem pf_MC_suiteAt : plainFor y_MC_suiteAt.1 = true := by decide +kernel
theorem cd_MC_least : cdY y_MC_least ∈ TB := tb_4 106 rfl rfl
theorem im_MC_least : Cond.instanceMethod y_MC_least.1 ∈ TB := tb_4 104 rfl rfl
theorem se_MC_least : Cond.selects y_MC_least.1.cls y_MC_least.1 y_MC_least.1 ∈ TB := tb_4 105 rfl rfl
theorem mh_MC_least : mhOK y_MC_least.1 2 := ⟨⟨by decide, by decide⟩, by decide +kernel⟩
theorem pf_MC_least : plainFor y_MC_least.1 = true := by decide +kernel
theorem cd_MC_keep : cdY y_MC_keep ∈ TB := tb_4 141 rfl rfl
theorem im_MC_keep : Cond.instanceMethod y_MC_keep.1 ∈ TB := tb_4 139 rfl rfl
theorem se_MC_keep : Cond.selects y_MC_keep.1.cls y_MC_keep.1 y_MC_keep.1 ∈ TB := tb_4 140 rfl rfl
theorem mh_MC_keep : mhOK y_MC_keep.1 3 := ⟨⟨by decide, by decide⟩, by decide +kernel⟩
theorem pf_MC_keep : plainFor y_MC_keep.1 = true := by decide +kernel
theorem cd_MC_forget : cdY y_MC_forget ∈ TB := tb_2 71 rfl rfl
theorem im_MC_forget : Cond.instanceMethod y_MC_forget.1 ∈ TB := tb_2 69 rfl rfl
theorem se_MC_forget : Cond.selects y_MC_forget.1.cls y_MC_forget.1 y_MC_forget.1 ∈ TB := tb_2 70 rfl rfl
theorem mh_MC_forget : mhOK y_MC_forget.1 0 := ⟨⟨by decide, by decide⟩, by decide +kernel⟩
theorem pf_MC_forget : plainFor y_MC_forget.1 = true := by decide +kernel
theorem cd_MC_covered : cdY y_MC_covered ∈ TB := tb_4 161 rfl rfl
theorem im_MC_covered : Cond.instanceMethod y_MC_covered.1 ∈ TB := tb_4 159 rfl rfl
theorem se_MC_covered : Cond.selects y_MC_covered.1.cls y_MC_covered.1 y_MC_covered.1 ∈ TB := tb_4 160 rfl rfl
theorem mh_MC_covered : mhOK y_MC_covered.1 3 := ⟨⟨by decide, by decide⟩, by decide +kernel⟩
theorem pf_MC_covered : plainFor y_MC_covered.1 = true := by decide +kernel
theorem cd_MC_missing : cdY y_MC_missing ∈ TB := tb_4 182 rfl rfl
theorem im_MC_missing : Cond.instanceMethod y_MC_missing.1 ∈ TB := tb_4 180 rfl rfl
theorem se_MC_missing : Cond.selects y_MC_missing.1.cls y_MC_missing.1 y_MC_missing.1 ∈ TB := tb_4 181 rfl rfl
theorem mh_MC_missing : mhOK y_MC_missing.1 2 := ⟨⟨by decide, by decide⟩, by decide +kernel⟩
theorem pf_MC_missing : plainFor y_MC_missing.1 = true := by decide +kernel
theorem cd_MC_length : cdY y_MC_length ∈ TB := tb_2 79 rfl rfl
theorem im_MC_length : Cond.instanceMethod y_MC_length.1 ∈ TB := tb_2 77 rfl rfl
theorem se_MC_length : Cond.selects y_MC_length.1.cls y_MC_length.1 y_MC_length.1 ∈ TB := tb_2 78 rfl rfl
theorem mh_MC_length : mhOK y_MC_length.1 0 := ⟨⟨by decide, by decide⟩, by decide +kernel⟩
theorem pf_MC_length : plainFor y_MC_length.1 = true := by decide +kernel
theorem cd_MC_charAt : cdY y_MC_charAt ∈ TB := tb_2 87 rfl rfl
theorem im_MC_charAt : Cond.instanceMethod y_MC_charAt.1 ∈ TB := tb_2 85 rfl rfl
theorem se_MC_charAt : Cond.selects y_MC_charAt.1.cls y_MC_charAt.1 y_MC_charAt.1 ∈ TB := tb_2 86 rfl rfl
theorem mh_MC_charAt : mhOK y_MC_charAt.1 1 := ⟨⟨by decide, by decide⟩, by decide +kernel⟩
theorem pf_MC_charAt : plainFor y_MC_charAt.1 = true := by decide +kernel
theorem cd_MC_decisionAt : cdY y_MC_decisionAt ∈ TB := tb_3 213 rfl rfl
theorem im_MC_decisionAt : Cond.instanceMethod y_MC_decisionAt.1 ∈ TB := tb_3 212 rfl rfl
theorem se_MC_decisionAt : Cond.selects y_MC_decisionAt.1.cls y_MC_decisionAt.1 y_MC_decisionAt.1 ∈ TB := tb_sel (List.mem_map.mpr ⟨(y_MC_decisionAt.1, 12), List.mem_of_getElem? (i := 16) rfl, rfl⟩) rfl
theorem mh_MC_decisionAt : mhOK y_MC_decisionAt.1 1 := ⟨⟨by decide, by decide⟩, by decide +kernel⟩
theorem pf_MC_decisionAt : plainFor y_MC_decisionAt.1 = true := by decide +kernel
theorem cd_MC_decisionWithWord : cdY y_MC_decisionWithWord ∈ TB := tb_4 13 rfl rfl
theorem im_MC_decisionWithWord : Cond.instanceMethod y_MC_decisionWithWord.1 ∈ TB := tb_4 12 rfl rfl
theorem se_MC_decisionWithWord : Cond.selects y_MC_decisionWithWord.1.cls y_MC_decisionWithWord.1 y_MC_decisionWithWord.1 ∈ TB := tb_sel (List.mem_map.mpr ⟨(y_MC_decisionWithWord.1, 12), List.mem_of_getElem? (i := 17) rfl, rfl⟩) rfl
theorem mh_MC_decisionWithWord : mhOK y_MC_decisionWithWord.1 2 := ⟨⟨by decide, by decide⟩, by decide +kernel⟩
theorem pf_MC_decisionWithWord : plainFor y_MC_decisionWithWord.1 = true := by decide +kernel
theorem cd_MC_checkCondition : cdY y_MC_checkCondition ∈ TB := tb_4 43 rfl rfl
theorem st_MC_checkCondition : Cond.static y_MC_checkCondition.1 ∈ TB := tb_4 42 rfl rfl
theorem mh_MC_checkCondition : mhOK y_MC_checkCondition.1 2 := ⟨⟨by decide, by decide⟩, by decide +kernel⟩
theorem pf_MC_checkCondition : plainFor y_MC_checkCondition.1 = true := by decide +kernel
theorem cd_MC_checkCriterion : cdY y_MC_checkCriterion ∈ TB := tb_4 57 rfl rfl
theorem st_MC_checkCriterion : Cond.static y_MC_checkCriterion.1 ∈ TB := tb_4 56 rfl rfl
theorem mh_MC_checkCriterion : mhOK y_MC_checkCriterion.1 1 := ⟨⟨by decide, by decide⟩, by decide +kernel⟩
theorem pf_MC_checkCriterion : plainFor y_MC_checkCriterion.1 = true := by decide +kernel
theorem cd_MC_contains : cdY y_MC_contains ∈ TB := tb_3 201 rfl rfl
theorem st_MC_contains : Cond.static y_MC_contains.1 ∈ TB := tb_3 200 rfl rfl
theorem mh_MC_contains : mhOK y_MC_contains.1 2 := ⟨⟨by decide, by decide⟩, by decide +kernel⟩
theorem pf_MC_contains : plainFor y_MC_contains.1 = true := by decide +kernel
theorem cd_MC_hasBit : cdY y_MC_hasBit ∈ TB := tb_3 94 rfl rfl
theorem st_MC_hasBit : Cond.static y_MC_hasBit.1 ∈ TB := tb_3 93 rfl rfl
theorem mh_MC_hasBit : mhOK y_MC_hasBit.1 2 := ⟨⟨by decide, by decide⟩, by decide +kernel⟩
theorem pf_MC_hasBit : plainFor y_MC_hasBit.1 = true := by decide +kernel
theorem cd_In_init : cdY y_In_init ∈ TB := tb_1 38 rfl rfl
theorem cc_In_init : Cond.code y_In_init.1 y_In_init.2.1 y_In_init.2.2.1 none ∈ TB := tb_1 38 rfl rfl
theorem im_In_init : Cond.instanceMethod y_In_init.1 ∈ TB := tb_1 37 rfl rfl
theorem mh_In_init : mhOK y_In_init.1 0 := ⟨⟨by decide, by decide⟩, by decide +kernel⟩
theorem pf_In_init : plainFor y_In_init.1 = true := by decide +kernel
theorem cd_In_isFull : cdY y_In_isFull ∈ TB := tb_2 104 rfl rfl
theorem im_In_isFull : Cond.instanceMethod y_In_isFull.1 ∈ TB := tb_2 102 rfl rfl
theorem se_In_isFull : Cond.selects y_In_isFull.1.cls y_In_isFull.1 y_In_isFull.1 ∈ TB := tb_2 103 rfl rfl
theorem mh_In_isFull : mhOK y_In_isFull.1 0 := ⟨⟨by decide, by decide⟩, by decide +kernel⟩
theorem pf_In_isFull : plainFor y_In_isFull.1 = true := by decide +kernel
theorem cd_In_has : cdY y_In_has ∈ TB := tb_2 206 rfl rfl
theorem im_In_has : Cond.instanceMethod y_In_has.1 ∈ TB := tb_2 204 rfl rfl
theorem se_In_has : Cond.selects y_In_has.1.cls y_In_has.1 y_In_has.1 ∈ TB := tb_2 205 rfl rfl
theorem mh_In_has : mhOK y_In_has.1 1 := ⟨⟨by decide, by decide⟩, by decide +kernel⟩
theorem pf_In_has : plainFor y_In_has.1 = true := by decide +kernel
theorem cd_In_add : cdY y_In_add ∈ TB := tb_2 190 rfl rfl
theorem im_In_add : Cond.instanceMethod y_In_add.1 ∈ TB := tb_2 188 rfl rfl
theorem se_In_add : Cond.selects y_In_add.1.cls y_In_add.1 y_In_add.1 ∈ TB := tb_2 189 rfl rfl
theorem mh_In_add : mhOK y_In_add.1 2 := ⟨⟨by decide, by decide⟩, by decide +kernel⟩
theorem pf_In_add : plainFor y_In_add.1 = true := by decide +kernel
theorem cd_In_lowOf : cdY y_In_lowOf ∈ TB := tb_3 186 rfl rfl
theorem im_In_lowOf : Cond.instanceMethod y_In_lowOf.1 ∈ TB := tb_3 184 rfl rfl
theorem se_In_lowOf : Cond.selects y_In_lowOf.1.cls y_In_lowOf.1 y_In_lowOf.1 ∈ TB := tb_3 185 rfl rfl
theorem mh_In_lowOf : mhOK y_In_lowOf.1 1 := ⟨⟨by decide, by decide⟩, by decide +kernel⟩
theorem pf_In_lowOf : plainFor y_In_lowOf.1 = true := by decide +kernel
theorem cd_In_highOf : cdY y_In_highOf ∈ TB := tb_3 190 rfl rfl
theorem im_In_highOf : Cond.instanceMethod y_In_highOf.1 ∈ TB := tb_3 188 rfl rfl
theorem se_In_highOf : Cond.selects y_In_highOf.1.cls y_In_highOf.1 y_In_highOf.1 ∈ TB := tb_3 189 rfl rfl
theorem mh_In_highOf : mhOK y_In_highOf.1 1 := ⟨⟨by decide, by decide⟩, by decide +kernel⟩
theorem pf_In_highOf : plainFor y_In_highOf.1 = true := by decide +kernel
theorem cd_In_fits : cdY y_In_fits ∈ TB := tb_4 149 rfl rfl
theorem im_In_fits : Cond.instanceMethod y_In_fits.1 ∈ TB := tb_4 147 rfl rfl
theorem se_In_fits : Cond.selects y_In_fits.1.cls y_In_fits.1 y_In_fits.1 ∈ TB := tb_4 148 rfl rfl
theorem mh_In_fits : mhOK y_In_fits.1 2 := ⟨⟨by decide, by decide⟩, by decide +kernel⟩
theorem pf_In_fits : plainFor y_In_fits.1 = true := by decide +kernel
theorem cd_Co_init : cdY y_Co_init ∈ TB := tb_1 55 rfl rfl
theorem cc_Co_init : Cond.code y_Co_init.1 y_Co_init.2.1 y_Co_init.2.2.1 none ∈ TB := tb_1 55 rfl rfl
theorem im_Co_init : Cond.instanceMethod y_Co_init.1 ∈ TB := tb_1 54 rfl rfl
theorem mh_Co_init : mhOK y_Co_init.1 0 := ⟨⟨by decide, by decide⟩, by decide +kernel⟩
theorem pf_Co_init : plainFor y_Co_init.1 = true := by decide +kernel
theorem cd_Co_isFull : cdY y_Co_isFull ∈ TB := tb_2 202 rfl rfl
theorem im_Co_isFull : Cond.instanceMethod y_Co_isFull.1 ∈ TB := tb_2 200 rfl rfl
theorem se_Co_isFull : Cond.selects y_Co_isFull.1.cls y_Co_isFull.1 y_Co_isFull.1 ∈ TB := tb_2 201 rfl rfl
theorem mh_Co_isFull : mhOK y_Co_isFull.1 0 := ⟨⟨by decide, by decide⟩, by decide +kernel⟩
theorem pf_Co_isFull : plainFor y_Co_isFull.1 = true := by decide +kernel
theorem cd_Co_size : cdY y_Co_size ∈ TB := tb_2 108 rfl rfl
theorem im_Co_size : Cond.instanceMethod y_Co_size.1 ∈ TB := tb_2 106 rfl rfl
theorem se_Co_size : Cond.selects y_Co_size.1.cls y_Co_size.1 y_Co_size.1 ∈ TB := tb_2 107 rfl rfl
theorem mh_Co_size : mhOK y_Co_size.1 0 := ⟨⟨by decide, by decide⟩, by decide +kernel⟩
theorem pf_Co_size : plainFor y_Co_size.1 = true := by decide +kernel
theorem cd_Co_add : cdY y_Co_add ∈ TB := tb_2 225 rfl rfl
theorem im_Co_add : Cond.instanceMethod y_Co_add.1 ∈ TB := tb_2 223 rfl rfl
theorem se_Co_add : Cond.selects y_Co_add.1.cls y_Co_add.1 y_Co_add.1 ∈ TB := tb_2 224 rfl rfl
theorem mh_Co_add : mhOK y_Co_add.1 4 := ⟨⟨by decide, by decide⟩, by decide +kernel⟩
theorem pf_Co_add : plainFor y_Co_add.1 = true := by decide +kernel
theorem cd_Co_firstOf : cdY y_Co_firstOf ∈ TB := tb_3 171 rfl rfl
theorem im_Co_firstOf : Cond.instanceMethod y_Co_firstOf.1 ∈ TB := tb_3 169 rfl rfl
theorem se_Co_firstOf : Cond.selects y_Co_firstOf.1.cls y_Co_firstOf.1 y_Co_firstOf.1 ∈ TB := tb_3 170 rfl rfl
theorem mh_Co_firstOf : mhOK y_Co_firstOf.1 1 := ⟨⟨by decide, by decide⟩, by decide +kernel⟩
theorem pf_Co_firstOf : plainFor y_Co_firstOf.1 = true := by decide +kernel
theorem cd_Co_secondOf : cdY y_Co_secondOf ∈ TB := tb_3 175 rfl rfl
theorem im_Co_secondOf : Cond.instanceMethod y_Co_secondOf.1 ∈ TB := tb_3 173 rfl rfl
theorem se_Co_secondOf : Cond.selects y_Co_secondOf.1.cls y_Co_secondOf.1 y_Co_secondOf.1 ∈ TB := tb_3 174 rfl rfl
theorem mh_Co_secondOf : mhOK y_Co_secondOf.1 1 := ⟨⟨by decide, by decide⟩, by decide +kernel⟩
theorem pf_Co_secondOf : plainFor y_Co_secondOf.1 = true := by decide +kernel
theorem cd_Co_inputsOf : cdY y_Co_inputsOf ∈ TB := tb_3 147 rfl rfl
theorem im_Co_inputsOf : Cond.instanceMethod y_Co_inputsOf.1 ∈ TB := tb_3 145 rfl rfl
theorem se_Co_inputsOf : Cond.selects y_Co_inputsOf.1.cls y_Co_inputsOf.1 y_Co_inputsOf.1 ∈ TB := tb_3 146 rfl rfl
theorem mh_Co_inputsOf : mhOK y_Co_inputsOf.1 1 := ⟨⟨by decide, by decide⟩, by decide +kernel⟩
theorem pf_Co_inputsOf : plainFor y_Co_inputsOf.1 = true := by decide +kernel
theorem cd_Co_holds : cdY y_Co_holds ∈ TB := tb_3 182 rfl rfl
theorem im_Co_holds : Cond.instanceMethod y_Co_holds.1 ∈ TB := tb_3 180 rfl rfl
theorem se_Co_holds : Cond.selects y_Co_holds.1.cls y_Co_holds.1 y_Co_holds.1 ∈ TB := tb_3 181 rfl rfl
theorem mh_Co_holds : mhOK y_Co_holds.1 2 := ⟨⟨by decide, by decide⟩, by decide +kernel⟩
theorem pf_Co_holds : plainFor y_Co_holds.1 = true := by decide +kernel
theorem cd_Co_holdsFor : cdY y_Co_holdsFor ∈ TB := tb_4 173 rfl rfl
theorem im_Co_holdsFor : Cond.instanceMethod y_Co_holdsFor.1 ∈ TB := tb_4 171 rfl rfl
theorem se_Co_holdsFor : Cond.selects y_Co_holdsFor.1.cls y_Co_holdsFor.1 y_Co_holdsFor.1 ∈ TB := tb_4 172 rfl rfl
theorem mh_Co_holdsFor : mhOK y_Co_holdsFor.1 3 := ⟨⟨by decide, by decide⟩, by decide +kernel⟩
theorem pf_Co_holdsFor : plainFor y_Co_holdsFor.1 = true := by decide +kernel
theorem cd_Li_init : cdY y_Li_init ∈ TB := tb_1 77 rfl rfl
theorem cc_Li_init : Cond.code y_Li_init.1 y_Li_init.2.1 y_Li_init.2.2.1 none ∈ TB := tb_1 77 rfl rfl
theorem im_Li_init : Cond.instanceMethod y_Li_init.1 ∈ TB := tb_1 76 rfl rfl
theorem mh_Li_init : mhOK y_Li_init.1 0 := ⟨⟨by decide, by decide⟩, by decide +kernel⟩
theorem pf_Li_init : plainFor y_Li_init.1 = true := by decide +kernel
theorem cd_Li_put : cdY y_Li_put ∈ TB := tb_2 51 rfl rfl
theorem im_Li_put : Cond.instanceMethod y_Li_put.1 ∈ TB := tb_2 49 rfl rfl
theorem se_Li_put : Cond.selects y_Li_put.1.cls y_Li_put.1 y_Li_put.1 ∈ TB := tb_2 50 rfl rfl
theorem mh_Li_put : mhOK y_Li_put.1 1 := ⟨⟨by decide, by decide⟩, by decide +kernel⟩
theorem pf_Li_put : plainFor y_Li_put.1 = true := by decide +kernel
theorem cd_Li_clear : cdY y_Li_clear ∈ TB := tb_2 59 rfl rfl
theorem im_Li_clear : Cond.instanceMethod y_Li_clear.1 ∈ TB := tb_2 57 rfl rfl
theorem se_Li_clear : Cond.selects y_Li_clear.1.cls y_Li_clear.1 y_Li_clear.1 ∈ TB := tb_2 58 rfl rfl
theorem mh_Li_clear : mhOK y_Li_clear.1 0 := ⟨⟨by decide, by decide⟩, by decide +kernel⟩
theorem pf_Li_clear : plainFor y_Li_clear.1 = true := by decide +kernel
theorem cd_Li_size : cdY y_Li_size ∈ TB := tb_2 83 rfl rfl
theorem im_Li_size : Cond.instanceMethod y_Li_size.1 ∈ TB := tb_2 81 rfl rfl
theorem se_Li_size : Cond.selects y_Li_size.1.cls y_Li_size.1 y_Li_size.1 ∈ TB := tb_2 82 rfl rfl
theorem mh_Li_size : mhOK y_Li_size.1 0 := ⟨⟨by decide, by decide⟩, by decide +kernel⟩
theorem pf_Li_size : plainFor y_Li_size.1 = true := by decide +kernel
theorem cd_Li_at : cdY y_Li_at ∈ TB := tb_2 91 rfl rfl
theorem im_Li_at : Cond.instanceMethod y_Li_at.1 ∈ TB := tb_2 89 rfl rfl
theorem se_Li_at : Cond.selects y_Li_at.1.cls y_Li_at.1 y_Li_at.1 ∈ TB := tb_2 90 rfl rfl
theorem mh_Li_at : mhOK y_Li_at.1 1 := ⟨⟨by decide, by decide⟩, by decide +kernel⟩
theorem pf_Li_at : plainFor y_Li_at.1 = true := by decide +kernel
theorem cd_Tr_init : cdY y_Tr_init ∈ TB := tb_1 91 rfl rfl
theorem cc_Tr_init : Cond.code y_Tr_init.1 y_Tr_init.2.1 y_Tr_init.2.2.1 none ∈ TB := tb_1 91 rfl rfl
theorem im_Tr_init : Cond.instanceMethod y_Tr_init.1 ∈ TB := tb_1 90 rfl rfl
theorem mh_Tr_init : mhOK y_Tr_init.1 0 := ⟨⟨by decide, by decide⟩, by decide +kernel⟩
theorem pf_Tr_init : plainFor y_Tr_init.1 = true := by decide +kernel
theorem cd_Tr_clear : cdY y_Tr_clear ∈ TB := tb_3 0 rfl rfl
theorem im_Tr_clear : Cond.instanceMethod y_Tr_clear.1 ∈ TB := tb_2 238 rfl rfl
theorem se_Tr_clear : Cond.selects y_Tr_clear.1.cls y_Tr_clear.1 y_Tr_clear.1 ∈ TB := tb_2 239 rfl rfl
theorem mh_Tr_clear : mhOK y_Tr_clear.1 0 := ⟨⟨by decide, by decide⟩, by decide +kernel⟩
theorem pf_Tr_clear : plainFor y_Tr_clear.1 = true := by decide +kernel
theorem cd_Tr_letters : cdY y_Tr_letters ∈ TB := tb_3 67 rfl rfl
theorem im_Tr_letters : Cond.instanceMethod y_Tr_letters.1 ∈ TB := tb_3 65 rfl rfl
theorem se_Tr_letters : Cond.selects y_Tr_letters.1.cls y_Tr_letters.1 y_Tr_letters.1 ∈ TB := tb_3 66 rfl rfl
theorem mh_Tr_letters : mhOK y_Tr_letters.1 0 := ⟨⟨by decide, by decide⟩, by decide +kernel⟩
theorem pf_Tr_letters : plainFor y_Tr_letters.1 = true := by decide +kernel
theorem cd_Tr_addLeaf : cdY y_Tr_addLeaf ∈ TB := tb_3 77 rfl rfl
theorem im_Tr_addLeaf : Cond.instanceMethod y_Tr_addLeaf.1 ∈ TB := tb_3 75 rfl rfl
theorem se_Tr_addLeaf : Cond.selects y_Tr_addLeaf.1.cls y_Tr_addLeaf.1 y_Tr_addLeaf.1 ∈ TB := tb_3 76 rfl rfl
theorem mh_Tr_addLeaf : mhOK y_Tr_addLeaf.1 1 := ⟨⟨by decide, by decide⟩, by decide +kernel⟩
theorem pf_Tr_addLeaf : plainFor y_Tr_addLeaf.1 = true := by decide +kernel
theorem cd_Tr_add : cdY y_Tr_add ∈ TB := tb_3 81 rfl rfl
theorem im_Tr_add : Cond.instanceMethod y_Tr_add.1 ∈ TB := tb_3 79 rfl rfl
theorem se_Tr_add : Cond.selects y_Tr_add.1.cls y_Tr_add.1 y_Tr_add.1 ∈ TB := tb_3 80 rfl rfl
theorem mh_Tr_add : mhOK y_Tr_add.1 3 := ⟨⟨by decide, by decide⟩, by decide +kernel⟩
theorem pf_Tr_add : plainFor y_Tr_add.1 = true := by decide +kernel
theorem cd_Tr_findTruths : cdY y_Tr_findTruths ∈ TB := tb_3 110 rfl rfl
theorem im_Tr_findTruths : Cond.instanceMethod y_Tr_findTruths.1 ∈ TB := tb_3 108 rfl rfl
theorem se_Tr_findTruths : Cond.selects y_Tr_findTruths.1.cls y_Tr_findTruths.1 y_Tr_findTruths.1 ∈ TB := tb_3 109 rfl rfl
theorem mh_Tr_findTruths : mhOK y_Tr_findTruths.1 0 := ⟨⟨by decide, by decide⟩, by decide +kernel⟩
theorem pf_Tr_findTruths : plainFor y_Tr_findTruths.1 = true := by decide +kernel
theorem cd_Tr_truthOf : cdY y_Tr_truthOf ∈ TB := tb_3 114 rfl rfl
theorem im_Tr_truthOf : Cond.instanceMethod y_Tr_truthOf.1 ∈ TB := tb_3 113 rfl rfl
theorem se_Tr_truthOf : Cond.selects y_Tr_truthOf.1.cls y_Tr_truthOf.1 y_Tr_truthOf.1 ∈ TB := tb_sel (List.mem_map.mpr ⟨(y_Tr_truthOf.1, 7), List.mem_of_getElem? (i := 8) rfl, rfl⟩) rfl
theorem mh_Tr_truthOf : mhOK y_Tr_truthOf.1 1 := ⟨⟨by decide, by decide⟩, by decide +kernel⟩
theorem pf_Tr_truthOf : plainFor y_Tr_truthOf.1 = true := by decide +kernel
theorem cd_Tr_numberOf : cdY y_Tr_numberOf ∈ TB := tb_3 120 rfl rfl
theorem im_Tr_numberOf : Cond.instanceMethod y_Tr_numberOf.1 ∈ TB := tb_3 119 rfl rfl
theorem se_Tr_numberOf : Cond.selects y_Tr_numberOf.1.cls y_Tr_numberOf.1 y_Tr_numberOf.1 ∈ TB := tb_sel (List.mem_map.mpr ⟨(y_Tr_numberOf.1, 7), List.mem_of_getElem? (i := 9) rfl, rfl⟩) rfl
theorem mh_Tr_numberOf : mhOK y_Tr_numberOf.1 1 := ⟨⟨by decide, by decide⟩, by decide +kernel⟩
theorem pf_Tr_numberOf : plainFor y_Tr_numberOf.1 = true := by decide +kernel
theorem cd_Tr_findReached : cdY y_Tr_findReached ∈ TB := tb_3 126 rfl rfl
theorem im_Tr_findReached : Cond.instanceMethod y_Tr_findReached.1 ∈ TB := tb_3 124 rfl rfl
theorem se_Tr_findReached : Cond.selects y_Tr_findReached.1.cls y_Tr_findReached.1 y_Tr_findReached.1 ∈ TB := tb_3 125 rfl rfl
theorem mh_Tr_findReached : mhOK y_Tr_findReached.1 2 := ⟨⟨by decide, by decide⟩, by decide +kernel⟩
theorem pf_Tr_findReached : plainFor y_Tr_findReached.1 = true := by decide +kernel
theorem cd_Tr_reachParts : cdY y_Tr_reachParts ∈ TB := tb_3 130 rfl rfl
theorem im_Tr_reachParts : Cond.instanceMethod y_Tr_reachParts.1 ∈ TB := tb_3 129 rfl rfl
theorem se_Tr_reachParts : Cond.selects y_Tr_reachParts.1.cls y_Tr_reachParts.1 y_Tr_reachParts.1 ∈ TB := tb_sel (List.mem_map.mpr ⟨(y_Tr_reachParts.1, 7), List.mem_of_getElem? (i := 10) rfl, rfl⟩) rfl
theorem mh_Tr_reachParts : mhOK y_Tr_reachParts.1 2 := ⟨⟨by decide, by decide⟩, by decide +kernel⟩
theorem pf_Tr_reachParts : plainFor y_Tr_reachParts.1 = true := by decide +kernel
theorem cd_Tr_undecided : cdY y_Tr_undecided ∈ TB := tb_3 134 rfl rfl
theorem im_Tr_undecided : Cond.instanceMethod y_Tr_undecided.1 ∈ TB := tb_3 133 rfl rfl
theorem se_Tr_undecided : Cond.selects y_Tr_undecided.1.cls y_Tr_undecided.1 y_Tr_undecided.1 ∈ TB := tb_sel (List.mem_map.mpr ⟨(y_Tr_undecided.1, 7), List.mem_of_getElem? (i := 11) rfl, rfl⟩) rfl
theorem mh_Tr_undecided : mhOK y_Tr_undecided.1 1 := ⟨⟨by decide, by decide⟩, by decide +kernel⟩
theorem pf_Tr_undecided : plainFor y_Tr_undecided.1 = true := by decide +kernel
theorem cd_Tr_writeOn : cdY y_Tr_writeOn ∈ TB := tb_3 98 rfl rfl
theorem im_Tr_writeOn : Cond.instanceMethod y_Tr_writeOn.1 ∈ TB := tb_3 96 rfl rfl
theorem se_Tr_writeOn : Cond.selects y_Tr_writeOn.1.cls y_Tr_writeOn.1 y_Tr_writeOn.1 ∈ TB := tb_3 97 rfl rfl
theorem mh_Tr_writeOn : mhOK y_Tr_writeOn.1 1 := ⟨⟨by decide, by decide⟩, by decide +kernel⟩
theorem pf_Tr_writeOn : plainFor y_Tr_writeOn.1 = true := by decide +kernel
theorem cd_Tr_write : cdY y_Tr_write ∈ TB := tb_3 103 rfl rfl
theorem im_Tr_write : Cond.instanceMethod y_Tr_write.1 ∈ TB := tb_3 102 rfl rfl
theorem se_Tr_write : Cond.selects y_Tr_write.1.cls y_Tr_write.1 y_Tr_write.1 ∈ TB := tb_sel (List.mem_map.mpr ⟨(y_Tr_write.1, 7), List.mem_of_getElem? (i := 7) rfl, rfl⟩) rfl
theorem mh_Tr_write : mhOK y_Tr_write.1 4 := ⟨⟨by decide, by decide⟩, by decide +kernel⟩
theorem pf_Tr_write : plainFor y_Tr_write.1 = true := by decide +kernel
theorem cd_Re_init : cdY y_Re_init ∈ TB := tb_1 120 rfl rfl
theorem cc_Re_init : Cond.code y_Re_init.1 y_Re_init.2.1 y_Re_init.2.2.1 none ∈ TB := tb_1 120 rfl rfl
theorem im_Re_init : Cond.instanceMethod y_Re_init.1 ∈ TB := tb_1 119 rfl rfl
theorem mh_Re_init : mhOK y_Re_init.1 2 := ⟨⟨by decide, by decide⟩, by decide +kernel⟩
theorem pf_Re_init : plainFor y_Re_init.1 = true := by decide +kernel
theorem cd_Re_read : cdY y_Re_read ∈ TB := tb_2 236 rfl rfl
theorem im_Re_read : Cond.instanceMethod y_Re_read.1 ∈ TB := tb_2 234 rfl rfl
theorem se_Re_read : Cond.selects y_Re_read.1.cls y_Re_read.1 y_Re_read.1 ∈ TB := tb_2 235 rfl rfl
theorem mh_Re_read : mhOK y_Re_read.1 1 := ⟨⟨by decide, by decide⟩, by decide +kernel⟩
theorem pf_Re_read : plainFor y_Re_read.1 = true := by decide +kernel
theorem cd_Re_readJoined : cdY y_Re_readJoined ∈ TB := tb_3 4 rfl rfl
theorem im_Re_readJoined : Cond.instanceMethod y_Re_readJoined.1 ∈ TB := tb_3 3 rfl rfl
theorem se_Re_readJoined : Cond.selects y_Re_readJoined.1.cls y_Re_readJoined.1 y_Re_readJoined.1 ∈ TB := tb_sel (List.mem_map.mpr ⟨(y_Re_readJoined.1, 5), List.mem_of_getElem? (i := 1) rfl, rfl⟩) rfl
theorem mh_Re_readJoined : mhOK y_Re_readJoined.1 2 := ⟨⟨by decide, by decide⟩, by decide +kernel⟩
theorem pf_Re_readJoined : plainFor y_Re_readJoined.1 = true := by decide +kernel
theorem cd_Re_readOne : cdY y_Re_readOne ∈ TB := tb_3 8 rfl rfl
theorem im_Re_readOne : Cond.instanceMethod y_Re_readOne.1 ∈ TB := tb_3 7 rfl rfl
theorem se_Re_readOne : Cond.selects y_Re_readOne.1.cls y_Re_readOne.1 y_Re_readOne.1 ∈ TB := tb_sel (List.mem_map.mpr ⟨(y_Re_readOne.1, 5), List.mem_of_getElem? (i := 2) rfl, rfl⟩) rfl
theorem mh_Re_readOne : mhOK y_Re_readOne.1 1 := ⟨⟨by decide, by decide⟩, by decide +kernel⟩
theorem pf_Re_readOne : plainFor y_Re_readOne.1 = true := by decide +kernel
theorem cd_Re_readInner : cdY y_Re_readInner ∈ TB := tb_3 55 rfl rfl
theorem im_Re_readInner : Cond.instanceMethod y_Re_readInner.1 ∈ TB := tb_3 54 rfl rfl
theorem se_Re_readInner : Cond.selects y_Re_readInner.1.cls y_Re_readInner.1 y_Re_readInner.1 ∈ TB := tb_sel (List.mem_map.mpr ⟨(y_Re_readInner.1, 5), List.mem_of_getElem? (i := 3) rfl, rfl⟩) rfl
theorem mh_Re_readInner : mhOK y_Re_readInner.1 1 := ⟨⟨by decide, by decide⟩, by decide +kernel⟩
theorem pf_Re_readInner : plainFor y_Re_readInner.1 = true := by decide +kernel
theorem cd_Re_readLetter : cdY y_Re_readLetter ∈ TB := tb_3 59 rfl rfl
theorem im_Re_readLetter : Cond.instanceMethod y_Re_readLetter.1 ∈ TB := tb_3 58 rfl rfl
theorem se_Re_readLetter : Cond.selects y_Re_readLetter.1.cls y_Re_readLetter.1 y_Re_readLetter.1 ∈ TB := tb_sel (List.mem_map.mpr ⟨(y_Re_readLetter.1, 5), List.mem_of_getElem? (i := 4) rfl, rfl⟩) rfl
theorem mh_Re_readLetter : mhOK y_Re_readLetter.1 0 := ⟨⟨by decide, by decide⟩, by decide +kernel⟩
theorem pf_Re_readLetter : plainFor y_Re_readLetter.1 = true := by decide +kernel
theorem cd_Re_isOneTooMany : cdY y_Re_isOneTooMany ∈ TB := tb_3 63 rfl rfl
theorem im_Re_isOneTooMany : Cond.instanceMethod y_Re_isOneTooMany.1 ∈ TB := tb_3 62 rfl rfl
theorem se_Re_isOneTooMany : Cond.selects y_Re_isOneTooMany.1.cls y_Re_isOneTooMany.1 y_Re_isOneTooMany.1 ∈ TB := tb_sel (List.mem_map.mpr ⟨(y_Re_isOneTooMany.1, 5), List.mem_of_getElem? (i := 5) rfl, rfl⟩) rfl
theorem mh_Re_isOneTooMany : mhOK y_Re_isOneTooMany.1 1 := ⟨⟨by decide, by decide⟩, by decide +kernel⟩
theorem pf_Re_isOneTooMany : plainFor y_Re_isOneTooMany.1 = true := by decide +kernel
theorem cd_De_init : cdY y_De_init ∈ TB := tb_1 161 rfl rfl
theorem cc_De_init : Cond.code y_De_init.1 y_De_init.2.1 y_De_init.2.2.1 none ∈ TB := tb_1 161 rfl rfl
theorem im_De_init : Cond.instanceMethod y_De_init.1 ∈ TB := tb_1 160 rfl rfl
theorem mh_De_init : mhOK y_De_init.1 1 := ⟨⟨by decide, by decide⟩, by decide +kernel⟩
theorem pf_De_init : plainFor y_De_init.1 = true := by decide +kernel
theorem cd_De_take : cdY y_De_take ∈ TB := tb_3 86 rfl rfl
theorem im_De_take : Cond.instanceMethod y_De_take.1 ∈ TB := tb_3 84 rfl rfl
theorem se_De_take : Cond.selects y_De_take.1.cls y_De_take.1 y_De_take.1 ∈ TB := tb_3 85 rfl rfl
theorem mh_De_take : mhOK y_De_take.1 2 := ⟨⟨by decide, by decide⟩, by decide +kernel⟩
theorem pf_De_take : plainFor y_De_take.1 = true := by decide +kernel
theorem cd_De_takeLetters : cdY y_De_takeLetters ∈ TB := tb_3 91 rfl rfl
theorem im_De_takeLetters : Cond.instanceMethod y_De_takeLetters.1 ∈ TB := tb_3 90 rfl rfl
theorem se_De_takeLetters : Cond.selects y_De_takeLetters.1.cls y_De_takeLetters.1 y_De_takeLetters.1 ∈ TB := tb_sel (List.mem_map.mpr ⟨(y_De_takeLetters.1, 10), List.mem_of_getElem? (i := 6) rfl, rfl⟩) rfl
theorem mh_De_takeLetters : mhOK y_De_takeLetters.1 1 := ⟨⟨by decide, by decide⟩, by decide +kernel⟩
theorem pf_De_takeLetters : plainFor y_De_takeLetters.1 = true := by decide +kernel
theorem cd_De_turned : cdY y_De_turned ∈ TB := tb_3 137 rfl rfl
theorem st_De_turned : Cond.static y_De_turned.1 ∈ TB := tb_3 136 rfl rfl
theorem mh_De_turned : mhOK y_De_turned.1 2 := ⟨⟨by decide, by decide⟩, by decide +kernel⟩
theorem pf_De_turned : plainFor y_De_turned.1 = true := by decide +kernel
theorem cd_De_strangersOf : cdY y_De_strangersOf ∈ TB := tb_3 143 rfl rfl
theorem im_De_strangersOf : Cond.instanceMethod y_De_strangersOf.1 ∈ TB := tb_3 142 rfl rfl
theorem se_De_strangersOf : Cond.selects y_De_strangersOf.1.cls y_De_strangersOf.1 y_De_strangersOf.1 ∈ TB := tb_sel (List.mem_map.mpr ⟨(y_De_strangersOf.1, 10), List.mem_of_getElem? (i := 12) rfl, rfl⟩) rfl
theorem mh_De_strangersOf : mhOK y_De_strangersOf.1 1 := ⟨⟨by decide, by decide⟩, by decide +kernel⟩
theorem pf_De_strangersOf : plainFor y_De_strangersOf.1 = true := by decide +kernel
theorem cd_De_size : cdY y_De_size ∈ TB := tb_3 159 rfl rfl
theorem im_De_size : Cond.instanceMethod y_De_size.1 ∈ TB := tb_3 157 rfl rfl
theorem se_De_size : Cond.selects y_De_size.1.cls y_De_size.1 y_De_size.1 ∈ TB := tb_3 158 rfl rfl
theorem mh_De_size : mhOK y_De_size.1 0 := ⟨⟨by decide, by decide⟩, by decide +kernel⟩
theorem pf_De_size : plainFor y_De_size.1 = true := by decide +kernel
theorem cd_De_wordCount : cdY y_De_wordCount ∈ TB := tb_4 17 rfl rfl
theorem im_De_wordCount : Cond.instanceMethod y_De_wordCount.1 ∈ TB := tb_4 15 rfl rfl
theorem se_De_wordCount : Cond.selects y_De_wordCount.1.cls y_De_wordCount.1 y_De_wordCount.1 ∈ TB := tb_4 16 rfl rfl
theorem mh_De_wordCount : mhOK y_De_wordCount.1 0 := ⟨⟨by decide, by decide⟩, by decide +kernel⟩
theorem pf_De_wordCount : plainFor y_De_wordCount.1 = true := by decide +kernel
theorem cd_De_letterOf : cdY y_De_letterOf ∈ TB := tb_3 163 rfl rfl
theorem im_De_letterOf : Cond.instanceMethod y_De_letterOf.1 ∈ TB := tb_3 161 rfl rfl
theorem se_De_letterOf : Cond.selects y_De_letterOf.1.cls y_De_letterOf.1 y_De_letterOf.1 ∈ TB := tb_3 162 rfl rfl
theorem mh_De_letterOf : mhOK y_De_letterOf.1 1 := ⟨⟨by decide, by decide⟩, by decide +kernel⟩
theorem pf_De_letterOf : plainFor y_De_letterOf.1 = true := by decide +kernel
theorem cd_De_shown : cdY y_De_shown ∈ TB := tb_3 225 rfl rfl
theorem im_De_shown : Cond.instanceMethod y_De_shown.1 ∈ TB := tb_3 223 rfl rfl
theorem se_De_shown : Cond.selects y_De_shown.1.cls y_De_shown.1 y_De_shown.1 ∈ TB := tb_3 224 rfl rfl
theorem mh_De_shown : mhOK y_De_shown.1 0 := ⟨⟨by decide, by decide⟩, by decide +kernel⟩
theorem pf_De_shown : plainFor y_De_shown.1 = true := by decide +kernel
theorem cd_De_trueWords : cdY y_De_trueWords ∈ TB := tb_4 33 rfl rfl
theorem im_De_trueWords : Cond.instanceMethod y_De_trueWords.1 ∈ TB := tb_4 31 rfl rfl
theorem se_De_trueWords : Cond.selects y_De_trueWords.1.cls y_De_trueWords.1 y_De_trueWords.1 ∈ TB := tb_4 32 rfl rfl
theorem mh_De_trueWords : mhOK y_De_trueWords.1 0 := ⟨⟨by decide, by decide⟩, by decide +kernel⟩
theorem pf_De_trueWords : plainFor y_De_trueWords.1 = true := by decide +kernel
theorem cd_De_feasibleWords : cdY y_De_feasibleWords ∈ TB := tb_3 236 rfl rfl
theorem im_De_feasibleWords : Cond.instanceMethod y_De_feasibleWords.1 ∈ TB := tb_3 234 rfl rfl
theorem se_De_feasibleWords : Cond.selects y_De_feasibleWords.1.cls y_De_feasibleWords.1 y_De_feasibleWords.1 ∈ TB := tb_3 235 rfl rfl
theorem mh_De_feasibleWords : mhOK y_De_feasibleWords.1 0 := ⟨⟨by decide, by decide⟩, by decide +kernel⟩
theorem pf_De_feasibleWords : plainFor y_De_feasibleWords.1 = true := by decide +kernel
theorem cd_De_evaluatingWords : cdY y_De_evaluatingWords ∈ TB := tb_4 47 rfl rfl
theorem im_De_evaluatingWords : Cond.instanceMethod y_De_evaluatingWords.1 ∈ TB := tb_4 45 rfl rfl
theorem se_De_evaluatingWords : Cond.selects y_De_evaluatingWords.1.cls y_De_evaluatingWords.1 y_De_evaluatingWords.1 ∈ TB := tb_4 46 rfl rfl
theorem mh_De_evaluatingWords : mhOK y_De_evaluatingWords.1 1 := ⟨⟨by decide, by decide⟩, by decide +kernel⟩
theorem pf_De_evaluatingWords : plainFor y_De_evaluatingWords.1 = true := by decide +kernel
theorem cd_De_valueFor : cdY y_De_valueFor ∈ TB := tb_4 22 rfl rfl
theorem im_De_valueFor : Cond.instanceMethod y_De_valueFor.1 ∈ TB := tb_4 20 rfl rfl
theorem se_De_valueFor : Cond.selects y_De_valueFor.1.cls y_De_valueFor.1 y_De_valueFor.1 ∈ TB := tb_4 21 rfl rfl
theorem mh_De_valueFor : mhOK y_De_valueFor.1 2 := ⟨⟨by decide, by decide⟩, by decide +kernel⟩
theorem pf_De_valueFor : plainFor y_De_valueFor.1 = true := by decide +kernel
theorem cd_De_meet : cdY y_De_meet ∈ TB := tb_3 198 rfl rfl
theorem im_De_meet : Cond.instanceMethod y_De_meet.1 ∈ TB := tb_3 196 rfl rfl
theorem se_De_meet : Cond.selects y_De_meet.1.cls y_De_meet.1 y_De_meet.1 ∈ TB := tb_3 197 rfl rfl
theorem mh_De_meet : mhOK y_De_meet.1 4 := ⟨⟨by decide, by decide⟩, by decide +kernel⟩
theorem pf_De_meet : plainFor y_De_meet.1 = true := by decide +kernel
theorem cd_De_wordFor : cdY y_De_wordFor ∈ TB := tb_4 169 rfl rfl
theorem im_De_wordFor : Cond.instanceMethod y_De_wordFor.1 ∈ TB := tb_4 167 rfl rfl
theorem se_De_wordFor : Cond.selects y_De_wordFor.1.cls y_De_wordFor.1 y_De_wordFor.1 ∈ TB := tb_4 168 rfl rfl
theorem mh_De_wordFor : mhOK y_De_wordFor.1 2 := ⟨⟨by decide, by decide⟩, by decide +kernel⟩
theorem pf_De_wordFor : plainFor y_De_wordFor.1 = true := by decide +kernel
theorem cd_De_pairFor : cdY y_De_pairFor ∈ TB := tb_4 61 rfl rfl
theorem im_De_pairFor : Cond.instanceMethod y_De_pairFor.1 ∈ TB := tb_4 59 rfl rfl
theorem se_De_pairFor : Cond.selects y_De_pairFor.1.cls y_De_pairFor.1 y_De_pairFor.1 ∈ TB := tb_4 60 rfl rfl
theorem mh_De_pairFor : mhOK y_De_pairFor.1 2 := ⟨⟨by decide, by decide⟩, by decide +kernel⟩
theorem pf_De_pairFor : plainFor y_De_pairFor.1 = true := by decide +kernel
theorem cd_De_isSolved : cdY y_De_isSolved ∈ TB := tb_4 186 rfl rfl
theorem im_De_isSolved : Cond.instanceMethod y_De_isSolved.1 ∈ TB := tb_4 184 rfl rfl
theorem se_De_isSolved : Cond.selects y_De_isSolved.1.cls y_De_isSolved.1 y_De_isSolved.1 ∈ TB := tb_4 185 rfl rfl
theorem mh_De_isSolved : mhOK y_De_isSolved.1 2 := ⟨⟨by decide, by decide⟩, by decide +kernel⟩
theorem pf_De_isSolved : plainFor y_De_isSolved.1 = true := by decide +kernel
theorem cd_De_isShownWithin : cdY y_De_isShownWithin ∈ TB := tb_4 94 rfl rfl
theorem im_De_isShownWithin : Cond.instanceMethod y_De_isShownWithin.1 ∈ TB := tb_4 92 rfl rfl
theorem se_De_isShownWithin : Cond.selects y_De_isShownWithin.1.cls y_De_isShownWithin.1 y_De_isShownWithin.1 ∈ TB := tb_4 93 rfl rfl
theorem mh_De_isShownWithin : mhOK y_De_isShownWithin.1 3 := ⟨⟨by decide, by decide⟩, by decide +kernel⟩
theorem pf_De_isShownWithin : plainFor y_De_isShownWithin.1 = true := by decide +kernel
theorem cd_De_pairWithin : cdY y_De_pairWithin ∈ TB := tb_4 65 rfl rfl
theorem im_De_pairWithin : Cond.instanceMethod y_De_pairWithin.1 ∈ TB := tb_4 64 rfl rfl
theorem se_De_pairWithin : Cond.selects y_De_pairWithin.1.cls y_De_pairWithin.1 y_De_pairWithin.1 ∈ TB := tb_sel (List.mem_map.mpr ⟨(y_De_pairWithin.1, 10), List.mem_of_getElem? (i := 18) rfl, rfl⟩) rfl
theorem mh_De_pairWithin : mhOK y_De_pairWithin.1 3 := ⟨⟨by decide, by decide⟩, by decide +kernel⟩
theorem pf_De_pairWithin : plainFor y_De_pairWithin.1 = true := by decide +kernel
theorem cd_De_partnersOf : cdY y_De_partnersOf ∈ TB := tb_4 70 rfl rfl
theorem im_De_partnersOf : Cond.instanceMethod y_De_partnersOf.1 ∈ TB := tb_4 68 rfl rfl
theorem se_De_partnersOf : Cond.selects y_De_partnersOf.1.cls y_De_partnersOf.1 y_De_partnersOf.1 ∈ TB := tb_4 69 rfl rfl
theorem mh_De_partnersOf : mhOK y_De_partnersOf.1 3 := ⟨⟨by decide, by decide⟩, by decide +kernel⟩
theorem pf_De_partnersOf : plainFor y_De_partnersOf.1 = true := by decide +kernel
theorem cd_De_likeWord : cdY y_De_likeWord ∈ TB := tb_4 73 rfl rfl
theorem st_De_likeWord : Cond.static y_De_likeWord.1 ∈ TB := tb_4 72 rfl rfl
theorem mh_De_likeWord : mhOK y_De_likeWord.1 2 := ⟨⟨by decide, by decide⟩, by decide +kernel⟩
theorem pf_De_likeWord : plainFor y_De_likeWord.1 = true := by decide +kernel
theorem cd_De_heldFor : cdY y_De_heldFor ∈ TB := tb_4 77 rfl rfl
theorem im_De_heldFor : Cond.instanceMethod y_De_heldFor.1 ∈ TB := tb_4 76 rfl rfl
theorem se_De_heldFor : Cond.selects y_De_heldFor.1.cls y_De_heldFor.1 y_De_heldFor.1 ∈ TB := tb_sel (List.mem_map.mpr ⟨(y_De_heldFor.1, 10), List.mem_of_getElem? (i := 19) rfl, rfl⟩) rfl
theorem mh_De_heldFor : mhOK y_De_heldFor.1 2 := ⟨⟨by decide, by decide⟩, by decide +kernel⟩
theorem pf_De_heldFor : plainFor y_De_heldFor.1 = true := by decide +kernel
theorem cd_Wa_init : cdY y_Wa_init ∈ TB := tb_1 142 rfl rfl
theorem cc_Wa_init : Cond.code y_Wa_init.1 y_Wa_init.2.1 y_Wa_init.2.2.1 none ∈ TB := tb_1 142 rfl rfl
theorem im_Wa_init : Cond.instanceMethod y_Wa_init.1 ∈ TB := tb_1 141 rfl rfl
theorem mh_Wa_init : mhOK y_Wa_init.1 2 := ⟨⟨by decide, by decide⟩, by decide +kernel⟩
theorem pf_Wa_init : plainFor y_Wa_init.1 = true := by decide +kernel
theorem cd_Wa_findWords : cdY y_Wa_findWords ∈ TB := tb_3 151 rfl rfl
theorem im_Wa_findWords : Cond.instanceMethod y_Wa_findWords.1 ∈ TB := tb_3 149 rfl rfl
theorem se_Wa_findWords : Cond.selects y_Wa_findWords.1.cls y_Wa_findWords.1 y_Wa_findWords.1 ∈ TB := tb_3 150 rfl rfl
theorem mh_Wa_findWords : mhOK y_Wa_findWords.1 1 := ⟨⟨by decide, by decide⟩, by decide +kernel⟩
theorem pf_Wa_findWords : plainFor y_Wa_findWords.1 = true := by decide +kernel
theorem cd_Wa_fillBits : cdY y_Wa_fillBits ∈ TB := tb_3 155 rfl rfl
theorem im_Wa_fillBits : Cond.instanceMethod y_Wa_fillBits.1 ∈ TB := tb_3 154 rfl rfl
theorem se_Wa_fillBits : Cond.selects y_Wa_fillBits.1.cls y_Wa_fillBits.1 y_Wa_fillBits.1 ∈ TB := tb_sel (List.mem_map.mpr ⟨(y_Wa_fillBits.1, 3), List.mem_of_getElem? (i := 13) rfl, rfl⟩) rfl
theorem mh_Wa_fillBits : mhOK y_Wa_fillBits.1 1 := ⟨⟨by decide, by decide⟩, by decide +kernel⟩
theorem pf_Wa_fillBits : plainFor y_Wa_fillBits.1 = true := by decide +kernel
theorem cd_Wa_enter : cdY y_Wa_enter ∈ TB := tb_3 167 rfl rfl
theorem im_Wa_enter : Cond.instanceMethod y_Wa_enter.1 ∈ TB := tb_3 166 rfl rfl
theorem se_Wa_enter : Cond.selects y_Wa_enter.1.cls y_Wa_enter.1 y_Wa_enter.1 ∈ TB := tb_sel (List.mem_map.mpr ⟨(y_Wa_enter.1, 3), List.mem_of_getElem? (i := 14) rfl, rfl⟩) rfl
theorem mh_Wa_enter : mhOK y_Wa_enter.1 2 := ⟨⟨by decide, by decide⟩, by decide +kernel⟩
theorem pf_Wa_enter : plainFor y_Wa_enter.1 = true := by decide +kernel
theorem cd_Wa_bitsFor : cdY y_Wa_bitsFor ∈ TB := tb_3 194 rfl rfl
theorem im_Wa_bitsFor : Cond.instanceMethod y_Wa_bitsFor.1 ∈ TB := tb_3 193 rfl rfl
theorem se_Wa_bitsFor : Cond.selects y_Wa_bitsFor.1.cls y_Wa_bitsFor.1 y_Wa_bitsFor.1 ∈ TB := tb_sel (List.mem_map.mpr ⟨(y_Wa_bitsFor.1, 3), List.mem_of_getElem? (i := 15) rfl, rfl⟩) rfl
theorem mh_Wa_bitsFor : mhOK y_Wa_bitsFor.1 3 := ⟨⟨by decide, by decide⟩, by decide +kernel⟩
theorem pf_Wa_bitsFor : plainFor y_Wa_bitsFor.1 = true := by decide +kernel
theorem cd_Wa_rowOf : cdY y_Wa_rowOf ∈ TB := tb_3 178 rfl rfl
theorem st_Wa_rowOf : Cond.static y_Wa_rowOf.1 ∈ TB := tb_3 177 rfl rfl
theorem mh_Wa_rowOf : mhOK y_Wa_rowOf.1 2 := ⟨⟨by decide, by decide⟩, by decide +kernel⟩
theorem pf_Wa_rowOf : plainFor y_Wa_rowOf.1 = true := by decide +kernel
theorem cd_Su_init : cdY y_Su_init ∈ TB := tb_1 200 rfl rfl
theorem cc_Su_init : Cond.code y_Su_init.1 y_Su_init.2.1 y_Su_init.2.2.1 none ∈ TB := tb_1 200 rfl rfl
theorem im_Su_init : Cond.instanceMethod y_Su_init.1 ∈ TB := tb_1 199 rfl rfl
theorem mh_Su_init : mhOK y_Su_init.1 0 := ⟨⟨by decide, by decide⟩, by decide +kernel⟩
theorem pf_Su_init : plainFor y_Su_init.1 = true := by decide +kernel
theorem cd_Su_fill : cdY y_Su_fill ∈ TB := tb_4 88 rfl rfl
theorem im_Su_fill : Cond.instanceMethod y_Su_fill.1 ∈ TB := tb_4 86 rfl rfl
theorem se_Su_fill : Cond.selects y_Su_fill.1.cls y_Su_fill.1 y_Su_fill.1 ∈ TB := tb_4 87 rfl rfl
theorem mh_Su_fill : mhOK y_Su_fill.1 2 := ⟨⟨by decide, by decide⟩, by decide +kernel⟩
theorem pf_Su_fill : plainFor y_Su_fill.1 = true := by decide +kernel
theorem cd_Su_add : cdY y_Su_add ∈ TB := tb_4 98 rfl rfl
theorem im_Su_add : Cond.instanceMethod y_Su_add.1 ∈ TB := tb_4 97 rfl rfl
theorem se_Su_add : Cond.selects y_Su_add.1.cls y_Su_add.1 y_Su_add.1 ∈ TB := tb_sel (List.mem_map.mpr ⟨(y_Su_add.1, 3), List.mem_of_getElem? (i := 20) rfl, rfl⟩) rfl
theorem mh_Su_add : mhOK y_Su_add.1 1 := ⟨⟨by decide, by decide⟩, by decide +kernel⟩
theorem pf_Su_add : plainFor y_Su_add.1 = true := by decide +kernel
theorem cd_Su_wordAt : cdY y_Su_wordAt ∈ TB := tb_2 67 rfl rfl
theorem im_Su_wordAt : Cond.instanceMethod y_Su_wordAt.1 ∈ TB := tb_2 65 rfl rfl
theorem se_Su_wordAt : Cond.selects y_Su_wordAt.1.cls y_Su_wordAt.1 y_Su_wordAt.1 ∈ TB := tb_2 66 rfl rfl
theorem mh_Su_wordAt : mhOK y_Su_wordAt.1 1 := ⟨⟨by decide, by decide⟩, by decide +kernel⟩
theorem pf_Su_wordAt : plainFor y_Su_wordAt.1 = true := by decide +kernel
theorem cd_Fe_init : cdY y_Fe_init ∈ TB := tb_1 216 rfl rfl
theorem cc_Fe_init : Cond.code y_Fe_init.1 y_Fe_init.2.1 y_Fe_init.2.2.1 none ∈ TB := tb_1 216 rfl rfl
theorem im_Fe_init : Cond.instanceMethod y_Fe_init.1 ∈ TB := tb_1 215 rfl rfl
theorem mh_Fe_init : mhOK y_Fe_init.1 0 := ⟨⟨by decide, by decide⟩, by decide +kernel⟩
theorem pf_Fe_init : plainFor y_Fe_init.1 = true := by decide +kernel
theorem cd_Fe_count : cdY y_Fe_count ∈ TB := tb_4 110 rfl rfl
theorem im_Fe_count : Cond.instanceMethod y_Fe_count.1 ∈ TB := tb_4 108 rfl rfl
theorem se_Fe_count : Cond.selects y_Fe_count.1.cls y_Fe_count.1 y_Fe_count.1 ∈ TB := tb_4 109 rfl rfl
theorem mh_Fe_count : mhOK y_Fe_count.1 2 := ⟨⟨by decide, by decide⟩, by decide +kernel⟩
theorem pf_Fe_count : plainFor y_Fe_count.1 = true := by decide +kernel
theorem cd_Fe_findPartners : cdY y_Fe_findPartners ∈ TB := tb_4 119 rfl rfl
theorem im_Fe_findPartners : Cond.instanceMethod y_Fe_findPartners.1 ∈ TB := tb_4 118 rfl rfl
theorem se_Fe_findPartners : Cond.selects y_Fe_findPartners.1.cls y_Fe_findPartners.1 y_Fe_findPartners.1 ∈ TB := tb_sel (List.mem_map.mpr ⟨(y_Fe_findPartners.1, 5), List.mem_of_getElem? (i := 21) rfl, rfl⟩) rfl
theorem mh_Fe_findPartners : mhOK y_Fe_findPartners.1 3 := ⟨⟨by decide, by decide⟩, by decide +kernel⟩
theorem pf_Fe_findPartners : plainFor y_Fe_findPartners.1 = true := by decide +kernel
theorem cd_Fe_isEnough : cdY y_Fe_isEnough ∈ TB := tb_4 124 rfl rfl
theorem im_Fe_isEnough : Cond.instanceMethod y_Fe_isEnough.1 ∈ TB := tb_4 123 rfl rfl
theorem se_Fe_isEnough : Cond.selects y_Fe_isEnough.1.cls y_Fe_isEnough.1 y_Fe_isEnough.1 ∈ TB := tb_sel (List.mem_map.mpr ⟨(y_Fe_isEnough.1, 5), List.mem_of_getElem? (i := 22) rfl, rfl⟩) rfl
theorem mh_Fe_isEnough : mhOK y_Fe_isEnough.1 3 := ⟨⟨by decide, by decide⟩, by decide +kernel⟩
theorem pf_Fe_isEnough : plainFor y_Fe_isEnough.1 = true := by decide +kernel
theorem cd_Fe_showsAll : cdY y_Fe_showsAll ∈ TB := tb_4 128 rfl rfl
theorem im_Fe_showsAll : Cond.instanceMethod y_Fe_showsAll.1 ∈ TB := tb_4 127 rfl rfl
theorem se_Fe_showsAll : Cond.selects y_Fe_showsAll.1.cls y_Fe_showsAll.1 y_Fe_showsAll.1 ∈ TB := tb_sel (List.mem_map.mpr ⟨(y_Fe_showsAll.1, 5), List.mem_of_getElem? (i := 23) rfl, rfl⟩) rfl
theorem mh_Fe_showsAll : mhOK y_Fe_showsAll.1 1 := ⟨⟨by decide, by decide⟩, by decide +kernel⟩
theorem pf_Fe_showsAll : plainFor y_Fe_showsAll.1 = true := by decide +kernel
theorem cd_Fe_showsOne : cdY y_Fe_showsOne ∈ TB := tb_4 133 rfl rfl
theorem im_Fe_showsOne : Cond.instanceMethod y_Fe_showsOne.1 ∈ TB := tb_4 132 rfl rfl
theorem se_Fe_showsOne : Cond.selects y_Fe_showsOne.1.cls y_Fe_showsOne.1 y_Fe_showsOne.1 ∈ TB := tb_sel (List.mem_map.mpr ⟨(y_Fe_showsOne.1, 5), List.mem_of_getElem? (i := 24) rfl, rfl⟩) rfl
theorem mh_Fe_showsOne : mhOK y_Fe_showsOne.1 2 := ⟨⟨by decide, by decide⟩, by decide +kernel⟩
theorem pf_Fe_showsOne : plainFor y_Fe_showsOne.1 = true := by decide +kernel
theorem cd_Rc_init : cdY y_Rc_init ∈ TB := tb_1 238 rfl rfl
theorem cc_Rc_init : Cond.code y_Rc_init.1 y_Rc_init.2.1 y_Rc_init.2.2.1 none ∈ TB := tb_1 238 rfl rfl
theorem im_Rc_init : Cond.instanceMethod y_Rc_init.1 ∈ TB := tb_1 237 rfl rfl
theorem mh_Rc_init : mhOK y_Rc_init.1 0 := ⟨⟨by decide, by decide⟩, by decide +kernel⟩
theorem pf_Rc_init : plainFor y_Rc_init.1 = true := by decide +kernel
theorem cd_Rc_isFull : cdY y_Rc_isFull ∈ TB := tb_4 145 rfl rfl
theorem im_Rc_isFull : Cond.instanceMethod y_Rc_isFull.1 ∈ TB := tb_4 143 rfl rfl
theorem se_Rc_isFull : Cond.selects y_Rc_isFull.1.cls y_Rc_isFull.1 y_Rc_isFull.1 ∈ TB := tb_4 144 rfl rfl
theorem mh_Rc_isFull : mhOK y_Rc_isFull.1 0 := ⟨⟨by decide, by decide⟩, by decide +kernel⟩
theorem pf_Rc_isFull : plainFor y_Rc_isFull.1 = true := by decide +kernel
theorem cd_Rc_add : cdY y_Rc_add ∈ TB := tb_4 154 rfl rfl
theorem im_Rc_add : Cond.instanceMethod y_Rc_add.1 ∈ TB := tb_4 152 rfl rfl
theorem se_Rc_add : Cond.selects y_Rc_add.1.cls y_Rc_add.1 y_Rc_add.1 ∈ TB := tb_4 153 rfl rfl
theorem mh_Rc_add : mhOK y_Rc_add.1 3 := ⟨⟨by decide, by decide⟩, by decide +kernel⟩
theorem pf_Rc_add : plainFor y_Rc_add.1 = true := by decide +kernel
theorem cd_Rc_clear : cdY y_Rc_clear ∈ TB := tb_2 75 rfl rfl
theorem im_Rc_clear : Cond.instanceMethod y_Rc_clear.1 ∈ TB := tb_2 73 rfl rfl
theorem se_Rc_clear : Cond.selects y_Rc_clear.1.cls y_Rc_clear.1 y_Rc_clear.1 ∈ TB := tb_2 74 rfl rfl
theorem mh_Rc_clear : mhOK y_Rc_clear.1 0 := ⟨⟨by decide, by decide⟩, by decide +kernel⟩
theorem pf_Rc_clear : plainFor y_Rc_clear.1 = true := by decide +kernel
theorem cd_Rc_wordsOf : cdY y_Rc_wordsOf ∈ TB := tb_4 165 rfl rfl
theorem im_Rc_wordsOf : Cond.instanceMethod y_Rc_wordsOf.1 ∈ TB := tb_4 163 rfl rfl
theorem se_Rc_wordsOf : Cond.selects y_Rc_wordsOf.1.cls y_Rc_wordsOf.1 y_Rc_wordsOf.1 ∈ TB := tb_4 164 rfl rfl
theorem mh_Rc_wordsOf : mhOK y_Rc_wordsOf.1 1 := ⟨⟨by decide, by decide⟩, by decide +kernel⟩
theorem pf_Rc_wordsOf : plainFor y_Rc_wordsOf.1 = true := by decide +kernel
theorem cd_Mo_init : cdY y_Mo_init ∈ TB := tb_4 192 rfl rfl
theorem cc_Mo_init : Cond.code y_Mo_init.1 y_Mo_init.2.1 y_Mo_init.2.2.1 none ∈ TB := tb_4 192 rfl rfl
theorem im_Mo_init : Cond.instanceMethod y_Mo_init.1 ∈ TB := tb_4 191 rfl rfl
theorem mh_Mo_init : mhOK y_Mo_init.1 0 := ⟨⟨by decide, by decide⟩, by decide +kernel⟩
theorem pf_Mo_init : plainFor y_Mo_init.1 = true := by decide +kernel
theorem cd_Mo_thrown : cdY y_Mo_thrown ∈ TB := tb_5 64 rfl rfl
theorem im_Mo_thrown : Cond.instanceMethod y_Mo_thrown.1 ∈ TB := tb_5 62 rfl rfl
theorem se_Mo_thrown : Cond.selects y_Mo_thrown.1.cls y_Mo_thrown.1 y_Mo_thrown.1 ∈ TB := tb_5 63 rfl rfl
theorem mh_Mo_thrown : mhOK y_Mo_thrown.1 0 := ⟨⟨by decide, by decide⟩, by decide +kernel⟩
theorem pf_Mo_thrown : plainFor y_Mo_thrown.1 = true := by decide +kernel
theorem cd_Mo_refused : cdY y_Mo_refused ∈ TB := tb_5 72 rfl rfl
theorem im_Mo_refused : Cond.instanceMethod y_Mo_refused.1 ∈ TB := tb_5 71 rfl rfl
theorem se_Mo_refused : Cond.selects y_Mo_refused.1.cls y_Mo_refused.1 y_Mo_refused.1 ∈ TB := tb_sel (List.mem_map.mpr ⟨(y_Mo_refused.1, 35), List.mem_of_getElem? (i := 25) rfl, rfl⟩) rfl
theorem mh_Mo_refused : mhOK y_Mo_refused.1 2 := ⟨⟨by decide, by decide⟩, by decide +kernel⟩
theorem pf_Mo_refused : plainFor y_Mo_refused.1 = true := by decide +kernel
theorem cd_Mo_input : cdY y_Mo_input ∈ TB := tb_5 68 rfl rfl
theorem im_Mo_input : Cond.instanceMethod y_Mo_input.1 ∈ TB := tb_5 66 rfl rfl
theorem se_Mo_input : Cond.selects y_Mo_input.1.cls y_Mo_input.1 y_Mo_input.1 ∈ TB := tb_5 67 rfl rfl
theorem mh_Mo_input : mhOK y_Mo_input.1 2 := ⟨⟨by decide, by decide⟩, by decide +kernel⟩
theorem pf_Mo_input : plainFor y_Mo_input.1 = true := by decide +kernel
theorem cd_Mo_condition : cdY y_Mo_condition ∈ TB := tb_5 76 rfl rfl
theorem im_Mo_condition : Cond.instanceMethod y_Mo_condition.1 ∈ TB := tb_5 74 rfl rfl
theorem se_Mo_condition : Cond.selects y_Mo_condition.1.cls y_Mo_condition.1 y_Mo_condition.1 ∈ TB := tb_5 75 rfl rfl
theorem mh_Mo_condition : mhOK y_Mo_condition.1 4 := ⟨⟨by decide, by decide⟩, by decide +kernel⟩
theorem pf_Mo_condition : plainFor y_Mo_condition.1 = true := by decide +kernel
theorem cd_Mo_type : cdY y_Mo_type ∈ TB := tb_5 80 rfl rfl
theorem im_Mo_type : Cond.instanceMethod y_Mo_type.1 ∈ TB := tb_5 78 rfl rfl
theorem se_Mo_type : Cond.selects y_Mo_type.1.cls y_Mo_type.1 y_Mo_type.1 ∈ TB := tb_5 79 rfl rfl
theorem mh_Mo_type : mhOK y_Mo_type.1 1 := ⟨⟨by decide, by decide⟩, by decide +kernel⟩
theorem pf_Mo_type : plainFor y_Mo_type.1 = true := by decide +kernel
theorem cd_Mo_wipe : cdY y_Mo_wipe ∈ TB := tb_5 84 rfl rfl
theorem im_Mo_wipe : Cond.instanceMethod y_Mo_wipe.1 ∈ TB := tb_5 82 rfl rfl
theorem se_Mo_wipe : Cond.selects y_Mo_wipe.1.cls y_Mo_wipe.1 y_Mo_wipe.1 ∈ TB := tb_5 83 rfl rfl
theorem mh_Mo_wipe : mhOK y_Mo_wipe.1 0 := ⟨⟨by decide, by decide⟩, by decide +kernel⟩
theorem pf_Mo_wipe : plainFor y_Mo_wipe.1 = true := by decide +kernel
theorem cd_Mo_isIn : cdY y_Mo_isIn ∈ TB := tb_5 98 rfl rfl
theorem st_Mo_isIn : Cond.static y_Mo_isIn.1 ∈ TB := tb_5 97 rfl rfl
theorem mh_Mo_isIn : mhOK y_Mo_isIn.1 2 := ⟨⟨by decide, by decide⟩, by decide +kernel⟩
theorem pf_Mo_isIn : plainFor y_Mo_isIn.1 = true := by decide +kernel
theorem cd_Mo_countOf : cdY y_Mo_countOf ∈ TB := tb_5 95 rfl rfl
theorem st_Mo_countOf : Cond.static y_Mo_countOf.1 ∈ TB := tb_5 94 rfl rfl
theorem mh_Mo_countOf : mhOK y_Mo_countOf.1 1 := ⟨⟨by decide, by decide⟩, by decide +kernel⟩
theorem pf_Mo_countOf : plainFor y_Mo_countOf.1 = true := by decide +kernel
theorem cd_Mo_faultOf : cdY y_Mo_faultOf ∈ TB := tb_5 92 rfl rfl
theorem im_Mo_faultOf : Cond.instanceMethod y_Mo_faultOf.1 ∈ TB := tb_5 91 rfl rfl
theorem se_Mo_faultOf : Cond.selects y_Mo_faultOf.1.cls y_Mo_faultOf.1 y_Mo_faultOf.1 ∈ TB := tb_sel (List.mem_map.mpr ⟨(y_Mo_faultOf.1, 35), List.mem_of_getElem? (i := 26) rfl, rfl⟩) rfl
theorem mh_Mo_faultOf : mhOK y_Mo_faultOf.1 1 := ⟨⟨by decide, by decide⟩, by decide +kernel⟩
theorem pf_Mo_faultOf : plainFor y_Mo_faultOf.1 = true := by decide +kernel
theorem cd_Mo_open : cdY y_Mo_open ∈ TB := tb_5 106 rfl rfl
theorem im_Mo_open : Cond.instanceMethod y_Mo_open.1 ∈ TB := tb_5 105 rfl rfl
theorem se_Mo_open : Cond.selects y_Mo_open.1.cls y_Mo_open.1 y_Mo_open.1 ∈ TB := tb_sel (List.mem_map.mpr ⟨(y_Mo_open.1, 35), List.mem_of_getElem? (i := 28) rfl, rfl⟩) rfl
theorem mh_Mo_open : mhOK y_Mo_open.1 1 := ⟨⟨by decide, by decide⟩, by decide +kernel⟩
theorem pf_Mo_open : plainFor y_Mo_open.1 = true := by decide +kernel
theorem cd_Mo_isNext : cdY y_Mo_isNext ∈ TB := tb_5 110 rfl rfl
theorem im_Mo_isNext : Cond.instanceMethod y_Mo_isNext.1 ∈ TB := tb_5 109 rfl rfl
theorem se_Mo_isNext : Cond.selects y_Mo_isNext.1.cls y_Mo_isNext.1 y_Mo_isNext.1 ∈ TB := tb_sel (List.mem_map.mpr ⟨(y_Mo_isNext.1, 35), List.mem_of_getElem? (i := 29) rfl, rfl⟩) rfl
theorem mh_Mo_isNext : mhOK y_Mo_isNext.1 1 := ⟨⟨by decide, by decide⟩, by decide +kernel⟩
theorem pf_Mo_isNext : plainFor y_Mo_isNext.1 = true := by decide +kernel
theorem cd_Mo_join : cdY y_Mo_join ∈ TB := tb_5 122 rfl rfl
theorem im_Mo_join : Cond.instanceMethod y_Mo_join.1 ∈ TB := tb_5 121 rfl rfl
theorem se_Mo_join : Cond.selects y_Mo_join.1.cls y_Mo_join.1 y_Mo_join.1 ∈ TB := tb_sel (List.mem_map.mpr ⟨(y_Mo_join.1, 35), List.mem_of_getElem? (i := 32) rfl, rfl⟩) rfl
theorem mh_Mo_join : mhOK y_Mo_join.1 1 := ⟨⟨by decide, by decide⟩, by decide +kernel⟩
theorem pf_Mo_join : plainFor y_Mo_join.1 = true := by decide +kernel
theorem cd_Mo_endAnd : cdY y_Mo_endAnd ∈ TB := tb_5 118 rfl rfl
theorem im_Mo_endAnd : Cond.instanceMethod y_Mo_endAnd.1 ∈ TB := tb_5 117 rfl rfl
theorem se_Mo_endAnd : Cond.selects y_Mo_endAnd.1.cls y_Mo_endAnd.1 y_Mo_endAnd.1 ∈ TB := tb_sel (List.mem_map.mpr ⟨(y_Mo_endAnd.1, 35), List.mem_of_getElem? (i := 31) rfl, rfl⟩) rfl
theorem mh_Mo_endAnd : mhOK y_Mo_endAnd.1 0 := ⟨⟨by decide, by decide⟩, by decide +kernel⟩
theorem pf_Mo_endAnd : plainFor y_Mo_endAnd.1 = true := by decide +kernel
theorem cd_Mo_endXor : cdY y_Mo_endXor ∈ TB := tb_5 114 rfl rfl
theorem im_Mo_endXor : Cond.instanceMethod y_Mo_endXor.1 ∈ TB := tb_5 113 rfl rfl
theorem se_Mo_endXor : Cond.selects y_Mo_endXor.1.cls y_Mo_endXor.1 y_Mo_endXor.1 ∈ TB := tb_sel (List.mem_map.mpr ⟨(y_Mo_endXor.1, 35), List.mem_of_getElem? (i := 30) rfl, rfl⟩) rfl
theorem mh_Mo_endXor : mhOK y_Mo_endXor.1 0 := ⟨⟨by decide, by decide⟩, by decide +kernel⟩
theorem pf_Mo_endXor : plainFor y_Mo_endXor.1 = true := by decide +kernel
theorem cd_Mo_place : cdY y_Mo_place ∈ TB := tb_5 126 rfl rfl
theorem im_Mo_place : Cond.instanceMethod y_Mo_place.1 ∈ TB := tb_5 125 rfl rfl
theorem se_Mo_place : Cond.selects y_Mo_place.1.cls y_Mo_place.1 y_Mo_place.1 ∈ TB := tb_sel (List.mem_map.mpr ⟨(y_Mo_place.1, 35), List.mem_of_getElem? (i := 33) rfl, rfl⟩) rfl
theorem mh_Mo_place : mhOK y_Mo_place.1 2 := ⟨⟨by decide, by decide⟩, by decide +kernel⟩
theorem pf_Mo_place : plainFor y_Mo_place.1 = true := by decide +kernel
theorem cd_Mo_go : cdY y_Mo_go ∈ TB := tb_5 102 rfl rfl
theorem im_Mo_go : Cond.instanceMethod y_Mo_go.1 ∈ TB := tb_5 101 rfl rfl
theorem se_Mo_go : Cond.selects y_Mo_go.1.cls y_Mo_go.1 y_Mo_go.1 ∈ TB := tb_sel (List.mem_map.mpr ⟨(y_Mo_go.1, 35), List.mem_of_getElem? (i := 27) rfl, rfl⟩) rfl
theorem mh_Mo_go : mhOK y_Mo_go.1 2 := ⟨⟨by decide, by decide⟩, by decide +kernel⟩
theorem pf_Mo_go : plainFor y_Mo_go.1 = true := by decide +kernel
theorem cd_Mo_holds : cdY y_Mo_holds ∈ TB := tb_5 138 rfl rfl
theorem im_Mo_holds : Cond.instanceMethod y_Mo_holds.1 ∈ TB := tb_5 137 rfl rfl
theorem se_Mo_holds : Cond.selects y_Mo_holds.1.cls y_Mo_holds.1 y_Mo_holds.1 ∈ TB := tb_sel (List.mem_map.mpr ⟨(y_Mo_holds.1, 35), List.mem_of_getElem? (i := 36) rfl, rfl⟩) rfl
theorem mh_Mo_holds : mhOK y_Mo_holds.1 4 := ⟨⟨by decide, by decide⟩, by decide +kernel⟩
theorem pf_Mo_holds : plainFor y_Mo_holds.1 = true := by decide +kernel
theorem cd_Mo_wordOf : cdY y_Mo_wordOf ∈ TB := tb_5 134 rfl rfl
theorem im_Mo_wordOf : Cond.instanceMethod y_Mo_wordOf.1 ∈ TB := tb_5 133 rfl rfl
theorem se_Mo_wordOf : Cond.selects y_Mo_wordOf.1.cls y_Mo_wordOf.1 y_Mo_wordOf.1 ∈ TB := tb_sel (List.mem_map.mpr ⟨(y_Mo_wordOf.1, 35), List.mem_of_getElem? (i := 35) rfl, rfl⟩) rfl
theorem mh_Mo_wordOf : mhOK y_Mo_wordOf.1 4 := ⟨⟨by decide, by decide⟩, by decide +kernel⟩
theorem pf_Mo_wordOf : plainFor y_Mo_wordOf.1 = true := by decide +kernel
theorem cd_Mo_findVectors : cdY y_Mo_findVectors ∈ TB := tb_5 130 rfl rfl
theorem im_Mo_findVectors : Cond.instanceMethod y_Mo_findVectors.1 ∈ TB := tb_5 129 rfl rfl
theorem se_Mo_findVectors : Cond.selects y_Mo_findVectors.1.cls y_Mo_findVectors.1 y_Mo_findVectors.1 ∈ TB := tb_sel (List.mem_map.mpr ⟨(y_Mo_findVectors.1, 35), List.mem_of_getElem? (i := 34) rfl, rfl⟩) rfl
theorem mh_Mo_findVectors : mhOK y_Mo_findVectors.1 1 := ⟨⟨by decide, by decide⟩, by decide +kernel⟩
theorem pf_Mo_findVectors : plainFor y_Mo_findVectors.1 = true := by decide +kernel
theorem cd_Mo_decision : cdY y_Mo_decision ∈ TB := tb_5 88 rfl rfl
theorem im_Mo_decision : Cond.instanceMethod y_Mo_decision.1 ∈ TB := tb_5 86 rfl rfl
theorem se_Mo_decision : Cond.selects y_Mo_decision.1.cls y_Mo_decision.1 y_Mo_decision.1 ∈ TB := tb_5 87 rfl rfl
theorem mh_Mo_decision : mhOK y_Mo_decision.1 1 := ⟨⟨by decide, by decide⟩, by decide +kernel⟩
theorem pf_Mo_decision : plainFor y_Mo_decision.1 = true := by decide +kernel
theorem cd_Mo_isDecision : cdY y_Mo_isDecision ∈ TB := tb_5 146 rfl rfl
theorem im_Mo_isDecision : Cond.instanceMethod y_Mo_isDecision.1 ∈ TB := tb_5 145 rfl rfl
theorem se_Mo_isDecision : Cond.selects y_Mo_isDecision.1.cls y_Mo_isDecision.1 y_Mo_isDecision.1 ∈ TB := tb_sel (List.mem_map.mpr ⟨(y_Mo_isDecision.1, 35), List.mem_of_getElem? (i := 37) rfl, rfl⟩) rfl
theorem mh_Mo_isDecision : mhOK y_Mo_isDecision.1 1 := ⟨⟨by decide, by decide⟩, by decide +kernel⟩
theorem pf_Mo_isDecision : plainFor y_Mo_isDecision.1 = true := by decide +kernel
theorem cd_Mo_isWord : cdY y_Mo_isWord ∈ TB := tb_5 174 rfl rfl
theorem im_Mo_isWord : Cond.instanceMethod y_Mo_isWord.1 ∈ TB := tb_5 173 rfl rfl
theorem se_Mo_isWord : Cond.selects y_Mo_isWord.1.cls y_Mo_isWord.1 y_Mo_isWord.1 ∈ TB := tb_sel (List.mem_map.mpr ⟨(y_Mo_isWord.1, 35), List.mem_of_getElem? (i := 41) rfl, rfl⟩) rfl
theorem mh_Mo_isWord : mhOK y_Mo_isWord.1 2 := ⟨⟨by decide, by decide⟩, by decide +kernel⟩
theorem pf_Mo_isWord : plainFor y_Mo_isWord.1 = true := by decide +kernel
theorem cd_Mo_isCondition : cdY y_Mo_isCondition ∈ TB := tb_5 186 rfl rfl
theorem im_Mo_isCondition : Cond.instanceMethod y_Mo_isCondition.1 ∈ TB := tb_5 185 rfl rfl
theorem se_Mo_isCondition : Cond.selects y_Mo_isCondition.1.cls y_Mo_isCondition.1 y_Mo_isCondition.1 ∈ TB := tb_sel (List.mem_map.mpr ⟨(y_Mo_isCondition.1, 35), List.mem_of_getElem? (i := 42) rfl, rfl⟩) rfl
theorem mh_Mo_isCondition : mhOK y_Mo_isCondition.1 2 := ⟨⟨by decide, by decide⟩, by decide +kernel⟩
theorem pf_Mo_isCondition : plainFor y_Mo_isCondition.1 = true := by decide +kernel
theorem cd_Mo_isCriterion : cdY y_Mo_isCriterion ∈ TB := tb_5 193 rfl rfl
theorem st_Mo_isCriterion : Cond.static y_Mo_isCriterion.1 ∈ TB := tb_5 192 rfl rfl
theorem mh_Mo_isCriterion : mhOK y_Mo_isCriterion.1 1 := ⟨⟨by decide, by decide⟩, by decide +kernel⟩
theorem pf_Mo_isCriterion : plainFor y_Mo_isCriterion.1 = true := by decide +kernel
theorem cd_Mo_conditions : cdY y_Mo_conditions ∈ TB := tb_5 142 rfl rfl
theorem im_Mo_conditions : Cond.instanceMethod y_Mo_conditions.1 ∈ TB := tb_5 140 rfl rfl
theorem se_Mo_conditions : Cond.selects y_Mo_conditions.1.cls y_Mo_conditions.1 y_Mo_conditions.1 ∈ TB := tb_5 141 rfl rfl
theorem mh_Mo_conditions : mhOK y_Mo_conditions.1 1 := ⟨⟨by decide, by decide⟩, by decide +kernel⟩
theorem pf_Mo_conditions : plainFor y_Mo_conditions.1 = true := by decide +kernel
theorem cd_Mo_closing : cdY y_Mo_closing ∈ TB := tb_5 158 rfl rfl
theorem im_Mo_closing : Cond.instanceMethod y_Mo_closing.1 ∈ TB := tb_5 157 rfl rfl
theorem se_Mo_closing : Cond.selects y_Mo_closing.1.cls y_Mo_closing.1 y_Mo_closing.1 ∈ TB := tb_sel (List.mem_map.mpr ⟨(y_Mo_closing.1, 35), List.mem_of_getElem? (i := 39) rfl, rfl⟩) rfl
theorem mh_Mo_closing : mhOK y_Mo_closing.1 2 := ⟨⟨by decide, by decide⟩, by decide +kernel⟩
theorem pf_Mo_closing : plainFor y_Mo_closing.1 = true := by decide +kernel
theorem cd_Mo_joinOf : cdY y_Mo_joinOf ∈ TB := tb_5 162 rfl rfl
theorem im_Mo_joinOf : Cond.instanceMethod y_Mo_joinOf.1 ∈ TB := tb_5 161 rfl rfl
theorem se_Mo_joinOf : Cond.selects y_Mo_joinOf.1.cls y_Mo_joinOf.1 y_Mo_joinOf.1 ∈ TB := tb_sel (List.mem_map.mpr ⟨(y_Mo_joinOf.1, 35), List.mem_of_getElem? (i := 40) rfl, rfl⟩) rfl
theorem mh_Mo_joinOf : mhOK y_Mo_joinOf.1 2 := ⟨⟨by decide, by decide⟩, by decide +kernel⟩
theorem pf_Mo_joinOf : plainFor y_Mo_joinOf.1 = true := by decide +kernel
theorem cd_Mo_isNeeded : cdY y_Mo_isNeeded ∈ TB := tb_5 154 rfl rfl
theorem im_Mo_isNeeded : Cond.instanceMethod y_Mo_isNeeded.1 ∈ TB := tb_5 153 rfl rfl
theorem se_Mo_isNeeded : Cond.selects y_Mo_isNeeded.1.cls y_Mo_isNeeded.1 y_Mo_isNeeded.1 ∈ TB := tb_sel (List.mem_map.mpr ⟨(y_Mo_isNeeded.1, 35), List.mem_of_getElem? (i := 38) rfl, rfl⟩) rfl
theorem mh_Mo_isNeeded : mhOK y_Mo_isNeeded.1 2 := ⟨⟨by decide, by decide⟩, by decide +kernel⟩
theorem pf_Mo_isNeeded : plainFor y_Mo_isNeeded.1 = true := by decide +kernel
theorem cd_Mo_show : cdY y_Mo_show ∈ TB := tb_5 150 rfl rfl
theorem im_Mo_show : Cond.instanceMethod y_Mo_show.1 ∈ TB := tb_5 148 rfl rfl
theorem se_Mo_show : Cond.selects y_Mo_show.1.cls y_Mo_show.1 y_Mo_show.1 ∈ TB := tb_5 149 rfl rfl
theorem mh_Mo_show : mhOK y_Mo_show.1 1 := ⟨⟨by decide, by decide⟩, by decide +kernel⟩
theorem pf_Mo_show : plainFor y_Mo_show.1 = true := by decide +kernel
theorem cd_Mo_feasible : cdY y_Mo_feasible ∈ TB := tb_5 166 rfl rfl
theorem im_Mo_feasible : Cond.instanceMethod y_Mo_feasible.1 ∈ TB := tb_5 164 rfl rfl
theorem se_Mo_feasible : Cond.selects y_Mo_feasible.1.cls y_Mo_feasible.1 y_Mo_feasible.1 ∈ TB := tb_5 165 rfl rfl
theorem mh_Mo_feasible : mhOK y_Mo_feasible.1 1 := ⟨⟨by decide, by decide⟩, by decide +kernel⟩
theorem pf_Mo_feasible : plainFor y_Mo_feasible.1 = true := by decide +kernel
theorem cd_Mo_vector : cdY y_Mo_vector ∈ TB := tb_5 170 rfl rfl
theorem im_Mo_vector : Cond.instanceMethod y_Mo_vector.1 ∈ TB := tb_5 168 rfl rfl
theorem se_Mo_vector : Cond.selects y_Mo_vector.1.cls y_Mo_vector.1 y_Mo_vector.1 ∈ TB := tb_5 169 rfl rfl
theorem mh_Mo_vector : mhOK y_Mo_vector.1 3 := ⟨⟨by decide, by decide⟩, by decide +kernel⟩
theorem pf_Mo_vector : plainFor y_Mo_vector.1 = true := by decide +kernel
theorem cd_Mo_outcome : cdY y_Mo_outcome ∈ TB := tb_5 178 rfl rfl
theorem im_Mo_outcome : Cond.instanceMethod y_Mo_outcome.1 ∈ TB := tb_5 176 rfl rfl
theorem se_Mo_outcome : Cond.selects y_Mo_outcome.1.cls y_Mo_outcome.1 y_Mo_outcome.1 ∈ TB := tb_5 177 rfl rfl
theorem mh_Mo_outcome : mhOK y_Mo_outcome.1 2 := ⟨⟨by decide, by decide⟩, by decide +kernel⟩
theorem pf_Mo_outcome : plainFor y_Mo_outcome.1 = true := by decide +kernel
theorem cd_Mo_evaluated : cdY y_Mo_evaluated ∈ TB := tb_5 182 rfl rfl
theorem im_Mo_evaluated : Cond.instanceMethod y_Mo_evaluated.1 ∈ TB := tb_5 180 rfl rfl
theorem se_Mo_evaluated : Cond.selects y_Mo_evaluated.1.cls y_Mo_evaluated.1 y_Mo_evaluated.1 ∈ TB := tb_5 181 rfl rfl
theorem mh_Mo_evaluated : mhOK y_Mo_evaluated.1 3 := ⟨⟨by decide, by decide⟩, by decide +kernel⟩
theorem pf_Mo_evaluated : plainFor y_Mo_evaluated.1 = true := by decide +kernel
theorem cd_Mo_share : cdY y_Mo_share ∈ TB := tb_5 209 rfl rfl
theorem im_Mo_share : Cond.instanceMethod y_Mo_share.1 ∈ TB := tb_5 208 rfl rfl
theorem se_Mo_share : Cond.selects y_Mo_share.1.cls y_Mo_share.1 y_Mo_share.1 ∈ TB := tb_sel (List.mem_map.mpr ⟨(y_Mo_share.1, 35), List.mem_of_getElem? (i := 46) rfl, rfl⟩) rfl
theorem mh_Mo_share : mhOK y_Mo_share.1 3 := ⟨⟨by decide, by decide⟩, by decide +kernel⟩
theorem pf_Mo_share : plainFor y_Mo_share.1 = true := by decide +kernel
theorem cd_Mo_isTurned : cdY y_Mo_isTurned ∈ TB := tb_5 205 rfl rfl
theorem im_Mo_isTurned : Cond.instanceMethod y_Mo_isTurned.1 ∈ TB := tb_5 204 rfl rfl
theorem se_Mo_isTurned : Cond.selects y_Mo_isTurned.1.cls y_Mo_isTurned.1 y_Mo_isTurned.1 ∈ TB := tb_sel (List.mem_map.mpr ⟨(y_Mo_isTurned.1, 35), List.mem_of_getElem? (i := 45) rfl, rfl⟩) rfl
theorem mh_Mo_isTurned : mhOK y_Mo_isTurned.1 3 := ⟨⟨by decide, by decide⟩, by decide +kernel⟩
theorem pf_Mo_isTurned : plainFor y_Mo_isTurned.1 = true := by decide +kernel
theorem cd_Mo_shows : cdY y_Mo_shows ∈ TB := tb_5 201 rfl rfl
theorem im_Mo_shows : Cond.instanceMethod y_Mo_shows.1 ∈ TB := tb_5 200 rfl rfl
theorem se_Mo_shows : Cond.selects y_Mo_shows.1.cls y_Mo_shows.1 y_Mo_shows.1 ∈ TB := tb_sel (List.mem_map.mpr ⟨(y_Mo_shows.1, 35), List.mem_of_getElem? (i := 44) rfl, rfl⟩) rfl
theorem mh_Mo_shows : mhOK y_Mo_shows.1 5 := ⟨⟨by decide, by decide⟩, by decide +kernel⟩
theorem pf_Mo_shows : plainFor y_Mo_shows.1 = true := by decide +kernel
theorem cd_Mo_pairOf : cdY y_Mo_pairOf ∈ TB := tb_5 197 rfl rfl
theorem im_Mo_pairOf : Cond.instanceMethod y_Mo_pairOf.1 ∈ TB := tb_5 196 rfl rfl
theorem se_Mo_pairOf : Cond.selects y_Mo_pairOf.1.cls y_Mo_pairOf.1 y_Mo_pairOf.1 ∈ TB := tb_sel (List.mem_map.mpr ⟨(y_Mo_pairOf.1, 35), List.mem_of_getElem? (i := 43) rfl, rfl⟩) rfl
theorem mh_Mo_pairOf : mhOK y_Mo_pairOf.1 3 := ⟨⟨by decide, by decide⟩, by decide +kernel⟩
theorem pf_Mo_pairOf : plainFor y_Mo_pairOf.1 = true := by decide +kernel
theorem cd_Mo_solve : cdY y_Mo_solve ∈ TB := tb_5 190 rfl rfl
theorem im_Mo_solve : Cond.instanceMethod y_Mo_solve.1 ∈ TB := tb_5 188 rfl rfl
theorem se_Mo_solve : Cond.selects y_Mo_solve.1.cls y_Mo_solve.1 y_Mo_solve.1 ∈ TB := tb_5 189 rfl rfl
theorem mh_Mo_solve : mhOK y_Mo_solve.1 3 := ⟨⟨by decide, by decide⟩, by decide +kernel⟩
theorem pf_Mo_solve : plainFor y_Mo_solve.1 = true := by decide +kernel
theorem cd_Mo_isShown : cdY y_Mo_isShown ∈ TB := tb_5 217 rfl rfl
theorem im_Mo_isShown : Cond.instanceMethod y_Mo_isShown.1 ∈ TB := tb_5 216 rfl rfl
theorem se_Mo_isShown : Cond.selects y_Mo_isShown.1.cls y_Mo_isShown.1 y_Mo_isShown.1 ∈ TB := tb_sel (List.mem_map.mpr ⟨(y_Mo_isShown.1, 35), List.mem_of_getElem? (i := 47) rfl, rfl⟩) rfl
theorem mh_Mo_isShown : mhOK y_Mo_isShown.1 3 := ⟨⟨by decide, by decide⟩, by decide +kernel⟩
theorem pf_Mo_isShown : plainFor y_Mo_isShown.1 = true := by decide +kernel
theorem cd_Mo_include : cdY y_Mo_include ∈ TB := tb_5 221 rfl rfl
theorem im_Mo_include : Cond.instanceMethod y_Mo_include.1 ∈ TB := tb_5 220 rfl rfl
theorem se_Mo_include : Cond.selects y_Mo_include.1.cls y_Mo_include.1 y_Mo_include.1 ∈ TB := tb_sel (List.mem_map.mpr ⟨(y_Mo_include.1, 35), List.mem_of_getElem? (i := 48) rfl, rfl⟩) rfl
theorem mh_Mo_include : mhOK y_Mo_include.1 1 := ⟨⟨by decide, by decide⟩, by decide +kernel⟩
theorem pf_Mo_include : plainFor y_Mo_include.1 = true := by decide +kernel
theorem cd_Mo_suite : cdY y_Mo_suite ∈ TB := tb_5 213 rfl rfl
theorem im_Mo_suite : Cond.instanceMethod y_Mo_suite.1 ∈ TB := tb_5 211 rfl rfl
theorem se_Mo_suite : Cond.selects y_Mo_suite.1.cls y_Mo_suite.1 y_Mo_suite.1 ∈ TB := tb_5 212 rfl rfl
theorem mh_Mo_suite : mhOK y_Mo_suite.1 2 := ⟨⟨by decide, by decide⟩, by decide +kernel⟩
theorem pf_Mo_suite : plainFor y_Mo_suite.1 = true := by decide +kernel
theorem cd_Mo_suiteAt : cdY y_Mo_suiteAt ∈ TB := tb_5 225 rfl rfl
theorem im_Mo_suiteAt : Cond.instanceMethod y_Mo_suiteAt.1 ∈ TB := tb_5 223 rfl rfl
theorem se_Mo_suiteAt : Cond.selects y_Mo_suiteAt.1.cls y_Mo_suiteAt.1 y_Mo_suiteAt.1 ∈ TB := tb_5 224 rfl rfl
theorem mh_Mo_suiteAt : mhOK y_Mo_suiteAt.1 1 := ⟨⟨by decide, by decide⟩, by decide +kernel⟩
theorem pf_Mo_suiteAt : plainFor y_Mo_suiteAt.1 = true := by decide +kernel
theorem cd_Mo_isEnough : cdY y_Mo_isEnough ∈ TB := tb_5 233 rfl rfl
theorem im_Mo_isEnough : Cond.instanceMethod y_Mo_isEnough.1 ∈ TB := tb_5 232 rfl rfl
theorem se_Mo_isEnough : Cond.selects y_Mo_isEnough.1.cls y_Mo_isEnough.1 y_Mo_isEnough.1 ∈ TB := tb_sel (List.mem_map.mpr ⟨(y_Mo_isEnough.1, 35), List.mem_of_getElem? (i := 49) rfl, rfl⟩) rfl
theorem mh_Mo_isEnough : mhOK y_Mo_isEnough.1 2 := ⟨⟨by decide, by decide⟩, by decide +kernel⟩
theorem pf_Mo_isEnough : plainFor y_Mo_isEnough.1 = true := by decide +kernel
theorem cd_Mo_least : cdY y_Mo_least ∈ TB := tb_5 229 rfl rfl
theorem im_Mo_least : Cond.instanceMethod y_Mo_least.1 ∈ TB := tb_5 227 rfl rfl
theorem se_Mo_least : Cond.selects y_Mo_least.1.cls y_Mo_least.1 y_Mo_least.1 ∈ TB := tb_5 228 rfl rfl
theorem mh_Mo_least : mhOK y_Mo_least.1 2 := ⟨⟨by decide, by decide⟩, by decide +kernel⟩
theorem pf_Mo_least : plainFor y_Mo_least.1 = true := by decide +kernel
theorem cd_Mo_isOut : cdY y_Mo_isOut ∈ TB := tb_6 1 rfl rfl
theorem im_Mo_isOut : Cond.instanceMethod y_Mo_isOut.1 ∈ TB := tb_6 0 rfl rfl
theorem se_Mo_isOut : Cond.selects y_Mo_isOut.1.cls y_Mo_isOut.1 y_Mo_isOut.1 ∈ TB := tb_sel (List.mem_map.mpr ⟨(y_Mo_isOut.1, 35), List.mem_of_getElem? (i := 50) rfl, rfl⟩) rfl
theorem mh_Mo_isOut : mhOK y_Mo_isOut.1 2 := ⟨⟨by decide, by decide⟩, by decide +kernel⟩
theorem pf_Mo_isOut : plainFor y_Mo_isOut.1 = true := by decide +kernel
theorem cd_Mo_keep : cdY y_Mo_keep ∈ TB := tb_5 237 rfl rfl
theorem im_Mo_keep : Cond.instanceMethod y_Mo_keep.1 ∈ TB := tb_5 235 rfl rfl
theorem se_Mo_keep : Cond.selects y_Mo_keep.1.cls y_Mo_keep.1 y_Mo_keep.1 ∈ TB := tb_5 236 rfl rfl
theorem mh_Mo_keep : mhOK y_Mo_keep.1 3 := ⟨⟨by decide, by decide⟩, by decide +kernel⟩
theorem pf_Mo_keep : plainFor y_Mo_keep.1 = true := by decide +kernel
theorem cd_Mo_forget : cdY y_Mo_forget ∈ TB := tb_6 5 rfl rfl
theorem im_Mo_forget : Cond.instanceMethod y_Mo_forget.1 ∈ TB := tb_6 3 rfl rfl
theorem se_Mo_forget : Cond.selects y_Mo_forget.1.cls y_Mo_forget.1 y_Mo_forget.1 ∈ TB := tb_6 4 rfl rfl
theorem mh_Mo_forget : mhOK y_Mo_forget.1 0 := ⟨⟨by decide, by decide⟩, by decide +kernel⟩
theorem pf_Mo_forget : plainFor y_Mo_forget.1 = true := by decide +kernel
theorem cd_Mo_isCovered : cdY y_Mo_isCovered ∈ TB := tb_6 13 rfl rfl
theorem im_Mo_isCovered : Cond.instanceMethod y_Mo_isCovered.1 ∈ TB := tb_6 12 rfl rfl
theorem se_Mo_isCovered : Cond.selects y_Mo_isCovered.1.cls y_Mo_isCovered.1 y_Mo_isCovered.1 ∈ TB := tb_sel (List.mem_map.mpr ⟨(y_Mo_isCovered.1, 35), List.mem_of_getElem? (i := 51) rfl, rfl⟩) rfl
theorem mh_Mo_isCovered : mhOK y_Mo_isCovered.1 3 := ⟨⟨by decide, by decide⟩, by decide +kernel⟩
theorem pf_Mo_isCovered : plainFor y_Mo_isCovered.1 = true := by decide +kernel
theorem cd_Mo_covered : cdY y_Mo_covered ∈ TB := tb_6 9 rfl rfl
theorem im_Mo_covered : Cond.instanceMethod y_Mo_covered.1 ∈ TB := tb_6 7 rfl rfl
theorem se_Mo_covered : Cond.selects y_Mo_covered.1.cls y_Mo_covered.1 y_Mo_covered.1 ∈ TB := tb_6 8 rfl rfl
theorem mh_Mo_covered : mhOK y_Mo_covered.1 3 := ⟨⟨by decide, by decide⟩, by decide +kernel⟩
theorem pf_Mo_covered : plainFor y_Mo_covered.1 = true := by decide +kernel
theorem cd_Mo_missing : cdY y_Mo_missing ∈ TB := tb_6 17 rfl rfl
theorem im_Mo_missing : Cond.instanceMethod y_Mo_missing.1 ∈ TB := tb_6 15 rfl rfl
theorem se_Mo_missing : Cond.selects y_Mo_missing.1.cls y_Mo_missing.1 y_Mo_missing.1 ∈ TB := tb_6 16 rfl rfl
theorem mh_Mo_missing : mhOK y_Mo_missing.1 2 := ⟨⟨by decide, by decide⟩, by decide +kernel⟩
theorem pf_Mo_missing : plainFor y_Mo_missing.1 = true := by decide +kernel
theorem cd_Mo_length : cdY y_Mo_length ∈ TB := tb_6 21 rfl rfl
theorem im_Mo_length : Cond.instanceMethod y_Mo_length.1 ∈ TB := tb_6 19 rfl rfl
theorem se_Mo_length : Cond.selects y_Mo_length.1.cls y_Mo_length.1 y_Mo_length.1 ∈ TB := tb_6 20 rfl rfl
theorem mh_Mo_length : mhOK y_Mo_length.1 0 := ⟨⟨by decide, by decide⟩, by decide +kernel⟩
theorem pf_Mo_length : plainFor y_Mo_length.1 = true := by decide +kernel
theorem cd_Mo_charAt : cdY y_Mo_charAt ∈ TB := tb_6 25 rfl rfl
theorem im_Mo_charAt : Cond.instanceMethod y_Mo_charAt.1 ∈ TB := tb_6 23 rfl rfl
theorem se_Mo_charAt : Cond.selects y_Mo_charAt.1.cls y_Mo_charAt.1 y_Mo_charAt.1 ∈ TB := tb_6 24 rfl rfl
theorem mh_Mo_charAt : mhOK y_Mo_charAt.1 1 := ⟨⟨by decide, by decide⟩, by decide +kernel⟩
theorem pf_Mo_charAt : plainFor y_Mo_charAt.1 = true := by decide +kernel
theorem cd_La_input : cdY y_La_input ∈ TB := tb_2 94 rfl rfl
theorem st_La_input : Cond.static y_La_input.1 ∈ TB := tb_2 93 rfl rfl
theorem mh_La_input : mhOK y_La_input.1 4 := ⟨⟨by decide, by decide⟩, by decide +kernel⟩
theorem pf_La_input : plainFor y_La_input.1 = true := by decide +kernel
theorem cd_La_condition : cdY y_La_condition ∈ TB := tb_2 193 rfl rfl
theorem st_La_condition : Cond.static y_La_condition.1 ∈ TB := tb_2 192 rfl rfl
theorem mh_La_condition : mhOK y_La_condition.1 6 := ⟨⟨by decide, by decide⟩, by decide +kernel⟩
theorem pf_La_condition : plainFor y_La_condition.1 = true := by decide +kernel
theorem cd_La_decision : cdY y_La_decision ∈ TB := tb_2 228 rfl rfl
theorem st_La_decision : Cond.static y_La_decision.1 ∈ TB := tb_2 227 rfl rfl
theorem mh_La_decision : mhOK y_La_decision.1 3 := ⟨⟨by decide, by decide⟩, by decide +kernel⟩
theorem pf_La_decision : plainFor y_La_decision.1 = true := by decide +kernel
theorem cd_La_conditions : cdY y_La_conditions ∈ TB := tb_3 205 rfl rfl
theorem st_La_conditions : Cond.static y_La_conditions.1 ∈ TB := tb_3 204 rfl rfl
theorem mh_La_conditions : mhOK y_La_conditions.1 3 := ⟨⟨by decide, by decide⟩, by decide +kernel⟩
theorem pf_La_conditions : plainFor y_La_conditions.1 = true := by decide +kernel
theorem cd_La_show : cdY y_La_show ∈ TB := tb_3 217 rfl rfl
theorem st_La_show : Cond.static y_La_show.1 ∈ TB := tb_3 216 rfl rfl
theorem mh_La_show : mhOK y_La_show.1 3 := ⟨⟨by decide, by decide⟩, by decide +kernel⟩
theorem pf_La_show : plainFor y_La_show.1 = true := by decide +kernel
theorem cd_La_feasible : cdY y_La_feasible ∈ TB := tb_3 228 rfl rfl
theorem st_La_feasible : Cond.static y_La_feasible.1 ∈ TB := tb_3 227 rfl rfl
theorem mh_La_feasible : mhOK y_La_feasible.1 3 := ⟨⟨by decide, by decide⟩, by decide +kernel⟩
theorem pf_La_feasible : plainFor y_La_feasible.1 = true := by decide +kernel
theorem cd_La_vector : cdY y_La_vector ∈ TB := tb_4 5 rfl rfl
theorem st_La_vector : Cond.static y_La_vector.1 ∈ TB := tb_4 4 rfl rfl
theorem mh_La_vector : mhOK y_La_vector.1 5 := ⟨⟨by decide, by decide⟩, by decide +kernel⟩
theorem pf_La_vector : plainFor y_La_vector.1 = true := by decide +kernel
theorem cd_La_outcome : cdY y_La_outcome ∈ TB := tb_4 25 rfl rfl
theorem st_La_outcome : Cond.static y_La_outcome.1 ∈ TB := tb_4 24 rfl rfl
theorem mh_La_outcome : mhOK y_La_outcome.1 4 := ⟨⟨by decide, by decide⟩, by decide +kernel⟩
theorem pf_La_outcome : plainFor y_La_outcome.1 = true := by decide +kernel
theorem cd_La_evaluated : cdY y_La_evaluated ∈ TB := tb_4 36 rfl rfl
theorem st_La_evaluated : Cond.static y_La_evaluated.1 ∈ TB := tb_4 35 rfl rfl
theorem mh_La_evaluated : mhOK y_La_evaluated.1 5 := ⟨⟨by decide, by decide⟩, by decide +kernel⟩
theorem pf_La_evaluated : plainFor y_La_evaluated.1 = true := by decide +kernel
theorem cd_La_solve : cdY y_La_solve ∈ TB := tb_4 50 rfl rfl
theorem st_La_solve : Cond.static y_La_solve.1 ∈ TB := tb_4 49 rfl rfl
theorem mh_La_solve : mhOK y_La_solve.1 5 := ⟨⟨by decide, by decide⟩, by decide +kernel⟩
theorem pf_La_solve : plainFor y_La_solve.1 = true := by decide +kernel
theorem cd_La_suite : cdY y_La_suite ∈ TB := tb_4 80 rfl rfl
theorem st_La_suite : Cond.static y_La_suite.1 ∈ TB := tb_4 79 rfl rfl
theorem mh_La_suite : mhOK y_La_suite.1 4 := ⟨⟨by decide, by decide⟩, by decide +kernel⟩
theorem pf_La_suite : plainFor y_La_suite.1 = true := by decide +kernel
theorem cd_La_least : cdY y_La_least ∈ TB := tb_4 102 rfl rfl
theorem st_La_least : Cond.static y_La_least.1 ∈ TB := tb_4 101 rfl rfl
theorem mh_La_least : mhOK y_La_least.1 4 := ⟨⟨by decide, by decide⟩, by decide +kernel⟩
theorem pf_La_least : plainFor y_La_least.1 = true := by decide +kernel
theorem cd_La_keep : cdY y_La_keep ∈ TB := tb_4 137 rfl rfl
theorem st_La_keep : Cond.static y_La_keep.1 ∈ TB := tb_4 136 rfl rfl
theorem mh_La_keep : mhOK y_La_keep.1 5 := ⟨⟨by decide, by decide⟩, by decide +kernel⟩
theorem pf_La_keep : plainFor y_La_keep.1 = true := by decide +kernel
theorem cd_La_covered : cdY y_La_covered ∈ TB := tb_4 157 rfl rfl
theorem st_La_covered : Cond.static y_La_covered.1 ∈ TB := tb_4 156 rfl rfl
theorem mh_La_covered : mhOK y_La_covered.1 5 := ⟨⟨by decide, by decide⟩, by decide +kernel⟩
theorem pf_La_covered : plainFor y_La_covered.1 = true := by decide +kernel
theorem cd_La_missing : cdY y_La_missing ∈ TB := tb_4 178 rfl rfl
theorem st_La_missing : Cond.static y_La_missing.1 ∈ TB := tb_4 177 rfl rfl
theorem mh_La_missing : mhOK y_La_missing.1 4 := ⟨⟨by decide, by decide⟩, by decide +kernel⟩
theorem pf_La_missing : plainFor y_La_missing.1 = true := by decide +kernel
theorem ci_La_67 : CIok "MaskedCausesLaw" 67 0 y_MC_init := ⟨cc_MC_init, cd_MC_init, in_MC, Or.inl (tb_1 28 rfl rfl), im_MC_init, rfl, mh_MC_init, by decide⟩
theorem ol_MC_1 : Cond.methodLink "MaskedCauses" 1 objectInit ∈ TB := tb_1 31 rfl rfl
theorem ci_MC_9 : CIok "MaskedCauses" 9 0 y_In_init := ⟨cc_In_init, cd_In_init, in_In, Or.inr ⟨_, List.mem_append_left _ (List.mem_map.mpr ⟨_, List.mem_of_getElem? (i := 0) rfl, rfl⟩)⟩, im_In_init, rfl, mh_In_init, by decide⟩
theorem ol_In_3 : Cond.methodLink "MaskedCauses$Inputs" 3 objectInit ∈ TB := tb_1 39 rfl rfl
theorem ci_MC_18 : CIok "MaskedCauses" 18 0 y_Co_init := ⟨cc_Co_init, cd_Co_init, in_Co, Or.inr ⟨_, List.mem_append_left _ (List.mem_map.mpr ⟨_, List.mem_of_getElem? (i := 1) rfl, rfl⟩)⟩, im_Co_init, rfl, mh_Co_init, by decide⟩
theorem ol_Co_3 : Cond.methodLink "MaskedCauses$Conditions" 3 objectInit ∈ TB := tb_1 56 rfl rfl
theorem ci_MC_25 : CIok "MaskedCauses" 25 0 y_Li_init := ⟨cc_Li_init, cd_Li_init, in_Li, Or.inr ⟨_, List.mem_append_left _ (List.mem_map.mpr ⟨_, List.mem_of_getElem? (i := 2) rfl, rfl⟩)⟩, im_Li_init, rfl, mh_Li_init, by decide⟩
theorem ol_Li_3 : Cond.methodLink "MaskedCauses$Line" 3 objectInit ∈ TB := tb_1 78 rfl rfl
theorem ci_MC_32 : CIok "MaskedCauses" 32 0 y_Tr_init := ⟨cc_Tr_init, cd_Tr_init, in_Tr, Or.inr ⟨_, List.mem_append_left _ (List.mem_map.mpr ⟨_, List.mem_of_getElem? (i := 3) rfl, rfl⟩)⟩, im_Tr_init, rfl, mh_Tr_init, by decide⟩
theorem ol_Tr_3 : Cond.methodLink "MaskedCauses$Tree" 3 objectInit ∈ TB := tb_1 92 rfl rfl
theorem ci_MC_39 : CIok "MaskedCauses" 39 2 y_Re_init := ⟨cc_Re_init, cd_Re_init, in_Re, Or.inl (tb_1 118 rfl rfl), im_Re_init, rfl, mh_Re_init, by decide⟩
theorem ol_Re_3 : Cond.methodLink "MaskedCauses$Reader" 3 objectInit ∈ TB := tb_1 121 rfl rfl
theorem ci_MC_48 : CIok "MaskedCauses" 48 2 y_Wa_init := ⟨cc_Wa_init, cd_Wa_init, in_Wa, Or.inl (tb_1 140 rfl rfl), im_Wa_init, rfl, mh_Wa_init, by decide⟩
theorem ol_Wa_3 : Cond.methodLink "MaskedCauses$Walk" 3 objectInit ∈ TB := tb_1 143 rfl rfl
theorem ci_MC_61 : CIok "MaskedCauses" 61 1 y_De_init := ⟨cc_De_init, cd_De_init, in_De, Or.inl (tb_1 159 rfl rfl), im_De_init, rfl, mh_De_init, by decide⟩
theorem ol_De_3 : Cond.methodLink "MaskedCauses$Decision" 3 objectInit ∈ TB := tb_1 162 rfl rfl
theorem ci_De_11 : CIok "MaskedCauses$Decision" 11 0 y_Li_init := ⟨cc_Li_init, cd_Li_init, in_Li, Or.inr ⟨_, List.mem_append_left _ (List.mem_map.mpr ⟨_, List.mem_of_getElem? (i := 4) rfl, rfl⟩)⟩, im_Li_init, rfl, mh_Li_init, by decide⟩
theorem ci_MC_66 : CIok "MaskedCauses" 66 0 y_Su_init := ⟨cc_Su_init, cd_Su_init, in_Su, Or.inr ⟨_, List.mem_append_left _ (List.mem_map.mpr ⟨_, List.mem_of_getElem? (i := 5) rfl, rfl⟩)⟩, im_Su_init, rfl, mh_Su_init, by decide⟩
theorem ol_Su_3 : Cond.methodLink "MaskedCauses$Suite" 3 objectInit ∈ TB := tb_1 201 rfl rfl
theorem ci_MC_73 : CIok "MaskedCauses" 73 0 y_Fe_init := ⟨cc_Fe_init, cd_Fe_init, in_Fe, Or.inr ⟨_, List.mem_append_left _ (List.mem_map.mpr ⟨_, List.mem_of_getElem? (i := 6) rfl, rfl⟩)⟩, im_Fe_init, rfl, mh_Fe_init, by decide⟩
theorem ol_Fe_3 : Cond.methodLink "MaskedCauses$Fewest" 3 objectInit ∈ TB := tb_1 217 rfl rfl
theorem ci_MC_80 : CIok "MaskedCauses" 80 0 y_Rc_init := ⟨cc_Rc_init, cd_Rc_init, in_Rc, Or.inr ⟨_, List.mem_append_left _ (List.mem_map.mpr ⟨_, List.mem_of_getElem? (i := 7) rfl, rfl⟩)⟩, im_Rc_init, rfl, mh_Rc_init, by decide⟩
theorem ol_Rc_3 : Cond.methodLink "MaskedCauses$Records" 3 objectInit ∈ TB := tb_1 239 rfl rfl
theorem cv_La_85 : CVok "MaskedCausesLaw" 85 1 y_MC_type := ⟨cd_MC_type, in_MC, Or.inl (tb_2 44 rfl rfl), im_MC_type, se_MC_type, mh_MC_type, by decide⟩
theorem cv_MC_121 : CVok "MaskedCauses" 121 1 y_Li_put := ⟨cd_Li_put, in_Li, Or.inl (tb_2 48 rfl rfl), im_Li_put, se_Li_put, mh_Li_put, by decide⟩
theorem cv_La_90 : CVok "MaskedCausesLaw" 90 0 y_MC_wipe := ⟨cd_MC_wipe, in_MC, Or.inl (tb_2 52 rfl rfl), im_MC_wipe, se_MC_wipe, mh_MC_wipe, by decide⟩
theorem cv_MC_125 : CVok "MaskedCauses" 125 0 y_Li_clear := ⟨cd_Li_clear, in_Li, Or.inl (tb_2 56 rfl rfl), im_Li_clear, se_Li_clear, mh_Li_clear, by decide⟩
theorem cv_La_124 : CVok "MaskedCausesLaw" 124 1 y_MC_suiteAt := ⟨cd_MC_suiteAt, in_MC, Or.inl (tb_2 60 rfl rfl), im_MC_suiteAt, se_MC_suiteAt, mh_MC_suiteAt, by decide⟩
theorem cv_MC_193 : CVok "MaskedCauses" 193 1 y_Su_wordAt := ⟨cd_Su_wordAt, in_Su, Or.inl (tb_2 64 rfl rfl), im_Su_wordAt, se_Su_wordAt, mh_Su_wordAt, by decide⟩
theorem cv_La_134 : CVok "MaskedCausesLaw" 134 0 y_MC_forget := ⟨cd_MC_forget, in_MC, Or.inl (tb_2 68 rfl rfl), im_MC_forget, se_MC_forget, mh_MC_forget, by decide⟩
theorem cv_MC_207 : CVok "MaskedCauses" 207 0 y_Rc_clear := ⟨cd_Rc_clear, in_Rc, Or.inl (tb_2 72 rfl rfl), im_Rc_clear, se_Rc_clear, mh_Rc_clear, by decide⟩
theorem cv_La_144 : CVok "MaskedCausesLaw" 144 0 y_MC_length := ⟨cd_MC_length, in_MC, Or.inl (tb_2 76 rfl rfl), im_MC_length, se_MC_length, mh_MC_length, by decide⟩
theorem cv_MC_149 : CVok "MaskedCauses" 149 0 y_Li_size := ⟨cd_Li_size, in_Li, Or.inl (tb_2 80 rfl rfl), im_Li_size, se_Li_size, mh_Li_size, by decide⟩
theorem cv_La_148 : CVok "MaskedCausesLaw" 148 1 y_MC_charAt := ⟨cd_MC_charAt, in_MC, Or.inl (tb_2 84 rfl rfl), im_MC_charAt, se_MC_charAt, mh_MC_charAt, by decide⟩
theorem cv_MC_219 : CVok "MaskedCauses" 219 1 y_Li_at := ⟨cd_Li_at, in_Li, Or.inl (tb_2 88 rfl rfl), im_Li_at, se_Li_at, mh_Li_at, by decide⟩
theorem cs_La_71 : CSok "MaskedCausesLaw" 71 4 y_La_input := ⟨cd_La_input, in_La, Or.inl (tb_2 92 rfl rfl), st_La_input, mh_La_input, by decide⟩
theorem cv_La_7 : CVok "MaskedCausesLaw" 7 2 y_MC_input := ⟨cd_MC_input, in_MC, Or.inl (tb_2 97 rfl rfl), im_MC_input, se_MC_input, mh_MC_input, by decide⟩
theorem cv_MC_92 : CVok "MaskedCauses" 92 0 y_In_isFull := ⟨cd_In_isFull, in_In, Or.inl (tb_2 101 rfl rfl), im_In_isFull, se_In_isFull, mh_In_isFull, by decide⟩
theorem cv_MC_96 : CVok "MaskedCauses" 96 0 y_Co_size := ⟨cd_Co_size, in_Co, Or.inl (tb_2 105 rfl rfl), im_Co_size, se_Co_size, mh_Co_size, by decide⟩
theorem cv_MC_106 : CVok "MaskedCauses" 106 2 y_In_add := ⟨cd_In_add, in_In, Or.inl (tb_2 187 rfl rfl), im_In_add, se_In_add, mh_In_add, by decide⟩
theorem cs_La_81 : CSok "MaskedCausesLaw" 81 6 y_La_condition := ⟨cd_La_condition, in_La, Or.inl (tb_2 191 rfl rfl), st_La_condition, mh_La_condition, by decide⟩
theorem cv_La_17 : CVok "MaskedCausesLaw" 17 4 y_MC_condition := ⟨cd_MC_condition, in_MC, Or.inl (tb_2 195 rfl rfl), im_MC_condition, se_MC_condition, mh_MC_condition, by decide⟩
theorem cv_MC_110 : CVok "MaskedCauses" 110 0 y_Co_isFull := ⟨cd_Co_isFull, in_Co, Or.inl (tb_2 199 rfl rfl), im_Co_isFull, se_Co_isFull, mh_Co_isFull, by decide⟩
theorem cv_MC_111 : CVok "MaskedCauses" 111 1 y_In_has := ⟨cd_In_has, in_In, Or.inl (tb_2 203 rfl rfl), im_In_has, se_In_has, mh_In_has, by decide⟩
theorem cv_MC_118 : CVok "MaskedCauses" 118 4 y_Co_add := ⟨cd_Co_add, in_Co, Or.inl (tb_2 222 rfl rfl), im_Co_add, se_Co_add, mh_Co_add, by decide⟩
theorem cs_La_94 : CSok "MaskedCausesLaw" 94 3 y_La_decision := ⟨cd_La_decision, in_La, Or.inl (tb_2 226 rfl rfl), st_La_decision, mh_La_decision, by decide⟩
theorem cv_La_23 : CVok "MaskedCausesLaw" 23 1 y_MC_decision := ⟨cd_MC_decision, in_MC, Or.inl (tb_2 229 rfl rfl), im_MC_decision, se_MC_decision, mh_MC_decision, by decide⟩
theorem cv_MC_128 : CVok "MaskedCauses" 128 1 y_Re_read := ⟨cd_Re_read, in_Re, Or.inl (tb_2 233 rfl rfl), im_Re_read, se_Re_read, mh_Re_read, by decide⟩
theorem cv_Re_29 : CVok "MaskedCauses$Reader" 29 0 y_Tr_clear := ⟨cd_Tr_clear, in_Tr, Or.inl (tb_2 237 rfl rfl), im_Tr_clear, se_Tr_clear, mh_Tr_clear, by decide⟩
theorem cv_Re_34 : CVok "MaskedCauses$Reader" 34 2 y_Re_readJoined := ⟨cd_Re_readJoined, in_Re, Or.inl (tb_3 1 rfl rfl), im_Re_readJoined, se_Re_readJoined, mh_Re_readJoined, by decide⟩
theorem cv_Re_44 : CVok "MaskedCauses$Reader" 44 1 y_Re_readOne := ⟨cd_Re_readOne, in_Re, Or.inl (tb_3 5 rfl rfl), im_Re_readOne, se_Re_readOne, mh_Re_readOne, by decide⟩
theorem cv_Re_38 : CVok "MaskedCauses$Reader" 38 0 y_Li_size := ⟨cd_Li_size, in_Li, Or.inl (tb_3 9 rfl rfl), im_Li_size, se_Li_size, mh_Li_size, by decide⟩
theorem cv_Re_48 : CVok "MaskedCauses$Reader" 48 1 y_Li_at := ⟨cd_Li_at, in_Li, Or.inl (tb_3 10 rfl rfl), im_Li_at, se_Li_at, mh_Li_at, by decide⟩
theorem cv_Re_63 : CVok "MaskedCauses$Reader" 63 1 y_Re_readInner := ⟨cd_Re_readInner, in_Re, Or.inl (tb_3 52 rfl rfl), im_Re_readInner, se_Re_readInner, mh_Re_readInner, by decide⟩
theorem cv_Re_66 : CVok "MaskedCauses$Reader" 66 0 y_Re_readLetter := ⟨cd_Re_readLetter, in_Re, Or.inl (tb_3 56 rfl rfl), im_Re_readLetter, se_Re_readLetter, mh_Re_readLetter, by decide⟩
theorem cv_Re_69 : CVok "MaskedCauses$Reader" 69 1 y_Re_isOneTooMany := ⟨cd_Re_isOneTooMany, in_Re, Or.inl (tb_3 60 rfl rfl), im_Re_isOneTooMany, se_Re_isOneTooMany, mh_Re_isOneTooMany, by decide⟩
theorem cv_Re_76 : CVok "MaskedCauses$Reader" 76 0 y_Tr_letters := ⟨cd_Tr_letters, in_Tr, Or.inl (tb_3 64 rfl rfl), im_Tr_letters, se_Tr_letters, mh_Tr_letters, by decide⟩
theorem cv_Re_73 : CVok "MaskedCauses$Reader" 73 1 y_Tr_addLeaf := ⟨cd_Tr_addLeaf, in_Tr, Or.inl (tb_3 74 rfl rfl), im_Tr_addLeaf, se_Tr_addLeaf, mh_Tr_addLeaf, by decide⟩
theorem cv_Tr_35 : CVok "MaskedCauses$Tree" 35 3 y_Tr_add := ⟨cd_Tr_add, in_Tr, Or.inl (tb_3 78 rfl rfl), im_Tr_add, se_Tr_add, mh_Tr_add, by decide⟩
theorem cv_Re_59 : CVok "MaskedCauses$Reader" 59 3 y_Tr_add := ⟨cd_Tr_add, in_Tr, Or.inl (tb_3 82 rfl rfl), im_Tr_add, se_Tr_add, mh_Tr_add, by decide⟩
theorem cv_MC_132 : CVok "MaskedCauses" 132 2 y_De_take := ⟨cd_De_take, in_De, Or.inl (tb_3 83 rfl rfl), im_De_take, se_De_take, mh_De_take, by decide⟩
theorem cv_De_50 : CVok "MaskedCauses$Decision" 50 0 y_Tr_letters := ⟨cd_Tr_letters, in_Tr, Or.inl (tb_3 87 rfl rfl), im_Tr_letters, se_Tr_letters, mh_Tr_letters, by decide⟩
theorem cv_De_55 : CVok "MaskedCauses$Decision" 55 1 y_De_takeLetters := ⟨cd_De_takeLetters, in_De, Or.inl (tb_3 88 rfl rfl), im_De_takeLetters, se_De_takeLetters, mh_De_takeLetters, by decide⟩
theorem cs_De_79 : CSok "MaskedCauses$Decision" 79 2 y_MC_hasBit := ⟨cd_MC_hasBit, in_MC, Or.inr ⟨_, List.mem_append_left _ (List.mem_map.mpr ⟨_, List.mem_of_getElem? (i := 8) rfl, rfl⟩)⟩, st_MC_hasBit, mh_MC_hasBit, by decide⟩
theorem cv_De_59 : CVok "MaskedCauses$Decision" 59 1 y_Tr_writeOn := ⟨cd_Tr_writeOn, in_Tr, Or.inl (tb_3 95 rfl rfl), im_Tr_writeOn, se_Tr_writeOn, mh_Tr_writeOn, by decide⟩
theorem cv_Tr_64 : CVok "MaskedCauses$Tree" 64 0 y_Li_clear := ⟨cd_Li_clear, in_Li, Or.inl (tb_3 99 rfl rfl), im_Li_clear, se_Li_clear, mh_Li_clear, by decide⟩
theorem cv_Tr_70 : CVok "MaskedCauses$Tree" 70 4 y_Tr_write := ⟨cd_Tr_write, in_Tr, Or.inl (tb_3 100 rfl rfl), im_Tr_write, se_Tr_write, mh_Tr_write, by decide⟩
theorem cv_Tr_74 : CVok "MaskedCauses$Tree" 74 1 y_Li_put := ⟨cd_Li_put, in_Li, Or.inl (tb_3 104 rfl rfl), im_Li_put, se_Li_put, mh_Li_put, by decide⟩
theorem cv_De_63 : CVok "MaskedCauses$Decision" 63 0 y_Tr_findTruths := ⟨cd_Tr_findTruths, in_Tr, Or.inl (tb_3 107 rfl rfl), im_Tr_findTruths, se_Tr_findTruths, mh_Tr_findTruths, by decide⟩
theorem cv_Tr_39 : CVok "MaskedCauses$Tree" 39 1 y_Tr_truthOf := ⟨cd_Tr_truthOf, in_Tr, Or.inl (tb_3 111 rfl rfl), im_Tr_truthOf, se_Tr_truthOf, mh_Tr_truthOf, by decide⟩
theorem cv_Tr_46 : CVok "MaskedCauses$Tree" 46 1 y_Tr_numberOf := ⟨cd_Tr_numberOf, in_Tr, Or.inl (tb_3 117 rfl rfl), im_Tr_numberOf, se_Tr_numberOf, mh_Tr_numberOf, by decide⟩
theorem cv_De_67 : CVok "MaskedCauses$Decision" 67 2 y_Tr_findReached := ⟨cd_Tr_findReached, in_Tr, Or.inl (tb_3 123 rfl rfl), im_Tr_findReached, se_Tr_findReached, mh_Tr_findReached, by decide⟩
theorem cv_Tr_57 : CVok "MaskedCauses$Tree" 57 2 y_Tr_reachParts := ⟨cd_Tr_reachParts, in_Tr, Or.inl (tb_3 127 rfl rfl), im_Tr_reachParts, se_Tr_reachParts, mh_Tr_reachParts, by decide⟩
theorem cv_Tr_61 : CVok "MaskedCauses$Tree" 61 1 y_Tr_undecided := ⟨cd_Tr_undecided, in_Tr, Or.inl (tb_3 131 rfl rfl), im_Tr_undecided, se_Tr_undecided, mh_Tr_undecided, by decide⟩
theorem cs_De_71 : CSok "MaskedCauses$Decision" 71 2 y_De_turned := ⟨cd_De_turned, in_De, Or.inl (tb_3 135 rfl rfl), st_De_turned, mh_De_turned, by decide⟩
theorem cv_De_75 : CVok "MaskedCauses$Decision" 75 1 y_De_strangersOf := ⟨cd_De_strangersOf, in_De, Or.inl (tb_3 140 rfl rfl), im_De_strangersOf, se_De_strangersOf, mh_De_strangersOf, by decide⟩
theorem cv_De_88 : CVok "MaskedCauses$Decision" 88 1 y_Co_inputsOf := ⟨cd_Co_inputsOf, in_Co, Or.inl (tb_3 144 rfl rfl), im_Co_inputsOf, se_Co_inputsOf, mh_Co_inputsOf, by decide⟩
theorem cv_MC_136 : CVok "MaskedCauses" 136 1 y_Wa_findWords := ⟨cd_Wa_findWords, in_Wa, Or.inl (tb_3 148 rfl rfl), im_Wa_findWords, se_Wa_findWords, mh_Wa_findWords, by decide⟩
theorem cv_Wa_24 : CVok "MaskedCauses$Walk" 24 1 y_Wa_fillBits := ⟨cd_Wa_fillBits, in_Wa, Or.inl (tb_3 152 rfl rfl), im_Wa_fillBits, se_Wa_fillBits, mh_Wa_fillBits, by decide⟩
theorem cv_Wa_47 : CVok "MaskedCauses$Walk" 47 0 y_De_size := ⟨cd_De_size, in_De, Or.inl (tb_3 156 rfl rfl), im_De_size, se_De_size, mh_De_size, by decide⟩
theorem cv_Wa_51 : CVok "MaskedCauses$Walk" 51 1 y_De_letterOf := ⟨cd_De_letterOf, in_De, Or.inl (tb_3 160 rfl rfl), im_De_letterOf, se_De_letterOf, mh_De_letterOf, by decide⟩
theorem cv_Wa_54 : CVok "MaskedCauses$Walk" 54 2 y_Wa_enter := ⟨cd_Wa_enter, in_Wa, Or.inl (tb_3 164 rfl rfl), im_Wa_enter, se_Wa_enter, mh_Wa_enter, by decide⟩
theorem cv_Wa_58 : CVok "MaskedCauses$Walk" 58 1 y_Co_firstOf := ⟨cd_Co_firstOf, in_Co, Or.inl (tb_3 168 rfl rfl), im_Co_firstOf, se_Co_firstOf, mh_Co_firstOf, by decide⟩
theorem cv_Wa_63 : CVok "MaskedCauses$Walk" 63 1 y_Co_secondOf := ⟨cd_Co_secondOf, in_Co, Or.inl (tb_3 172 rfl rfl), im_Co_secondOf, se_Co_secondOf, mh_Co_secondOf, by decide⟩
theorem cs_Wa_66 : CSok "MaskedCauses$Walk" 66 2 y_Wa_rowOf := ⟨cd_Wa_rowOf, in_Wa, Or.inl (tb_3 176 rfl rfl), st_Wa_rowOf, mh_Wa_rowOf, by decide⟩
theorem cv_Wa_70 : CVok "MaskedCauses$Walk" 70 2 y_Co_holds := ⟨cd_Co_holds, in_Co, Or.inl (tb_3 179 rfl rfl), im_Co_holds, se_Co_holds, mh_Co_holds, by decide⟩
theorem cv_Wa_28 : CVok "MaskedCauses$Walk" 28 1 y_In_lowOf := ⟨cd_In_lowOf, in_In, Or.inl (tb_3 183 rfl rfl), im_In_lowOf, se_In_lowOf, mh_In_lowOf, by decide⟩
theorem cv_Wa_34 : CVok "MaskedCauses$Walk" 34 1 y_In_highOf := ⟨cd_In_highOf, in_In, Or.inl (tb_3 187 rfl rfl), im_In_highOf, se_In_highOf, mh_In_highOf, by decide⟩
theorem cv_Wa_37 : CVok "MaskedCauses$Walk" 37 3 y_Wa_bitsFor := ⟨cd_Wa_bitsFor, in_Wa, Or.inl (tb_3 191 rfl rfl), im_Wa_bitsFor, se_Wa_bitsFor, mh_Wa_bitsFor, by decide⟩
theorem cv_Wa_41 : CVok "MaskedCauses$Walk" 41 4 y_De_meet := ⟨cd_De_meet, in_De, Or.inl (tb_3 195 rfl rfl), im_De_meet, se_De_meet, mh_De_meet, by decide⟩
theorem cs_De_93 : CSok "MaskedCauses$Decision" 93 2 y_MC_contains := ⟨cd_MC_contains, in_MC, Or.inr ⟨_, List.mem_append_left _ (List.mem_map.mpr ⟨_, List.mem_of_getElem? (i := 9) rfl, rfl⟩)⟩, st_MC_contains, mh_MC_contains, by decide⟩
theorem cs_La_98 : CSok "MaskedCausesLaw" 98 3 y_La_conditions := ⟨cd_La_conditions, in_La, Or.inl (tb_3 203 rfl rfl), st_La_conditions, mh_La_conditions, by decide⟩
theorem cv_La_27 : CVok "MaskedCausesLaw" 27 1 y_MC_conditions := ⟨cd_MC_conditions, in_MC, Or.inl (tb_3 206 rfl rfl), im_MC_conditions, se_MC_conditions, mh_MC_conditions, by decide⟩
theorem cv_MC_140 : CVok "MaskedCauses" 140 1 y_MC_decisionAt := ⟨cd_MC_decisionAt, in_MC, Or.inl (tb_3 210 rfl rfl), im_MC_decisionAt, se_MC_decisionAt, mh_MC_decisionAt, by decide⟩
theorem cv_MC_144 : CVok "MaskedCauses" 144 0 y_De_size := ⟨cd_De_size, in_De, Or.inl (tb_3 214 rfl rfl), im_De_size, se_De_size, mh_De_size, by decide⟩
theorem cs_La_102 : CSok "MaskedCausesLaw" 102 3 y_La_show := ⟨cd_La_show, in_La, Or.inl (tb_3 215 rfl rfl), st_La_show, mh_La_show, by decide⟩
theorem cv_La_31 : CVok "MaskedCausesLaw" 31 1 y_MC_show := ⟨cd_MC_show, in_MC, Or.inl (tb_3 218 rfl rfl), im_MC_show, se_MC_show, mh_MC_show, by decide⟩
theorem cv_MC_145 : CVok "MaskedCauses" 145 0 y_De_shown := ⟨cd_De_shown, in_De, Or.inl (tb_3 222 rfl rfl), im_De_shown, se_De_shown, mh_De_shown, by decide⟩
theorem cs_La_105 : CSok "MaskedCausesLaw" 105 3 y_La_feasible := ⟨cd_La_feasible, in_La, Or.inl (tb_3 226 rfl rfl), st_La_feasible, mh_La_feasible, by decide⟩
theorem cv_La_34 : CVok "MaskedCausesLaw" 34 1 y_MC_feasible := ⟨cd_MC_feasible, in_MC, Or.inl (tb_3 229 rfl rfl), im_MC_feasible, se_MC_feasible, mh_MC_feasible, by decide⟩
theorem cv_MC_150 : CVok "MaskedCauses" 150 0 y_De_feasibleWords := ⟨cd_De_feasibleWords, in_De, Or.inl (tb_3 233 rfl rfl), im_De_feasibleWords, se_De_feasibleWords, mh_De_feasibleWords, by decide⟩
theorem cs_La_108 : CSok "MaskedCausesLaw" 108 5 y_La_vector := ⟨cd_La_vector, in_La, Or.inl (tb_4 3 rfl rfl), st_La_vector, mh_La_vector, by decide⟩
theorem cv_La_37 : CVok "MaskedCausesLaw" 37 3 y_MC_vector := ⟨cd_MC_vector, in_MC, Or.inl (tb_4 6 rfl rfl), im_MC_vector, se_MC_vector, mh_MC_vector, by decide⟩
theorem cv_MC_160 : CVok "MaskedCauses" 160 2 y_MC_decisionWithWord := ⟨cd_MC_decisionWithWord, in_MC, Or.inl (tb_4 10 rfl rfl), im_MC_decisionWithWord, se_MC_decisionWithWord, mh_MC_decisionWithWord, by decide⟩
theorem cv_MC_223 : CVok "MaskedCauses" 223 0 y_De_wordCount := ⟨cd_De_wordCount, in_De, Or.inl (tb_4 14 rfl rfl), im_De_wordCount, se_De_wordCount, mh_De_wordCount, by decide⟩
theorem cs_MC_164 : CSok "MaskedCauses" 164 2 y_MC_contains := ⟨cd_MC_contains, in_MC, Or.inl (tb_4 18 rfl rfl), st_MC_contains, mh_MC_contains, by decide⟩
theorem cv_MC_168 : CVok "MaskedCauses" 168 2 y_De_valueFor := ⟨cd_De_valueFor, in_De, Or.inl (tb_4 19 rfl rfl), im_De_valueFor, se_De_valueFor, mh_De_valueFor, by decide⟩
theorem cs_La_112 : CSok "MaskedCausesLaw" 112 4 y_La_outcome := ⟨cd_La_outcome, in_La, Or.inl (tb_4 23 rfl rfl), st_La_outcome, mh_La_outcome, by decide⟩
theorem cv_La_41 : CVok "MaskedCausesLaw" 41 2 y_MC_outcome := ⟨cd_MC_outcome, in_MC, Or.inl (tb_4 26 rfl rfl), im_MC_outcome, se_MC_outcome, mh_MC_outcome, by decide⟩
theorem cv_MC_171 : CVok "MaskedCauses" 171 0 y_De_trueWords := ⟨cd_De_trueWords, in_De, Or.inl (tb_4 30 rfl rfl), im_De_trueWords, se_De_trueWords, mh_De_trueWords, by decide⟩
theorem cs_La_115 : CSok "MaskedCausesLaw" 115 5 y_La_evaluated := ⟨cd_La_evaluated, in_La, Or.inl (tb_4 34 rfl rfl), st_La_evaluated, mh_La_evaluated, by decide⟩
theorem cv_La_45 : CVok "MaskedCausesLaw" 45 3 y_MC_evaluated := ⟨cd_MC_evaluated, in_MC, Or.inl (tb_4 37 rfl rfl), im_MC_evaluated, se_MC_evaluated, mh_MC_evaluated, by decide⟩
theorem cs_MC_174 : CSok "MaskedCauses" 174 2 y_MC_checkCondition := ⟨cd_MC_checkCondition, in_MC, Or.inl (tb_4 41 rfl rfl), st_MC_checkCondition, mh_MC_checkCondition, by decide⟩
theorem cv_MC_178 : CVok "MaskedCauses" 178 1 y_De_evaluatingWords := ⟨cd_De_evaluatingWords, in_De, Or.inl (tb_4 44 rfl rfl), im_De_evaluatingWords, se_De_evaluatingWords, mh_De_evaluatingWords, by decide⟩
theorem cs_La_118 : CSok "MaskedCausesLaw" 118 5 y_La_solve := ⟨cd_La_solve, in_La, Or.inl (tb_4 48 rfl rfl), st_La_solve, mh_La_solve, by decide⟩
theorem cv_La_49 : CVok "MaskedCausesLaw" 49 3 y_MC_solve := ⟨cd_MC_solve, in_MC, Or.inl (tb_4 51 rfl rfl), im_MC_solve, se_MC_solve, mh_MC_solve, by decide⟩
theorem cs_MC_182 : CSok "MaskedCauses" 182 1 y_MC_checkCriterion := ⟨cd_MC_checkCriterion, in_MC, Or.inl (tb_4 55 rfl rfl), st_MC_checkCriterion, mh_MC_checkCriterion, by decide⟩
theorem cv_MC_186 : CVok "MaskedCauses" 186 2 y_De_pairFor := ⟨cd_De_pairFor, in_De, Or.inl (tb_4 58 rfl rfl), im_De_pairFor, se_De_pairFor, mh_De_pairFor, by decide⟩
theorem cv_De_101 : CVok "MaskedCauses$Decision" 101 3 y_De_pairWithin := ⟨cd_De_pairWithin, in_De, Or.inl (tb_4 62 rfl rfl), im_De_pairWithin, se_De_pairWithin, mh_De_pairWithin, by decide⟩
theorem cv_De_109 : CVok "MaskedCauses$Decision" 109 0 y_De_wordCount := ⟨cd_De_wordCount, in_De, Or.inl (tb_4 66 rfl rfl), im_De_wordCount, se_De_wordCount, mh_De_wordCount, by decide⟩
theorem cv_De_112 : CVok "MaskedCauses$Decision" 112 3 y_De_partnersOf := ⟨cd_De_partnersOf, in_De, Or.inl (tb_4 67 rfl rfl), im_De_partnersOf, se_De_partnersOf, mh_De_partnersOf, by decide⟩
theorem cs_De_116 : CSok "MaskedCauses$Decision" 116 2 y_De_likeWord := ⟨cd_De_likeWord, in_De, Or.inl (tb_4 71 rfl rfl), st_De_likeWord, mh_De_likeWord, by decide⟩
theorem cv_De_119 : CVok "MaskedCauses$Decision" 119 2 y_De_heldFor := ⟨cd_De_heldFor, in_De, Or.inl (tb_4 74 rfl rfl), im_De_heldFor, se_De_heldFor, mh_De_heldFor, by decide⟩
theorem cs_La_121 : CSok "MaskedCausesLaw" 121 4 y_La_suite := ⟨cd_La_suite, in_La, Or.inl (tb_4 78 rfl rfl), st_La_suite, mh_La_suite, by decide⟩
theorem cv_La_52 : CVok "MaskedCausesLaw" 52 2 y_MC_suite := ⟨cd_MC_suite, in_MC, Or.inl (tb_4 81 rfl rfl), im_MC_suite, se_MC_suite, mh_MC_suite, by decide⟩
theorem cv_MC_189 : CVok "MaskedCauses" 189 2 y_Su_fill := ⟨cd_Su_fill, in_Su, Or.inl (tb_4 85 rfl rfl), im_Su_fill, se_Su_fill, mh_Su_fill, by decide⟩
theorem cv_Su_23 : CVok "MaskedCauses$Suite" 23 0 y_De_size := ⟨cd_De_size, in_De, Or.inl (tb_4 89 rfl rfl), im_De_size, se_De_size, mh_De_size, by decide⟩
theorem cv_Su_29 : CVok "MaskedCauses$Suite" 29 2 y_De_pairFor := ⟨cd_De_pairFor, in_De, Or.inl (tb_4 90 rfl rfl), im_De_pairFor, se_De_pairFor, mh_De_pairFor, by decide⟩
theorem cv_Su_33 : CVok "MaskedCauses$Suite" 33 3 y_De_isShownWithin := ⟨cd_De_isShownWithin, in_De, Or.inl (tb_4 91 rfl rfl), im_De_isShownWithin, se_De_isShownWithin, mh_De_isShownWithin, by decide⟩
theorem cv_Su_37 : CVok "MaskedCauses$Suite" 37 1 y_Su_add := ⟨cd_Su_add, in_Su, Or.inl (tb_4 95 rfl rfl), im_Su_add, se_Su_add, mh_Su_add, by decide⟩
theorem cs_Su_41 : CSok "MaskedCauses$Suite" 41 2 y_MC_contains := ⟨cd_MC_contains, in_MC, Or.inr ⟨_, List.mem_append_left _ (List.mem_map.mpr ⟨_, List.mem_of_getElem? (i := 10) rfl, rfl⟩)⟩, st_MC_contains, mh_MC_contains, by decide⟩
theorem cs_La_128 : CSok "MaskedCausesLaw" 128 4 y_La_least := ⟨cd_La_least, in_La, Or.inl (tb_4 100 rfl rfl), st_La_least, mh_La_least, by decide⟩
theorem cv_La_55 : CVok "MaskedCausesLaw" 55 2 y_MC_least := ⟨cd_MC_least, in_MC, Or.inl (tb_4 103 rfl rfl), im_MC_least, se_MC_least, mh_MC_least, by decide⟩
theorem cv_MC_196 : CVok "MaskedCauses" 196 2 y_Fe_count := ⟨cd_Fe_count, in_Fe, Or.inl (tb_4 107 rfl rfl), im_Fe_count, se_Fe_count, mh_Fe_count, by decide⟩
theorem cv_Fe_29 : CVok "MaskedCauses$Fewest" 29 0 y_De_size := ⟨cd_De_size, in_De, Or.inl (tb_4 111 rfl rfl), im_De_size, se_De_size, mh_De_size, by decide⟩
theorem cv_Fe_41 : CVok "MaskedCauses$Fewest" 41 0 y_De_feasibleWords := ⟨cd_De_feasibleWords, in_De, Or.inl (tb_4 115 rfl rfl), im_De_feasibleWords, se_De_feasibleWords, mh_De_feasibleWords, by decide⟩
theorem cv_Fe_44 : CVok "MaskedCauses$Fewest" 44 3 y_Fe_findPartners := ⟨cd_Fe_findPartners, in_Fe, Or.inl (tb_4 116 rfl rfl), im_Fe_findPartners, se_Fe_findPartners, mh_Fe_findPartners, by decide⟩
theorem cv_Fe_52 : CVok "MaskedCauses$Fewest" 52 3 y_De_partnersOf := ⟨cd_De_partnersOf, in_De, Or.inl (tb_4 120 rfl rfl), im_De_partnersOf, se_De_partnersOf, mh_De_partnersOf, by decide⟩
theorem cv_Fe_48 : CVok "MaskedCauses$Fewest" 48 3 y_Fe_isEnough := ⟨cd_Fe_isEnough, in_Fe, Or.inl (tb_4 121 rfl rfl), im_Fe_isEnough, se_Fe_isEnough, mh_Fe_isEnough, by decide⟩
theorem cv_Fe_56 : CVok "MaskedCauses$Fewest" 56 1 y_Fe_showsAll := ⟨cd_Fe_showsAll, in_Fe, Or.inl (tb_4 125 rfl rfl), im_Fe_showsAll, se_Fe_showsAll, mh_Fe_showsAll, by decide⟩
theorem cs_Fe_64 : CSok "MaskedCauses$Fewest" 64 2 y_MC_hasBit := ⟨cd_MC_hasBit, in_MC, Or.inr ⟨_, List.mem_append_left _ (List.mem_map.mpr ⟨_, List.mem_of_getElem? (i := 11) rfl, rfl⟩)⟩, st_MC_hasBit, mh_MC_hasBit, by decide⟩
theorem cv_Fe_68 : CVok "MaskedCauses$Fewest" 68 2 y_Fe_showsOne := ⟨cd_Fe_showsOne, in_Fe, Or.inl (tb_4 130 rfl rfl), im_Fe_showsOne, se_Fe_showsOne, mh_Fe_showsOne, by decide⟩
theorem cs_Fe_60 : CSok "MaskedCauses$Fewest" 60 2 y_MC_contains := ⟨cd_MC_contains, in_MC, Or.inr ⟨_, List.mem_append_left _ (List.mem_map.mpr ⟨_, List.mem_of_getElem? (i := 12) rfl, rfl⟩)⟩, st_MC_contains, mh_MC_contains, by decide⟩
theorem cs_La_131 : CSok "MaskedCausesLaw" 131 5 y_La_keep := ⟨cd_La_keep, in_La, Or.inl (tb_4 135 rfl rfl), st_La_keep, mh_La_keep, by decide⟩
theorem cv_La_58 : CVok "MaskedCausesLaw" 58 3 y_MC_keep := ⟨cd_MC_keep, in_MC, Or.inl (tb_4 138 rfl rfl), im_MC_keep, se_MC_keep, mh_MC_keep, by decide⟩
theorem cv_MC_199 : CVok "MaskedCauses" 199 0 y_Rc_isFull := ⟨cd_Rc_isFull, in_Rc, Or.inl (tb_4 142 rfl rfl), im_Rc_isFull, se_Rc_isFull, mh_Rc_isFull, by decide⟩
theorem cv_MC_200 : CVok "MaskedCauses" 200 2 y_In_fits := ⟨cd_In_fits, in_In, Or.inl (tb_4 146 rfl rfl), im_In_fits, se_In_fits, mh_In_fits, by decide⟩
theorem cv_In_22 : CVok "MaskedCauses$Inputs" 22 1 y_In_has := ⟨cd_In_has, in_In, Or.inl (tb_4 150 rfl rfl), im_In_has, se_In_has, mh_In_has, by decide⟩
theorem cv_MC_204 : CVok "MaskedCauses" 204 3 y_Rc_add := ⟨cd_Rc_add, in_Rc, Or.inl (tb_4 151 rfl rfl), im_Rc_add, se_Rc_add, mh_Rc_add, by decide⟩
theorem cs_La_138 : CSok "MaskedCausesLaw" 138 5 y_La_covered := ⟨cd_La_covered, in_La, Or.inl (tb_4 155 rfl rfl), st_La_covered, mh_La_covered, by decide⟩
theorem cv_La_61 : CVok "MaskedCausesLaw" 61 3 y_MC_covered := ⟨cd_MC_covered, in_MC, Or.inl (tb_4 158 rfl rfl), im_MC_covered, se_MC_covered, mh_MC_covered, by decide⟩
theorem cv_MC_208 : CVok "MaskedCauses" 208 1 y_Rc_wordsOf := ⟨cd_Rc_wordsOf, in_Rc, Or.inl (tb_4 162 rfl rfl), im_Rc_wordsOf, se_Rc_wordsOf, mh_Rc_wordsOf, by decide⟩
theorem cv_Rc_19 : CVok "MaskedCauses$Records" 19 2 y_De_wordFor := ⟨cd_De_wordFor, in_De, Or.inl (tb_4 166 rfl rfl), im_De_wordFor, se_De_wordFor, mh_De_wordFor, by decide⟩
theorem cv_De_97 : CVok "MaskedCauses$Decision" 97 3 y_Co_holdsFor := ⟨cd_Co_holdsFor, in_Co, Or.inl (tb_4 170 rfl rfl), im_Co_holdsFor, se_Co_holdsFor, mh_Co_holdsFor, by decide⟩
theorem cv_Co_28 : CVok "MaskedCauses$Conditions" 28 2 y_Co_holds := ⟨cd_Co_holds, in_Co, Or.inl (tb_4 174 rfl rfl), im_Co_holds, se_Co_holds, mh_Co_holds, by decide⟩
theorem cv_MC_212 : CVok "MaskedCauses" 212 3 y_De_isShownWithin := ⟨cd_De_isShownWithin, in_De, Or.inl (tb_4 175 rfl rfl), im_De_isShownWithin, se_De_isShownWithin, mh_De_isShownWithin, by decide⟩
theorem cs_La_141 : CSok "MaskedCausesLaw" 141 4 y_La_missing := ⟨cd_La_missing, in_La, Or.inl (tb_4 176 rfl rfl), st_La_missing, mh_La_missing, by decide⟩
theorem cv_La_64 : CVok "MaskedCausesLaw" 64 2 y_MC_missing := ⟨cd_MC_missing, in_MC, Or.inl (tb_4 179 rfl rfl), im_MC_missing, se_MC_missing, mh_MC_missing, by decide⟩
theorem cv_MC_216 : CVok "MaskedCauses" 216 2 y_De_isSolved := ⟨cd_De_isSolved, in_De, Or.inl (tb_4 183 rfl rfl), im_De_isSolved, se_De_isSolved, mh_De_isSolved, by decide⟩
theorem cv_De_105 : CVok "MaskedCauses$Decision" 105 2 y_De_pairFor := ⟨cd_De_pairFor, in_De, Or.inl (tb_4 187 rfl rfl), im_De_pairFor, se_De_pairFor, mh_De_pairFor, by decide⟩
theorem ci_La_70 : CIok "MaskedCausesLaw" 70 0 y_Mo_init := ⟨cc_Mo_init, cd_Mo_init, in_Mo, Or.inl (tb_4 190 rfl rfl), im_Mo_init, rfl, mh_Mo_init, by decide⟩
theorem ol_Mo_1 : Cond.methodLink "MaskedCausesModel" 1 objectInit ∈ TB := tb_4 193 rfl rfl
theorem cv_La_77 : CVok "MaskedCausesLaw" 77 0 y_Mo_thrown := ⟨cd_Mo_thrown, in_Mo, Or.inl (tb_5 61 rfl rfl), im_Mo_thrown, se_Mo_thrown, mh_Mo_thrown, by decide⟩
theorem cv_La_76 : CVok "MaskedCausesLaw" 76 2 y_Mo_input := ⟨cd_Mo_input, in_Mo, Or.inl (tb_5 65 rfl rfl), im_Mo_input, se_Mo_input, mh_Mo_input, by decide⟩
theorem cv_Mo_96 : CVok "MaskedCausesModel" 96 2 y_Mo_refused := ⟨cd_Mo_refused, in_Mo, Or.inl (tb_5 69 rfl rfl), im_Mo_refused, se_Mo_refused, mh_Mo_refused, by decide⟩
theorem cv_La_84 : CVok "MaskedCausesLaw" 84 4 y_Mo_condition := ⟨cd_Mo_condition, in_Mo, Or.inl (tb_5 73 rfl rfl), im_Mo_condition, se_Mo_condition, mh_Mo_condition, by decide⟩
theorem cv_La_89 : CVok "MaskedCausesLaw" 89 1 y_Mo_type := ⟨cd_Mo_type, in_Mo, Or.inl (tb_5 77 rfl rfl), im_Mo_type, se_Mo_type, mh_Mo_type, by decide⟩
theorem cv_La_93 : CVok "MaskedCausesLaw" 93 0 y_Mo_wipe := ⟨cd_Mo_wipe, in_Mo, Or.inl (tb_5 81 rfl rfl), im_Mo_wipe, se_Mo_wipe, mh_Mo_wipe, by decide⟩
theorem cv_La_97 : CVok "MaskedCausesLaw" 97 1 y_Mo_decision := ⟨cd_Mo_decision, in_Mo, Or.inl (tb_5 85 rfl rfl), im_Mo_decision, se_Mo_decision, mh_Mo_decision, by decide⟩
theorem cv_Mo_149 : CVok "MaskedCausesModel" 149 1 y_Mo_faultOf := ⟨cd_Mo_faultOf, in_Mo, Or.inl (tb_5 89 rfl rfl), im_Mo_faultOf, se_Mo_faultOf, mh_Mo_faultOf, by decide⟩
theorem cs_Mo_106 : CSok "MaskedCausesModel" 106 1 y_Mo_countOf := ⟨cd_Mo_countOf, in_Mo, Or.inl (tb_5 93 rfl rfl), st_Mo_countOf, mh_Mo_countOf, by decide⟩
theorem cs_Mo_134 : CSok "MaskedCausesModel" 134 2 y_Mo_isIn := ⟨cd_Mo_isIn, in_Mo, Or.inl (tb_5 96 rfl rfl), st_Mo_isIn, mh_Mo_isIn, by decide⟩
theorem cv_Mo_152 : CVok "MaskedCausesModel" 152 2 y_Mo_go := ⟨cd_Mo_go, in_Mo, Or.inl (tb_5 99 rfl rfl), im_Mo_go, se_Mo_go, mh_Mo_go, by decide⟩
theorem cv_Mo_116 : CVok "MaskedCausesModel" 116 1 y_Mo_open := ⟨cd_Mo_open, in_Mo, Or.inl (tb_5 103 rfl rfl), im_Mo_open, se_Mo_open, mh_Mo_open, by decide⟩
theorem cv_Mo_120 : CVok "MaskedCausesModel" 120 1 y_Mo_isNext := ⟨cd_Mo_isNext, in_Mo, Or.inl (tb_5 107 rfl rfl), im_Mo_isNext, se_Mo_isNext, mh_Mo_isNext, by decide⟩
theorem cv_Mo_124 : CVok "MaskedCausesModel" 124 0 y_Mo_endXor := ⟨cd_Mo_endXor, in_Mo, Or.inl (tb_5 111 rfl rfl), im_Mo_endXor, se_Mo_endXor, mh_Mo_endXor, by decide⟩
theorem cv_Mo_113 : CVok "MaskedCausesModel" 113 0 y_Mo_endAnd := ⟨cd_Mo_endAnd, in_Mo, Or.inl (tb_5 115 rfl rfl), im_Mo_endAnd, se_Mo_endAnd, mh_Mo_endAnd, by decide⟩
theorem cv_Mo_127 : CVok "MaskedCausesModel" 127 1 y_Mo_join := ⟨cd_Mo_join, in_Mo, Or.inl (tb_5 119 rfl rfl), im_Mo_join, se_Mo_join, mh_Mo_join, by decide⟩
theorem cv_Mo_130 : CVok "MaskedCausesModel" 130 2 y_Mo_place := ⟨cd_Mo_place, in_Mo, Or.inl (tb_5 123 rfl rfl), im_Mo_place, se_Mo_place, mh_Mo_place, by decide⟩
theorem cv_Mo_155 : CVok "MaskedCausesModel" 155 1 y_Mo_findVectors := ⟨cd_Mo_findVectors, in_Mo, Or.inl (tb_5 127 rfl rfl), im_Mo_findVectors, se_Mo_findVectors, mh_Mo_findVectors, by decide⟩
theorem cv_Mo_142 : CVok "MaskedCausesModel" 142 4 y_Mo_wordOf := ⟨cd_Mo_wordOf, in_Mo, Or.inl (tb_5 131 rfl rfl), im_Mo_wordOf, se_Mo_wordOf, mh_Mo_wordOf, by decide⟩
theorem cv_Mo_138 : CVok "MaskedCausesModel" 138 4 y_Mo_holds := ⟨cd_Mo_holds, in_Mo, Or.inl (tb_5 135 rfl rfl), im_Mo_holds, se_Mo_holds, mh_Mo_holds, by decide⟩
theorem cv_La_101 : CVok "MaskedCausesLaw" 101 1 y_Mo_conditions := ⟨cd_Mo_conditions, in_Mo, Or.inl (tb_5 139 rfl rfl), im_Mo_conditions, se_Mo_conditions, mh_Mo_conditions, by decide⟩
theorem cv_Mo_159 : CVok "MaskedCausesModel" 159 1 y_Mo_isDecision := ⟨cd_Mo_isDecision, in_Mo, Or.inl (tb_5 143 rfl rfl), im_Mo_isDecision, se_Mo_isDecision, mh_Mo_isDecision, by decide⟩
theorem cv_La_104 : CVok "MaskedCausesLaw" 104 1 y_Mo_show := ⟨cd_Mo_show, in_Mo, Or.inl (tb_5 147 rfl rfl), im_Mo_show, se_Mo_show, mh_Mo_show, by decide⟩
theorem cv_Mo_171 : CVok "MaskedCausesModel" 171 2 y_Mo_isNeeded := ⟨cd_Mo_isNeeded, in_Mo, Or.inl (tb_5 151 rfl rfl), im_Mo_isNeeded, se_Mo_isNeeded, mh_Mo_isNeeded, by decide⟩
theorem cv_Mo_162 : CVok "MaskedCausesModel" 162 2 y_Mo_closing := ⟨cd_Mo_closing, in_Mo, Or.inl (tb_5 155 rfl rfl), im_Mo_closing, se_Mo_closing, mh_Mo_closing, by decide⟩
theorem cv_Mo_165 : CVok "MaskedCausesModel" 165 2 y_Mo_joinOf := ⟨cd_Mo_joinOf, in_Mo, Or.inl (tb_5 159 rfl rfl), im_Mo_joinOf, se_Mo_joinOf, mh_Mo_joinOf, by decide⟩
theorem cv_La_107 : CVok "MaskedCausesLaw" 107 1 y_Mo_feasible := ⟨cd_Mo_feasible, in_Mo, Or.inl (tb_5 163 rfl rfl), im_Mo_feasible, se_Mo_feasible, mh_Mo_feasible, by decide⟩
theorem cv_La_111 : CVok "MaskedCausesLaw" 111 3 y_Mo_vector := ⟨cd_Mo_vector, in_Mo, Or.inl (tb_5 167 rfl rfl), im_Mo_vector, se_Mo_vector, mh_Mo_vector, by decide⟩
theorem cv_Mo_174 : CVok "MaskedCausesModel" 174 2 y_Mo_isWord := ⟨cd_Mo_isWord, in_Mo, Or.inl (tb_5 171 rfl rfl), im_Mo_isWord, se_Mo_isWord, mh_Mo_isWord, by decide⟩
theorem cv_La_114 : CVok "MaskedCausesLaw" 114 2 y_Mo_outcome := ⟨cd_Mo_outcome, in_Mo, Or.inl (tb_5 175 rfl rfl), im_Mo_outcome, se_Mo_outcome, mh_Mo_outcome, by decide⟩
theorem cv_La_117 : CVok "MaskedCausesLaw" 117 3 y_Mo_evaluated := ⟨cd_Mo_evaluated, in_Mo, Or.inl (tb_5 179 rfl rfl), im_Mo_evaluated, se_Mo_evaluated, mh_Mo_evaluated, by decide⟩
theorem cv_Mo_177 : CVok "MaskedCausesModel" 177 2 y_Mo_isCondition := ⟨cd_Mo_isCondition, in_Mo, Or.inl (tb_5 183 rfl rfl), im_Mo_isCondition, se_Mo_isCondition, mh_Mo_isCondition, by decide⟩
theorem cv_La_120 : CVok "MaskedCausesLaw" 120 3 y_Mo_solve := ⟨cd_Mo_solve, in_Mo, Or.inl (tb_5 187 rfl rfl), im_Mo_solve, se_Mo_solve, mh_Mo_solve, by decide⟩
theorem cs_Mo_191 : CSok "MaskedCausesModel" 191 1 y_Mo_isCriterion := ⟨cd_Mo_isCriterion, in_Mo, Or.inl (tb_5 191 rfl rfl), st_Mo_isCriterion, mh_Mo_isCriterion, by decide⟩
theorem cv_Mo_194 : CVok "MaskedCausesModel" 194 3 y_Mo_pairOf := ⟨cd_Mo_pairOf, in_Mo, Or.inl (tb_5 194 rfl rfl), im_Mo_pairOf, se_Mo_pairOf, mh_Mo_pairOf, by decide⟩
theorem cv_Mo_187 : CVok "MaskedCausesModel" 187 5 y_Mo_shows := ⟨cd_Mo_shows, in_Mo, Or.inl (tb_5 198 rfl rfl), im_Mo_shows, se_Mo_shows, mh_Mo_shows, by decide⟩
theorem cv_Mo_180 : CVok "MaskedCausesModel" 180 3 y_Mo_isTurned := ⟨cd_Mo_isTurned, in_Mo, Or.inl (tb_5 202 rfl rfl), im_Mo_isTurned, se_Mo_isTurned, mh_Mo_isTurned, by decide⟩
theorem cv_Mo_184 : CVok "MaskedCausesModel" 184 3 y_Mo_share := ⟨cd_Mo_share, in_Mo, Or.inl (tb_5 206 rfl rfl), im_Mo_share, se_Mo_share, mh_Mo_share, by decide⟩
theorem cv_La_123 : CVok "MaskedCausesLaw" 123 2 y_Mo_suite := ⟨cd_Mo_suite, in_Mo, Or.inl (tb_5 210 rfl rfl), im_Mo_suite, se_Mo_suite, mh_Mo_suite, by decide⟩
theorem cv_Mo_201 : CVok "MaskedCausesModel" 201 3 y_Mo_isShown := ⟨cd_Mo_isShown, in_Mo, Or.inl (tb_5 214 rfl rfl), im_Mo_isShown, se_Mo_isShown, mh_Mo_isShown, by decide⟩
theorem cv_Mo_204 : CVok "MaskedCausesModel" 204 1 y_Mo_include := ⟨cd_Mo_include, in_Mo, Or.inl (tb_5 218 rfl rfl), im_Mo_include, se_Mo_include, mh_Mo_include, by decide⟩
theorem cv_La_127 : CVok "MaskedCausesLaw" 127 1 y_Mo_suiteAt := ⟨cd_Mo_suiteAt, in_Mo, Or.inl (tb_5 222 rfl rfl), im_Mo_suiteAt, se_Mo_suiteAt, mh_Mo_suiteAt, by decide⟩
theorem cv_La_130 : CVok "MaskedCausesLaw" 130 2 y_Mo_least := ⟨cd_Mo_least, in_Mo, Or.inl (tb_5 226 rfl rfl), im_Mo_least, se_Mo_least, mh_Mo_least, by decide⟩
theorem cv_Mo_207 : CVok "MaskedCausesModel" 207 2 y_Mo_isEnough := ⟨cd_Mo_isEnough, in_Mo, Or.inl (tb_5 230 rfl rfl), im_Mo_isEnough, se_Mo_isEnough, mh_Mo_isEnough, by decide⟩
theorem cv_La_133 : CVok "MaskedCausesLaw" 133 3 y_Mo_keep := ⟨cd_Mo_keep, in_Mo, Or.inl (tb_5 234 rfl rfl), im_Mo_keep, se_Mo_keep, mh_Mo_keep, by decide⟩
theorem cv_Mo_213 : CVok "MaskedCausesModel" 213 2 y_Mo_isOut := ⟨cd_Mo_isOut, in_Mo, Or.inl (tb_5 238 rfl rfl), im_Mo_isOut, se_Mo_isOut, mh_Mo_isOut, by decide⟩
theorem cv_La_137 : CVok "MaskedCausesLaw" 137 0 y_Mo_forget := ⟨cd_Mo_forget, in_Mo, Or.inl (tb_6 2 rfl rfl), im_Mo_forget, se_Mo_forget, mh_Mo_forget, by decide⟩
theorem cv_La_140 : CVok "MaskedCausesLaw" 140 3 y_Mo_covered := ⟨cd_Mo_covered, in_Mo, Or.inl (tb_6 6 rfl rfl), im_Mo_covered, se_Mo_covered, mh_Mo_covered, by decide⟩
theorem cv_Mo_216 : CVok "MaskedCausesModel" 216 3 y_Mo_isCovered := ⟨cd_Mo_isCovered, in_Mo, Or.inl (tb_6 10 rfl rfl), im_Mo_isCovered, se_Mo_isCovered, mh_Mo_isCovered, by decide⟩
theorem cv_La_143 : CVok "MaskedCausesLaw" 143 2 y_Mo_missing := ⟨cd_Mo_missing, in_Mo, Or.inl (tb_6 14 rfl rfl), im_Mo_missing, se_Mo_missing, mh_Mo_missing, by decide⟩
theorem cv_La_147 : CVok "MaskedCausesLaw" 147 0 y_Mo_length := ⟨cd_Mo_length, in_Mo, Or.inl (tb_6 18 rfl rfl), im_Mo_length, se_Mo_length, mh_Mo_length, by decide⟩
theorem cv_La_152 : CVok "MaskedCausesLaw" 152 1 y_Mo_charAt := ⟨cd_Mo_charAt, in_Mo, Or.inl (tb_6 22 rfl rfl), im_Mo_charAt, se_Mo_charAt, mh_Mo_charAt, by decide⟩
theorem oi_in : Cond.instanceMethod objectInit ∈ TB := tb_1 32 rfl rfl
theorem oi_cd : Cond.code objectInit ⟨#[0xb1]⟩ 1 none ∈ TB := tb_1 33 rfl rfl
theorem tw_Tr_43 : Cond.fieldLinkNest "MaskedCauses$Tree" 43 "MaskedCauses" "TRUE_WORDS" "[J" "MaskedCauses" ∈ NW := List.mem_append_right _ (List.mem_append_left _ (List.mem_map.mpr ⟨_, List.mem_of_getElem? (i := 0) rfl, rfl⟩))
theorem tw_De_83 : Cond.fieldLinkNest "MaskedCauses$Decision" 83 "MaskedCauses" "TRUE_WORDS" "[J" "MaskedCauses" ∈ NW := List.mem_append_right _ (List.mem_append_left _ (List.mem_map.mpr ⟨_, List.mem_of_getElem? (i := 1) rfl, rfl⟩))
end
