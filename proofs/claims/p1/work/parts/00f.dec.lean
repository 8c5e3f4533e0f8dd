/-! methods and their instructions -/
section
def y_La_input : MethodName × ByteArray × Nat × Option FieldType × List (Nat × Nat × Nat × Nat) := (⟨"MaskedCausesLaw", "input", "(LMaskedCauses;II[J)I"⟩, method_3_code, 5, (Option.some Jvm.ClassFile.FieldType.int), [((0 : Nat), (10 : Nat), (13 : Nat), (13 : Nat)), ((0 : Nat), (10 : Nat), (17 : Nat), (15 : Nat))])
theorem d_La_input_0 : decode y_La_input.2.1 0 = .ok (.aload_n 3, 1) := by decide +kernel
theorem d_La_input_1 : decode y_La_input.2.1 1 = .ok (.iconst 0, 1) := by decide +kernel
theorem d_La_input_2 : decode y_La_input.2.1 2 = .ok (.aload_n 0, 1) := by decide +kernel
theorem d_La_input_3 : decode y_La_input.2.1 3 = .ok (.iload_n 1, 1) := by decide +kernel
theorem d_La_input_4 : decode y_La_input.2.1 4 = .ok (.iload_n 2, 1) := by decide +kernel
theorem d_La_input_5 : decode y_La_input.2.1 5 = .ok (.invokevirtual 7, 3) := by decide +kernel
theorem d_La_input_8 : decode y_La_input.2.1 8 = .ok (.i2l, 1) := by decide +kernel
theorem d_La_input_9 : decode y_La_input.2.1 9 = .ok (.lastore, 1) := by decide +kernel
theorem d_La_input_10 : decode y_La_input.2.1 10 = .ok (.goto 11, 3) := by decide +kernel
theorem d_La_input_13 : decode y_La_input.2.1 13 = .ok (.astore 4, 2) := by decide +kernel
theorem d_La_input_15 : decode y_La_input.2.1 15 = .ok (.iconst 1, 1) := by decide +kernel
theorem d_La_input_16 : decode y_La_input.2.1 16 = .ok (.ireturn, 1) := by decide +kernel
theorem d_La_input_17 : decode y_La_input.2.1 17 = .ok (.astore 4, 2) := by decide +kernel
theorem d_La_input_19 : decode y_La_input.2.1 19 = .ok (.iconst 2, 1) := by decide +kernel
theorem d_La_input_20 : decode y_La_input.2.1 20 = .ok (.ireturn, 1) := by decide +kernel
theorem d_La_input_21 : decode y_La_input.2.1 21 = .ok (.iconst 0, 1) := by decide +kernel
theorem d_La_input_22 : decode y_La_input.2.1 22 = .ok (.ireturn, 1) := by decide +kernel
def y_La_condition : MethodName × ByteArray × Nat × Option FieldType × List (Nat × Nat × Nat × Nat) := (⟨"MaskedCausesLaw", "condition", "(LMaskedCauses;IIII[J)I"⟩, method_4_code, 7, (Option.some Jvm.ClassFile.FieldType.int), [((0 : Nat), (14 : Nat), (17 : Nat), (13 : Nat)), ((0 : Nat), (14 : Nat), (21 : Nat), (21 : Nat)), ((0 : Nat), (14 : Nat), (25 : Nat), (15 : Nat))])
theorem d_La_condition_0 : decode y_La_condition.2.1 0 = .ok (.aload 5, 2) := by decide +kernel
theorem d_La_condition_2 : decode y_La_condition.2.1 2 = .ok (.iconst 0, 1) := by decide +kernel
theorem d_La_condition_3 : decode y_La_condition.2.1 3 = .ok (.aload_n 0, 1) := by decide +kernel
theorem d_La_condition_4 : decode y_La_condition.2.1 4 = .ok (.iload_n 1, 1) := by decide +kernel
theorem d_La_condition_5 : decode y_La_condition.2.1 5 = .ok (.iload_n 2, 1) := by decide +kernel
theorem d_La_condition_6 : decode y_La_condition.2.1 6 = .ok (.iload_n 3, 1) := by decide +kernel
theorem d_La_condition_7 : decode y_La_condition.2.1 7 = .ok (.iload 4, 2) := by decide +kernel
theorem d_La_condition_9 : decode y_La_condition.2.1 9 = .ok (.invokevirtual 17, 3) := by decide +kernel
theorem d_La_condition_12 : decode y_La_condition.2.1 12 = .ok (.i2l, 1) := by decide +kernel
theorem d_La_condition_13 : decode y_La_condition.2.1 13 = .ok (.lastore, 1) := by decide +kernel
theorem d_La_condition_14 : decode y_La_condition.2.1 14 = .ok (.goto 15, 3) := by decide +kernel
theorem d_La_condition_17 : decode y_La_condition.2.1 17 = .ok (.astore 6, 2) := by decide +kernel
theorem d_La_condition_19 : decode y_La_condition.2.1 19 = .ok (.iconst 1, 1) := by decide +kernel
theorem d_La_condition_20 : decode y_La_condition.2.1 20 = .ok (.ireturn, 1) := by decide +kernel
theorem d_La_condition_21 : decode y_La_condition.2.1 21 = .ok (.astore 6, 2) := by decide +kernel
theorem d_La_condition_23 : decode y_La_condition.2.1 23 = .ok (.iconst 2, 1) := by decide +kernel
theorem d_La_condition_24 : decode y_La_condition.2.1 24 = .ok (.ireturn, 1) := by decide +kernel
theorem d_La_condition_25 : decode y_La_condition.2.1 25 = .ok (.astore 6, 2) := by decide +kernel
theorem d_La_condition_27 : decode y_La_condition.2.1 27 = .ok (.iconst 3, 1) := by decide +kernel
theorem d_La_condition_28 : decode y_La_condition.2.1 28 = .ok (.ireturn, 1) := by decide +kernel
theorem d_La_condition_29 : decode y_La_condition.2.1 29 = .ok (.iconst 0, 1) := by decide +kernel
theorem d_La_condition_30 : decode y_La_condition.2.1 30 = .ok (.ireturn, 1) := by decide +kernel
def y_La_decision : MethodName × ByteArray × Nat × Option FieldType × List (Nat × Nat × Nat × Nat) := (⟨"MaskedCausesLaw", "decision", "(LMaskedCauses;Z[J)I"⟩, method_5_code, 4, (Option.some Jvm.ClassFile.FieldType.int), [((0 : Nat), (9 : Nat), (12 : Nat), (13 : Nat))])
theorem d_La_decision_0 : decode y_La_decision.2.1 0 = .ok (.aload_n 2, 1) := by decide +kernel
theorem d_La_decision_1 : decode y_La_decision.2.1 1 = .ok (.iconst 0, 1) := by decide +kernel
theorem d_La_decision_2 : decode y_La_decision.2.1 2 = .ok (.aload_n 0, 1) := by decide +kernel
theorem d_La_decision_3 : decode y_La_decision.2.1 3 = .ok (.iload_n 1, 1) := by decide +kernel
theorem d_La_decision_4 : decode y_La_decision.2.1 4 = .ok (.invokevirtual 23, 3) := by decide +kernel
theorem d_La_decision_7 : decode y_La_decision.2.1 7 = .ok (.i2l, 1) := by decide +kernel
theorem d_La_decision_8 : decode y_La_decision.2.1 8 = .ok (.lastore, 1) := by decide +kernel
theorem d_La_decision_9 : decode y_La_decision.2.1 9 = .ok (.goto 6, 3) := by decide +kernel
theorem d_La_decision_12 : decode y_La_decision.2.1 12 = .ok (.astore_n 3, 1) := by decide +kernel
theorem d_La_decision_13 : decode y_La_decision.2.1 13 = .ok (.iconst 1, 1) := by decide +kernel
theorem d_La_decision_14 : decode y_La_decision.2.1 14 = .ok (.ireturn, 1) := by decide +kernel
theorem d_La_decision_15 : decode y_La_decision.2.1 15 = .ok (.iconst 0, 1) := by decide +kernel
theorem d_La_decision_16 : decode y_La_decision.2.1 16 = .ok (.ireturn, 1) := by decide +kernel
def y_La_conditions : MethodName × ByteArray × Nat × Option FieldType × List (Nat × Nat × Nat × Nat) := (⟨"MaskedCausesLaw", "conditions", "(LMaskedCauses;I[J)I"⟩, method_6_code, 4, (Option.some Jvm.ClassFile.FieldType.int), [((0 : Nat), (9 : Nat), (12 : Nat), (21 : Nat))])
theorem d_La_conditions_0 : decode y_La_conditions.2.1 0 = .ok (.aload_n 2, 1) := by decide +kernel
theorem d_La_conditions_1 : decode y_La_conditions.2.1 1 = .ok (.iconst 0, 1) := by decide +kernel
theorem d_La_conditions_2 : decode y_La_conditions.2.1 2 = .ok (.aload_n 0, 1) := by decide +kernel
theorem d_La_conditions_3 : decode y_La_conditions.2.1 3 = .ok (.iload_n 1, 1) := by decide +kernel
theorem d_La_conditions_4 : decode y_La_conditions.2.1 4 = .ok (.invokevirtual 27, 3) := by decide +kernel
theorem d_La_conditions_7 : decode y_La_conditions.2.1 7 = .ok (.i2l, 1) := by decide +kernel
theorem d_La_conditions_8 : decode y_La_conditions.2.1 8 = .ok (.lastore, 1) := by decide +kernel
theorem d_La_conditions_9 : decode y_La_conditions.2.1 9 = .ok (.goto 6, 3) := by decide +kernel
theorem d_La_conditions_12 : decode y_La_conditions.2.1 12 = .ok (.astore_n 3, 1) := by decide +kernel
theorem d_La_conditions_13 : decode y_La_conditions.2.1 13 = .ok (.iconst 1, 1) := by decide +kernel
theorem d_La_conditions_14 : decode y_La_conditions.2.1 14 = .ok (.ireturn, 1) := by decide +kernel
theorem d_La_conditions_15 : decode y_La_conditions.2.1 15 = .ok (.iconst 0, 1) := by decide +kernel
theorem d_La_conditions_16 : decode y_La_conditions.2.1 16 = .ok (.ireturn, 1) := by decide +kernel
def y_La_show : MethodName × ByteArray × Nat × Option FieldType × List (Nat × Nat × Nat × Nat) := (⟨"MaskedCausesLaw", "show", "(LMaskedCauses;I[J)I"⟩, method_7_code, 4, (Option.some Jvm.ClassFile.FieldType.int), [((0 : Nat), (9 : Nat), (12 : Nat), (21 : Nat))])
theorem d_La_show_0 : decode y_La_show.2.1 0 = .ok (.aload_n 2, 1) := by decide +kernel
theorem d_La_show_1 : decode y_La_show.2.1 1 = .ok (.iconst 0, 1) := by decide +kernel
theorem d_La_show_2 : decode y_La_show.2.1 2 = .ok (.aload_n 0, 1) := by decide +kernel
theorem d_La_show_3 : decode y_La_show.2.1 3 = .ok (.iload_n 1, 1) := by decide +kernel
theorem d_La_show_4 : decode y_La_show.2.1 4 = .ok (.invokevirtual 31, 3) := by decide +kernel
theorem d_La_show_7 : decode y_La_show.2.1 7 = .ok (.i2l, 1) := by decide +kernel
theorem d_La_show_8 : decode y_La_show.2.1 8 = .ok (.lastore, 1) := by decide +kernel
theorem d_La_show_9 : decode y_La_show.2.1 9 = .ok (.goto 6, 3) := by decide +kernel
theorem d_La_show_12 : decode y_La_show.2.1 12 = .ok (.astore_n 3, 1) := by decide +kernel
theorem d_La_show_13 : decode y_La_show.2.1 13 = .ok (.iconst 1, 1) := by decide +kernel
theorem d_La_show_14 : decode y_La_show.2.1 14 = .ok (.ireturn, 1) := by decide +kernel
theorem d_La_show_15 : decode y_La_show.2.1 15 = .ok (.iconst 0, 1) := by decide +kernel
theorem d_La_show_16 : decode y_La_show.2.1 16 = .ok (.ireturn, 1) := by decide +kernel
def y_La_feasible : MethodName × ByteArray × Nat × Option FieldType × List (Nat × Nat × Nat × Nat) := (⟨"MaskedCausesLaw", "feasible", "(LMaskedCauses;I[J)I"⟩, method_8_code, 4, (Option.some Jvm.ClassFile.FieldType.int), [((0 : Nat), (9 : Nat), (12 : Nat), (21 : Nat))])
theorem d_La_feasible_0 : decode y_La_feasible.2.1 0 = .ok (.aload_n 2, 1) := by decide +kernel
theorem d_La_feasible_1 : decode y_La_feasible.2.1 1 = .ok (.iconst 0, 1) := by decide +kernel
theorem d_La_feasible_2 : decode y_La_feasible.2.1 2 = .ok (.aload_n 0, 1) := by decide +kernel
theorem d_La_feasible_3 : decode y_La_feasible.2.1 3 = .ok (.iload_n 1, 1) := by decide +kernel
theorem d_La_feasible_4 : decode y_La_feasible.2.1 4 = .ok (.invokevirtual 34, 3) := by decide +kernel
theorem d_La_feasible_7 : decode y_La_feasible.2.1 7 = .ok (.i2l, 1) := by decide +kernel
theorem d_La_feasible_8 : decode y_La_feasible.2.1 8 = .ok (.lastore, 1) := by decide +kernel
theorem d_La_feasible_9 : decode y_La_feasible.2.1 9 = .ok (.goto 6, 3) := by decide +kernel
theorem d_La_feasible_12 : decode y_La_feasible.2.1 12 = .ok (.astore_n 3, 1) := by decide +kernel
theorem d_La_feasible_13 : decode y_La_feasible.2.1 13 = .ok (.iconst 1, 1) := by decide +kernel
theorem d_La_feasible_14 : decode y_La_feasible.2.1 14 = .ok (.ireturn, 1) := by decide +kernel
theorem d_La_feasible_15 : decode y_La_feasible.2.1 15 = .ok (.iconst 0, 1) := by decide +kernel
theorem d_La_feasible_16 : decode y_La_feasible.2.1 16 = .ok (.ireturn, 1) := by decide +kernel
def y_La_vector : MethodName × ByteArray × Nat × Option FieldType × List (Nat × Nat × Nat × Nat) := (⟨"MaskedCausesLaw", "vector", "(LMaskedCauses;III[J)I"⟩, method_9_code, 6, (Option.some Jvm.ClassFile.FieldType.int), [((0 : Nat), (12 : Nat), (15 : Nat), (21 : Nat)), ((0 : Nat), (12 : Nat), (19 : Nat), (13 : Nat))])
theorem d_La_vector_0 : decode y_La_vector.2.1 0 = .ok (.aload 4, 2) := by decide +kernel
theorem d_La_vector_2 : decode y_La_vector.2.1 2 = .ok (.iconst 0, 1) := by decide +kernel
theorem d_La_vector_3 : decode y_La_vector.2.1 3 = .ok (.aload_n 0, 1) := by decide +kernel
theorem d_La_vector_4 : decode y_La_vector.2.1 4 = .ok (.iload_n 1, 1) := by decide +kernel
theorem d_La_vector_5 : decode y_La_vector.2.1 5 = .ok (.iload_n 2, 1) := by decide +kernel
theorem d_La_vector_6 : decode y_La_vector.2.1 6 = .ok (.iload_n 3, 1) := by decide +kernel
theorem d_La_vector_7 : decode y_La_vector.2.1 7 = .ok (.invokevirtual 37, 3) := by decide +kernel
theorem d_La_vector_10 : decode y_La_vector.2.1 10 = .ok (.i2l, 1) := by decide +kernel
theorem d_La_vector_11 : decode y_La_vector.2.1 11 = .ok (.lastore, 1) := by decide +kernel
theorem d_La_vector_12 : decode y_La_vector.2.1 12 = .ok (.goto 11, 3) := by decide +kernel
theorem d_La_vector_15 : decode y_La_vector.2.1 15 = .ok (.astore 5, 2) := by decide +kernel
theorem d_La_vector_17 : decode y_La_vector.2.1 17 = .ok (.iconst 1, 1) := by decide +kernel
theorem d_La_vector_18 : decode y_La_vector.2.1 18 = .ok (.ireturn, 1) := by decide +kernel
theorem d_La_vector_19 : decode y_La_vector.2.1 19 = .ok (.astore 5, 2) := by decide +kernel
theorem d_La_vector_21 : decode y_La_vector.2.1 21 = .ok (.iconst 2, 1) := by decide +kernel
theorem d_La_vector_22 : decode y_La_vector.2.1 22 = .ok (.ireturn, 1) := by decide +kernel
theorem d_La_vector_23 : decode y_La_vector.2.1 23 = .ok (.iconst 0, 1) := by decide +kernel
theorem d_La_vector_24 : decode y_La_vector.2.1 24 = .ok (.ireturn, 1) := by decide +kernel
def y_La_outcome : MethodName × ByteArray × Nat × Option FieldType × List (Nat × Nat × Nat × Nat) := (⟨"MaskedCausesLaw", "outcome", "(LMaskedCauses;II[J)I"⟩, method_10_code, 5, (Option.some Jvm.ClassFile.FieldType.int), [((0 : Nat), (17 : Nat), (20 : Nat), (21 : Nat))])
theorem d_La_outcome_0 : decode y_La_outcome.2.1 0 = .ok (.aload_n 3, 1) := by decide +kernel
theorem d_La_outcome_1 : decode y_La_outcome.2.1 1 = .ok (.iconst 0, 1) := by decide +kernel
theorem d_La_outcome_2 : decode y_La_outcome.2.1 2 = .ok (.aload_n 0, 1) := by decide +kernel
theorem d_La_outcome_3 : decode y_La_outcome.2.1 3 = .ok (.iload_n 1, 1) := by decide +kernel
theorem d_La_outcome_4 : decode y_La_outcome.2.1 4 = .ok (.iload_n 2, 1) := by decide +kernel
theorem d_La_outcome_5 : decode y_La_outcome.2.1 5 = .ok (.invokevirtual 41, 3) := by decide +kernel
theorem d_La_outcome_8 : decode y_La_outcome.2.1 8 = .ok (.ifCond .eq 7, 3) := by decide +kernel
theorem d_La_outcome_11 : decode y_La_outcome.2.1 11 = .ok (.lconst 1, 1) := by decide +kernel
theorem d_La_outcome_12 : decode y_La_outcome.2.1 12 = .ok (.goto 4, 3) := by decide +kernel
theorem d_La_outcome_15 : decode y_La_outcome.2.1 15 = .ok (.lconst 0, 1) := by decide +kernel
theorem d_La_outcome_16 : decode y_La_outcome.2.1 16 = .ok (.lastore, 1) := by decide +kernel
theorem d_La_outcome_17 : decode y_La_outcome.2.1 17 = .ok (.goto 7, 3) := by decide +kernel
theorem d_La_outcome_20 : decode y_La_outcome.2.1 20 = .ok (.astore 4, 2) := by decide +kernel
theorem d_La_outcome_22 : decode y_La_outcome.2.1 22 = .ok (.iconst 1, 1) := by decide +kernel
theorem d_La_outcome_23 : decode y_La_outcome.2.1 23 = .ok (.ireturn, 1) := by decide +kernel
theorem d_La_outcome_24 : decode y_La_outcome.2.1 24 = .ok (.iconst 0, 1) := by decide +kernel
theorem d_La_outcome_25 : decode y_La_outcome.2.1 25 = .ok (.ireturn, 1) := by decide +kernel
def y_La_evaluated : MethodName × ByteArray × Nat × Option FieldType × List (Nat × Nat × Nat × Nat) := (⟨"MaskedCausesLaw", "evaluated", "(LMaskedCauses;III[J)I"⟩, method_11_code, 6, (Option.some Jvm.ClassFile.FieldType.int), [((0 : Nat), (19 : Nat), (22 : Nat), (21 : Nat))])
theorem d_La_evaluated_0 : decode y_La_evaluated.2.1 0 = .ok (.aload 4, 2) := by decide +kernel
theorem d_La_evaluated_2 : decode y_La_evaluated.2.1 2 = .ok (.iconst 0, 1) := by decide +kernel
theorem d_La_evaluated_3 : decode y_La_evaluated.2.1 3 = .ok (.aload_n 0, 1) := by decide +kernel
theorem d_La_evaluated_4 : decode y_La_evaluated.2.1 4 = .ok (.iload_n 1, 1) := by decide +kernel
theorem d_La_evaluated_5 : decode y_La_evaluated.2.1 5 = .ok (.iload_n 2, 1) := by decide +kernel
theorem d_La_evaluated_6 : decode y_La_evaluated.2.1 6 = .ok (.iload_n 3, 1) := by decide +kernel
theorem d_La_evaluated_7 : decode y_La_evaluated.2.1 7 = .ok (.invokevirtual 45, 3) := by decide +kernel
theorem d_La_evaluated_10 : decode y_La_evaluated.2.1 10 = .ok (.ifCond .eq 7, 3) := by decide +kernel
theorem d_La_evaluated_13 : decode y_La_evaluated.2.1 13 = .ok (.lconst 1, 1) := by decide +kernel
theorem d_La_evaluated_14 : decode y_La_evaluated.2.1 14 = .ok (.goto 4, 3) := by decide +kernel
theorem d_La_evaluated_17 : decode y_La_evaluated.2.1 17 = .ok (.lconst 0, 1) := by decide +kernel
theorem d_La_evaluated_18 : decode y_La_evaluated.2.1 18 = .ok (.lastore, 1) := by decide +kernel
theorem d_La_evaluated_19 : decode y_La_evaluated.2.1 19 = .ok (.goto 7, 3) := by decide +kernel
theorem d_La_evaluated_22 : decode y_La_evaluated.2.1 22 = .ok (.astore 5, 2) := by decide +kernel
theorem d_La_evaluated_24 : decode y_La_evaluated.2.1 24 = .ok (.iconst 1, 1) := by decide +kernel
theorem d_La_evaluated_25 : decode y_La_evaluated.2.1 25 = .ok (.ireturn, 1) := by decide +kernel
theorem d_La_evaluated_26 : decode y_La_evaluated.2.1 26 = .ok (.iconst 0, 1) := by decide +kernel
theorem d_La_evaluated_27 : decode y_La_evaluated.2.1 27 = .ok (.ireturn, 1) := by decide +kernel
def y_La_solve : MethodName × ByteArray × Nat × Option FieldType × List (Nat × Nat × Nat × Nat) := (⟨"MaskedCausesLaw", "solve", "(LMaskedCauses;III[J)I"⟩, method_12_code, 6, (Option.some Jvm.ClassFile.FieldType.int), [((0 : Nat), (12 : Nat), (15 : Nat), (21 : Nat)), ((0 : Nat), (12 : Nat), (19 : Nat), (15 : Nat))])
theorem d_La_solve_0 : decode y_La_solve.2.1 0 = .ok (.aload 4, 2) := by decide +kernel
theorem d_La_solve_2 : decode y_La_solve.2.1 2 = .ok (.iconst 0, 1) := by decide +kernel
theorem d_La_solve_3 : decode y_La_solve.2.1 3 = .ok (.aload_n 0, 1) := by decide +kernel
theorem d_La_solve_4 : decode y_La_solve.2.1 4 = .ok (.iload_n 1, 1) := by decide +kernel
theorem d_La_solve_5 : decode y_La_solve.2.1 5 = .ok (.iload_n 2, 1) := by decide +kernel
theorem d_La_solve_6 : decode y_La_solve.2.1 6 = .ok (.iload_n 3, 1) := by decide +kernel
theorem d_La_solve_7 : decode y_La_solve.2.1 7 = .ok (.invokevirtual 49, 3) := by decide +kernel
theorem d_La_solve_10 : decode y_La_solve.2.1 10 = .ok (.i2l, 1) := by decide +kernel
theorem d_La_solve_11 : decode y_La_solve.2.1 11 = .ok (.lastore, 1) := by decide +kernel
theorem d_La_solve_12 : decode y_La_solve.2.1 12 = .ok (.goto 11, 3) := by decide +kernel
theorem d_La_solve_15 : decode y_La_solve.2.1 15 = .ok (.astore 5, 2) := by decide +kernel
theorem d_La_solve_17 : decode y_La_solve.2.1 17 = .ok (.iconst 1, 1) := by decide +kernel
theorem d_La_solve_18 : decode y_La_solve.2.1 18 = .ok (.ireturn, 1) := by decide +kernel
theorem d_La_solve_19 : decode y_La_solve.2.1 19 = .ok (.astore 5, 2) := by decide +kernel
theorem d_La_solve_21 : decode y_La_solve.2.1 21 = .ok (.iconst 2, 1) := by decide +kernel
theorem d_La_solve_22 : decode y_La_solve.2.1 22 = .ok (.ireturn, 1) := by decide +kernel
theorem d_La_solve_23 : decode y_La_solve.2.1 23 = .ok (.iconst 0, 1) := by decide +kernel
theorem d_La_solve_24 : decode y_La_solve.2.1 24 = .ok (.ireturn, 1) := by decide +kernel
def y_La_suite : MethodName × ByteArray × Nat × Option FieldType × List (Nat × Nat × Nat × Nat) := (⟨"MaskedCausesLaw", "suite", "(LMaskedCauses;II[J)I"⟩, method_13_code, 5, (Option.some Jvm.ClassFile.FieldType.int), [((0 : Nat), (10 : Nat), (13 : Nat), (21 : Nat)), ((0 : Nat), (10 : Nat), (17 : Nat), (15 : Nat))])
theorem d_La_suite_0 : decode y_La_suite.2.1 0 = .ok (.aload_n 3, 1) := by decide +kernel
theorem d_La_suite_1 : decode y_La_suite.2.1 1 = .ok (.iconst 0, 1) := by decide +kernel
theorem d_La_suite_2 : decode y_La_suite.2.1 2 = .ok (.aload_n 0, 1) := by decide +kernel
theorem d_La_suite_3 : decode y_La_suite.2.1 3 = .ok (.iload_n 1, 1) := by decide +kernel
theorem d_La_suite_4 : decode y_La_suite.2.1 4 = .ok (.iload_n 2, 1) := by decide +kernel
theorem d_La_suite_5 : decode y_La_suite.2.1 5 = .ok (.invokevirtual 52, 3) := by decide +kernel
theorem d_La_suite_8 : decode y_La_suite.2.1 8 = .ok (.i2l, 1) := by decide +kernel
theorem d_La_suite_9 : decode y_La_suite.2.1 9 = .ok (.lastore, 1) := by decide +kernel
theorem d_La_suite_10 : decode y_La_suite.2.1 10 = .ok (.goto 11, 3) := by decide +kernel
theorem d_La_suite_13 : decode y_La_suite.2.1 13 = .ok (.astore 4, 2) := by decide +kernel
theorem d_La_suite_15 : decode y_La_suite.2.1 15 = .ok (.iconst 1, 1) := by decide +kernel
theorem d_La_suite_16 : decode y_La_suite.2.1 16 = .ok (.ireturn, 1) := by decide +kernel
theorem d_La_suite_17 : decode y_La_suite.2.1 17 = .ok (.astore 4, 2) := by decide +kernel
theorem d_La_suite_19 : decode y_La_suite.2.1 19 = .ok (.iconst 2, 1) := by decide +kernel
theorem d_La_suite_20 : decode y_La_suite.2.1 20 = .ok (.ireturn, 1) := by decide +kernel
theorem d_La_suite_21 : decode y_La_suite.2.1 21 = .ok (.iconst 0, 1) := by decide +kernel
theorem d_La_suite_22 : decode y_La_suite.2.1 22 = .ok (.ireturn, 1) := by decide +kernel
def y_La_least : MethodName × ByteArray × Nat × Option FieldType × List (Nat × Nat × Nat × Nat) := (⟨"MaskedCausesLaw", "least", "(LMaskedCauses;II[J)I"⟩, method_14_code, 5, (Option.some Jvm.ClassFile.FieldType.int), [((0 : Nat), (10 : Nat), (13 : Nat), (21 : Nat)), ((0 : Nat), (10 : Nat), (17 : Nat), (15 : Nat))])
theorem d_La_least_0 : decode y_La_least.2.1 0 = .ok (.aload_n 3, 1) := by decide +kernel
theorem d_La_least_1 : decode y_La_least.2.1 1 = .ok (.iconst 0, 1) := by decide +kernel
theorem d_La_least_2 : decode y_La_least.2.1 2 = .ok (.aload_n 0, 1) := by decide +kernel
theorem d_La_least_3 : decode y_La_least.2.1 3 = .ok (.iload_n 1, 1) := by decide +kernel
theorem d_La_least_4 : decode y_La_least.2.1 4 = .ok (.iload_n 2, 1) := by decide +kernel
theorem d_La_least_5 : decode y_La_least.2.1 5 = .ok (.invokevirtual 55, 3) := by decide +kernel
theorem d_La_least_8 : decode y_La_least.2.1 8 = .ok (.i2l, 1) := by decide +kernel
theorem d_La_least_9 : decode y_La_least.2.1 9 = .ok (.lastore, 1) := by decide +kernel
theorem d_La_least_10 : decode y_La_least.2.1 10 = .ok (.goto 11, 3) := by decide +kernel
theorem d_La_least_13 : decode y_La_least.2.1 13 = .ok (.astore 4, 2) := by decide +kernel
theorem d_La_least_15 : decode y_La_least.2.1 15 = .ok (.iconst 1, 1) := by decide +kernel
theorem d_La_least_16 : decode y_La_least.2.1 16 = .ok (.ireturn, 1) := by decide +kernel
theorem d_La_least_17 : decode y_La_least.2.1 17 = .ok (.astore 4, 2) := by decide +kernel
theorem d_La_least_19 : decode y_La_least.2.1 19 = .ok (.iconst 2, 1) := by decide +kernel
theorem d_La_least_20 : decode y_La_least.2.1 20 = .ok (.ireturn, 1) := by decide +kernel
theorem d_La_least_21 : decode y_La_least.2.1 21 = .ok (.iconst 0, 1) := by decide +kernel
theorem d_La_least_22 : decode y_La_least.2.1 22 = .ok (.ireturn, 1) := by decide +kernel
def y_La_keep : MethodName × ByteArray × Nat × Option FieldType × List (Nat × Nat × Nat × Nat) := (⟨"MaskedCausesLaw", "keep", "(LMaskedCauses;III[J)I"⟩, method_15_code, 6, (Option.some Jvm.ClassFile.FieldType.int), [((0 : Nat), (12 : Nat), (15 : Nat), (13 : Nat)), ((0 : Nat), (12 : Nat), (19 : Nat), (15 : Nat))])
theorem d_La_keep_0 : decode y_La_keep.2.1 0 = .ok (.aload 4, 2) := by decide +kernel
theorem d_La_keep_2 : decode y_La_keep.2.1 2 = .ok (.iconst 0, 1) := by decide +kernel
theorem d_La_keep_3 : decode y_La_keep.2.1 3 = .ok (.aload_n 0, 1) := by decide +kernel
theorem d_La_keep_4 : decode y_La_keep.2.1 4 = .ok (.iload_n 1, 1) := by decide +kernel
theorem d_La_keep_5 : decode y_La_keep.2.1 5 = .ok (.iload_n 2, 1) := by decide +kernel
theorem d_La_keep_6 : decode y_La_keep.2.1 6 = .ok (.iload_n 3, 1) := by decide +kernel
theorem d_La_keep_7 : decode y_La_keep.2.1 7 = .ok (.invokevirtual 58, 3) := by decide +kernel
theorem d_La_keep_10 : decode y_La_keep.2.1 10 = .ok (.i2l, 1) := by decide +kernel
theorem d_La_keep_11 : decode y_La_keep.2.1 11 = .ok (.lastore, 1) := by decide +kernel
theorem d_La_keep_12 : decode y_La_keep.2.1 12 = .ok (.goto 11, 3) := by decide +kernel
theorem d_La_keep_15 : decode y_La_keep.2.1 15 = .ok (.astore 5, 2) := by decide +kernel
theorem d_La_keep_17 : decode y_La_keep.2.1 17 = .ok (.iconst 1, 1) := by decide +kernel
theorem d_La_keep_18 : decode y_La_keep.2.1 18 = .ok (.ireturn, 1) := by decide +kernel
theorem d_La_keep_19 : decode y_La_keep.2.1 19 = .ok (.astore 5, 2) := by decide +kernel
theorem d_La_keep_21 : decode y_La_keep.2.1 21 = .ok (.iconst 2, 1) := by decide +kernel
theorem d_La_keep_22 : decode y_La_keep.2.1 22 = .ok (.ireturn, 1) := by decide +kernel
theorem d_La_keep_23 : decode y_La_keep.2.1 23 = .ok (.iconst 0, 1) := by decide +kernel
theorem d_La_keep_24 : decode y_La_keep.2.1 24 = .ok (.ireturn, 1) := by decide +kernel
def y_La_covered : MethodName × ByteArray × Nat × Option FieldType × List (Nat × Nat × Nat × Nat) := (⟨"MaskedCausesLaw", "covered", "(LMaskedCauses;III[J)I"⟩, method_16_code, 6, (Option.some Jvm.ClassFile.FieldType.int), [((0 : Nat), (19 : Nat), (22 : Nat), (21 : Nat)), ((0 : Nat), (19 : Nat), (26 : Nat), (15 : Nat))])
theorem d_La_covered_0 : decode y_La_covered.2.1 0 = .ok (.aload 4, 2) := by decide +kernel
theorem d_La_covered_2 : decode y_La_covered.2.1 2 = .ok (.iconst 0, 1) := by decide +kernel
theorem d_La_covered_3 : decode y_La_covered.2.1 3 = .ok (.aload_n 0, 1) := by decide +kernel
theorem d_La_covered_4 : decode y_La_covered.2.1 4 = .ok (.iload_n 1, 1) := by decide +kernel
theorem d_La_covered_5 : decode y_La_covered.2.1 5 = .ok (.iload_n 2, 1) := by decide +kernel
theorem d_La_covered_6 : decode y_La_covered.2.1 6 = .ok (.iload_n 3, 1) := by decide +kernel
theorem d_La_covered_7 : decode y_La_covered.2.1 7 = .ok (.invokevirtual 61, 3) := by decide +kernel
theorem d_La_covered_10 : decode y_La_covered.2.1 10 = .ok (.ifCond .eq 7, 3) := by decide +kernel
theorem d_La_covered_13 : decode y_La_covered.2.1 13 = .ok (.lconst 1, 1) := by decide +kernel
theorem d_La_covered_14 : decode y_La_covered.2.1 14 = .ok (.goto 4, 3) := by decide +kernel
theorem d_La_covered_17 : decode y_La_covered.2.1 17 = .ok (.lconst 0, 1) := by decide +kernel
theorem d_La_covered_18 : decode y_La_covered.2.1 18 = .ok (.lastore, 1) := by decide +kernel
theorem d_La_covered_19 : decode y_La_covered.2.1 19 = .ok (.goto 11, 3) := by decide +kernel
theorem d_La_covered_22 : decode y_La_covered.2.1 22 = .ok (.astore 5, 2) := by decide +kernel
theorem d_La_covered_24 : decode y_La_covered.2.1 24 = .ok (.iconst 1, 1) := by decide +kernel
theorem d_La_covered_25 : decode y_La_covered.2.1 25 = .ok (.ireturn, 1) := by decide +kernel
theorem d_La_covered_26 : decode y_La_covered.2.1 26 = .ok (.astore 5, 2) := by decide +kernel
theorem d_La_covered_28 : decode y_La_covered.2.1 28 = .ok (.iconst 2, 1) := by decide +kernel
theorem d_La_covered_29 : decode y_La_covered.2.1 29 = .ok (.ireturn, 1) := by decide +kernel
theorem d_La_covered_30 : decode y_La_covered.2.1 30 = .ok (.iconst 0, 1) := by decide +kernel
theorem d_La_covered_31 : decode y_La_covered.2.1 31 = .ok (.ireturn, 1) := by decide +kernel
def y_La_missing : MethodName × ByteArray × Nat × Option FieldType × List (Nat × Nat × Nat × Nat) := (⟨"MaskedCausesLaw", "missing", "(LMaskedCauses;II[J)I"⟩, method_17_code, 5, (Option.some Jvm.ClassFile.FieldType.int), [((0 : Nat), (10 : Nat), (13 : Nat), (21 : Nat)), ((0 : Nat), (10 : Nat), (17 : Nat), (15 : Nat))])
theorem d_La_missing_0 : decode y_La_missing.2.1 0 = .ok (.aload_n 3, 1) := by decide +kernel
theorem d_La_missing_1 : decode y_La_missing.2.1 1 = .ok (.iconst 0, 1) := by decide +kernel
theorem d_La_missing_2 : decode y_La_missing.2.1 2 = .ok (.aload_n 0, 1) := by decide +kernel
theorem d_La_missing_3 : decode y_La_missing.2.1 3 = .ok (.iload_n 1, 1) := by decide +kernel
theorem d_La_missing_4 : decode y_La_missing.2.1 4 = .ok (.iload_n 2, 1) := by decide +kernel
theorem d_La_missing_5 : decode y_La_missing.2.1 5 = .ok (.invokevirtual 64, 3) := by decide +kernel
theorem d_La_missing_8 : decode y_La_missing.2.1 8 = .ok (.i2l, 1) := by decide +kernel
theorem d_La_missing_9 : decode y_La_missing.2.1 9 = .ok (.lastore, 1) := by decide +kernel
theorem d_La_missing_10 : decode y_La_missing.2.1 10 = .ok (.goto 11, 3) := by decide +kernel
theorem d_La_missing_13 : decode y_La_missing.2.1 13 = .ok (.astore 4, 2) := by decide +kernel
theorem d_La_missing_15 : decode y_La_missing.2.1 15 = .ok (.iconst 1, 1) := by decide +kernel
theorem d_La_missing_16 : decode y_La_missing.2.1 16 = .ok (.ireturn, 1) := by decide +kernel
theorem d_La_missing_17 : decode y_La_missing.2.1 17 = .ok (.astore 4, 2) := by decide +kernel
theorem d_La_missing_19 : decode y_La_missing.2.1 19 = .ok (.iconst 2, 1) := by decide +kernel
theorem d_La_missing_20 : decode y_La_missing.2.1 20 = .ok (.ireturn, 1) := by decide +kernel
theorem d_La_missing_21 : decode y_La_missing.2.1 21 = .ok (.iconst 0, 1) := by decide +kernel
theorem d_La_missing_22 : decode y_La_missing.2.1 22 = .ok (.ireturn, 1) := by decide +kernel
def y_La_law : MethodName × ByteArray × Nat × Option FieldType × List (Nat × Nat × Nat × Nat) := (x, code, 7, ret, [])
theorem d_La_law_0 : decode y_La_law.2.1 0 = .ok (.new 8, 3) := by decide +kernel
theorem d_La_law_3 : decode y_La_law.2.1 3 = .ok (.dup, 1) := by decide +kernel
theorem d_La_law_4 : decode y_La_law.2.1 4 = .ok (.invokespecial 67, 3) := by decide +kernel
theorem d_La_law_7 : decode y_La_law.2.1 7 = .ok (.astore_n 1, 1) := by decide +kernel
theorem d_La_law_8 : decode y_La_law.2.1 8 = .ok (.new 68, 3) := by decide +kernel
theorem d_La_law_11 : decode y_La_law.2.1 11 = .ok (.dup, 1) := by decide +kernel
theorem d_La_law_12 : decode y_La_law.2.1 12 = .ok (.invokespecial 70, 3) := by decide +kernel
theorem d_La_law_15 : decode y_La_law.2.1 15 = .ok (.astore_n 2, 1) := by decide +kernel
theorem d_La_law_16 : decode y_La_law.2.1 16 = .ok (.iconst 1, 1) := by decide +kernel
theorem d_La_law_17 : decode y_La_law.2.1 17 = .ok (.newarray .long, 2) := by decide +kernel
theorem d_La_law_19 : decode y_La_law.2.1 19 = .ok (.astore_n 3, 1) := by decide +kernel
theorem d_La_law_20 : decode y_La_law.2.1 20 = .ok (.iconst 0, 1) := by decide +kernel
theorem d_La_law_21 : decode y_La_law.2.1 21 = .ok (.istore 4, 2) := by decide +kernel
theorem d_La_law_23 : decode y_La_law.2.1 23 = .ok (.iload 4, 2) := by decide +kernel
theorem d_La_law_25 : decode y_La_law.2.1 25 = .ok (.aload_n 0, 1) := by decide +kernel
theorem d_La_law_26 : decode y_La_law.2.1 26 = .ok (.arraylength, 1) := by decide +kernel
theorem d_La_law_27 : decode y_La_law.2.1 27 = .ok (.iconst 5, 1) := by decide +kernel
theorem d_La_law_28 : decode y_La_law.2.1 28 = .ok (.isub, 1) := by decide +kernel
theorem d_La_law_29 : decode y_La_law.2.1 29 = .ok (.if_icmp .gt 1322, 3) := by decide +kernel
theorem d_La_law_32 : decode y_La_law.2.1 32 = .ok (.aload_n 0, 1) := by decide +kernel
theorem d_La_law_33 : decode y_La_law.2.1 33 = .ok (.iload 4, 2) := by decide +kernel
theorem d_La_law_35 : decode y_La_law.2.1 35 = .ok (.iaload, 1) := by decide +kernel
theorem d_La_law_36 : decode y_La_law.2.1 36 = .ok (.bipush 31, 2) := by decide +kernel
theorem d_La_law_38 : decode y_La_law.2.1 38 = .ok (.iand, 1) := by decide +kernel
theorem d_La_law_39 : decode y_La_law.2.1 39 = .ok (.tableswitch 1306 0 20 #[97, 165, 257, 284, 297, 369, 425, 481, 537, 617, 692, 779, 859, 927, 952, 1020, 1100, 1113, 1200, 1268, 1281], 97) := by decide +kernel
theorem d_La_law_136 : decode y_La_law.2.1 136 = .ok (.aload_n 1, 1) := by decide +kernel
theorem d_La_law_137 : decode y_La_law.2.1 137 = .ok (.aload_n 0, 1) := by decide +kernel
theorem d_La_law_138 : decode y_La_law.2.1 138 = .ok (.iload 4, 2) := by decide +kernel
theorem d_La_law_140 : decode y_La_law.2.1 140 = .ok (.iconst 1, 1) := by decide +kernel
theorem d_La_law_141 : decode y_La_law.2.1 141 = .ok (.iadd, 1) := by decide +kernel
theorem d_La_law_142 : decode y_La_law.2.1 142 = .ok (.iaload, 1) := by decide +kernel
theorem d_La_law_143 : decode y_La_law.2.1 143 = .ok (.aload_n 0, 1) := by decide +kernel
theorem d_La_law_144 : decode y_La_law.2.1 144 = .ok (.iload 4, 2) := by decide +kernel
theorem d_La_law_146 : decode y_La_law.2.1 146 = .ok (.iconst 2, 1) := by decide +kernel
theorem d_La_law_147 : decode y_La_law.2.1 147 = .ok (.iadd, 1) := by decide +kernel
theorem d_La_law_148 : decode y_La_law.2.1 148 = .ok (.iaload, 1) := by decide +kernel
theorem d_La_law_149 : decode y_La_law.2.1 149 = .ok (.aload_n 3, 1) := by decide +kernel
theorem d_La_law_150 : decode y_La_law.2.1 150 = .ok (.invokestatic 71, 3) := by decide +kernel
theorem d_La_law_153 : decode y_La_law.2.1 153 = .ok (.istore 5, 2) := by decide +kernel
theorem d_La_law_155 : decode y_La_law.2.1 155 = .ok (.aload_n 2, 1) := by decide +kernel
theorem d_La_law_156 : decode y_La_law.2.1 156 = .ok (.aload_n 0, 1) := by decide +kernel
theorem d_La_law_157 : decode y_La_law.2.1 157 = .ok (.iload 4, 2) := by decide +kernel
theorem d_La_law_159 : decode y_La_law.2.1 159 = .ok (.iconst 1, 1) := by decide +kernel
theorem d_La_law_160 : decode y_La_law.2.1 160 = .ok (.iadd, 1) := by decide +kernel
theorem d_La_law_161 : decode y_La_law.2.1 161 = .ok (.iaload, 1) := by decide +kernel
theorem d_La_law_162 : decode y_La_law.2.1 162 = .ok (.aload_n 0, 1) := by decide +kernel
theorem d_La_law_163 : decode y_La_law.2.1 163 = .ok (.iload 4, 2) := by decide +kernel
theorem d_La_law_165 : decode y_La_law.2.1 165 = .ok (.iconst 2, 1) := by decide +kernel
theorem d_La_law_166 : decode y_La_law.2.1 166 = .ok (.iadd, 1) := by decide +kernel
theorem d_La_law_167 : decode y_La_law.2.1 167 = .ok (.iaload, 1) := by decide +kernel
theorem d_La_law_168 : decode y_La_law.2.1 168 = .ok (.invokevirtual 76, 3) := by decide +kernel
theorem d_La_law_171 : decode y_La_law.2.1 171 = .ok (.istore 6, 2) := by decide +kernel
theorem d_La_law_173 : decode y_La_law.2.1 173 = .ok (.aload_n 2, 1) := by decide +kernel
theorem d_La_law_174 : decode y_La_law.2.1 174 = .ok (.invokevirtual 77, 3) := by decide +kernel
theorem d_La_law_177 : decode y_La_law.2.1 177 = .ok (.iload 5, 2) := by decide +kernel
theorem d_La_law_179 : decode y_La_law.2.1 179 = .ok (.if_icmp .eq 5, 3) := by decide +kernel
theorem d_La_law_182 : decode y_La_law.2.1 182 = .ok (.iconst 0, 1) := by decide +kernel
theorem d_La_law_183 : decode y_La_law.2.1 183 = .ok (.ireturn, 1) := by decide +kernel
theorem d_La_law_184 : decode y_La_law.2.1 184 = .ok (.iload 5, 2) := by decide +kernel
theorem d_La_law_186 : decode y_La_law.2.1 186 = .ok (.ifCond .ne 15, 3) := by decide +kernel
theorem d_La_law_189 : decode y_La_law.2.1 189 = .ok (.aload_n 3, 1) := by decide +kernel
theorem d_La_law_190 : decode y_La_law.2.1 190 = .ok (.iconst 0, 1) := by decide +kernel
theorem d_La_law_191 : decode y_La_law.2.1 191 = .ok (.laload, 1) := by decide +kernel
theorem d_La_law_192 : decode y_La_law.2.1 192 = .ok (.iload 6, 2) := by decide +kernel
theorem d_La_law_194 : decode y_La_law.2.1 194 = .ok (.i2l, 1) := by decide +kernel
theorem d_La_law_195 : decode y_La_law.2.1 195 = .ok (.lcmp, 1) := by decide +kernel
theorem d_La_law_196 : decode y_La_law.2.1 196 = .ok (.ifCond .eq 5, 3) := by decide +kernel
theorem d_La_law_199 : decode y_La_law.2.1 199 = .ok (.iconst 0, 1) := by decide +kernel
theorem d_La_law_200 : decode y_La_law.2.1 200 = .ok (.ireturn, 1) := by decide +kernel
theorem d_La_law_201 : decode y_La_law.2.1 201 = .ok (.goto 1144, 3) := by decide +kernel
theorem d_La_law_204 : decode y_La_law.2.1 204 = .ok (.aload_n 1, 1) := by decide +kernel
theorem d_La_law_205 : decode y_La_law.2.1 205 = .ok (.aload_n 0, 1) := by decide +kernel
theorem d_La_law_206 : decode y_La_law.2.1 206 = .ok (.iload 4, 2) := by decide +kernel
theorem d_La_law_208 : decode y_La_law.2.1 208 = .ok (.iconst 1, 1) := by decide +kernel
theorem d_La_law_209 : decode y_La_law.2.1 209 = .ok (.iadd, 1) := by decide +kernel
theorem d_La_law_210 : decode y_La_law.2.1 210 = .ok (.iaload, 1) := by decide +kernel
theorem d_La_law_211 : decode y_La_law.2.1 211 = .ok (.aload_n 0, 1) := by decide +kernel
theorem d_La_law_212 : decode y_La_law.2.1 212 = .ok (.iload 4, 2) := by decide +kernel
theorem d_La_law_214 : decode y_La_law.2.1 214 = .ok (.iconst 2, 1) := by decide +kernel
theorem d_La_law_215 : decode y_La_law.2.1 215 = .ok (.iadd, 1) := by decide +kernel
theorem d_La_law_216 : decode y_La_law.2.1 216 = .ok (.iaload, 1) := by decide +kernel
theorem d_La_law_217 : decode y_La_law.2.1 217 = .ok (.aload_n 0, 1) := by decide +kernel
theorem d_La_law_218 : decode y_La_law.2.1 218 = .ok (.iload 4, 2) := by decide +kernel
theorem d_La_law_220 : decode y_La_law.2.1 220 = .ok (.iconst 3, 1) := by decide +kernel
theorem d_La_law_221 : decode y_La_law.2.1 221 = .ok (.iadd, 1) := by decide +kernel
theorem d_La_law_222 : decode y_La_law.2.1 222 = .ok (.iaload, 1) := by decide +kernel
theorem d_La_law_223 : decode y_La_law.2.1 223 = .ok (.aload_n 0, 1) := by decide +kernel
theorem d_La_law_224 : decode y_La_law.2.1 224 = .ok (.iload 4, 2) := by decide +kernel
theorem d_La_law_226 : decode y_La_law.2.1 226 = .ok (.iconst 4, 1) := by decide +kernel
theorem d_La_law_227 : decode y_La_law.2.1 227 = .ok (.iadd, 1) := by decide +kernel
theorem d_La_law_228 : decode y_La_law.2.1 228 = .ok (.iaload, 1) := by decide +kernel
theorem d_La_law_229 : decode y_La_law.2.1 229 = .ok (.aload_n 3, 1) := by decide +kernel
theorem d_La_law_230 : decode y_La_law.2.1 230 = .ok (.invokestatic 81, 3) := by decide +kernel
theorem d_La_law_233 : decode y_La_law.2.1 233 = .ok (.istore 5, 2) := by decide +kernel
theorem d_La_law_235 : decode y_La_law.2.1 235 = .ok (.aload_n 2, 1) := by decide +kernel
theorem d_La_law_236 : decode y_La_law.2.1 236 = .ok (.aload_n 0, 1) := by decide +kernel
theorem d_La_law_237 : decode y_La_law.2.1 237 = .ok (.iload 4, 2) := by decide +kernel
theorem d_La_law_239 : decode y_La_law.2.1 239 = .ok (.iconst 1, 1) := by decide +kernel
theorem d_La_law_240 : decode y_La_law.2.1 240 = .ok (.iadd, 1) := by decide +kernel
theorem d_La_law_241 : decode y_La_law.2.1 241 = .ok (.iaload, 1) := by decide +kernel
theorem d_La_law_242 : decode y_La_law.2.1 242 = .ok (.aload_n 0, 1) := by decide +kernel
theorem d_La_law_243 : decode y_La_law.2.1 243 = .ok (.iload 4, 2) := by decide +kernel
theorem d_La_law_245 : decode y_La_law.2.1 245 = .ok (.iconst 2, 1) := by decide +kernel
theorem d_La_law_246 : decode y_La_law.2.1 246 = .ok (.iadd, 1) := by decide +kernel
theorem d_La_law_247 : decode y_La_law.2.1 247 = .ok (.iaload, 1) := by decide +kernel
theorem d_La_law_248 : decode y_La_law.2.1 248 = .ok (.aload_n 0, 1) := by decide +kernel
theorem d_La_law_249 : decode y_La_law.2.1 249 = .ok (.iload 4, 2) := by decide +kernel
theorem d_La_law_251 : decode y_La_law.2.1 251 = .ok (.iconst 3, 1) := by decide +kernel
theorem d_La_law_252 : decode y_La_law.2.1 252 = .ok (.iadd, 1) := by decide +kernel
theorem d_La_law_253 : decode y_La_law.2.1 253 = .ok (.iaload, 1) := by decide +kernel
theorem d_La_law_254 : decode y_La_law.2.1 254 = .ok (.aload_n 0, 1) := by decide +kernel
theorem d_La_law_255 : decode y_La_law.2.1 255 = .ok (.iload 4, 2) := by decide +kernel
theorem d_La_law_257 : decode y_La_law.2.1 257 = .ok (.iconst 4, 1) := by decide +kernel
theorem d_La_law_258 : decode y_La_law.2.1 258 = .ok (.iadd, 1) := by decide +kernel
theorem d_La_law_259 : decode y_La_law.2.1 259 = .ok (.iaload, 1) := by decide +kernel
theorem d_La_law_260 : decode y_La_law.2.1 260 = .ok (.invokevirtual 84, 3) := by decide +kernel
theorem d_La_law_263 : decode y_La_law.2.1 263 = .ok (.istore 6, 2) := by decide +kernel
theorem d_La_law_265 : decode y_La_law.2.1 265 = .ok (.aload_n 2, 1) := by decide +kernel
theorem d_La_law_266 : decode y_La_law.2.1 266 = .ok (.invokevirtual 77, 3) := by decide +kernel
theorem d_La_law_269 : decode y_La_law.2.1 269 = .ok (.iload 5, 2) := by decide +kernel
theorem d_La_law_271 : decode y_La_law.2.1 271 = .ok (.if_icmp .eq 5, 3) := by decide +kernel
theorem d_La_law_274 : decode y_La_law.2.1 274 = .ok (.iconst 0, 1) := by decide +kernel
theorem d_La_law_275 : decode y_La_law.2.1 275 = .ok (.ireturn, 1) := by decide +kernel
theorem d_La_law_276 : decode y_La_law.2.1 276 = .ok (.iload 5, 2) := by decide +kernel
theorem d_La_law_278 : decode y_La_law.2.1 278 = .ok (.ifCond .ne 15, 3) := by decide +kernel
theorem d_La_law_281 : decode y_La_law.2.1 281 = .ok (.aload_n 3, 1) := by decide +kernel
theorem d_La_law_282 : decode y_La_law.2.1 282 = .ok (.iconst 0, 1) := by decide +kernel
theorem d_La_law_283 : decode y_La_law.2.1 283 = .ok (.laload, 1) := by decide +kernel
theorem d_La_law_284 : decode y_La_law.2.1 284 = .ok (.iload 6, 2) := by decide +kernel
theorem d_La_law_286 : decode y_La_law.2.1 286 = .ok (.i2l, 1) := by decide +kernel
theorem d_La_law_287 : decode y_La_law.2.1 287 = .ok (.lcmp, 1) := by decide +kernel
theorem d_La_law_288 : decode y_La_law.2.1 288 = .ok (.ifCond .eq 5, 3) := by decide +kernel
theorem d_La_law_291 : decode y_La_law.2.1 291 = .ok (.iconst 0, 1) := by decide +kernel
theorem d_La_law_292 : decode y_La_law.2.1 292 = .ok (.ireturn, 1) := by decide +kernel
theorem d_La_law_293 : decode y_La_law.2.1 293 = .ok (.goto 1052, 3) := by decide +kernel
theorem d_La_law_296 : decode y_La_law.2.1 296 = .ok (.aload_n 1, 1) := by decide +kernel
theorem d_La_law_297 : decode y_La_law.2.1 297 = .ok (.aload_n 0, 1) := by decide +kernel
theorem d_La_law_298 : decode y_La_law.2.1 298 = .ok (.iload 4, 2) := by decide +kernel
theorem d_La_law_300 : decode y_La_law.2.1 300 = .ok (.iconst 1, 1) := by decide +kernel
theorem d_La_law_301 : decode y_La_law.2.1 301 = .ok (.iadd, 1) := by decide +kernel
theorem d_La_law_302 : decode y_La_law.2.1 302 = .ok (.iaload, 1) := by decide +kernel
theorem d_La_law_303 : decode y_La_law.2.1 303 = .ok (.i2c, 1) := by decide +kernel
theorem d_La_law_304 : decode y_La_law.2.1 304 = .ok (.invokevirtual 85, 3) := by decide +kernel
theorem d_La_law_307 : decode y_La_law.2.1 307 = .ok (.aload_n 2, 1) := by decide +kernel
theorem d_La_law_308 : decode y_La_law.2.1 308 = .ok (.aload_n 0, 1) := by decide +kernel
theorem d_La_law_309 : decode y_La_law.2.1 309 = .ok (.iload 4, 2) := by decide +kernel
theorem d_La_law_311 : decode y_La_law.2.1 311 = .ok (.iconst 1, 1) := by decide +kernel
theorem d_La_law_312 : decode y_La_law.2.1 312 = .ok (.iadd, 1) := by decide +kernel
theorem d_La_law_313 : decode y_La_law.2.1 313 = .ok (.iaload, 1) := by decide +kernel
theorem d_La_law_314 : decode y_La_law.2.1 314 = .ok (.i2c, 1) := by decide +kernel
theorem d_La_law_315 : decode y_La_law.2.1 315 = .ok (.invokevirtual 89, 3) := by decide +kernel
theorem d_La_law_318 : decode y_La_law.2.1 318 = .ok (.if_icmp .eq 1027, 3) := by decide +kernel
theorem d_La_law_321 : decode y_La_law.2.1 321 = .ok (.iconst 0, 1) := by decide +kernel
theorem d_La_law_322 : decode y_La_law.2.1 322 = .ok (.ireturn, 1) := by decide +kernel
theorem d_La_law_323 : decode y_La_law.2.1 323 = .ok (.aload_n 1, 1) := by decide +kernel
theorem d_La_law_324 : decode y_La_law.2.1 324 = .ok (.invokevirtual 90, 3) := by decide +kernel
theorem d_La_law_327 : decode y_La_law.2.1 327 = .ok (.aload_n 2, 1) := by decide +kernel
theorem d_La_law_328 : decode y_La_law.2.1 328 = .ok (.invokevirtual 93, 3) := by decide +kernel
theorem d_La_law_331 : decode y_La_law.2.1 331 = .ok (.if_icmp .eq 1014, 3) := by decide +kernel
theorem d_La_law_334 : decode y_La_law.2.1 334 = .ok (.iconst 0, 1) := by decide +kernel
theorem d_La_law_335 : decode y_La_law.2.1 335 = .ok (.ireturn, 1) := by decide +kernel
theorem d_La_law_336 : decode y_La_law.2.1 336 = .ok (.aload_n 1, 1) := by decide +kernel
theorem d_La_law_337 : decode y_La_law.2.1 337 = .ok (.aload_n 0, 1) := by decide +kernel
theorem d_La_law_338 : decode y_La_law.2.1 338 = .ok (.iload 4, 2) := by decide +kernel
theorem d_La_law_340 : decode y_La_law.2.1 340 = .ok (.iconst 1, 1) := by decide +kernel
theorem d_La_law_341 : decode y_La_law.2.1 341 = .ok (.iadd, 1) := by decide +kernel
theorem d_La_law_342 : decode y_La_law.2.1 342 = .ok (.iaload, 1) := by decide +kernel
theorem d_La_law_343 : decode y_La_law.2.1 343 = .ok (.ifCond .eq 7, 3) := by decide +kernel
theorem d_La_law_346 : decode y_La_law.2.1 346 = .ok (.iconst 1, 1) := by decide +kernel
theorem d_La_law_347 : decode y_La_law.2.1 347 = .ok (.goto 4, 3) := by decide +kernel
theorem d_La_law_350 : decode y_La_law.2.1 350 = .ok (.iconst 0, 1) := by decide +kernel
theorem d_La_law_351 : decode y_La_law.2.1 351 = .ok (.aload_n 3, 1) := by decide +kernel
theorem d_La_law_352 : decode y_La_law.2.1 352 = .ok (.invokestatic 94, 3) := by decide +kernel
theorem d_La_law_355 : decode y_La_law.2.1 355 = .ok (.istore 5, 2) := by decide +kernel
theorem d_La_law_357 : decode y_La_law.2.1 357 = .ok (.aload_n 2, 1) := by decide +kernel
theorem d_La_law_358 : decode y_La_law.2.1 358 = .ok (.aload_n 0, 1) := by decide +kernel
theorem d_La_law_359 : decode y_La_law.2.1 359 = .ok (.iload 4, 2) := by decide +kernel
theorem d_La_law_361 : decode y_La_law.2.1 361 = .ok (.iconst 1, 1) := by decide +kernel
theorem d_La_law_362 : decode y_La_law.2.1 362 = .ok (.iadd, 1) := by decide +kernel
theorem d_La_law_363 : decode y_La_law.2.1 363 = .ok (.iaload, 1) := by decide +kernel
theorem d_La_law_364 : decode y_La_law.2.1 364 = .ok (.ifCond .eq 7, 3) := by decide +kernel
theorem d_La_law_367 : decode y_La_law.2.1 367 = .ok (.iconst 1, 1) := by decide +kernel
theorem d_La_law_368 : decode y_La_law.2.1 368 = .ok (.goto 4, 3) := by decide +kernel
theorem d_La_law_371 : decode y_La_law.2.1 371 = .ok (.iconst 0, 1) := by decide +kernel
theorem d_La_law_372 : decode y_La_law.2.1 372 = .ok (.invokevirtual 97, 3) := by decide +kernel
theorem d_La_law_375 : decode y_La_law.2.1 375 = .ok (.istore 6, 2) := by decide +kernel
theorem d_La_law_377 : decode y_La_law.2.1 377 = .ok (.aload_n 2, 1) := by decide +kernel
theorem d_La_law_378 : decode y_La_law.2.1 378 = .ok (.invokevirtual 77, 3) := by decide +kernel
theorem d_La_law_381 : decode y_La_law.2.1 381 = .ok (.iload 5, 2) := by decide +kernel
theorem d_La_law_383 : decode y_La_law.2.1 383 = .ok (.if_icmp .eq 5, 3) := by decide +kernel
theorem d_La_law_386 : decode y_La_law.2.1 386 = .ok (.iconst 0, 1) := by decide +kernel
theorem d_La_law_387 : decode y_La_law.2.1 387 = .ok (.ireturn, 1) := by decide +kernel
theorem d_La_law_388 : decode y_La_law.2.1 388 = .ok (.iload 5, 2) := by decide +kernel
theorem d_La_law_390 : decode y_La_law.2.1 390 = .ok (.ifCond .ne 15, 3) := by decide +kernel
theorem d_La_law_393 : decode y_La_law.2.1 393 = .ok (.aload_n 3, 1) := by decide +kernel
theorem d_La_law_394 : decode y_La_law.2.1 394 = .ok (.iconst 0, 1) := by decide +kernel
theorem d_La_law_395 : decode y_La_law.2.1 395 = .ok (.laload, 1) := by decide +kernel
theorem d_La_law_396 : decode y_La_law.2.1 396 = .ok (.iload 6, 2) := by decide +kernel
theorem d_La_law_398 : decode y_La_law.2.1 398 = .ok (.i2l, 1) := by decide +kernel
theorem d_La_law_399 : decode y_La_law.2.1 399 = .ok (.lcmp, 1) := by decide +kernel
theorem d_La_law_400 : decode y_La_law.2.1 400 = .ok (.ifCond .eq 5, 3) := by decide +kernel
theorem d_La_law_403 : decode y_La_law.2.1 403 = .ok (.iconst 0, 1) := by decide +kernel
theorem d_La_law_404 : decode y_La_law.2.1 404 = .ok (.ireturn, 1) := by decide +kernel
theorem d_La_law_405 : decode y_La_law.2.1 405 = .ok (.goto 940, 3) := by decide +kernel
theorem d_La_law_408 : decode y_La_law.2.1 408 = .ok (.aload_n 1, 1) := by decide +kernel
theorem d_La_law_409 : decode y_La_law.2.1 409 = .ok (.aload_n 0, 1) := by decide +kernel
theorem d_La_law_410 : decode y_La_law.2.1 410 = .ok (.iload 4, 2) := by decide +kernel
theorem d_La_law_412 : decode y_La_law.2.1 412 = .ok (.iconst 1, 1) := by decide +kernel
theorem d_La_law_413 : decode y_La_law.2.1 413 = .ok (.iadd, 1) := by decide +kernel
theorem d_La_law_414 : decode y_La_law.2.1 414 = .ok (.iaload, 1) := by decide +kernel
theorem d_La_law_415 : decode y_La_law.2.1 415 = .ok (.aload_n 3, 1) := by decide +kernel
theorem d_La_law_416 : decode y_La_law.2.1 416 = .ok (.invokestatic 98, 3) := by decide +kernel
theorem d_La_law_419 : decode y_La_law.2.1 419 = .ok (.istore 5, 2) := by decide +kernel
theorem d_La_law_421 : decode y_La_law.2.1 421 = .ok (.aload_n 2, 1) := by decide +kernel
theorem d_La_law_422 : decode y_La_law.2.1 422 = .ok (.aload_n 0, 1) := by decide +kernel
theorem d_La_law_423 : decode y_La_law.2.1 423 = .ok (.iload 4, 2) := by decide +kernel
theorem d_La_law_425 : decode y_La_law.2.1 425 = .ok (.iconst 1, 1) := by decide +kernel
theorem d_La_law_426 : decode y_La_law.2.1 426 = .ok (.iadd, 1) := by decide +kernel
theorem d_La_law_427 : decode y_La_law.2.1 427 = .ok (.iaload, 1) := by decide +kernel
theorem d_La_law_428 : decode y_La_law.2.1 428 = .ok (.invokevirtual 101, 3) := by decide +kernel
theorem d_La_law_431 : decode y_La_law.2.1 431 = .ok (.istore 6, 2) := by decide +kernel
theorem d_La_law_433 : decode y_La_law.2.1 433 = .ok (.aload_n 2, 1) := by decide +kernel
theorem d_La_law_434 : decode y_La_law.2.1 434 = .ok (.invokevirtual 77, 3) := by decide +kernel
theorem d_La_law_437 : decode y_La_law.2.1 437 = .ok (.iload 5, 2) := by decide +kernel
theorem d_La_law_439 : decode y_La_law.2.1 439 = .ok (.if_icmp .eq 5, 3) := by decide +kernel
theorem d_La_law_442 : decode y_La_law.2.1 442 = .ok (.iconst 0, 1) := by decide +kernel
theorem d_La_law_443 : decode y_La_law.2.1 443 = .ok (.ireturn, 1) := by decide +kernel
theorem d_La_law_444 : decode y_La_law.2.1 444 = .ok (.iload 5, 2) := by decide +kernel
theorem d_La_law_446 : decode y_La_law.2.1 446 = .ok (.ifCond .ne 15, 3) := by decide +kernel
theorem d_La_law_449 : decode y_La_law.2.1 449 = .ok (.aload_n 3, 1) := by decide +kernel
theorem d_La_law_450 : decode y_La_law.2.1 450 = .ok (.iconst 0, 1) := by decide +kernel
theorem d_La_law_451 : decode y_La_law.2.1 451 = .ok (.laload, 1) := by decide +kernel
theorem d_La_law_452 : decode y_La_law.2.1 452 = .ok (.iload 6, 2) := by decide +kernel
theorem d_La_law_454 : decode y_La_law.2.1 454 = .ok (.i2l, 1) := by decide +kernel
theorem d_La_law_455 : decode y_La_law.2.1 455 = .ok (.lcmp, 1) := by decide +kernel
theorem d_La_law_456 : decode y_La_law.2.1 456 = .ok (.ifCond .eq 5, 3) := by decide +kernel
theorem d_La_law_459 : decode y_La_law.2.1 459 = .ok (.iconst 0, 1) := by decide +kernel
theorem d_La_law_460 : decode y_La_law.2.1 460 = .ok (.ireturn, 1) := by decide +kernel
theorem d_La_law_461 : decode y_La_law.2.1 461 = .ok (.goto 884, 3) := by decide +kernel
theorem d_La_law_464 : decode y_La_law.2.1 464 = .ok (.aload_n 1, 1) := by decide +kernel
theorem d_La_law_465 : decode y_La_law.2.1 465 = .ok (.aload_n 0, 1) := by decide +kernel
theorem d_La_law_466 : decode y_La_law.2.1 466 = .ok (.iload 4, 2) := by decide +kernel
theorem d_La_law_468 : decode y_La_law.2.1 468 = .ok (.iconst 1, 1) := by decide +kernel
theorem d_La_law_469 : decode y_La_law.2.1 469 = .ok (.iadd, 1) := by decide +kernel
theorem d_La_law_470 : decode y_La_law.2.1 470 = .ok (.iaload, 1) := by decide +kernel
theorem d_La_law_471 : decode y_La_law.2.1 471 = .ok (.aload_n 3, 1) := by decide +kernel
theorem d_La_law_472 : decode y_La_law.2.1 472 = .ok (.invokestatic 102, 3) := by decide +kernel
theorem d_La_law_475 : decode y_La_law.2.1 475 = .ok (.istore 5, 2) := by decide +kernel
theorem d_La_law_477 : decode y_La_law.2.1 477 = .ok (.aload_n 2, 1) := by decide +kernel
theorem d_La_law_478 : decode y_La_law.2.1 478 = .ok (.aload_n 0, 1) := by decide +kernel
theorem d_La_law_479 : decode y_La_law.2.1 479 = .ok (.iload 4, 2) := by decide +kernel
theorem d_La_law_481 : decode y_La_law.2.1 481 = .ok (.iconst 1, 1) := by decide +kernel
theorem d_La_law_482 : decode y_La_law.2.1 482 = .ok (.iadd, 1) := by decide +kernel
theorem d_La_law_483 : decode y_La_law.2.1 483 = .ok (.iaload, 1) := by decide +kernel
theorem d_La_law_484 : decode y_La_law.2.1 484 = .ok (.invokevirtual 104, 3) := by decide +kernel
theorem d_La_law_487 : decode y_La_law.2.1 487 = .ok (.istore 6, 2) := by decide +kernel
theorem d_La_law_489 : decode y_La_law.2.1 489 = .ok (.aload_n 2, 1) := by decide +kernel
theorem d_La_law_490 : decode y_La_law.2.1 490 = .ok (.invokevirtual 77, 3) := by decide +kernel
theorem d_La_law_493 : decode y_La_law.2.1 493 = .ok (.iload 5, 2) := by decide +kernel
theorem d_La_law_495 : decode y_La_law.2.1 495 = .ok (.if_icmp .eq 5, 3) := by decide +kernel
theorem d_La_law_498 : decode y_La_law.2.1 498 = .ok (.iconst 0, 1) := by decide +kernel
theorem d_La_law_499 : decode y_La_law.2.1 499 = .ok (.ireturn, 1) := by decide +kernel
theorem d_La_law_500 : decode y_La_law.2.1 500 = .ok (.iload 5, 2) := by decide +kernel
theorem d_La_law_502 : decode y_La_law.2.1 502 = .ok (.ifCond .ne 15, 3) := by decide +kernel
theorem d_La_law_505 : decode y_La_law.2.1 505 = .ok (.aload_n 3, 1) := by decide +kernel
theorem d_La_law_506 : decode y_La_law.2.1 506 = .ok (.iconst 0, 1) := by decide +kernel
theorem d_La_law_507 : decode y_La_law.2.1 507 = .ok (.laload, 1) := by decide +kernel
theorem d_La_law_508 : decode y_La_law.2.1 508 = .ok (.iload 6, 2) := by decide +kernel
theorem d_La_law_510 : decode y_La_law.2.1 510 = .ok (.i2l, 1) := by decide +kernel
theorem d_La_law_511 : decode y_La_law.2.1 511 = .ok (.lcmp, 1) := by decide +kernel
theorem d_La_law_512 : decode y_La_law.2.1 512 = .ok (.ifCond .eq 5, 3) := by decide +kernel
theorem d_La_law_515 : decode y_La_law.2.1 515 = .ok (.iconst 0, 1) := by decide +kernel
theorem d_La_law_516 : decode y_La_law.2.1 516 = .ok (.ireturn, 1) := by decide +kernel
theorem d_La_law_517 : decode y_La_law.2.1 517 = .ok (.goto 828, 3) := by decide +kernel
theorem d_La_law_520 : decode y_La_law.2.1 520 = .ok (.aload_n 1, 1) := by decide +kernel
theorem d_La_law_521 : decode y_La_law.2.1 521 = .ok (.aload_n 0, 1) := by decide +kernel
theorem d_La_law_522 : decode y_La_law.2.1 522 = .ok (.iload 4, 2) := by decide +kernel
theorem d_La_law_524 : decode y_La_law.2.1 524 = .ok (.iconst 1, 1) := by decide +kernel
theorem d_La_law_525 : decode y_La_law.2.1 525 = .ok (.iadd, 1) := by decide +kernel
theorem d_La_law_526 : decode y_La_law.2.1 526 = .ok (.iaload, 1) := by decide +kernel
theorem d_La_law_527 : decode y_La_law.2.1 527 = .ok (.aload_n 3, 1) := by decide +kernel
theorem d_La_law_528 : decode y_La_law.2.1 528 = .ok (.invokestatic 105, 3) := by decide +kernel
theorem d_La_law_531 : decode y_La_law.2.1 531 = .ok (.istore 5, 2) := by decide +kernel
theorem d_La_law_533 : decode y_La_law.2.1 533 = .ok (.aload_n 2, 1) := by decide +kernel
theorem d_La_law_534 : decode y_La_law.2.1 534 = .ok (.aload_n 0, 1) := by decide +kernel
theorem d_La_law_535 : decode y_La_law.2.1 535 = .ok (.iload 4, 2) := by decide +kernel
theorem d_La_law_537 : decode y_La_law.2.1 537 = .ok (.iconst 1, 1) := by decide +kernel
theorem d_La_law_538 : decode y_La_law.2.1 538 = .ok (.iadd, 1) := by decide +kernel
theorem d_La_law_539 : decode y_La_law.2.1 539 = .ok (.iaload, 1) := by decide +kernel
theorem d_La_law_540 : decode y_La_law.2.1 540 = .ok (.invokevirtual 107, 3) := by decide +kernel
theorem d_La_law_543 : decode y_La_law.2.1 543 = .ok (.istore 6, 2) := by decide +kernel
theorem d_La_law_545 : decode y_La_law.2.1 545 = .ok (.aload_n 2, 1) := by decide +kernel
theorem d_La_law_546 : decode y_La_law.2.1 546 = .ok (.invokevirtual 77, 3) := by decide +kernel
theorem d_La_law_549 : decode y_La_law.2.1 549 = .ok (.iload 5, 2) := by decide +kernel
theorem d_La_law_551 : decode y_La_law.2.1 551 = .ok (.if_icmp .eq 5, 3) := by decide +kernel
theorem d_La_law_554 : decode y_La_law.2.1 554 = .ok (.iconst 0, 1) := by decide +kernel
theorem d_La_law_555 : decode y_La_law.2.1 555 = .ok (.ireturn, 1) := by decide +kernel
theorem d_La_law_556 : decode y_La_law.2.1 556 = .ok (.iload 5, 2) := by decide +kernel
theorem d_La_law_558 : decode y_La_law.2.1 558 = .ok (.ifCond .ne 15, 3) := by decide +kernel
theorem d_La_law_561 : decode y_La_law.2.1 561 = .ok (.aload_n 3, 1) := by decide +kernel
theorem d_La_law_562 : decode y_La_law.2.1 562 = .ok (.iconst 0, 1) := by decide +kernel
theorem d_La_law_563 : decode y_La_law.2.1 563 = .ok (.laload, 1) := by decide +kernel
theorem d_La_law_564 : decode y_La_law.2.1 564 = .ok (.iload 6, 2) := by decide +kernel
theorem d_La_law_566 : decode y_La_law.2.1 566 = .ok (.i2l, 1) := by decide +kernel
theorem d_La_law_567 : decode y_La_law.2.1 567 = .ok (.lcmp, 1) := by decide +kernel
theorem d_La_law_568 : decode y_La_law.2.1 568 = .ok (.ifCond .eq 5, 3) := by decide +kernel
theorem d_La_law_571 : decode y_La_law.2.1 571 = .ok (.iconst 0, 1) := by decide +kernel
theorem d_La_law_572 : decode y_La_law.2.1 572 = .ok (.ireturn, 1) := by decide +kernel
theorem d_La_law_573 : decode y_La_law.2.1 573 = .ok (.goto 772, 3) := by decide +kernel
theorem d_La_law_576 : decode y_La_law.2.1 576 = .ok (.aload_n 1, 1) := by decide +kernel
theorem d_La_law_577 : decode y_La_law.2.1 577 = .ok (.aload_n 0, 1) := by decide +kernel
theorem d_La_law_578 : decode y_La_law.2.1 578 = .ok (.iload 4, 2) := by decide +kernel
theorem d_La_law_580 : decode y_La_law.2.1 580 = .ok (.iconst 1, 1) := by decide +kernel
theorem d_La_law_581 : decode y_La_law.2.1 581 = .ok (.iadd, 1) := by decide +kernel
theorem d_La_law_582 : decode y_La_law.2.1 582 = .ok (.iaload, 1) := by decide +kernel
theorem d_La_law_583 : decode y_La_law.2.1 583 = .ok (.aload_n 0, 1) := by decide +kernel
theorem d_La_law_584 : decode y_La_law.2.1 584 = .ok (.iload 4, 2) := by decide +kernel
theorem d_La_law_586 : decode y_La_law.2.1 586 = .ok (.iconst 2, 1) := by decide +kernel
theorem d_La_law_587 : decode y_La_law.2.1 587 = .ok (.iadd, 1) := by decide +kernel
theorem d_La_law_588 : decode y_La_law.2.1 588 = .ok (.iaload, 1) := by decide +kernel
theorem d_La_law_589 : decode y_La_law.2.1 589 = .ok (.aload_n 0, 1) := by decide +kernel
theorem d_La_law_590 : decode y_La_law.2.1 590 = .ok (.iload 4, 2) := by decide +kernel
theorem d_La_law_592 : decode y_La_law.2.1 592 = .ok (.iconst 3, 1) := by decide +kernel
theorem d_La_law_593 : decode y_La_law.2.1 593 = .ok (.iadd, 1) := by decide +kernel
theorem d_La_law_594 : decode y_La_law.2.1 594 = .ok (.iaload, 1) := by decide +kernel
theorem d_La_law_595 : decode y_La_law.2.1 595 = .ok (.aload_n 3, 1) := by decide +kernel
theorem d_La_law_596 : decode y_La_law.2.1 596 = .ok (.invokestatic 108, 3) := by decide +kernel
theorem d_La_law_599 : decode y_La_law.2.1 599 = .ok (.istore 5, 2) := by decide +kernel
theorem d_La_law_601 : decode y_La_law.2.1 601 = .ok (.aload_n 2, 1) := by decide +kernel
theorem d_La_law_602 : decode y_La_law.2.1 602 = .ok (.aload_n 0, 1) := by decide +kernel
theorem d_La_law_603 : decode y_La_law.2.1 603 = .ok (.iload 4, 2) := by decide +kernel
theorem d_La_law_605 : decode y_La_law.2.1 605 = .ok (.iconst 1, 1) := by decide +kernel
theorem d_La_law_606 : decode y_La_law.2.1 606 = .ok (.iadd, 1) := by decide +kernel
theorem d_La_law_607 : decode y_La_law.2.1 607 = .ok (.iaload, 1) := by decide +kernel
theorem d_La_law_608 : decode y_La_law.2.1 608 = .ok (.aload_n 0, 1) := by decide +kernel
theorem d_La_law_609 : decode y_La_law.2.1 609 = .ok (.iload 4, 2) := by decide +kernel
theorem d_La_law_611 : decode y_La_law.2.1 611 = .ok (.iconst 2, 1) := by decide +kernel
theorem d_La_law_612 : decode y_La_law.2.1 612 = .ok (.iadd, 1) := by decide +kernel
theorem d_La_law_613 : decode y_La_law.2.1 613 = .ok (.iaload, 1) := by decide +kernel
theorem d_La_law_614 : decode y_La_law.2.1 614 = .ok (.aload_n 0, 1) := by decide +kernel
theorem d_La_law_615 : decode y_La_law.2.1 615 = .ok (.iload 4, 2) := by decide +kernel
theorem d_La_law_617 : decode y_La_law.2.1 617 = .ok (.iconst 3, 1) := by decide +kernel
theorem d_La_law_618 : decode y_La_law.2.1 618 = .ok (.iadd, 1) := by decide +kernel
theorem d_La_law_619 : decode y_La_law.2.1 619 = .ok (.iaload, 1) := by decide +kernel
theorem d_La_law_620 : decode y_La_law.2.1 620 = .ok (.invokevirtual 111, 3) := by decide +kernel
theorem d_La_law_623 : decode y_La_law.2.1 623 = .ok (.istore 6, 2) := by decide +kernel
theorem d_La_law_625 : decode y_La_law.2.1 625 = .ok (.aload_n 2, 1) := by decide +kernel
theorem d_La_law_626 : decode y_La_law.2.1 626 = .ok (.invokevirtual 77, 3) := by decide +kernel
theorem d_La_law_629 : decode y_La_law.2.1 629 = .ok (.iload 5, 2) := by decide +kernel
theorem d_La_law_631 : decode y_La_law.2.1 631 = .ok (.if_icmp .eq 5, 3) := by decide +kernel
theorem d_La_law_634 : decode y_La_law.2.1 634 = .ok (.iconst 0, 1) := by decide +kernel
theorem d_La_law_635 : decode y_La_law.2.1 635 = .ok (.ireturn, 1) := by decide +kernel
theorem d_La_law_636 : decode y_La_law.2.1 636 = .ok (.iload 5, 2) := by decide +kernel
theorem d_La_law_638 : decode y_La_law.2.1 638 = .ok (.ifCond .ne 15, 3) := by decide +kernel
theorem d_La_law_641 : decode y_La_law.2.1 641 = .ok (.aload_n 3, 1) := by decide +kernel
theorem d_La_law_642 : decode y_La_law.2.1 642 = .ok (.iconst 0, 1) := by decide +kernel
theorem d_La_law_643 : decode y_La_law.2.1 643 = .ok (.laload, 1) := by decide +kernel
theorem d_La_law_644 : decode y_La_law.2.1 644 = .ok (.iload 6, 2) := by decide +kernel
theorem d_La_law_646 : decode y_La_law.2.1 646 = .ok (.i2l, 1) := by decide +kernel
theorem d_La_law_647 : decode y_La_law.2.1 647 = .ok (.lcmp, 1) := by decide +kernel
theorem d_La_law_648 : decode y_La_law.2.1 648 = .ok (.ifCond .eq 5, 3) := by decide +kernel
theorem d_La_law_651 : decode y_La_law.2.1 651 = .ok (.iconst 0, 1) := by decide +kernel
theorem d_La_law_652 : decode y_La_law.2.1 652 = .ok (.ireturn, 1) := by decide +kernel
theorem d_La_law_653 : decode y_La_law.2.1 653 = .ok (.goto 692, 3) := by decide +kernel
theorem d_La_law_656 : decode y_La_law.2.1 656 = .ok (.aload_n 1, 1) := by decide +kernel
theorem d_La_law_657 : decode y_La_law.2.1 657 = .ok (.aload_n 0, 1) := by decide +kernel
theorem d_La_law_658 : decode y_La_law.2.1 658 = .ok (.iload 4, 2) := by decide +kernel
theorem d_La_law_660 : decode y_La_law.2.1 660 = .ok (.iconst 1, 1) := by decide +kernel
theorem d_La_law_661 : decode y_La_law.2.1 661 = .ok (.iadd, 1) := by decide +kernel
theorem d_La_law_662 : decode y_La_law.2.1 662 = .ok (.iaload, 1) := by decide +kernel
theorem d_La_law_663 : decode y_La_law.2.1 663 = .ok (.aload_n 0, 1) := by decide +kernel
theorem d_La_law_664 : decode y_La_law.2.1 664 = .ok (.iload 4, 2) := by decide +kernel
theorem d_La_law_666 : decode y_La_law.2.1 666 = .ok (.iconst 2, 1) := by decide +kernel
theorem d_La_law_667 : decode y_La_law.2.1 667 = .ok (.iadd, 1) := by decide +kernel
theorem d_La_law_668 : decode y_La_law.2.1 668 = .ok (.iaload, 1) := by decide +kernel
theorem d_La_law_669 : decode y_La_law.2.1 669 = .ok (.aload_n 3, 1) := by decide +kernel
theorem d_La_law_670 : decode y_La_law.2.1 670 = .ok (.invokestatic 112, 3) := by decide +kernel
theorem d_La_law_673 : decode y_La_law.2.1 673 = .ok (.istore 5, 2) := by decide +kernel
theorem d_La_law_675 : decode y_La_law.2.1 675 = .ok (.aload_n 2, 1) := by decide +kernel
theorem d_La_law_676 : decode y_La_law.2.1 676 = .ok (.aload_n 0, 1) := by decide +kernel
theorem d_La_law_677 : decode y_La_law.2.1 677 = .ok (.iload 4, 2) := by decide +kernel
theorem d_La_law_679 : decode y_La_law.2.1 679 = .ok (.iconst 1, 1) := by decide +kernel
theorem d_La_law_680 : decode y_La_law.2.1 680 = .ok (.iadd, 1) := by decide +kernel
theorem d_La_law_681 : decode y_La_law.2.1 681 = .ok (.iaload, 1) := by decide +kernel
theorem d_La_law_682 : decode y_La_law.2.1 682 = .ok (.aload_n 0, 1) := by decide +kernel
theorem d_La_law_683 : decode y_La_law.2.1 683 = .ok (.iload 4, 2) := by decide +kernel
theorem d_La_law_685 : decode y_La_law.2.1 685 = .ok (.iconst 2, 1) := by decide +kernel
theorem d_La_law_686 : decode y_La_law.2.1 686 = .ok (.iadd, 1) := by decide +kernel
theorem d_La_law_687 : decode y_La_law.2.1 687 = .ok (.iaload, 1) := by decide +kernel
theorem d_La_law_688 : decode y_La_law.2.1 688 = .ok (.invokevirtual 114, 3) := by decide +kernel
theorem d_La_law_691 : decode y_La_law.2.1 691 = .ok (.istore 6, 2) := by decide +kernel
theorem d_La_law_693 : decode y_La_law.2.1 693 = .ok (.aload_n 2, 1) := by decide +kernel
theorem d_La_law_694 : decode y_La_law.2.1 694 = .ok (.invokevirtual 77, 3) := by decide +kernel
theorem d_La_law_697 : decode y_La_law.2.1 697 = .ok (.iload 5, 2) := by decide +kernel
theorem d_La_law_699 : decode y_La_law.2.1 699 = .ok (.if_icmp .eq 5, 3) := by decide +kernel
theorem d_La_law_702 : decode y_La_law.2.1 702 = .ok (.iconst 0, 1) := by decide +kernel
theorem d_La_law_703 : decode y_La_law.2.1 703 = .ok (.ireturn, 1) := by decide +kernel
theorem d_La_law_704 : decode y_La_law.2.1 704 = .ok (.iload 5, 2) := by decide +kernel
theorem d_La_law_706 : decode y_La_law.2.1 706 = .ok (.ifCond .ne 22, 3) := by decide +kernel
theorem d_La_law_709 : decode y_La_law.2.1 709 = .ok (.aload_n 3, 1) := by decide +kernel
theorem d_La_law_710 : decode y_La_law.2.1 710 = .ok (.iconst 0, 1) := by decide +kernel
theorem d_La_law_711 : decode y_La_law.2.1 711 = .ok (.laload, 1) := by decide +kernel
theorem d_La_law_712 : decode y_La_law.2.1 712 = .ok (.iload 6, 2) := by decide +kernel
theorem d_La_law_714 : decode y_La_law.2.1 714 = .ok (.ifCond .eq 7, 3) := by decide +kernel
theorem d_La_law_717 : decode y_La_law.2.1 717 = .ok (.lconst 1, 1) := by decide +kernel
theorem d_La_law_718 : decode y_La_law.2.1 718 = .ok (.goto 4, 3) := by decide +kernel
theorem d_La_law_721 : decode y_La_law.2.1 721 = .ok (.lconst 0, 1) := by decide +kernel
theorem d_La_law_722 : decode y_La_law.2.1 722 = .ok (.lcmp, 1) := by decide +kernel
theorem d_La_law_723 : decode y_La_law.2.1 723 = .ok (.ifCond .eq 5, 3) := by decide +kernel
theorem d_La_law_726 : decode y_La_law.2.1 726 = .ok (.iconst 0, 1) := by decide +kernel
theorem d_La_law_727 : decode y_La_law.2.1 727 = .ok (.ireturn, 1) := by decide +kernel
theorem d_La_law_728 : decode y_La_law.2.1 728 = .ok (.goto 617, 3) := by decide +kernel
theorem d_La_law_731 : decode y_La_law.2.1 731 = .ok (.aload_n 1, 1) := by decide +kernel
theorem d_La_law_732 : decode y_La_law.2.1 732 = .ok (.aload_n 0, 1) := by decide +kernel
theorem d_La_law_733 : decode y_La_law.2.1 733 = .ok (.iload 4, 2) := by decide +kernel
theorem d_La_law_735 : decode y_La_law.2.1 735 = .ok (.iconst 1, 1) := by decide +kernel
theorem d_La_law_736 : decode y_La_law.2.1 736 = .ok (.iadd, 1) := by decide +kernel
theorem d_La_law_737 : decode y_La_law.2.1 737 = .ok (.iaload, 1) := by decide +kernel
theorem d_La_law_738 : decode y_La_law.2.1 738 = .ok (.aload_n 0, 1) := by decide +kernel
theorem d_La_law_739 : decode y_La_law.2.1 739 = .ok (.iload 4, 2) := by decide +kernel
theorem d_La_law_741 : decode y_La_law.2.1 741 = .ok (.iconst 2, 1) := by decide +kernel
theorem d_La_law_742 : decode y_La_law.2.1 742 = .ok (.iadd, 1) := by decide +kernel
theorem d_La_law_743 : decode y_La_law.2.1 743 = .ok (.iaload, 1) := by decide +kernel
theorem d_La_law_744 : decode y_La_law.2.1 744 = .ok (.aload_n 0, 1) := by decide +kernel
theorem d_La_law_745 : decode y_La_law.2.1 745 = .ok (.iload 4, 2) := by decide +kernel
theorem d_La_law_747 : decode y_La_law.2.1 747 = .ok (.iconst 3, 1) := by decide +kernel
theorem d_La_law_748 : decode y_La_law.2.1 748 = .ok (.iadd, 1) := by decide +kernel
theorem d_La_law_749 : decode y_La_law.2.1 749 = .ok (.iaload, 1) := by decide +kernel
theorem d_La_law_750 : decode y_La_law.2.1 750 = .ok (.aload_n 3, 1) := by decide +kernel
theorem d_La_law_751 : decode y_La_law.2.1 751 = .ok (.invokestatic 115, 3) := by decide +kernel
theorem d_La_law_754 : decode y_La_law.2.1 754 = .ok (.istore 5, 2) := by decide +kernel
theorem d_La_law_756 : decode y_La_law.2.1 756 = .ok (.aload_n 2, 1) := by decide +kernel
theorem d_La_law_757 : decode y_La_law.2.1 757 = .ok (.aload_n 0, 1) := by decide +kernel
theorem d_La_law_758 : decode y_La_law.2.1 758 = .ok (.iload 4, 2) := by decide +kernel
theorem d_La_law_760 : decode y_La_law.2.1 760 = .ok (.iconst 1, 1) := by decide +kernel
theorem d_La_law_761 : decode y_La_law.2.1 761 = .ok (.iadd, 1) := by decide +kernel
theorem d_La_law_762 : decode y_La_law.2.1 762 = .ok (.iaload, 1) := by decide +kernel
theorem d_La_law_763 : decode y_La_law.2.1 763 = .ok (.aload_n 0, 1) := by decide +kernel
theorem d_La_law_764 : decode y_La_law.2.1 764 = .ok (.iload 4, 2) := by decide +kernel
theorem d_La_law_766 : decode y_La_law.2.1 766 = .ok (.iconst 2, 1) := by decide +kernel
theorem d_La_law_767 : decode y_La_law.2.1 767 = .ok (.iadd, 1) := by decide +kernel
theorem d_La_law_768 : decode y_La_law.2.1 768 = .ok (.iaload, 1) := by decide +kernel
theorem d_La_law_769 : decode y_La_law.2.1 769 = .ok (.aload_n 0, 1) := by decide +kernel
theorem d_La_law_770 : decode y_La_law.2.1 770 = .ok (.iload 4, 2) := by decide +kernel
theorem d_La_law_772 : decode y_La_law.2.1 772 = .ok (.iconst 3, 1) := by decide +kernel
theorem d_La_law_773 : decode y_La_law.2.1 773 = .ok (.iadd, 1) := by decide +kernel
theorem d_La_law_774 : decode y_La_law.2.1 774 = .ok (.iaload, 1) := by decide +kernel
theorem d_La_law_775 : decode y_La_law.2.1 775 = .ok (.invokevirtual 117, 3) := by decide +kernel
theorem d_La_law_778 : decode y_La_law.2.1 778 = .ok (.istore 6, 2) := by decide +kernel
theorem d_La_law_780 : decode y_La_law.2.1 780 = .ok (.aload_n 2, 1) := by decide +kernel
theorem d_La_law_781 : decode y_La_law.2.1 781 = .ok (.invokevirtual 77, 3) := by decide +kernel
theorem d_La_law_784 : decode y_La_law.2.1 784 = .ok (.iload 5, 2) := by decide +kernel
theorem d_La_law_786 : decode y_La_law.2.1 786 = .ok (.if_icmp .eq 5, 3) := by decide +kernel
theorem d_La_law_789 : decode y_La_law.2.1 789 = .ok (.iconst 0, 1) := by decide +kernel
theorem d_La_law_790 : decode y_La_law.2.1 790 = .ok (.ireturn, 1) := by decide +kernel
theorem d_La_law_791 : decode y_La_law.2.1 791 = .ok (.iload 5, 2) := by decide +kernel
theorem d_La_law_793 : decode y_La_law.2.1 793 = .ok (.ifCond .ne 22, 3) := by decide +kernel
theorem d_La_law_796 : decode y_La_law.2.1 796 = .ok (.aload_n 3, 1) := by decide +kernel
theorem d_La_law_797 : decode y_La_law.2.1 797 = .ok (.iconst 0, 1) := by decide +kernel
theorem d_La_law_798 : decode y_La_law.2.1 798 = .ok (.laload, 1) := by decide +kernel
theorem d_La_law_799 : decode y_La_law.2.1 799 = .ok (.iload 6, 2) := by decide +kernel
theorem d_La_law_801 : decode y_La_law.2.1 801 = .ok (.ifCond .eq 7, 3) := by decide +kernel
theorem d_La_law_804 : decode y_La_law.2.1 804 = .ok (.lconst 1, 1) := by decide +kernel
theorem d_La_law_805 : decode y_La_law.2.1 805 = .ok (.goto 4, 3) := by decide +kernel
theorem d_La_law_808 : decode y_La_law.2.1 808 = .ok (.lconst 0, 1) := by decide +kernel
theorem d_La_law_809 : decode y_La_law.2.1 809 = .ok (.lcmp, 1) := by decide +kernel
theorem d_La_law_810 : decode y_La_law.2.1 810 = .ok (.ifCond .eq 5, 3) := by decide +kernel
theorem d_La_law_813 : decode y_La_law.2.1 813 = .ok (.iconst 0, 1) := by decide +kernel
theorem d_La_law_814 : decode y_La_law.2.1 814 = .ok (.ireturn, 1) := by decide +kernel
theorem d_La_law_815 : decode y_La_law.2.1 815 = .ok (.goto 530, 3) := by decide +kernel
theorem d_La_law_818 : decode y_La_law.2.1 818 = .ok (.aload_n 1, 1) := by decide +kernel
theorem d_La_law_819 : decode y_La_law.2.1 819 = .ok (.aload_n 0, 1) := by decide +kernel
theorem d_La_law_820 : decode y_La_law.2.1 820 = .ok (.iload 4, 2) := by decide +kernel
theorem d_La_law_822 : decode y_La_law.2.1 822 = .ok (.iconst 1, 1) := by decide +kernel
theorem d_La_law_823 : decode y_La_law.2.1 823 = .ok (.iadd, 1) := by decide +kernel
theorem d_La_law_824 : decode y_La_law.2.1 824 = .ok (.iaload, 1) := by decide +kernel
theorem d_La_law_825 : decode y_La_law.2.1 825 = .ok (.aload_n 0, 1) := by decide +kernel
theorem d_La_law_826 : decode y_La_law.2.1 826 = .ok (.iload 4, 2) := by decide +kernel
theorem d_La_law_828 : decode y_La_law.2.1 828 = .ok (.iconst 2, 1) := by decide +kernel
theorem d_La_law_829 : decode y_La_law.2.1 829 = .ok (.iadd, 1) := by decide +kernel
theorem d_La_law_830 : decode y_La_law.2.1 830 = .ok (.iaload, 1) := by decide +kernel
theorem d_La_law_831 : decode y_La_law.2.1 831 = .ok (.aload_n 0, 1) := by decide +kernel
theorem d_La_law_832 : decode y_La_law.2.1 832 = .ok (.iload 4, 2) := by decide +kernel
theorem d_La_law_834 : decode y_La_law.2.1 834 = .ok (.iconst 3, 1) := by decide +kernel
theorem d_La_law_835 : decode y_La_law.2.1 835 = .ok (.iadd, 1) := by decide +kernel
theorem d_La_law_836 : decode y_La_law.2.1 836 = .ok (.iaload, 1) := by decide +kernel
theorem d_La_law_837 : decode y_La_law.2.1 837 = .ok (.aload_n 3, 1) := by decide +kernel
theorem d_La_law_838 : decode y_La_law.2.1 838 = .ok (.invokestatic 118, 3) := by decide +kernel
theorem d_La_law_841 : decode y_La_law.2.1 841 = .ok (.istore 5, 2) := by decide +kernel
theorem d_La_law_843 : decode y_La_law.2.1 843 = .ok (.aload_n 2, 1) := by decide +kernel
theorem d_La_law_844 : decode y_La_law.2.1 844 = .ok (.aload_n 0, 1) := by decide +kernel
theorem d_La_law_845 : decode y_La_law.2.1 845 = .ok (.iload 4, 2) := by decide +kernel
theorem d_La_law_847 : decode y_La_law.2.1 847 = .ok (.iconst 1, 1) := by decide +kernel
theorem d_La_law_848 : decode y_La_law.2.1 848 = .ok (.iadd, 1) := by decide +kernel
theorem d_La_law_849 : decode y_La_law.2.1 849 = .ok (.iaload, 1) := by decide +kernel
theorem d_La_law_850 : decode y_La_law.2.1 850 = .ok (.aload_n 0, 1) := by decide +kernel
theorem d_La_law_851 : decode y_La_law.2.1 851 = .ok (.iload 4, 2) := by decide +kernel
theorem d_La_law_853 : decode y_La_law.2.1 853 = .ok (.iconst 2, 1) := by decide +kernel
theorem d_La_law_854 : decode y_La_law.2.1 854 = .ok (.iadd, 1) := by decide +kernel
theorem d_La_law_855 : decode y_La_law.2.1 855 = .ok (.iaload, 1) := by decide +kernel
theorem d_La_law_856 : decode y_La_law.2.1 856 = .ok (.aload_n 0, 1) := by decide +kernel
theorem d_La_law_857 : decode y_La_law.2.1 857 = .ok (.iload 4, 2) := by decide +kernel
theorem d_La_law_859 : decode y_La_law.2.1 859 = .ok (.iconst 3, 1) := by decide +kernel
theorem d_La_law_860 : decode y_La_law.2.1 860 = .ok (.iadd, 1) := by decide +kernel
theorem d_La_law_861 : decode y_La_law.2.1 861 = .ok (.iaload, 1) := by decide +kernel
theorem d_La_law_862 : decode y_La_law.2.1 862 = .ok (.invokevirtual 120, 3) := by decide +kernel
theorem d_La_law_865 : decode y_La_law.2.1 865 = .ok (.istore 6, 2) := by decide +kernel
theorem d_La_law_867 : decode y_La_law.2.1 867 = .ok (.aload_n 2, 1) := by decide +kernel
theorem d_La_law_868 : decode y_La_law.2.1 868 = .ok (.invokevirtual 77, 3) := by decide +kernel
theorem d_La_law_871 : decode y_La_law.2.1 871 = .ok (.iload 5, 2) := by decide +kernel
theorem d_La_law_873 : decode y_La_law.2.1 873 = .ok (.if_icmp .eq 5, 3) := by decide +kernel
theorem d_La_law_876 : decode y_La_law.2.1 876 = .ok (.iconst 0, 1) := by decide +kernel
theorem d_La_law_877 : decode y_La_law.2.1 877 = .ok (.ireturn, 1) := by decide +kernel
theorem d_La_law_878 : decode y_La_law.2.1 878 = .ok (.iload 5, 2) := by decide +kernel
theorem d_La_law_880 : decode y_La_law.2.1 880 = .ok (.ifCond .ne 15, 3) := by decide +kernel
theorem d_La_law_883 : decode y_La_law.2.1 883 = .ok (.aload_n 3, 1) := by decide +kernel
theorem d_La_law_884 : decode y_La_law.2.1 884 = .ok (.iconst 0, 1) := by decide +kernel
theorem d_La_law_885 : decode y_La_law.2.1 885 = .ok (.laload, 1) := by decide +kernel
theorem d_La_law_886 : decode y_La_law.2.1 886 = .ok (.iload 6, 2) := by decide +kernel
theorem d_La_law_888 : decode y_La_law.2.1 888 = .ok (.i2l, 1) := by decide +kernel
theorem d_La_law_889 : decode y_La_law.2.1 889 = .ok (.lcmp, 1) := by decide +kernel
theorem d_La_law_890 : decode y_La_law.2.1 890 = .ok (.ifCond .eq 5, 3) := by decide +kernel
theorem d_La_law_893 : decode y_La_law.2.1 893 = .ok (.iconst 0, 1) := by decide +kernel
theorem d_La_law_894 : decode y_La_law.2.1 894 = .ok (.ireturn, 1) := by decide +kernel
theorem d_La_law_895 : decode y_La_law.2.1 895 = .ok (.goto 450, 3) := by decide +kernel
theorem d_La_law_898 : decode y_La_law.2.1 898 = .ok (.aload_n 1, 1) := by decide +kernel
theorem d_La_law_899 : decode y_La_law.2.1 899 = .ok (.aload_n 0, 1) := by decide +kernel
theorem d_La_law_900 : decode y_La_law.2.1 900 = .ok (.iload 4, 2) := by decide +kernel
theorem d_La_law_902 : decode y_La_law.2.1 902 = .ok (.iconst 1, 1) := by decide +kernel
theorem d_La_law_903 : decode y_La_law.2.1 903 = .ok (.iadd, 1) := by decide +kernel
theorem d_La_law_904 : decode y_La_law.2.1 904 = .ok (.iaload, 1) := by decide +kernel
theorem d_La_law_905 : decode y_La_law.2.1 905 = .ok (.aload_n 0, 1) := by decide +kernel
theorem d_La_law_906 : decode y_La_law.2.1 906 = .ok (.iload 4, 2) := by decide +kernel
theorem d_La_law_908 : decode y_La_law.2.1 908 = .ok (.iconst 2, 1) := by decide +kernel
theorem d_La_law_909 : decode y_La_law.2.1 909 = .ok (.iadd, 1) := by decide +kernel
theorem d_La_law_910 : decode y_La_law.2.1 910 = .ok (.iaload, 1) := by decide +kernel
theorem d_La_law_911 : decode y_La_law.2.1 911 = .ok (.aload_n 3, 1) := by decide +kernel
theorem d_La_law_912 : decode y_La_law.2.1 912 = .ok (.invokestatic 121, 3) := by decide +kernel
theorem d_La_law_915 : decode y_La_law.2.1 915 = .ok (.istore 5, 2) := by decide +kernel
theorem d_La_law_917 : decode y_La_law.2.1 917 = .ok (.aload_n 2, 1) := by decide +kernel
theorem d_La_law_918 : decode y_La_law.2.1 918 = .ok (.aload_n 0, 1) := by decide +kernel
theorem d_La_law_919 : decode y_La_law.2.1 919 = .ok (.iload 4, 2) := by decide +kernel
theorem d_La_law_921 : decode y_La_law.2.1 921 = .ok (.iconst 1, 1) := by decide +kernel
theorem d_La_law_922 : decode y_La_law.2.1 922 = .ok (.iadd, 1) := by decide +kernel
theorem d_La_law_923 : decode y_La_law.2.1 923 = .ok (.iaload, 1) := by decide +kernel
theorem d_La_law_924 : decode y_La_law.2.1 924 = .ok (.aload_n 0, 1) := by decide +kernel
theorem d_La_law_925 : decode y_La_law.2.1 925 = .ok (.iload 4, 2) := by decide +kernel
theorem d_La_law_927 : decode y_La_law.2.1 927 = .ok (.iconst 2, 1) := by decide +kernel
theorem d_La_law_928 : decode y_La_law.2.1 928 = .ok (.iadd, 1) := by decide +kernel
theorem d_La_law_929 : decode y_La_law.2.1 929 = .ok (.iaload, 1) := by decide +kernel
theorem d_La_law_930 : decode y_La_law.2.1 930 = .ok (.invokevirtual 123, 3) := by decide +kernel
theorem d_La_law_933 : decode y_La_law.2.1 933 = .ok (.istore 6, 2) := by decide +kernel
theorem d_La_law_935 : decode y_La_law.2.1 935 = .ok (.aload_n 2, 1) := by decide +kernel
theorem d_La_law_936 : decode y_La_law.2.1 936 = .ok (.invokevirtual 77, 3) := by decide +kernel
theorem d_La_law_939 : decode y_La_law.2.1 939 = .ok (.iload 5, 2) := by decide +kernel
theorem d_La_law_941 : decode y_La_law.2.1 941 = .ok (.if_icmp .eq 5, 3) := by decide +kernel
theorem d_La_law_944 : decode y_La_law.2.1 944 = .ok (.iconst 0, 1) := by decide +kernel
theorem d_La_law_945 : decode y_La_law.2.1 945 = .ok (.ireturn, 1) := by decide +kernel
theorem d_La_law_946 : decode y_La_law.2.1 946 = .ok (.iload 5, 2) := by decide +kernel
theorem d_La_law_948 : decode y_La_law.2.1 948 = .ok (.ifCond .ne 15, 3) := by decide +kernel
theorem d_La_law_951 : decode y_La_law.2.1 951 = .ok (.aload_n 3, 1) := by decide +kernel
theorem d_La_law_952 : decode y_La_law.2.1 952 = .ok (.iconst 0, 1) := by decide +kernel
theorem d_La_law_953 : decode y_La_law.2.1 953 = .ok (.laload, 1) := by decide +kernel
theorem d_La_law_954 : decode y_La_law.2.1 954 = .ok (.iload 6, 2) := by decide +kernel
theorem d_La_law_956 : decode y_La_law.2.1 956 = .ok (.i2l, 1) := by decide +kernel
theorem d_La_law_957 : decode y_La_law.2.1 957 = .ok (.lcmp, 1) := by decide +kernel
theorem d_La_law_958 : decode y_La_law.2.1 958 = .ok (.ifCond .eq 5, 3) := by decide +kernel
theorem d_La_law_961 : decode y_La_law.2.1 961 = .ok (.iconst 0, 1) := by decide +kernel
theorem d_La_law_962 : decode y_La_law.2.1 962 = .ok (.ireturn, 1) := by decide +kernel
theorem d_La_law_963 : decode y_La_law.2.1 963 = .ok (.goto 382, 3) := by decide +kernel
theorem d_La_law_966 : decode y_La_law.2.1 966 = .ok (.aload_n 1, 1) := by decide +kernel
theorem d_La_law_967 : decode y_La_law.2.1 967 = .ok (.aload_n 0, 1) := by decide +kernel
theorem d_La_law_968 : decode y_La_law.2.1 968 = .ok (.iload 4, 2) := by decide +kernel
theorem d_La_law_970 : decode y_La_law.2.1 970 = .ok (.iconst 1, 1) := by decide +kernel
theorem d_La_law_971 : decode y_La_law.2.1 971 = .ok (.iadd, 1) := by decide +kernel
theorem d_La_law_972 : decode y_La_law.2.1 972 = .ok (.iaload, 1) := by decide +kernel
theorem d_La_law_973 : decode y_La_law.2.1 973 = .ok (.invokevirtual 124, 3) := by decide +kernel
theorem d_La_law_976 : decode y_La_law.2.1 976 = .ok (.aload_n 2, 1) := by decide +kernel
theorem d_La_law_977 : decode y_La_law.2.1 977 = .ok (.aload_n 0, 1) := by decide +kernel
theorem d_La_law_978 : decode y_La_law.2.1 978 = .ok (.iload 4, 2) := by decide +kernel
theorem d_La_law_980 : decode y_La_law.2.1 980 = .ok (.iconst 1, 1) := by decide +kernel
theorem d_La_law_981 : decode y_La_law.2.1 981 = .ok (.iadd, 1) := by decide +kernel
theorem d_La_law_982 : decode y_La_law.2.1 982 = .ok (.iaload, 1) := by decide +kernel
theorem d_La_law_983 : decode y_La_law.2.1 983 = .ok (.invokevirtual 127, 3) := by decide +kernel
theorem d_La_law_986 : decode y_La_law.2.1 986 = .ok (.if_icmp .eq 359, 3) := by decide +kernel
theorem d_La_law_989 : decode y_La_law.2.1 989 = .ok (.iconst 0, 1) := by decide +kernel
theorem d_La_law_990 : decode y_La_law.2.1 990 = .ok (.ireturn, 1) := by decide +kernel
theorem d_La_law_991 : decode y_La_law.2.1 991 = .ok (.aload_n 1, 1) := by decide +kernel
theorem d_La_law_992 : decode y_La_law.2.1 992 = .ok (.aload_n 0, 1) := by decide +kernel
theorem d_La_law_993 : decode y_La_law.2.1 993 = .ok (.iload 4, 2) := by decide +kernel
theorem d_La_law_995 : decode y_La_law.2.1 995 = .ok (.iconst 1, 1) := by decide +kernel
theorem d_La_law_996 : decode y_La_law.2.1 996 = .ok (.iadd, 1) := by decide +kernel
theorem d_La_law_997 : decode y_La_law.2.1 997 = .ok (.iaload, 1) := by decide +kernel
theorem d_La_law_998 : decode y_La_law.2.1 998 = .ok (.aload_n 0, 1) := by decide +kernel
theorem d_La_law_999 : decode y_La_law.2.1 999 = .ok (.iload 4, 2) := by decide +kernel
theorem d_La_law_1001 : decode y_La_law.2.1 1001 = .ok (.iconst 2, 1) := by decide +kernel
theorem d_La_law_1002 : decode y_La_law.2.1 1002 = .ok (.iadd, 1) := by decide +kernel
theorem d_La_law_1003 : decode y_La_law.2.1 1003 = .ok (.iaload, 1) := by decide +kernel
theorem d_La_law_1004 : decode y_La_law.2.1 1004 = .ok (.aload_n 3, 1) := by decide +kernel
theorem d_La_law_1005 : decode y_La_law.2.1 1005 = .ok (.invokestatic 128, 3) := by decide +kernel
theorem d_La_law_1008 : decode y_La_law.2.1 1008 = .ok (.istore 5, 2) := by decide +kernel
theorem d_La_law_1010 : decode y_La_law.2.1 1010 = .ok (.aload_n 2, 1) := by decide +kernel
theorem d_La_law_1011 : decode y_La_law.2.1 1011 = .ok (.aload_n 0, 1) := by decide +kernel
theorem d_La_law_1012 : decode y_La_law.2.1 1012 = .ok (.iload 4, 2) := by decide +kernel
theorem d_La_law_1014 : decode y_La_law.2.1 1014 = .ok (.iconst 1, 1) := by decide +kernel
theorem d_La_law_1015 : decode y_La_law.2.1 1015 = .ok (.iadd, 1) := by decide +kernel
theorem d_La_law_1016 : decode y_La_law.2.1 1016 = .ok (.iaload, 1) := by decide +kernel
theorem d_La_law_1017 : decode y_La_law.2.1 1017 = .ok (.aload_n 0, 1) := by decide +kernel
theorem d_La_law_1018 : decode y_La_law.2.1 1018 = .ok (.iload 4, 2) := by decide +kernel
theorem d_La_law_1020 : decode y_La_law.2.1 1020 = .ok (.iconst 2, 1) := by decide +kernel
theorem d_La_law_1021 : decode y_La_law.2.1 1021 = .ok (.iadd, 1) := by decide +kernel
theorem d_La_law_1022 : decode y_La_law.2.1 1022 = .ok (.iaload, 1) := by decide +kernel
theorem d_La_law_1023 : decode y_La_law.2.1 1023 = .ok (.invokevirtual 130, 3) := by decide +kernel
theorem d_La_law_1026 : decode y_La_law.2.1 1026 = .ok (.istore 6, 2) := by decide +kernel
theorem d_La_law_1028 : decode y_La_law.2.1 1028 = .ok (.aload_n 2, 1) := by decide +kernel
theorem d_La_law_1029 : decode y_La_law.2.1 1029 = .ok (.invokevirtual 77, 3) := by decide +kernel
theorem d_La_law_1032 : decode y_La_law.2.1 1032 = .ok (.iload 5, 2) := by decide +kernel
theorem d_La_law_1034 : decode y_La_law.2.1 1034 = .ok (.if_icmp .eq 5, 3) := by decide +kernel
theorem d_La_law_1037 : decode y_La_law.2.1 1037 = .ok (.iconst 0, 1) := by decide +kernel
theorem d_La_law_1038 : decode y_La_law.2.1 1038 = .ok (.ireturn, 1) := by decide +kernel
theorem d_La_law_1039 : decode y_La_law.2.1 1039 = .ok (.iload 5, 2) := by decide +kernel
theorem d_La_law_1041 : decode y_La_law.2.1 1041 = .ok (.ifCond .ne 15, 3) := by decide +kernel
theorem d_La_law_1044 : decode y_La_law.2.1 1044 = .ok (.aload_n 3, 1) := by decide +kernel
theorem d_La_law_1045 : decode y_La_law.2.1 1045 = .ok (.iconst 0, 1) := by decide +kernel
theorem d_La_law_1046 : decode y_La_law.2.1 1046 = .ok (.laload, 1) := by decide +kernel
theorem d_La_law_1047 : decode y_La_law.2.1 1047 = .ok (.iload 6, 2) := by decide +kernel
theorem d_La_law_1049 : decode y_La_law.2.1 1049 = .ok (.i2l, 1) := by decide +kernel
theorem d_La_law_1050 : decode y_La_law.2.1 1050 = .ok (.lcmp, 1) := by decide +kernel
theorem d_La_law_1051 : decode y_La_law.2.1 1051 = .ok (.ifCond .eq 5, 3) := by decide +kernel
theorem d_La_law_1054 : decode y_La_law.2.1 1054 = .ok (.iconst 0, 1) := by decide +kernel
theorem d_La_law_1055 : decode y_La_law.2.1 1055 = .ok (.ireturn, 1) := by decide +kernel
theorem d_La_law_1056 : decode y_La_law.2.1 1056 = .ok (.goto 289, 3) := by decide +kernel
theorem d_La_law_1059 : decode y_La_law.2.1 1059 = .ok (.aload_n 1, 1) := by decide +kernel
theorem d_La_law_1060 : decode y_La_law.2.1 1060 = .ok (.aload_n 0, 1) := by decide +kernel
theorem d_La_law_1061 : decode y_La_law.2.1 1061 = .ok (.iload 4, 2) := by decide +kernel
theorem d_La_law_1063 : decode y_La_law.2.1 1063 = .ok (.iconst 1, 1) := by decide +kernel
theorem d_La_law_1064 : decode y_La_law.2.1 1064 = .ok (.iadd, 1) := by decide +kernel
theorem d_La_law_1065 : decode y_La_law.2.1 1065 = .ok (.iaload, 1) := by decide +kernel
theorem d_La_law_1066 : decode y_La_law.2.1 1066 = .ok (.aload_n 0, 1) := by decide +kernel
theorem d_La_law_1067 : decode y_La_law.2.1 1067 = .ok (.iload 4, 2) := by decide +kernel
theorem d_La_law_1069 : decode y_La_law.2.1 1069 = .ok (.iconst 2, 1) := by decide +kernel
theorem d_La_law_1070 : decode y_La_law.2.1 1070 = .ok (.iadd, 1) := by decide +kernel
theorem d_La_law_1071 : decode y_La_law.2.1 1071 = .ok (.iaload, 1) := by decide +kernel
theorem d_La_law_1072 : decode y_La_law.2.1 1072 = .ok (.aload_n 0, 1) := by decide +kernel
theorem d_La_law_1073 : decode y_La_law.2.1 1073 = .ok (.iload 4, 2) := by decide +kernel
theorem d_La_law_1075 : decode y_La_law.2.1 1075 = .ok (.iconst 3, 1) := by decide +kernel
theorem d_La_law_1076 : decode y_La_law.2.1 1076 = .ok (.iadd, 1) := by decide +kernel
theorem d_La_law_1077 : decode y_La_law.2.1 1077 = .ok (.iaload, 1) := by decide +kernel
theorem d_La_law_1078 : decode y_La_law.2.1 1078 = .ok (.aload_n 3, 1) := by decide +kernel
theorem d_La_law_1079 : decode y_La_law.2.1 1079 = .ok (.invokestatic 131, 3) := by decide +kernel
theorem d_La_law_1082 : decode y_La_law.2.1 1082 = .ok (.istore 5, 2) := by decide +kernel
theorem d_La_law_1084 : decode y_La_law.2.1 1084 = .ok (.aload_n 2, 1) := by decide +kernel
theorem d_La_law_1085 : decode y_La_law.2.1 1085 = .ok (.aload_n 0, 1) := by decide +kernel
theorem d_La_law_1086 : decode y_La_law.2.1 1086 = .ok (.iload 4, 2) := by decide +kernel
theorem d_La_law_1088 : decode y_La_law.2.1 1088 = .ok (.iconst 1, 1) := by decide +kernel
theorem d_La_law_1089 : decode y_La_law.2.1 1089 = .ok (.iadd, 1) := by decide +kernel
theorem d_La_law_1090 : decode y_La_law.2.1 1090 = .ok (.iaload, 1) := by decide +kernel
theorem d_La_law_1091 : decode y_La_law.2.1 1091 = .ok (.aload_n 0, 1) := by decide +kernel
theorem d_La_law_1092 : decode y_La_law.2.1 1092 = .ok (.iload 4, 2) := by decide +kernel
theorem d_La_law_1094 : decode y_La_law.2.1 1094 = .ok (.iconst 2, 1) := by decide +kernel
theorem d_La_law_1095 : decode y_La_law.2.1 1095 = .ok (.iadd, 1) := by decide +kernel
theorem d_La_law_1096 : decode y_La_law.2.1 1096 = .ok (.iaload, 1) := by decide +kernel
theorem d_La_law_1097 : decode y_La_law.2.1 1097 = .ok (.aload_n 0, 1) := by decide +kernel
theorem d_La_law_1098 : decode y_La_law.2.1 1098 = .ok (.iload 4, 2) := by decide +kernel
theorem d_La_law_1100 : decode y_La_law.2.1 1100 = .ok (.iconst 3, 1) := by decide +kernel
theorem d_La_law_1101 : decode y_La_law.2.1 1101 = .ok (.iadd, 1) := by decide +kernel
theorem d_La_law_1102 : decode y_La_law.2.1 1102 = .ok (.iaload, 1) := by decide +kernel
theorem d_La_law_1103 : decode y_La_law.2.1 1103 = .ok (.invokevirtual 133, 3) := by decide +kernel
theorem d_La_law_1106 : decode y_La_law.2.1 1106 = .ok (.istore 6, 2) := by decide +kernel
theorem d_La_law_1108 : decode y_La_law.2.1 1108 = .ok (.aload_n 2, 1) := by decide +kernel
theorem d_La_law_1109 : decode y_La_law.2.1 1109 = .ok (.invokevirtual 77, 3) := by decide +kernel
theorem d_La_law_1112 : decode y_La_law.2.1 1112 = .ok (.iload 5, 2) := by decide +kernel
theorem d_La_law_1114 : decode y_La_law.2.1 1114 = .ok (.if_icmp .eq 5, 3) := by decide +kernel
theorem d_La_law_1117 : decode y_La_law.2.1 1117 = .ok (.iconst 0, 1) := by decide +kernel
theorem d_La_law_1118 : decode y_La_law.2.1 1118 = .ok (.ireturn, 1) := by decide +kernel
theorem d_La_law_1119 : decode y_La_law.2.1 1119 = .ok (.iload 5, 2) := by decide +kernel
theorem d_La_law_1121 : decode y_La_law.2.1 1121 = .ok (.ifCond .ne 15, 3) := by decide +kernel
theorem d_La_law_1124 : decode y_La_law.2.1 1124 = .ok (.aload_n 3, 1) := by decide +kernel
theorem d_La_law_1125 : decode y_La_law.2.1 1125 = .ok (.iconst 0, 1) := by decide +kernel
theorem d_La_law_1126 : decode y_La_law.2.1 1126 = .ok (.laload, 1) := by decide +kernel
theorem d_La_law_1127 : decode y_La_law.2.1 1127 = .ok (.iload 6, 2) := by decide +kernel
theorem d_La_law_1129 : decode y_La_law.2.1 1129 = .ok (.i2l, 1) := by decide +kernel
theorem d_La_law_1130 : decode y_La_law.2.1 1130 = .ok (.lcmp, 1) := by decide +kernel
theorem d_La_law_1131 : decode y_La_law.2.1 1131 = .ok (.ifCond .eq 5, 3) := by decide +kernel
theorem d_La_law_1134 : decode y_La_law.2.1 1134 = .ok (.iconst 0, 1) := by decide +kernel
theorem d_La_law_1135 : decode y_La_law.2.1 1135 = .ok (.ireturn, 1) := by decide +kernel
theorem d_La_law_1136 : decode y_La_law.2.1 1136 = .ok (.goto 209, 3) := by decide +kernel
theorem d_La_law_1139 : decode y_La_law.2.1 1139 = .ok (.aload_n 1, 1) := by decide +kernel
theorem d_La_law_1140 : decode y_La_law.2.1 1140 = .ok (.invokevirtual 134, 3) := by decide +kernel
theorem d_La_law_1143 : decode y_La_law.2.1 1143 = .ok (.aload_n 2, 1) := by decide +kernel
theorem d_La_law_1144 : decode y_La_law.2.1 1144 = .ok (.invokevirtual 137, 3) := by decide +kernel
theorem d_La_law_1147 : decode y_La_law.2.1 1147 = .ok (.if_icmp .eq 198, 3) := by decide +kernel
theorem d_La_law_1150 : decode y_La_law.2.1 1150 = .ok (.iconst 0, 1) := by decide +kernel
theorem d_La_law_1151 : decode y_La_law.2.1 1151 = .ok (.ireturn, 1) := by decide +kernel
theorem d_La_law_1152 : decode y_La_law.2.1 1152 = .ok (.aload_n 1, 1) := by decide +kernel
theorem d_La_law_1153 : decode y_La_law.2.1 1153 = .ok (.aload_n 0, 1) := by decide +kernel
theorem d_La_law_1154 : decode y_La_law.2.1 1154 = .ok (.iload 4, 2) := by decide +kernel
theorem d_La_law_1156 : decode y_La_law.2.1 1156 = .ok (.iconst 1, 1) := by decide +kernel
theorem d_La_law_1157 : decode y_La_law.2.1 1157 = .ok (.iadd, 1) := by decide +kernel
theorem d_La_law_1158 : decode y_La_law.2.1 1158 = .ok (.iaload, 1) := by decide +kernel
theorem d_La_law_1159 : decode y_La_law.2.1 1159 = .ok (.aload_n 0, 1) := by decide +kernel
theorem d_La_law_1160 : decode y_La_law.2.1 1160 = .ok (.iload 4, 2) := by decide +kernel
theorem d_La_law_1162 : decode y_La_law.2.1 1162 = .ok (.iconst 2, 1) := by decide +kernel
theorem d_La_law_1163 : decode y_La_law.2.1 1163 = .ok (.iadd, 1) := by decide +kernel
theorem d_La_law_1164 : decode y_La_law.2.1 1164 = .ok (.iaload, 1) := by decide +kernel
theorem d_La_law_1165 : decode y_La_law.2.1 1165 = .ok (.aload_n 0, 1) := by decide +kernel
theorem d_La_law_1166 : decode y_La_law.2.1 1166 = .ok (.iload 4, 2) := by decide +kernel
theorem d_La_law_1168 : decode y_La_law.2.1 1168 = .ok (.iconst 3, 1) := by decide +kernel
theorem d_La_law_1169 : decode y_La_law.2.1 1169 = .ok (.iadd, 1) := by decide +kernel
theorem d_La_law_1170 : decode y_La_law.2.1 1170 = .ok (.iaload, 1) := by decide +kernel
theorem d_La_law_1171 : decode y_La_law.2.1 1171 = .ok (.aload_n 3, 1) := by decide +kernel
theorem d_La_law_1172 : decode y_La_law.2.1 1172 = .ok (.invokestatic 138, 3) := by decide +kernel
theorem d_La_law_1175 : decode y_La_law.2.1 1175 = .ok (.istore 5, 2) := by decide +kernel
theorem d_La_law_1177 : decode y_La_law.2.1 1177 = .ok (.aload_n 2, 1) := by decide +kernel
theorem d_La_law_1178 : decode y_La_law.2.1 1178 = .ok (.aload_n 0, 1) := by decide +kernel
theorem d_La_law_1179 : decode y_La_law.2.1 1179 = .ok (.iload 4, 2) := by decide +kernel
theorem d_La_law_1181 : decode y_La_law.2.1 1181 = .ok (.iconst 1, 1) := by decide +kernel
theorem d_La_law_1182 : decode y_La_law.2.1 1182 = .ok (.iadd, 1) := by decide +kernel
theorem d_La_law_1183 : decode y_La_law.2.1 1183 = .ok (.iaload, 1) := by decide +kernel
theorem d_La_law_1184 : decode y_La_law.2.1 1184 = .ok (.aload_n 0, 1) := by decide +kernel
theorem d_La_law_1185 : decode y_La_law.2.1 1185 = .ok (.iload 4, 2) := by decide +kernel
theorem d_La_law_1187 : decode y_La_law.2.1 1187 = .ok (.iconst 2, 1) := by decide +kernel
theorem d_La_law_1188 : decode y_La_law.2.1 1188 = .ok (.iadd, 1) := by decide +kernel
theorem d_La_law_1189 : decode y_La_law.2.1 1189 = .ok (.iaload, 1) := by decide +kernel
theorem d_La_law_1190 : decode y_La_law.2.1 1190 = .ok (.aload_n 0, 1) := by decide +kernel
theorem d_La_law_1191 : decode y_La_law.2.1 1191 = .ok (.iload 4, 2) := by decide +kernel
theorem d_La_law_1193 : decode y_La_law.2.1 1193 = .ok (.iconst 3, 1) := by decide +kernel
theorem d_La_law_1194 : decode y_La_law.2.1 1194 = .ok (.iadd, 1) := by decide +kernel
theorem d_La_law_1195 : decode y_La_law.2.1 1195 = .ok (.iaload, 1) := by decide +kernel
theorem d_La_law_1196 : decode y_La_law.2.1 1196 = .ok (.invokevirtual 140, 3) := by decide +kernel
theorem d_La_law_1199 : decode y_La_law.2.1 1199 = .ok (.istore 6, 2) := by decide +kernel
theorem d_La_law_1201 : decode y_La_law.2.1 1201 = .ok (.aload_n 2, 1) := by decide +kernel
theorem d_La_law_1202 : decode y_La_law.2.1 1202 = .ok (.invokevirtual 77, 3) := by decide +kernel
theorem d_La_law_1205 : decode y_La_law.2.1 1205 = .ok (.iload 5, 2) := by decide +kernel
theorem d_La_law_1207 : decode y_La_law.2.1 1207 = .ok (.if_icmp .eq 5, 3) := by decide +kernel
theorem d_La_law_1210 : decode y_La_law.2.1 1210 = .ok (.iconst 0, 1) := by decide +kernel
theorem d_La_law_1211 : decode y_La_law.2.1 1211 = .ok (.ireturn, 1) := by decide +kernel
theorem d_La_law_1212 : decode y_La_law.2.1 1212 = .ok (.iload 5, 2) := by decide +kernel
theorem d_La_law_1214 : decode y_La_law.2.1 1214 = .ok (.ifCond .ne 22, 3) := by decide +kernel
theorem d_La_law_1217 : decode y_La_law.2.1 1217 = .ok (.aload_n 3, 1) := by decide +kernel
theorem d_La_law_1218 : decode y_La_law.2.1 1218 = .ok (.iconst 0, 1) := by decide +kernel
theorem d_La_law_1219 : decode y_La_law.2.1 1219 = .ok (.laload, 1) := by decide +kernel
theorem d_La_law_1220 : decode y_La_law.2.1 1220 = .ok (.iload 6, 2) := by decide +kernel
theorem d_La_law_1222 : decode y_La_law.2.1 1222 = .ok (.ifCond .eq 7, 3) := by decide +kernel
theorem d_La_law_1225 : decode y_La_law.2.1 1225 = .ok (.lconst 1, 1) := by decide +kernel
theorem d_La_law_1226 : decode y_La_law.2.1 1226 = .ok (.goto 4, 3) := by decide +kernel
theorem d_La_law_1229 : decode y_La_law.2.1 1229 = .ok (.lconst 0, 1) := by decide +kernel
theorem d_La_law_1230 : decode y_La_law.2.1 1230 = .ok (.lcmp, 1) := by decide +kernel
theorem d_La_law_1231 : decode y_La_law.2.1 1231 = .ok (.ifCond .eq 5, 3) := by decide +kernel
theorem d_La_law_1234 : decode y_La_law.2.1 1234 = .ok (.iconst 0, 1) := by decide +kernel
theorem d_La_law_1235 : decode y_La_law.2.1 1235 = .ok (.ireturn, 1) := by decide +kernel
theorem d_La_law_1236 : decode y_La_law.2.1 1236 = .ok (.goto 109, 3) := by decide +kernel
theorem d_La_law_1239 : decode y_La_law.2.1 1239 = .ok (.aload_n 1, 1) := by decide +kernel
theorem d_La_law_1240 : decode y_La_law.2.1 1240 = .ok (.aload_n 0, 1) := by decide +kernel
theorem d_La_law_1241 : decode y_La_law.2.1 1241 = .ok (.iload 4, 2) := by decide +kernel
theorem d_La_law_1243 : decode y_La_law.2.1 1243 = .ok (.iconst 1, 1) := by decide +kernel
theorem d_La_law_1244 : decode y_La_law.2.1 1244 = .ok (.iadd, 1) := by decide +kernel
theorem d_La_law_1245 : decode y_La_law.2.1 1245 = .ok (.iaload, 1) := by decide +kernel
theorem d_La_law_1246 : decode y_La_law.2.1 1246 = .ok (.aload_n 0, 1) := by decide +kernel
theorem d_La_law_1247 : decode y_La_law.2.1 1247 = .ok (.iload 4, 2) := by decide +kernel
theorem d_La_law_1249 : decode y_La_law.2.1 1249 = .ok (.iconst 2, 1) := by decide +kernel
theorem d_La_law_1250 : decode y_La_law.2.1 1250 = .ok (.iadd, 1) := by decide +kernel
theorem d_La_law_1251 : decode y_La_law.2.1 1251 = .ok (.iaload, 1) := by decide +kernel
theorem d_La_law_1252 : decode y_La_law.2.1 1252 = .ok (.aload_n 3, 1) := by decide +kernel
theorem d_La_law_1253 : decode y_La_law.2.1 1253 = .ok (.invokestatic 141, 3) := by decide +kernel
theorem d_La_law_1256 : decode y_La_law.2.1 1256 = .ok (.istore 5, 2) := by decide +kernel
theorem d_La_law_1258 : decode y_La_law.2.1 1258 = .ok (.aload_n 2, 1) := by decide +kernel
theorem d_La_law_1259 : decode y_La_law.2.1 1259 = .ok (.aload_n 0, 1) := by decide +kernel
theorem d_La_law_1260 : decode y_La_law.2.1 1260 = .ok (.iload 4, 2) := by decide +kernel
theorem d_La_law_1262 : decode y_La_law.2.1 1262 = .ok (.iconst 1, 1) := by decide +kernel
theorem d_La_law_1263 : decode y_La_law.2.1 1263 = .ok (.iadd, 1) := by decide +kernel
theorem d_La_law_1264 : decode y_La_law.2.1 1264 = .ok (.iaload, 1) := by decide +kernel
theorem d_La_law_1265 : decode y_La_law.2.1 1265 = .ok (.aload_n 0, 1) := by decide +kernel
theorem d_La_law_1266 : decode y_La_law.2.1 1266 = .ok (.iload 4, 2) := by decide +kernel
theorem d_La_law_1268 : decode y_La_law.2.1 1268 = .ok (.iconst 2, 1) := by decide +kernel
theorem d_La_law_1269 : decode y_La_law.2.1 1269 = .ok (.iadd, 1) := by decide +kernel
theorem d_La_law_1270 : decode y_La_law.2.1 1270 = .ok (.iaload, 1) := by decide +kernel
theorem d_La_law_1271 : decode y_La_law.2.1 1271 = .ok (.invokevirtual 143, 3) := by decide +kernel
theorem d_La_law_1274 : decode y_La_law.2.1 1274 = .ok (.istore 6, 2) := by decide +kernel
theorem d_La_law_1276 : decode y_La_law.2.1 1276 = .ok (.aload_n 2, 1) := by decide +kernel
theorem d_La_law_1277 : decode y_La_law.2.1 1277 = .ok (.invokevirtual 77, 3) := by decide +kernel
theorem d_La_law_1280 : decode y_La_law.2.1 1280 = .ok (.iload 5, 2) := by decide +kernel
theorem d_La_law_1282 : decode y_La_law.2.1 1282 = .ok (.if_icmp .eq 5, 3) := by decide +kernel
theorem d_La_law_1285 : decode y_La_law.2.1 1285 = .ok (.iconst 0, 1) := by decide +kernel
theorem d_La_law_1286 : decode y_La_law.2.1 1286 = .ok (.ireturn, 1) := by decide +kernel
theorem d_La_law_1287 : decode y_La_law.2.1 1287 = .ok (.iload 5, 2) := by decide +kernel
theorem d_La_law_1289 : decode y_La_law.2.1 1289 = .ok (.ifCond .ne 15, 3) := by decide +kernel
theorem d_La_law_1292 : decode y_La_law.2.1 1292 = .ok (.aload_n 3, 1) := by decide +kernel
theorem d_La_law_1293 : decode y_La_law.2.1 1293 = .ok (.iconst 0, 1) := by decide +kernel
theorem d_La_law_1294 : decode y_La_law.2.1 1294 = .ok (.laload, 1) := by decide +kernel
theorem d_La_law_1295 : decode y_La_law.2.1 1295 = .ok (.iload 6, 2) := by decide +kernel
theorem d_La_law_1297 : decode y_La_law.2.1 1297 = .ok (.i2l, 1) := by decide +kernel
theorem d_La_law_1298 : decode y_La_law.2.1 1298 = .ok (.lcmp, 1) := by decide +kernel
theorem d_La_law_1299 : decode y_La_law.2.1 1299 = .ok (.ifCond .eq 5, 3) := by decide +kernel
theorem d_La_law_1302 : decode y_La_law.2.1 1302 = .ok (.iconst 0, 1) := by decide +kernel
theorem d_La_law_1303 : decode y_La_law.2.1 1303 = .ok (.ireturn, 1) := by decide +kernel
theorem d_La_law_1304 : decode y_La_law.2.1 1304 = .ok (.goto 41, 3) := by decide +kernel
theorem d_La_law_1307 : decode y_La_law.2.1 1307 = .ok (.aload_n 1, 1) := by decide +kernel
theorem d_La_law_1308 : decode y_La_law.2.1 1308 = .ok (.invokevirtual 144, 3) := by decide +kernel
theorem d_La_law_1311 : decode y_La_law.2.1 1311 = .ok (.aload_n 2, 1) := by decide +kernel
theorem d_La_law_1312 : decode y_La_law.2.1 1312 = .ok (.invokevirtual 147, 3) := by decide +kernel
theorem d_La_law_1315 : decode y_La_law.2.1 1315 = .ok (.if_icmp .eq 30, 3) := by decide +kernel
theorem d_La_law_1318 : decode y_La_law.2.1 1318 = .ok (.iconst 0, 1) := by decide +kernel
theorem d_La_law_1319 : decode y_La_law.2.1 1319 = .ok (.ireturn, 1) := by decide +kernel
theorem d_La_law_1320 : decode y_La_law.2.1 1320 = .ok (.aload_n 1, 1) := by decide +kernel
theorem d_La_law_1321 : decode y_La_law.2.1 1321 = .ok (.aload_n 0, 1) := by decide +kernel
theorem d_La_law_1322 : decode y_La_law.2.1 1322 = .ok (.iload 4, 2) := by decide +kernel
theorem d_La_law_1324 : decode y_La_law.2.1 1324 = .ok (.iconst 1, 1) := by decide +kernel
theorem d_La_law_1325 : decode y_La_law.2.1 1325 = .ok (.iadd, 1) := by decide +kernel
theorem d_La_law_1326 : decode y_La_law.2.1 1326 = .ok (.iaload, 1) := by decide +kernel
theorem d_La_law_1327 : decode y_La_law.2.1 1327 = .ok (.invokevirtual 148, 3) := by decide +kernel
theorem d_La_law_1330 : decode y_La_law.2.1 1330 = .ok (.aload_n 2, 1) := by decide +kernel
theorem d_La_law_1331 : decode y_La_law.2.1 1331 = .ok (.aload_n 0, 1) := by decide +kernel
theorem d_La_law_1332 : decode y_La_law.2.1 1332 = .ok (.iload 4, 2) := by decide +kernel
theorem d_La_law_1334 : decode y_La_law.2.1 1334 = .ok (.iconst 1, 1) := by decide +kernel
theorem d_La_law_1335 : decode y_La_law.2.1 1335 = .ok (.iadd, 1) := by decide +kernel
theorem d_La_law_1336 : decode y_La_law.2.1 1336 = .ok (.iaload, 1) := by decide +kernel
theorem d_La_law_1337 : decode y_La_law.2.1 1337 = .ok (.invokevirtual 152, 3) := by decide +kernel
theorem d_La_law_1340 : decode y_La_law.2.1 1340 = .ok (.if_icmp .eq 5, 3) := by decide +kernel
theorem d_La_law_1343 : decode y_La_law.2.1 1343 = .ok (.iconst 0, 1) := by decide +kernel
theorem d_La_law_1344 : decode y_La_law.2.1 1344 = .ok (.ireturn, 1) := by decide +kernel
theorem d_La_law_1345 : decode y_La_law.2.1 1345 = .ok (.iinc 4 5, 3) := by decide +kernel
theorem d_La_law_1348 : decode y_La_law.2.1 1348 = .ok (.goto (-1325), 3) := by decide +kernel
theorem d_La_law_1351 : decode y_La_law.2.1 1351 = .ok (.iconst 1, 1) := by decide +kernel
theorem d_La_law_1352 : decode y_La_law.2.1 1352 = .ok (.ireturn, 1) := by decide +kernel
end
