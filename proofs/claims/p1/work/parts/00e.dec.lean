/-! methods and their instructions -/
section
def y_Mo_init : MethodName × ByteArray × Nat × Option FieldType × List (Nat × Nat × Nat × Nat) := (⟨"MaskedCausesModel", "<init>", "()V"⟩, prog_13_method_1_code, 1, (Option.none : Option Jvm.ClassFile.FieldType), [])
theorem d_Mo_init_0 : decode y_Mo_init.2.1 0 = .ok (.aload_n 0, 1) := by decide +kernel
theorem d_Mo_init_1 : decode y_Mo_init.2.1 1 = .ok (.invokespecial 1, 3) := by decide +kernel
theorem d_Mo_init_4 : decode y_Mo_init.2.1 4 = .ok (.aload_n 0, 1) := by decide +kernel
theorem d_Mo_init_5 : decode y_Mo_init.2.1 5 = .ok (.iconst 3, 1) := by decide +kernel
theorem d_Mo_init_6 : decode y_Mo_init.2.1 6 = .ok (.newarray .int, 2) := by decide +kernel
theorem d_Mo_init_8 : decode y_Mo_init.2.1 8 = .ok (.putfield 7, 3) := by decide +kernel
theorem d_Mo_init_11 : decode y_Mo_init.2.1 11 = .ok (.aload_n 0, 1) := by decide +kernel
theorem d_Mo_init_12 : decode y_Mo_init.2.1 12 = .ok (.iconst 3, 1) := by decide +kernel
theorem d_Mo_init_13 : decode y_Mo_init.2.1 13 = .ok (.newarray .int, 2) := by decide +kernel
theorem d_Mo_init_15 : decode y_Mo_init.2.1 15 = .ok (.putfield 13, 3) := by decide +kernel
theorem d_Mo_init_18 : decode y_Mo_init.2.1 18 = .ok (.aload_n 0, 1) := by decide +kernel
theorem d_Mo_init_19 : decode y_Mo_init.2.1 19 = .ok (.bipush 8, 2) := by decide +kernel
theorem d_Mo_init_21 : decode y_Mo_init.2.1 21 = .ok (.newarray .int, 2) := by decide +kernel
theorem d_Mo_init_23 : decode y_Mo_init.2.1 23 = .ok (.putfield 16, 3) := by decide +kernel
theorem d_Mo_init_26 : decode y_Mo_init.2.1 26 = .ok (.aload_n 0, 1) := by decide +kernel
theorem d_Mo_init_27 : decode y_Mo_init.2.1 27 = .ok (.bipush 8, 2) := by decide +kernel
theorem d_Mo_init_29 : decode y_Mo_init.2.1 29 = .ok (.newarray .int, 2) := by decide +kernel
theorem d_Mo_init_31 : decode y_Mo_init.2.1 31 = .ok (.putfield 19, 3) := by decide +kernel
theorem d_Mo_init_34 : decode y_Mo_init.2.1 34 = .ok (.aload_n 0, 1) := by decide +kernel
theorem d_Mo_init_35 : decode y_Mo_init.2.1 35 = .ok (.bipush 8, 2) := by decide +kernel
theorem d_Mo_init_37 : decode y_Mo_init.2.1 37 = .ok (.newarray .int, 2) := by decide +kernel
theorem d_Mo_init_39 : decode y_Mo_init.2.1 39 = .ok (.putfield 22, 3) := by decide +kernel
theorem d_Mo_init_42 : decode y_Mo_init.2.1 42 = .ok (.aload_n 0, 1) := by decide +kernel
theorem d_Mo_init_43 : decode y_Mo_init.2.1 43 = .ok (.bipush 8, 2) := by decide +kernel
theorem d_Mo_init_45 : decode y_Mo_init.2.1 45 = .ok (.newarray .int, 2) := by decide +kernel
theorem d_Mo_init_47 : decode y_Mo_init.2.1 47 = .ok (.putfield 25, 3) := by decide +kernel
theorem d_Mo_init_50 : decode y_Mo_init.2.1 50 = .ok (.aload_n 0, 1) := by decide +kernel
theorem d_Mo_init_51 : decode y_Mo_init.2.1 51 = .ok (.bipush 40, 2) := by decide +kernel
theorem d_Mo_init_53 : decode y_Mo_init.2.1 53 = .ok (.newarray .int, 2) := by decide +kernel
theorem d_Mo_init_55 : decode y_Mo_init.2.1 55 = .ok (.putfield 28, 3) := by decide +kernel
theorem d_Mo_init_58 : decode y_Mo_init.2.1 58 = .ok (.aload_n 0, 1) := by decide +kernel
theorem d_Mo_init_59 : decode y_Mo_init.2.1 59 = .ok (.sipush 160, 3) := by decide +kernel
theorem d_Mo_init_62 : decode y_Mo_init.2.1 62 = .ok (.newarray .int, 2) := by decide +kernel
theorem d_Mo_init_64 : decode y_Mo_init.2.1 64 = .ok (.putfield 31, 3) := by decide +kernel
theorem d_Mo_init_67 : decode y_Mo_init.2.1 67 = .ok (.aload_n 0, 1) := by decide +kernel
theorem d_Mo_init_68 : decode y_Mo_init.2.1 68 = .ok (.iconst 4, 1) := by decide +kernel
theorem d_Mo_init_69 : decode y_Mo_init.2.1 69 = .ok (.newarray .int, 2) := by decide +kernel
theorem d_Mo_init_71 : decode y_Mo_init.2.1 71 = .ok (.putfield 34, 3) := by decide +kernel
theorem d_Mo_init_74 : decode y_Mo_init.2.1 74 = .ok (.aload_n 0, 1) := by decide +kernel
theorem d_Mo_init_75 : decode y_Mo_init.2.1 75 = .ok (.iconst 4, 1) := by decide +kernel
theorem d_Mo_init_76 : decode y_Mo_init.2.1 76 = .ok (.newarray .boolean, 2) := by decide +kernel
theorem d_Mo_init_78 : decode y_Mo_init.2.1 78 = .ok (.putfield 37, 3) := by decide +kernel
theorem d_Mo_init_81 : decode y_Mo_init.2.1 81 = .ok (.aload_n 0, 1) := by decide +kernel
theorem d_Mo_init_82 : decode y_Mo_init.2.1 82 = .ok (.iconst 4, 1) := by decide +kernel
theorem d_Mo_init_83 : decode y_Mo_init.2.1 83 = .ok (.newarray .int, 2) := by decide +kernel
theorem d_Mo_init_85 : decode y_Mo_init.2.1 85 = .ok (.putfield 41, 3) := by decide +kernel
theorem d_Mo_init_88 : decode y_Mo_init.2.1 88 = .ok (.aload_n 0, 1) := by decide +kernel
theorem d_Mo_init_89 : decode y_Mo_init.2.1 89 = .ok (.bipush 24, 2) := by decide +kernel
theorem d_Mo_init_91 : decode y_Mo_init.2.1 91 = .ok (.newarray .int, 2) := by decide +kernel
theorem d_Mo_init_93 : decode y_Mo_init.2.1 93 = .ok (.putfield 44, 3) := by decide +kernel
theorem d_Mo_init_96 : decode y_Mo_init.2.1 96 = .ok (.aload_n 0, 1) := by decide +kernel
theorem d_Mo_init_97 : decode y_Mo_init.2.1 97 = .ok (.sipush 256, 3) := by decide +kernel
theorem d_Mo_init_100 : decode y_Mo_init.2.1 100 = .ok (.newarray .boolean, 2) := by decide +kernel
theorem d_Mo_init_102 : decode y_Mo_init.2.1 102 = .ok (.putfield 47, 3) := by decide +kernel
theorem d_Mo_init_105 : decode y_Mo_init.2.1 105 = .ok (.aload_n 0, 1) := by decide +kernel
theorem d_Mo_init_106 : decode y_Mo_init.2.1 106 = .ok (.sipush 768, 3) := by decide +kernel
theorem d_Mo_init_109 : decode y_Mo_init.2.1 109 = .ok (.newarray .int, 2) := by decide +kernel
theorem d_Mo_init_111 : decode y_Mo_init.2.1 111 = .ok (.putfield 50, 3) := by decide +kernel
theorem d_Mo_init_114 : decode y_Mo_init.2.1 114 = .ok (.aload_n 0, 1) := by decide +kernel
theorem d_Mo_init_115 : decode y_Mo_init.2.1 115 = .ok (.sipush 256, 3) := by decide +kernel
theorem d_Mo_init_118 : decode y_Mo_init.2.1 118 = .ok (.newarray .boolean, 2) := by decide +kernel
theorem d_Mo_init_120 : decode y_Mo_init.2.1 120 = .ok (.putfield 53, 3) := by decide +kernel
theorem d_Mo_init_123 : decode y_Mo_init.2.1 123 = .ok (.aload_n 0, 1) := by decide +kernel
theorem d_Mo_init_124 : decode y_Mo_init.2.1 124 = .ok (.sipush 256, 3) := by decide +kernel
theorem d_Mo_init_127 : decode y_Mo_init.2.1 127 = .ok (.newarray .int, 2) := by decide +kernel
theorem d_Mo_init_129 : decode y_Mo_init.2.1 129 = .ok (.putfield 56, 3) := by decide +kernel
theorem d_Mo_init_132 : decode y_Mo_init.2.1 132 = .ok (.aload_n 0, 1) := by decide +kernel
theorem d_Mo_init_133 : decode y_Mo_init.2.1 133 = .ok (.bipush 8, 2) := by decide +kernel
theorem d_Mo_init_135 : decode y_Mo_init.2.1 135 = .ok (.newarray .boolean, 2) := by decide +kernel
theorem d_Mo_init_137 : decode y_Mo_init.2.1 137 = .ok (.putfield 59, 3) := by decide +kernel
theorem d_Mo_init_140 : decode y_Mo_init.2.1 140 = .ok (.aload_n 0, 1) := by decide +kernel
theorem d_Mo_init_141 : decode y_Mo_init.2.1 141 = .ok (.bipush 8, 2) := by decide +kernel
theorem d_Mo_init_143 : decode y_Mo_init.2.1 143 = .ok (.newarray .boolean, 2) := by decide +kernel
theorem d_Mo_init_145 : decode y_Mo_init.2.1 145 = .ok (.putfield 62, 3) := by decide +kernel
theorem d_Mo_init_148 : decode y_Mo_init.2.1 148 = .ok (.aload_n 0, 1) := by decide +kernel
theorem d_Mo_init_149 : decode y_Mo_init.2.1 149 = .ok (.bipush 8, 2) := by decide +kernel
theorem d_Mo_init_151 : decode y_Mo_init.2.1 151 = .ok (.newarray .boolean, 2) := by decide +kernel
theorem d_Mo_init_153 : decode y_Mo_init.2.1 153 = .ok (.putfield 65, 3) := by decide +kernel
theorem d_Mo_init_156 : decode y_Mo_init.2.1 156 = .ok (.aload_n 0, 1) := by decide +kernel
theorem d_Mo_init_157 : decode y_Mo_init.2.1 157 = .ok (.bipush 8, 2) := by decide +kernel
theorem d_Mo_init_159 : decode y_Mo_init.2.1 159 = .ok (.newarray .boolean, 2) := by decide +kernel
theorem d_Mo_init_161 : decode y_Mo_init.2.1 161 = .ok (.putfield 68, 3) := by decide +kernel
theorem d_Mo_init_164 : decode y_Mo_init.2.1 164 = .ok (.aload_n 0, 1) := by decide +kernel
theorem d_Mo_init_165 : decode y_Mo_init.2.1 165 = .ok (.bipush 8, 2) := by decide +kernel
theorem d_Mo_init_167 : decode y_Mo_init.2.1 167 = .ok (.newarray .boolean, 2) := by decide +kernel
theorem d_Mo_init_169 : decode y_Mo_init.2.1 169 = .ok (.putfield 71, 3) := by decide +kernel
theorem d_Mo_init_172 : decode y_Mo_init.2.1 172 = .ok (.aload_n 0, 1) := by decide +kernel
theorem d_Mo_init_173 : decode y_Mo_init.2.1 173 = .ok (.bipush 12, 2) := by decide +kernel
theorem d_Mo_init_175 : decode y_Mo_init.2.1 175 = .ok (.newarray .int, 2) := by decide +kernel
theorem d_Mo_init_177 : decode y_Mo_init.2.1 177 = .ok (.putfield 74, 3) := by decide +kernel
theorem d_Mo_init_180 : decode y_Mo_init.2.1 180 = .ok (.aload_n 0, 1) := by decide +kernel
theorem d_Mo_init_181 : decode y_Mo_init.2.1 181 = .ok (.bipush 64, 2) := by decide +kernel
theorem d_Mo_init_183 : decode y_Mo_init.2.1 183 = .ok (.newarray .int, 2) := by decide +kernel
theorem d_Mo_init_185 : decode y_Mo_init.2.1 185 = .ok (.putfield 77, 3) := by decide +kernel
theorem d_Mo_init_188 : decode y_Mo_init.2.1 188 = .ok (.aload_n 0, 1) := by decide +kernel
theorem d_Mo_init_189 : decode y_Mo_init.2.1 189 = .ok (.bipush 36, 2) := by decide +kernel
theorem d_Mo_init_191 : decode y_Mo_init.2.1 191 = .ok (.newarray .int, 2) := by decide +kernel
theorem d_Mo_init_193 : decode y_Mo_init.2.1 193 = .ok (.putfield 80, 3) := by decide +kernel
theorem d_Mo_init_196 : decode y_Mo_init.2.1 196 = .ok (.aload_n 0, 1) := by decide +kernel
theorem d_Mo_init_197 : decode y_Mo_init.2.1 197 = .ok (.bipush 40, 2) := by decide +kernel
theorem d_Mo_init_199 : decode y_Mo_init.2.1 199 = .ok (.newarray .int, 2) := by decide +kernel
theorem d_Mo_init_201 : decode y_Mo_init.2.1 201 = .ok (.putfield 83, 3) := by decide +kernel
theorem d_Mo_init_204 : decode y_Mo_init.2.1 204 = .ok (.return_, 1) := by decide +kernel
def y_Mo_thrown : MethodName × ByteArray × Nat × Option FieldType × List (Nat × Nat × Nat × Nat) := (⟨"MaskedCausesModel", "thrown", "()I"⟩, prog_13_method_2_code, 1, (Option.some Jvm.ClassFile.FieldType.int), [])
theorem d_Mo_thrown_0 : decode y_Mo_thrown.2.1 0 = .ok (.aload_n 0, 1) := by decide +kernel
theorem d_Mo_thrown_1 : decode y_Mo_thrown.2.1 1 = .ok (.getfield 86, 3) := by decide +kernel
theorem d_Mo_thrown_4 : decode y_Mo_thrown.2.1 4 = .ok (.ireturn, 1) := by decide +kernel
def y_Mo_refused : MethodName × ByteArray × Nat × Option FieldType × List (Nat × Nat × Nat × Nat) := (⟨"MaskedCausesModel", "refused", "(ZZ)Z"⟩, prog_13_method_3_code, 3, (Option.some Jvm.ClassFile.FieldType.boolean), [])
theorem d_Mo_refused_0 : decode y_Mo_refused.2.1 0 = .ok (.aload_n 0, 1) := by decide +kernel
theorem d_Mo_refused_1 : decode y_Mo_refused.2.1 1 = .ok (.iload_n 1, 1) := by decide +kernel
theorem d_Mo_refused_2 : decode y_Mo_refused.2.1 2 = .ok (.ifCond .eq 7, 3) := by decide +kernel
theorem d_Mo_refused_5 : decode y_Mo_refused.2.1 5 = .ok (.iconst 1, 1) := by decide +kernel
theorem d_Mo_refused_6 : decode y_Mo_refused.2.1 6 = .ok (.goto 12, 3) := by decide +kernel
theorem d_Mo_refused_9 : decode y_Mo_refused.2.1 9 = .ok (.iload_n 2, 1) := by decide +kernel
theorem d_Mo_refused_10 : decode y_Mo_refused.2.1 10 = .ok (.ifCond .eq 7, 3) := by decide +kernel
theorem d_Mo_refused_13 : decode y_Mo_refused.2.1 13 = .ok (.iconst 2, 1) := by decide +kernel
theorem d_Mo_refused_14 : decode y_Mo_refused.2.1 14 = .ok (.goto 4, 3) := by decide +kernel
theorem d_Mo_refused_17 : decode y_Mo_refused.2.1 17 = .ok (.iconst 0, 1) := by decide +kernel
theorem d_Mo_refused_18 : decode y_Mo_refused.2.1 18 = .ok (.putfield 86, 3) := by decide +kernel
theorem d_Mo_refused_21 : decode y_Mo_refused.2.1 21 = .ok (.aload_n 0, 1) := by decide +kernel
theorem d_Mo_refused_22 : decode y_Mo_refused.2.1 22 = .ok (.getfield 86, 3) := by decide +kernel
theorem d_Mo_refused_25 : decode y_Mo_refused.2.1 25 = .ok (.ifCond .le 7, 3) := by decide +kernel
theorem d_Mo_refused_28 : decode y_Mo_refused.2.1 28 = .ok (.iconst 1, 1) := by decide +kernel
theorem d_Mo_refused_29 : decode y_Mo_refused.2.1 29 = .ok (.goto 4, 3) := by decide +kernel
theorem d_Mo_refused_32 : decode y_Mo_refused.2.1 32 = .ok (.iconst 0, 1) := by decide +kernel
theorem d_Mo_refused_33 : decode y_Mo_refused.2.1 33 = .ok (.ireturn, 1) := by decide +kernel
def y_Mo_input : MethodName × ByteArray × Nat × Option FieldType × List (Nat × Nat × Nat × Nat) := (⟨"MaskedCausesModel", "input", "(II)I"⟩, prog_13_method_4_code, 3, (Option.some Jvm.ClassFile.FieldType.int), [])
theorem d_Mo_input_0 : decode y_Mo_input.2.1 0 = .ok (.aload_n 0, 1) := by decide +kernel
theorem d_Mo_input_1 : decode y_Mo_input.2.1 1 = .ok (.aload_n 0, 1) := by decide +kernel
theorem d_Mo_input_2 : decode y_Mo_input.2.1 2 = .ok (.getfield 90, 3) := by decide +kernel
theorem d_Mo_input_5 : decode y_Mo_input.2.1 5 = .ok (.iconst 3, 1) := by decide +kernel
theorem d_Mo_input_6 : decode y_Mo_input.2.1 6 = .ok (.if_icmp .eq 10, 3) := by decide +kernel
theorem d_Mo_input_9 : decode y_Mo_input.2.1 9 = .ok (.aload_n 0, 1) := by decide +kernel
theorem d_Mo_input_10 : decode y_Mo_input.2.1 10 = .ok (.getfield 93, 3) := by decide +kernel
theorem d_Mo_input_13 : decode y_Mo_input.2.1 13 = .ok (.ifCond .le 7, 3) := by decide +kernel
theorem d_Mo_input_16 : decode y_Mo_input.2.1 16 = .ok (.iconst 1, 1) := by decide +kernel
theorem d_Mo_input_17 : decode y_Mo_input.2.1 17 = .ok (.goto 4, 3) := by decide +kernel
theorem d_Mo_input_20 : decode y_Mo_input.2.1 20 = .ok (.iconst 0, 1) := by decide +kernel
theorem d_Mo_input_21 : decode y_Mo_input.2.1 21 = .ok (.iload_n 1, 1) := by decide +kernel
theorem d_Mo_input_22 : decode y_Mo_input.2.1 22 = .ok (.bipush (-20), 2) := by decide +kernel
theorem d_Mo_input_24 : decode y_Mo_input.2.1 24 = .ok (.if_icmp .lt 14, 3) := by decide +kernel
theorem d_Mo_input_27 : decode y_Mo_input.2.1 27 = .ok (.iload_n 1, 1) := by decide +kernel
theorem d_Mo_input_28 : decode y_Mo_input.2.1 28 = .ok (.iload_n 2, 1) := by decide +kernel
theorem d_Mo_input_29 : decode y_Mo_input.2.1 29 = .ok (.if_icmp .gt 9, 3) := by decide +kernel
theorem d_Mo_input_32 : decode y_Mo_input.2.1 32 = .ok (.iload_n 2, 1) := by decide +kernel
theorem d_Mo_input_33 : decode y_Mo_input.2.1 33 = .ok (.bipush 20, 2) := by decide +kernel
theorem d_Mo_input_35 : decode y_Mo_input.2.1 35 = .ok (.if_icmp .le 7, 3) := by decide +kernel
theorem d_Mo_input_38 : decode y_Mo_input.2.1 38 = .ok (.iconst 1, 1) := by decide +kernel
theorem d_Mo_input_39 : decode y_Mo_input.2.1 39 = .ok (.goto 4, 3) := by decide +kernel
theorem d_Mo_input_42 : decode y_Mo_input.2.1 42 = .ok (.iconst 0, 1) := by decide +kernel
theorem d_Mo_input_43 : decode y_Mo_input.2.1 43 = .ok (.invokevirtual 96, 3) := by decide +kernel
theorem d_Mo_input_46 : decode y_Mo_input.2.1 46 = .ok (.ifCond .eq 5, 3) := by decide +kernel
theorem d_Mo_input_49 : decode y_Mo_input.2.1 49 = .ok (.iconst 0, 1) := by decide +kernel
theorem d_Mo_input_50 : decode y_Mo_input.2.1 50 = .ok (.ireturn, 1) := by decide +kernel
theorem d_Mo_input_51 : decode y_Mo_input.2.1 51 = .ok (.aload_n 0, 1) := by decide +kernel
theorem d_Mo_input_52 : decode y_Mo_input.2.1 52 = .ok (.getfield 7, 3) := by decide +kernel
theorem d_Mo_input_55 : decode y_Mo_input.2.1 55 = .ok (.aload_n 0, 1) := by decide +kernel
theorem d_Mo_input_56 : decode y_Mo_input.2.1 56 = .ok (.getfield 90, 3) := by decide +kernel
theorem d_Mo_input_59 : decode y_Mo_input.2.1 59 = .ok (.iload_n 1, 1) := by decide +kernel
theorem d_Mo_input_60 : decode y_Mo_input.2.1 60 = .ok (.iastore, 1) := by decide +kernel
theorem d_Mo_input_61 : decode y_Mo_input.2.1 61 = .ok (.aload_n 0, 1) := by decide +kernel
theorem d_Mo_input_62 : decode y_Mo_input.2.1 62 = .ok (.getfield 13, 3) := by decide +kernel
theorem d_Mo_input_65 : decode y_Mo_input.2.1 65 = .ok (.aload_n 0, 1) := by decide +kernel
theorem d_Mo_input_66 : decode y_Mo_input.2.1 66 = .ok (.getfield 90, 3) := by decide +kernel
theorem d_Mo_input_69 : decode y_Mo_input.2.1 69 = .ok (.iload_n 2, 1) := by decide +kernel
theorem d_Mo_input_70 : decode y_Mo_input.2.1 70 = .ok (.iastore, 1) := by decide +kernel
theorem d_Mo_input_71 : decode y_Mo_input.2.1 71 = .ok (.aload_n 0, 1) := by decide +kernel
theorem d_Mo_input_72 : decode y_Mo_input.2.1 72 = .ok (.dup, 1) := by decide +kernel
theorem d_Mo_input_73 : decode y_Mo_input.2.1 73 = .ok (.getfield 90, 3) := by decide +kernel
theorem d_Mo_input_76 : decode y_Mo_input.2.1 76 = .ok (.iconst 1, 1) := by decide +kernel
theorem d_Mo_input_77 : decode y_Mo_input.2.1 77 = .ok (.iadd, 1) := by decide +kernel
theorem d_Mo_input_78 : decode y_Mo_input.2.1 78 = .ok (.putfield 90, 3) := by decide +kernel
theorem d_Mo_input_81 : decode y_Mo_input.2.1 81 = .ok (.aload_n 0, 1) := by decide +kernel
theorem d_Mo_input_82 : decode y_Mo_input.2.1 82 = .ok (.getfield 90, 3) := by decide +kernel
theorem d_Mo_input_85 : decode y_Mo_input.2.1 85 = .ok (.iconst 1, 1) := by decide +kernel
theorem d_Mo_input_86 : decode y_Mo_input.2.1 86 = .ok (.isub, 1) := by decide +kernel
theorem d_Mo_input_87 : decode y_Mo_input.2.1 87 = .ok (.ireturn, 1) := by decide +kernel
def y_Mo_condition : MethodName × ByteArray × Nat × Option FieldType × List (Nat × Nat × Nat × Nat) := (⟨"MaskedCausesModel", "condition", "(IIII)I"⟩, prog_13_method_5_code, 7, (Option.some Jvm.ClassFile.FieldType.int), [])
theorem d_Mo_condition_0 : decode y_Mo_condition.2.1 0 = .ok (.iload_n 2, 1) := by decide +kernel
theorem d_Mo_condition_1 : decode y_Mo_condition.2.1 1 = .ok (.ifCond .lt 28, 3) := by decide +kernel
theorem d_Mo_condition_4 : decode y_Mo_condition.2.1 4 = .ok (.iload_n 2, 1) := by decide +kernel
theorem d_Mo_condition_5 : decode y_Mo_condition.2.1 5 = .ok (.aload_n 0, 1) := by decide +kernel
theorem d_Mo_condition_6 : decode y_Mo_condition.2.1 6 = .ok (.getfield 90, 3) := by decide +kernel
theorem d_Mo_condition_9 : decode y_Mo_condition.2.1 9 = .ok (.if_icmp .ge 20, 3) := by decide +kernel
theorem d_Mo_condition_12 : decode y_Mo_condition.2.1 12 = .ok (.iload_n 3, 1) := by decide +kernel
theorem d_Mo_condition_13 : decode y_Mo_condition.2.1 13 = .ok (.iconst (-1), 1) := by decide +kernel
theorem d_Mo_condition_14 : decode y_Mo_condition.2.1 14 = .ok (.if_icmp .lt 15, 3) := by decide +kernel
theorem d_Mo_condition_17 : decode y_Mo_condition.2.1 17 = .ok (.iload_n 3, 1) := by decide +kernel
theorem d_Mo_condition_18 : decode y_Mo_condition.2.1 18 = .ok (.aload_n 0, 1) := by decide +kernel
theorem d_Mo_condition_19 : decode y_Mo_condition.2.1 19 = .ok (.getfield 90, 3) := by decide +kernel
theorem d_Mo_condition_22 : decode y_Mo_condition.2.1 22 = .ok (.if_icmp .ge 7, 3) := by decide +kernel
theorem d_Mo_condition_25 : decode y_Mo_condition.2.1 25 = .ok (.iconst 1, 1) := by decide +kernel
theorem d_Mo_condition_26 : decode y_Mo_condition.2.1 26 = .ok (.goto 4, 3) := by decide +kernel
theorem d_Mo_condition_29 : decode y_Mo_condition.2.1 29 = .ok (.iconst 0, 1) := by decide +kernel
theorem d_Mo_condition_30 : decode y_Mo_condition.2.1 30 = .ok (.istore 5, 2) := by decide +kernel
theorem d_Mo_condition_32 : decode y_Mo_condition.2.1 32 = .ok (.iload_n 1, 1) := by decide +kernel
theorem d_Mo_condition_33 : decode y_Mo_condition.2.1 33 = .ok (.ifCond .lt 31, 3) := by decide +kernel
theorem d_Mo_condition_36 : decode y_Mo_condition.2.1 36 = .ok (.iload_n 1, 1) := by decide +kernel
theorem d_Mo_condition_37 : decode y_Mo_condition.2.1 37 = .ok (.iconst 3, 1) := by decide +kernel
theorem d_Mo_condition_38 : decode y_Mo_condition.2.1 38 = .ok (.if_icmp .gt 26, 3) := by decide +kernel
theorem d_Mo_condition_41 : decode y_Mo_condition.2.1 41 = .ok (.iload 4, 2) := by decide +kernel
theorem d_Mo_condition_43 : decode y_Mo_condition.2.1 43 = .ok (.bipush (-50), 2) := by decide +kernel
theorem d_Mo_condition_45 : decode y_Mo_condition.2.1 45 = .ok (.if_icmp .lt 19, 3) := by decide +kernel
theorem d_Mo_condition_48 : decode y_Mo_condition.2.1 48 = .ok (.iload 4, 2) := by decide +kernel
theorem d_Mo_condition_50 : decode y_Mo_condition.2.1 50 = .ok (.bipush 50, 2) := by decide +kernel
theorem d_Mo_condition_52 : decode y_Mo_condition.2.1 52 = .ok (.if_icmp .gt 12, 3) := by decide +kernel
theorem d_Mo_condition_55 : decode y_Mo_condition.2.1 55 = .ok (.iload_n 2, 1) := by decide +kernel
theorem d_Mo_condition_56 : decode y_Mo_condition.2.1 56 = .ok (.iload_n 3, 1) := by decide +kernel
theorem d_Mo_condition_57 : decode y_Mo_condition.2.1 57 = .ok (.if_icmp .eq 7, 3) := by decide +kernel
theorem d_Mo_condition_60 : decode y_Mo_condition.2.1 60 = .ok (.iconst 1, 1) := by decide +kernel
theorem d_Mo_condition_61 : decode y_Mo_condition.2.1 61 = .ok (.goto 4, 3) := by decide +kernel
theorem d_Mo_condition_64 : decode y_Mo_condition.2.1 64 = .ok (.iconst 0, 1) := by decide +kernel
theorem d_Mo_condition_65 : decode y_Mo_condition.2.1 65 = .ok (.istore 6, 2) := by decide +kernel
theorem d_Mo_condition_67 : decode y_Mo_condition.2.1 67 = .ok (.aload_n 0, 1) := by decide +kernel
theorem d_Mo_condition_68 : decode y_Mo_condition.2.1 68 = .ok (.aload_n 0, 1) := by decide +kernel
theorem d_Mo_condition_69 : decode y_Mo_condition.2.1 69 = .ok (.getfield 93, 3) := by decide +kernel
theorem d_Mo_condition_72 : decode y_Mo_condition.2.1 72 = .ok (.bipush 8, 2) := by decide +kernel
theorem d_Mo_condition_74 : decode y_Mo_condition.2.1 74 = .ok (.if_icmp .ne 7, 3) := by decide +kernel
theorem d_Mo_condition_77 : decode y_Mo_condition.2.1 77 = .ok (.iconst 1, 1) := by decide +kernel
theorem d_Mo_condition_78 : decode y_Mo_condition.2.1 78 = .ok (.goto 22, 3) := by decide +kernel
theorem d_Mo_condition_81 : decode y_Mo_condition.2.1 81 = .ok (.iload 5, 2) := by decide +kernel
theorem d_Mo_condition_83 : decode y_Mo_condition.2.1 83 = .ok (.ifCond .ne 7, 3) := by decide +kernel
theorem d_Mo_condition_86 : decode y_Mo_condition.2.1 86 = .ok (.iconst 2, 1) := by decide +kernel
theorem d_Mo_condition_87 : decode y_Mo_condition.2.1 87 = .ok (.goto 13, 3) := by decide +kernel
theorem d_Mo_condition_90 : decode y_Mo_condition.2.1 90 = .ok (.iload 6, 2) := by decide +kernel
theorem d_Mo_condition_92 : decode y_Mo_condition.2.1 92 = .ok (.ifCond .ne 7, 3) := by decide +kernel
theorem d_Mo_condition_95 : decode y_Mo_condition.2.1 95 = .ok (.iconst 3, 1) := by decide +kernel
theorem d_Mo_condition_96 : decode y_Mo_condition.2.1 96 = .ok (.goto 4, 3) := by decide +kernel
theorem d_Mo_condition_99 : decode y_Mo_condition.2.1 99 = .ok (.iconst 0, 1) := by decide +kernel
theorem d_Mo_condition_100 : decode y_Mo_condition.2.1 100 = .ok (.putfield 86, 3) := by decide +kernel
theorem d_Mo_condition_103 : decode y_Mo_condition.2.1 103 = .ok (.aload_n 0, 1) := by decide +kernel
theorem d_Mo_condition_104 : decode y_Mo_condition.2.1 104 = .ok (.getfield 86, 3) := by decide +kernel
theorem d_Mo_condition_107 : decode y_Mo_condition.2.1 107 = .ok (.ifCond .le 5, 3) := by decide +kernel
theorem d_Mo_condition_110 : decode y_Mo_condition.2.1 110 = .ok (.iconst 0, 1) := by decide +kernel
theorem d_Mo_condition_111 : decode y_Mo_condition.2.1 111 = .ok (.ireturn, 1) := by decide +kernel
theorem d_Mo_condition_112 : decode y_Mo_condition.2.1 112 = .ok (.aload_n 0, 1) := by decide +kernel
theorem d_Mo_condition_113 : decode y_Mo_condition.2.1 113 = .ok (.getfield 16, 3) := by decide +kernel
theorem d_Mo_condition_116 : decode y_Mo_condition.2.1 116 = .ok (.aload_n 0, 1) := by decide +kernel
theorem d_Mo_condition_117 : decode y_Mo_condition.2.1 117 = .ok (.getfield 93, 3) := by decide +kernel
theorem d_Mo_condition_120 : decode y_Mo_condition.2.1 120 = .ok (.iload_n 1, 1) := by decide +kernel
theorem d_Mo_condition_121 : decode y_Mo_condition.2.1 121 = .ok (.iastore, 1) := by decide +kernel
theorem d_Mo_condition_122 : decode y_Mo_condition.2.1 122 = .ok (.aload_n 0, 1) := by decide +kernel
theorem d_Mo_condition_123 : decode y_Mo_condition.2.1 123 = .ok (.getfield 19, 3) := by decide +kernel
theorem d_Mo_condition_126 : decode y_Mo_condition.2.1 126 = .ok (.aload_n 0, 1) := by decide +kernel
theorem d_Mo_condition_127 : decode y_Mo_condition.2.1 127 = .ok (.getfield 93, 3) := by decide +kernel
theorem d_Mo_condition_130 : decode y_Mo_condition.2.1 130 = .ok (.iload_n 2, 1) := by decide +kernel
theorem d_Mo_condition_131 : decode y_Mo_condition.2.1 131 = .ok (.iastore, 1) := by decide +kernel
theorem d_Mo_condition_132 : decode y_Mo_condition.2.1 132 = .ok (.aload_n 0, 1) := by decide +kernel
theorem d_Mo_condition_133 : decode y_Mo_condition.2.1 133 = .ok (.getfield 22, 3) := by decide +kernel
theorem d_Mo_condition_136 : decode y_Mo_condition.2.1 136 = .ok (.aload_n 0, 1) := by decide +kernel
theorem d_Mo_condition_137 : decode y_Mo_condition.2.1 137 = .ok (.getfield 93, 3) := by decide +kernel
theorem d_Mo_condition_140 : decode y_Mo_condition.2.1 140 = .ok (.iload_n 3, 1) := by decide +kernel
theorem d_Mo_condition_141 : decode y_Mo_condition.2.1 141 = .ok (.iastore, 1) := by decide +kernel
theorem d_Mo_condition_142 : decode y_Mo_condition.2.1 142 = .ok (.aload_n 0, 1) := by decide +kernel
theorem d_Mo_condition_143 : decode y_Mo_condition.2.1 143 = .ok (.getfield 25, 3) := by decide +kernel
theorem d_Mo_condition_146 : decode y_Mo_condition.2.1 146 = .ok (.aload_n 0, 1) := by decide +kernel
theorem d_Mo_condition_147 : decode y_Mo_condition.2.1 147 = .ok (.getfield 93, 3) := by decide +kernel
theorem d_Mo_condition_150 : decode y_Mo_condition.2.1 150 = .ok (.iload 4, 2) := by decide +kernel
theorem d_Mo_condition_152 : decode y_Mo_condition.2.1 152 = .ok (.iastore, 1) := by decide +kernel
theorem d_Mo_condition_153 : decode y_Mo_condition.2.1 153 = .ok (.aload_n 0, 1) := by decide +kernel
theorem d_Mo_condition_154 : decode y_Mo_condition.2.1 154 = .ok (.dup, 1) := by decide +kernel
theorem d_Mo_condition_155 : decode y_Mo_condition.2.1 155 = .ok (.getfield 93, 3) := by decide +kernel
theorem d_Mo_condition_158 : decode y_Mo_condition.2.1 158 = .ok (.iconst 1, 1) := by decide +kernel
theorem d_Mo_condition_159 : decode y_Mo_condition.2.1 159 = .ok (.iadd, 1) := by decide +kernel
theorem d_Mo_condition_160 : decode y_Mo_condition.2.1 160 = .ok (.putfield 93, 3) := by decide +kernel
theorem d_Mo_condition_163 : decode y_Mo_condition.2.1 163 = .ok (.aload_n 0, 1) := by decide +kernel
theorem d_Mo_condition_164 : decode y_Mo_condition.2.1 164 = .ok (.getfield 93, 3) := by decide +kernel
theorem d_Mo_condition_167 : decode y_Mo_condition.2.1 167 = .ok (.iconst 1, 1) := by decide +kernel
theorem d_Mo_condition_168 : decode y_Mo_condition.2.1 168 = .ok (.isub, 1) := by decide +kernel
theorem d_Mo_condition_169 : decode y_Mo_condition.2.1 169 = .ok (.ireturn, 1) := by decide +kernel
def y_Mo_type : MethodName × ByteArray × Nat × Option FieldType × List (Nat × Nat × Nat × Nat) := (⟨"MaskedCausesModel", "type", "(C)Z"⟩, prog_13_method_6_code, 2, (Option.some Jvm.ClassFile.FieldType.boolean), [])
theorem d_Mo_type_0 : decode y_Mo_type.2.1 0 = .ok (.aload_n 0, 1) := by decide +kernel
theorem d_Mo_type_1 : decode y_Mo_type.2.1 1 = .ok (.iconst 0, 1) := by decide +kernel
theorem d_Mo_type_2 : decode y_Mo_type.2.1 2 = .ok (.putfield 86, 3) := by decide +kernel
theorem d_Mo_type_5 : decode y_Mo_type.2.1 5 = .ok (.iload_n 1, 1) := by decide +kernel
theorem d_Mo_type_6 : decode y_Mo_type.2.1 6 = .ok (.bipush 32, 2) := by decide +kernel
theorem d_Mo_type_8 : decode y_Mo_type.2.1 8 = .ok (.if_icmp .lt 18, 3) := by decide +kernel
theorem d_Mo_type_11 : decode y_Mo_type.2.1 11 = .ok (.iload_n 1, 1) := by decide +kernel
theorem d_Mo_type_12 : decode y_Mo_type.2.1 12 = .ok (.bipush 126, 2) := by decide +kernel
theorem d_Mo_type_14 : decode y_Mo_type.2.1 14 = .ok (.if_icmp .gt 12, 3) := by decide +kernel
theorem d_Mo_type_17 : decode y_Mo_type.2.1 17 = .ok (.aload_n 0, 1) := by decide +kernel
theorem d_Mo_type_18 : decode y_Mo_type.2.1 18 = .ok (.getfield 100, 3) := by decide +kernel
theorem d_Mo_type_21 : decode y_Mo_type.2.1 21 = .ok (.bipush 40, 2) := by decide +kernel
theorem d_Mo_type_23 : decode y_Mo_type.2.1 23 = .ok (.if_icmp .ne 5, 3) := by decide +kernel
theorem d_Mo_type_26 : decode y_Mo_type.2.1 26 = .ok (.iconst 0, 1) := by decide +kernel
theorem d_Mo_type_27 : decode y_Mo_type.2.1 27 = .ok (.ireturn, 1) := by decide +kernel
theorem d_Mo_type_28 : decode y_Mo_type.2.1 28 = .ok (.aload_n 0, 1) := by decide +kernel
theorem d_Mo_type_29 : decode y_Mo_type.2.1 29 = .ok (.getfield 28, 3) := by decide +kernel
theorem d_Mo_type_32 : decode y_Mo_type.2.1 32 = .ok (.aload_n 0, 1) := by decide +kernel
theorem d_Mo_type_33 : decode y_Mo_type.2.1 33 = .ok (.getfield 100, 3) := by decide +kernel
theorem d_Mo_type_36 : decode y_Mo_type.2.1 36 = .ok (.iload_n 1, 1) := by decide +kernel
theorem d_Mo_type_37 : decode y_Mo_type.2.1 37 = .ok (.iastore, 1) := by decide +kernel
theorem d_Mo_type_38 : decode y_Mo_type.2.1 38 = .ok (.aload_n 0, 1) := by decide +kernel
theorem d_Mo_type_39 : decode y_Mo_type.2.1 39 = .ok (.dup, 1) := by decide +kernel
theorem d_Mo_type_40 : decode y_Mo_type.2.1 40 = .ok (.getfield 100, 3) := by decide +kernel
theorem d_Mo_type_43 : decode y_Mo_type.2.1 43 = .ok (.iconst 1, 1) := by decide +kernel
theorem d_Mo_type_44 : decode y_Mo_type.2.1 44 = .ok (.iadd, 1) := by decide +kernel
theorem d_Mo_type_45 : decode y_Mo_type.2.1 45 = .ok (.putfield 100, 3) := by decide +kernel
theorem d_Mo_type_48 : decode y_Mo_type.2.1 48 = .ok (.iconst 1, 1) := by decide +kernel
theorem d_Mo_type_49 : decode y_Mo_type.2.1 49 = .ok (.ireturn, 1) := by decide +kernel
def y_Mo_wipe : MethodName × ByteArray × Nat × Option FieldType × List (Nat × Nat × Nat × Nat) := (⟨"MaskedCausesModel", "wipe", "()I"⟩, prog_13_method_7_code, 2, (Option.some Jvm.ClassFile.FieldType.int), [])
theorem d_Mo_wipe_0 : decode y_Mo_wipe.2.1 0 = .ok (.aload_n 0, 1) := by decide +kernel
theorem d_Mo_wipe_1 : decode y_Mo_wipe.2.1 1 = .ok (.iconst 0, 1) := by decide +kernel
theorem d_Mo_wipe_2 : decode y_Mo_wipe.2.1 2 = .ok (.putfield 86, 3) := by decide +kernel
theorem d_Mo_wipe_5 : decode y_Mo_wipe.2.1 5 = .ok (.aload_n 0, 1) := by decide +kernel
theorem d_Mo_wipe_6 : decode y_Mo_wipe.2.1 6 = .ok (.getfield 100, 3) := by decide +kernel
theorem d_Mo_wipe_9 : decode y_Mo_wipe.2.1 9 = .ok (.istore_n 1, 1) := by decide +kernel
theorem d_Mo_wipe_10 : decode y_Mo_wipe.2.1 10 = .ok (.aload_n 0, 1) := by decide +kernel
theorem d_Mo_wipe_11 : decode y_Mo_wipe.2.1 11 = .ok (.iconst 0, 1) := by decide +kernel
theorem d_Mo_wipe_12 : decode y_Mo_wipe.2.1 12 = .ok (.putfield 100, 3) := by decide +kernel
theorem d_Mo_wipe_15 : decode y_Mo_wipe.2.1 15 = .ok (.iload_n 1, 1) := by decide +kernel
theorem d_Mo_wipe_16 : decode y_Mo_wipe.2.1 16 = .ok (.ireturn, 1) := by decide +kernel
def y_Mo_isIn : MethodName × ByteArray × Nat × Option FieldType × List (Nat × Nat × Nat × Nat) := (⟨"MaskedCausesModel", "isIn", "(II)Z"⟩, prog_13_method_8_code, 2, (Option.some Jvm.ClassFile.FieldType.boolean), [])
theorem d_Mo_isIn_0 : decode y_Mo_isIn.2.1 0 = .ok (.iload_n 0, 1) := by decide +kernel
theorem d_Mo_isIn_1 : decode y_Mo_isIn.2.1 1 = .ok (.iload_n 1, 1) := by decide +kernel
theorem d_Mo_isIn_2 : decode y_Mo_isIn.2.1 2 = .ok (.ishr, 1) := by decide +kernel
theorem d_Mo_isIn_3 : decode y_Mo_isIn.2.1 3 = .ok (.iconst 1, 1) := by decide +kernel
theorem d_Mo_isIn_4 : decode y_Mo_isIn.2.1 4 = .ok (.iand, 1) := by decide +kernel
theorem d_Mo_isIn_5 : decode y_Mo_isIn.2.1 5 = .ok (.iconst 1, 1) := by decide +kernel
theorem d_Mo_isIn_6 : decode y_Mo_isIn.2.1 6 = .ok (.if_icmp .ne 7, 3) := by decide +kernel
theorem d_Mo_isIn_9 : decode y_Mo_isIn.2.1 9 = .ok (.iconst 1, 1) := by decide +kernel
theorem d_Mo_isIn_10 : decode y_Mo_isIn.2.1 10 = .ok (.goto 4, 3) := by decide +kernel
theorem d_Mo_isIn_13 : decode y_Mo_isIn.2.1 13 = .ok (.iconst 0, 1) := by decide +kernel
theorem d_Mo_isIn_14 : decode y_Mo_isIn.2.1 14 = .ok (.ireturn, 1) := by decide +kernel
def y_Mo_countOf : MethodName × ByteArray × Nat × Option FieldType × List (Nat × Nat × Nat × Nat) := (⟨"MaskedCausesModel", "countOf", "(I)I"⟩, prog_13_method_9_code, 3, (Option.some Jvm.ClassFile.FieldType.int), [])
theorem d_Mo_countOf_0 : decode y_Mo_countOf.2.1 0 = .ok (.iconst 0, 1) := by decide +kernel
theorem d_Mo_countOf_1 : decode y_Mo_countOf.2.1 1 = .ok (.istore_n 1, 1) := by decide +kernel
theorem d_Mo_countOf_2 : decode y_Mo_countOf.2.1 2 = .ok (.iconst 0, 1) := by decide +kernel
theorem d_Mo_countOf_3 : decode y_Mo_countOf.2.1 3 = .ok (.istore_n 2, 1) := by decide +kernel
theorem d_Mo_countOf_4 : decode y_Mo_countOf.2.1 4 = .ok (.iload_n 2, 1) := by decide +kernel
theorem d_Mo_countOf_5 : decode y_Mo_countOf.2.1 5 = .ok (.bipush 31, 2) := by decide +kernel
theorem d_Mo_countOf_7 : decode y_Mo_countOf.2.1 7 = .ok (.if_icmp .ge 17, 3) := by decide +kernel
theorem d_Mo_countOf_10 : decode y_Mo_countOf.2.1 10 = .ok (.iload_n 1, 1) := by decide +kernel
theorem d_Mo_countOf_11 : decode y_Mo_countOf.2.1 11 = .ok (.iload_n 0, 1) := by decide +kernel
theorem d_Mo_countOf_12 : decode y_Mo_countOf.2.1 12 = .ok (.iload_n 2, 1) := by decide +kernel
theorem d_Mo_countOf_13 : decode y_Mo_countOf.2.1 13 = .ok (.ishr, 1) := by decide +kernel
theorem d_Mo_countOf_14 : decode y_Mo_countOf.2.1 14 = .ok (.iconst 1, 1) := by decide +kernel
theorem d_Mo_countOf_15 : decode y_Mo_countOf.2.1 15 = .ok (.iand, 1) := by decide +kernel
theorem d_Mo_countOf_16 : decode y_Mo_countOf.2.1 16 = .ok (.iadd, 1) := by decide +kernel
theorem d_Mo_countOf_17 : decode y_Mo_countOf.2.1 17 = .ok (.istore_n 1, 1) := by decide +kernel
theorem d_Mo_countOf_18 : decode y_Mo_countOf.2.1 18 = .ok (.iinc 2 1, 3) := by decide +kernel
theorem d_Mo_countOf_21 : decode y_Mo_countOf.2.1 21 = .ok (.goto (-17), 3) := by decide +kernel
theorem d_Mo_countOf_24 : decode y_Mo_countOf.2.1 24 = .ok (.iload_n 1, 1) := by decide +kernel
theorem d_Mo_countOf_25 : decode y_Mo_countOf.2.1 25 = .ok (.ireturn, 1) := by decide +kernel
def y_Mo_faultOf : MethodName × ByteArray × Nat × Option FieldType × List (Nat × Nat × Nat × Nat) := (⟨"MaskedCausesModel", "faultOf", "(I)I"⟩, prog_13_method_10_code, 8, (Option.some Jvm.ClassFile.FieldType.int), [])
theorem d_Mo_faultOf_0 : decode y_Mo_faultOf.2.1 0 = .ok (.iconst 1, 1) := by decide +kernel
theorem d_Mo_faultOf_1 : decode y_Mo_faultOf.2.1 1 = .ok (.istore_n 2, 1) := by decide +kernel
theorem d_Mo_faultOf_2 : decode y_Mo_faultOf.2.1 2 = .ok (.iconst 1, 1) := by decide +kernel
theorem d_Mo_faultOf_3 : decode y_Mo_faultOf.2.1 3 = .ok (.istore_n 3, 1) := by decide +kernel
theorem d_Mo_faultOf_4 : decode y_Mo_faultOf.2.1 4 = .ok (.aload_n 0, 1) := by decide +kernel
theorem d_Mo_faultOf_5 : decode y_Mo_faultOf.2.1 5 = .ok (.iconst 0, 1) := by decide +kernel
theorem d_Mo_faultOf_6 : decode y_Mo_faultOf.2.1 6 = .ok (.putfield 103, 3) := by decide +kernel
theorem d_Mo_faultOf_9 : decode y_Mo_faultOf.2.1 9 = .ok (.iconst 0, 1) := by decide +kernel
theorem d_Mo_faultOf_10 : decode y_Mo_faultOf.2.1 10 = .ok (.istore 4, 2) := by decide +kernel
theorem d_Mo_faultOf_12 : decode y_Mo_faultOf.2.1 12 = .ok (.iload 4, 2) := by decide +kernel
theorem d_Mo_faultOf_14 : decode y_Mo_faultOf.2.1 14 = .ok (.iload_n 1, 1) := by decide +kernel
theorem d_Mo_faultOf_15 : decode y_Mo_faultOf.2.1 15 = .ok (.if_icmp .ge 176, 3) := by decide +kernel
theorem d_Mo_faultOf_18 : decode y_Mo_faultOf.2.1 18 = .ok (.aload_n 0, 1) := by decide +kernel
theorem d_Mo_faultOf_19 : decode y_Mo_faultOf.2.1 19 = .ok (.getfield 28, 3) := by decide +kernel
theorem d_Mo_faultOf_22 : decode y_Mo_faultOf.2.1 22 = .ok (.iload 4, 2) := by decide +kernel
theorem d_Mo_faultOf_24 : decode y_Mo_faultOf.2.1 24 = .ok (.iaload, 1) := by decide +kernel
theorem d_Mo_faultOf_25 : decode y_Mo_faultOf.2.1 25 = .ok (.istore 5, 2) := by decide +kernel
theorem d_Mo_faultOf_27 : decode y_Mo_faultOf.2.1 27 = .ok (.iload 5, 2) := by decide +kernel
theorem d_Mo_faultOf_29 : decode y_Mo_faultOf.2.1 29 = .ok (.bipush 65, 2) := by decide +kernel
theorem d_Mo_faultOf_31 : decode y_Mo_faultOf.2.1 31 = .ok (.if_icmp .lt 19, 3) := by decide +kernel
theorem d_Mo_faultOf_34 : decode y_Mo_faultOf.2.1 34 = .ok (.iload 5, 2) := by decide +kernel
theorem d_Mo_faultOf_36 : decode y_Mo_faultOf.2.1 36 = .ok (.bipush 65, 2) := by decide +kernel
theorem d_Mo_faultOf_38 : decode y_Mo_faultOf.2.1 38 = .ok (.aload_n 0, 1) := by decide +kernel
theorem d_Mo_faultOf_39 : decode y_Mo_faultOf.2.1 39 = .ok (.getfield 93, 3) := by decide +kernel
theorem d_Mo_faultOf_42 : decode y_Mo_faultOf.2.1 42 = .ok (.iadd, 1) := by decide +kernel
theorem d_Mo_faultOf_43 : decode y_Mo_faultOf.2.1 43 = .ok (.if_icmp .ge 7, 3) := by decide +kernel
theorem d_Mo_faultOf_46 : decode y_Mo_faultOf.2.1 46 = .ok (.iconst 1, 1) := by decide +kernel
theorem d_Mo_faultOf_47 : decode y_Mo_faultOf.2.1 47 = .ok (.goto 4, 3) := by decide +kernel
theorem d_Mo_faultOf_50 : decode y_Mo_faultOf.2.1 50 = .ok (.iconst 0, 1) := by decide +kernel
theorem d_Mo_faultOf_51 : decode y_Mo_faultOf.2.1 51 = .ok (.istore 6, 2) := by decide +kernel
theorem d_Mo_faultOf_53 : decode y_Mo_faultOf.2.1 53 = .ok (.iload 6, 2) := by decide +kernel
theorem d_Mo_faultOf_55 : decode y_Mo_faultOf.2.1 55 = .ok (.ifCond .eq 18, 3) := by decide +kernel
theorem d_Mo_faultOf_58 : decode y_Mo_faultOf.2.1 58 = .ok (.aload_n 0, 1) := by decide +kernel
theorem d_Mo_faultOf_59 : decode y_Mo_faultOf.2.1 59 = .ok (.getfield 103, 3) := by decide +kernel
theorem d_Mo_faultOf_62 : decode y_Mo_faultOf.2.1 62 = .ok (.iconst 1, 1) := by decide +kernel
theorem d_Mo_faultOf_63 : decode y_Mo_faultOf.2.1 63 = .ok (.iload 5, 2) := by decide +kernel
theorem d_Mo_faultOf_65 : decode y_Mo_faultOf.2.1 65 = .ok (.bipush 65, 2) := by decide +kernel
theorem d_Mo_faultOf_67 : decode y_Mo_faultOf.2.1 67 = .ok (.isub, 1) := by decide +kernel
theorem d_Mo_faultOf_68 : decode y_Mo_faultOf.2.1 68 = .ok (.ishl, 1) := by decide +kernel
theorem d_Mo_faultOf_69 : decode y_Mo_faultOf.2.1 69 = .ok (.ior, 1) := by decide +kernel
theorem d_Mo_faultOf_70 : decode y_Mo_faultOf.2.1 70 = .ok (.goto 7, 3) := by decide +kernel
theorem d_Mo_faultOf_73 : decode y_Mo_faultOf.2.1 73 = .ok (.aload_n 0, 1) := by decide +kernel
theorem d_Mo_faultOf_74 : decode y_Mo_faultOf.2.1 74 = .ok (.getfield 103, 3) := by decide +kernel
theorem d_Mo_faultOf_77 : decode y_Mo_faultOf.2.1 77 = .ok (.istore 7, 2) := by decide +kernel
theorem d_Mo_faultOf_79 : decode y_Mo_faultOf.2.1 79 = .ok (.iload_n 2, 1) := by decide +kernel
theorem d_Mo_faultOf_80 : decode y_Mo_faultOf.2.1 80 = .ok (.ifCond .eq 58, 3) := by decide +kernel
theorem d_Mo_faultOf_83 : decode y_Mo_faultOf.2.1 83 = .ok (.iload 5, 2) := by decide +kernel
theorem d_Mo_faultOf_85 : decode y_Mo_faultOf.2.1 85 = .ok (.bipush 40, 2) := by decide +kernel
theorem d_Mo_faultOf_87 : decode y_Mo_faultOf.2.1 87 = .ok (.if_icmp .ne 15, 3) := by decide +kernel
theorem d_Mo_faultOf_90 : decode y_Mo_faultOf.2.1 90 = .ok (.iload_n 3, 1) := by decide +kernel
theorem d_Mo_faultOf_91 : decode y_Mo_faultOf.2.1 91 = .ok (.bipush 6, 2) := by decide +kernel
theorem d_Mo_faultOf_93 : decode y_Mo_faultOf.2.1 93 = .ok (.if_icmp .ge 9, 3) := by decide +kernel
theorem d_Mo_faultOf_96 : decode y_Mo_faultOf.2.1 96 = .ok (.iinc 3 1, 3) := by decide +kernel
theorem d_Mo_faultOf_99 : decode y_Mo_faultOf.2.1 99 = .ok (.goto 86, 3) := by decide +kernel
theorem d_Mo_faultOf_102 : decode y_Mo_faultOf.2.1 102 = .ok (.iload 6, 2) := by decide +kernel
theorem d_Mo_faultOf_104 : decode y_Mo_faultOf.2.1 104 = .ok (.ifCond .eq 24, 3) := by decide +kernel
theorem d_Mo_faultOf_107 : decode y_Mo_faultOf.2.1 107 = .ok (.iload 7, 2) := by decide +kernel
theorem d_Mo_faultOf_109 : decode y_Mo_faultOf.2.1 109 = .ok (.invokestatic 106, 3) := by decide +kernel
theorem d_Mo_faultOf_112 : decode y_Mo_faultOf.2.1 112 = .ok (.bipush 6, 2) := by decide +kernel
theorem d_Mo_faultOf_114 : decode y_Mo_faultOf.2.1 114 = .ok (.if_icmp .gt 14, 3) := by decide +kernel
theorem d_Mo_faultOf_117 : decode y_Mo_faultOf.2.1 117 = .ok (.aload_n 0, 1) := by decide +kernel
theorem d_Mo_faultOf_118 : decode y_Mo_faultOf.2.1 118 = .ok (.iload 7, 2) := by decide +kernel
theorem d_Mo_faultOf_120 : decode y_Mo_faultOf.2.1 120 = .ok (.putfield 103, 3) := by decide +kernel
theorem d_Mo_faultOf_123 : decode y_Mo_faultOf.2.1 123 = .ok (.iconst 0, 1) := by decide +kernel
theorem d_Mo_faultOf_124 : decode y_Mo_faultOf.2.1 124 = .ok (.istore_n 2, 1) := by decide +kernel
theorem d_Mo_faultOf_125 : decode y_Mo_faultOf.2.1 125 = .ok (.goto 60, 3) := by decide +kernel
theorem d_Mo_faultOf_128 : decode y_Mo_faultOf.2.1 128 = .ok (.iload 5, 2) := by decide +kernel
theorem d_Mo_faultOf_130 : decode y_Mo_faultOf.2.1 130 = .ok (.bipush 33, 2) := by decide +kernel
theorem d_Mo_faultOf_132 : decode y_Mo_faultOf.2.1 132 = .ok (.if_icmp .eq 53, 3) := by decide +kernel
theorem d_Mo_faultOf_135 : decode y_Mo_faultOf.2.1 135 = .ok (.iload 4, 2) := by decide +kernel
theorem d_Mo_faultOf_137 : decode y_Mo_faultOf.2.1 137 = .ok (.ireturn, 1) := by decide +kernel
theorem d_Mo_faultOf_138 : decode y_Mo_faultOf.2.1 138 = .ok (.iload 5, 2) := by decide +kernel
theorem d_Mo_faultOf_140 : decode y_Mo_faultOf.2.1 140 = .ok (.bipush 41, 2) := by decide +kernel
theorem d_Mo_faultOf_142 : decode y_Mo_faultOf.2.1 142 = .ok (.if_icmp .ne 14, 3) := by decide +kernel
theorem d_Mo_faultOf_145 : decode y_Mo_faultOf.2.1 145 = .ok (.iload_n 3, 1) := by decide +kernel
theorem d_Mo_faultOf_146 : decode y_Mo_faultOf.2.1 146 = .ok (.iconst 1, 1) := by decide +kernel
theorem d_Mo_faultOf_147 : decode y_Mo_faultOf.2.1 147 = .ok (.if_icmp .le 9, 3) := by decide +kernel
theorem d_Mo_faultOf_150 : decode y_Mo_faultOf.2.1 150 = .ok (.iinc 3 (-1), 3) := by decide +kernel
theorem d_Mo_faultOf_153 : decode y_Mo_faultOf.2.1 153 = .ok (.goto 32, 3) := by decide +kernel
theorem d_Mo_faultOf_156 : decode y_Mo_faultOf.2.1 156 = .ok (.iload 5, 2) := by decide +kernel
theorem d_Mo_faultOf_158 : decode y_Mo_faultOf.2.1 158 = .ok (.bipush 38, 2) := by decide +kernel
theorem d_Mo_faultOf_160 : decode y_Mo_faultOf.2.1 160 = .ok (.if_icmp .eq 17, 3) := by decide +kernel
theorem d_Mo_faultOf_163 : decode y_Mo_faultOf.2.1 163 = .ok (.iload 5, 2) := by decide +kernel
theorem d_Mo_faultOf_165 : decode y_Mo_faultOf.2.1 165 = .ok (.bipush 94, 2) := by decide +kernel
theorem d_Mo_faultOf_167 : decode y_Mo_faultOf.2.1 167 = .ok (.if_icmp .eq 10, 3) := by decide +kernel
theorem d_Mo_faultOf_170 : decode y_Mo_faultOf.2.1 170 = .ok (.iload 5, 2) := by decide +kernel
theorem d_Mo_faultOf_172 : decode y_Mo_faultOf.2.1 172 = .ok (.bipush 124, 2) := by decide +kernel
theorem d_Mo_faultOf_174 : decode y_Mo_faultOf.2.1 174 = .ok (.if_icmp .ne 8, 3) := by decide +kernel
theorem d_Mo_faultOf_177 : decode y_Mo_faultOf.2.1 177 = .ok (.iconst 1, 1) := by decide +kernel
theorem d_Mo_faultOf_178 : decode y_Mo_faultOf.2.1 178 = .ok (.istore_n 2, 1) := by decide +kernel
theorem d_Mo_faultOf_179 : decode y_Mo_faultOf.2.1 179 = .ok (.goto 6, 3) := by decide +kernel
theorem d_Mo_faultOf_182 : decode y_Mo_faultOf.2.1 182 = .ok (.iload 4, 2) := by decide +kernel
theorem d_Mo_faultOf_184 : decode y_Mo_faultOf.2.1 184 = .ok (.ireturn, 1) := by decide +kernel
theorem d_Mo_faultOf_185 : decode y_Mo_faultOf.2.1 185 = .ok (.iinc 4 1, 3) := by decide +kernel
theorem d_Mo_faultOf_188 : decode y_Mo_faultOf.2.1 188 = .ok (.goto (-176), 3) := by decide +kernel
theorem d_Mo_faultOf_191 : decode y_Mo_faultOf.2.1 191 = .ok (.iload_n 2, 1) := by decide +kernel
theorem d_Mo_faultOf_192 : decode y_Mo_faultOf.2.1 192 = .ok (.ifCond .ne 8, 3) := by decide +kernel
theorem d_Mo_faultOf_195 : decode y_Mo_faultOf.2.1 195 = .ok (.iload_n 3, 1) := by decide +kernel
theorem d_Mo_faultOf_196 : decode y_Mo_faultOf.2.1 196 = .ok (.iconst 1, 1) := by decide +kernel
theorem d_Mo_faultOf_197 : decode y_Mo_faultOf.2.1 197 = .ok (.if_icmp .le 7, 3) := by decide +kernel
theorem d_Mo_faultOf_200 : decode y_Mo_faultOf.2.1 200 = .ok (.iload_n 1, 1) := by decide +kernel
theorem d_Mo_faultOf_201 : decode y_Mo_faultOf.2.1 201 = .ok (.goto 4, 3) := by decide +kernel
theorem d_Mo_faultOf_204 : decode y_Mo_faultOf.2.1 204 = .ok (.iconst (-1), 1) := by decide +kernel
theorem d_Mo_faultOf_205 : decode y_Mo_faultOf.2.1 205 = .ok (.ireturn, 1) := by decide +kernel
def y_Mo_open : MethodName × ByteArray × Nat × Option FieldType × List (Nat × Nat × Nat × Nat) := (⟨"MaskedCausesModel", "open", "(Z)V"⟩, prog_13_method_11_code, 2, (Option.none : Option Jvm.ClassFile.FieldType), [])
theorem d_Mo_open_0 : decode y_Mo_open.2.1 0 = .ok (.aload_n 0, 1) := by decide +kernel
theorem d_Mo_open_1 : decode y_Mo_open.2.1 1 = .ok (.getfield 59, 3) := by decide +kernel
theorem d_Mo_open_4 : decode y_Mo_open.2.1 4 = .ok (.aload_n 0, 1) := by decide +kernel
theorem d_Mo_open_5 : decode y_Mo_open.2.1 5 = .ok (.getfield 110, 3) := by decide +kernel
theorem d_Mo_open_8 : decode y_Mo_open.2.1 8 = .ok (.iconst 0, 1) := by decide +kernel
theorem d_Mo_open_9 : decode y_Mo_open.2.1 9 = .ok (.bastore, 1) := by decide +kernel
theorem d_Mo_open_10 : decode y_Mo_open.2.1 10 = .ok (.aload_n 0, 1) := by decide +kernel
theorem d_Mo_open_11 : decode y_Mo_open.2.1 11 = .ok (.getfield 62, 3) := by decide +kernel
theorem d_Mo_open_14 : decode y_Mo_open.2.1 14 = .ok (.aload_n 0, 1) := by decide +kernel
theorem d_Mo_open_15 : decode y_Mo_open.2.1 15 = .ok (.getfield 110, 3) := by decide +kernel
theorem d_Mo_open_18 : decode y_Mo_open.2.1 18 = .ok (.iconst 0, 1) := by decide +kernel
theorem d_Mo_open_19 : decode y_Mo_open.2.1 19 = .ok (.bastore, 1) := by decide +kernel
theorem d_Mo_open_20 : decode y_Mo_open.2.1 20 = .ok (.aload_n 0, 1) := by decide +kernel
theorem d_Mo_open_21 : decode y_Mo_open.2.1 21 = .ok (.getfield 65, 3) := by decide +kernel
theorem d_Mo_open_24 : decode y_Mo_open.2.1 24 = .ok (.aload_n 0, 1) := by decide +kernel
theorem d_Mo_open_25 : decode y_Mo_open.2.1 25 = .ok (.getfield 110, 3) := by decide +kernel
theorem d_Mo_open_28 : decode y_Mo_open.2.1 28 = .ok (.iconst 1, 1) := by decide +kernel
theorem d_Mo_open_29 : decode y_Mo_open.2.1 29 = .ok (.bastore, 1) := by decide +kernel
theorem d_Mo_open_30 : decode y_Mo_open.2.1 30 = .ok (.aload_n 0, 1) := by decide +kernel
theorem d_Mo_open_31 : decode y_Mo_open.2.1 31 = .ok (.getfield 68, 3) := by decide +kernel
theorem d_Mo_open_34 : decode y_Mo_open.2.1 34 = .ok (.aload_n 0, 1) := by decide +kernel
theorem d_Mo_open_35 : decode y_Mo_open.2.1 35 = .ok (.getfield 110, 3) := by decide +kernel
theorem d_Mo_open_38 : decode y_Mo_open.2.1 38 = .ok (.iconst 0, 1) := by decide +kernel
theorem d_Mo_open_39 : decode y_Mo_open.2.1 39 = .ok (.bastore, 1) := by decide +kernel
theorem d_Mo_open_40 : decode y_Mo_open.2.1 40 = .ok (.aload_n 0, 1) := by decide +kernel
theorem d_Mo_open_41 : decode y_Mo_open.2.1 41 = .ok (.getfield 71, 3) := by decide +kernel
theorem d_Mo_open_44 : decode y_Mo_open.2.1 44 = .ok (.aload_n 0, 1) := by decide +kernel
theorem d_Mo_open_45 : decode y_Mo_open.2.1 45 = .ok (.getfield 110, 3) := by decide +kernel
theorem d_Mo_open_48 : decode y_Mo_open.2.1 48 = .ok (.iload_n 1, 1) := by decide +kernel
theorem d_Mo_open_49 : decode y_Mo_open.2.1 49 = .ok (.bastore, 1) := by decide +kernel
theorem d_Mo_open_50 : decode y_Mo_open.2.1 50 = .ok (.aload_n 0, 1) := by decide +kernel
theorem d_Mo_open_51 : decode y_Mo_open.2.1 51 = .ok (.dup, 1) := by decide +kernel
theorem d_Mo_open_52 : decode y_Mo_open.2.1 52 = .ok (.getfield 110, 3) := by decide +kernel
theorem d_Mo_open_55 : decode y_Mo_open.2.1 55 = .ok (.iconst 1, 1) := by decide +kernel
theorem d_Mo_open_56 : decode y_Mo_open.2.1 56 = .ok (.iadd, 1) := by decide +kernel
theorem d_Mo_open_57 : decode y_Mo_open.2.1 57 = .ok (.putfield 110, 3) := by decide +kernel
theorem d_Mo_open_60 : decode y_Mo_open.2.1 60 = .ok (.return_, 1) := by decide +kernel
def y_Mo_isNext : MethodName × ByteArray × Nat × Option FieldType × List (Nat × Nat × Nat × Nat) := (⟨"MaskedCausesModel", "isNext", "(I)Z"⟩, prog_13_method_12_code, 3, (Option.some Jvm.ClassFile.FieldType.boolean), [])
theorem d_Mo_isNext_0 : decode y_Mo_isNext.2.1 0 = .ok (.aload_n 0, 1) := by decide +kernel
theorem d_Mo_isNext_1 : decode y_Mo_isNext.2.1 1 = .ok (.getfield 110, 3) := by decide +kernel
theorem d_Mo_isNext_4 : decode y_Mo_isNext.2.1 4 = .ok (.iconst 1, 1) := by decide +kernel
theorem d_Mo_isNext_5 : decode y_Mo_isNext.2.1 5 = .ok (.isub, 1) := by decide +kernel
theorem d_Mo_isNext_6 : decode y_Mo_isNext.2.1 6 = .ok (.istore_n 2, 1) := by decide +kernel
theorem d_Mo_isNext_7 : decode y_Mo_isNext.2.1 7 = .ok (.aload_n 0, 1) := by decide +kernel
theorem d_Mo_isNext_8 : decode y_Mo_isNext.2.1 8 = .ok (.getfield 71, 3) := by decide +kernel
theorem d_Mo_isNext_11 : decode y_Mo_isNext.2.1 11 = .ok (.iload_n 2, 1) := by decide +kernel
theorem d_Mo_isNext_12 : decode y_Mo_isNext.2.1 12 = .ok (.baload, 1) := by decide +kernel
theorem d_Mo_isNext_13 : decode y_Mo_isNext.2.1 13 = .ok (.ifCond .eq 34, 3) := by decide +kernel
theorem d_Mo_isNext_16 : decode y_Mo_isNext.2.1 16 = .ok (.aload_n 0, 1) := by decide +kernel
theorem d_Mo_isNext_17 : decode y_Mo_isNext.2.1 17 = .ok (.getfield 37, 3) := by decide +kernel
theorem d_Mo_isNext_20 : decode y_Mo_isNext.2.1 20 = .ok (.iload_n 1, 1) := by decide +kernel
theorem d_Mo_isNext_21 : decode y_Mo_isNext.2.1 21 = .ok (.baload, 1) := by decide +kernel
theorem d_Mo_isNext_22 : decode y_Mo_isNext.2.1 22 = .ok (.ifCond .eq 21, 3) := by decide +kernel
theorem d_Mo_isNext_25 : decode y_Mo_isNext.2.1 25 = .ok (.aload_n 0, 1) := by decide +kernel
theorem d_Mo_isNext_26 : decode y_Mo_isNext.2.1 26 = .ok (.getfield 65, 3) := by decide +kernel
theorem d_Mo_isNext_29 : decode y_Mo_isNext.2.1 29 = .ok (.iload_n 2, 1) := by decide +kernel
theorem d_Mo_isNext_30 : decode y_Mo_isNext.2.1 30 = .ok (.baload, 1) := by decide +kernel
theorem d_Mo_isNext_31 : decode y_Mo_isNext.2.1 31 = .ok (.ifCond .eq 16, 3) := by decide +kernel
theorem d_Mo_isNext_34 : decode y_Mo_isNext.2.1 34 = .ok (.aload_n 0, 1) := by decide +kernel
theorem d_Mo_isNext_35 : decode y_Mo_isNext.2.1 35 = .ok (.getfield 59, 3) := by decide +kernel
theorem d_Mo_isNext_38 : decode y_Mo_isNext.2.1 38 = .ok (.iload_n 2, 1) := by decide +kernel
theorem d_Mo_isNext_39 : decode y_Mo_isNext.2.1 39 = .ok (.baload, 1) := by decide +kernel
theorem d_Mo_isNext_40 : decode y_Mo_isNext.2.1 40 = .ok (.ifCond .ne 7, 3) := by decide +kernel
theorem d_Mo_isNext_43 : decode y_Mo_isNext.2.1 43 = .ok (.iconst 1, 1) := by decide +kernel
theorem d_Mo_isNext_44 : decode y_Mo_isNext.2.1 44 = .ok (.goto 4, 3) := by decide +kernel
theorem d_Mo_isNext_47 : decode y_Mo_isNext.2.1 47 = .ok (.iconst 0, 1) := by decide +kernel
theorem d_Mo_isNext_48 : decode y_Mo_isNext.2.1 48 = .ok (.ireturn, 1) := by decide +kernel
def y_Mo_join : MethodName × ByteArray × Nat × Option FieldType × List (Nat × Nat × Nat × Nat) := (⟨"MaskedCausesModel", "join", "(Z)V"⟩, prog_13_method_13_code, 3, (Option.none : Option Jvm.ClassFile.FieldType), [])
theorem d_Mo_join_0 : decode y_Mo_join.2.1 0 = .ok (.aload_n 0, 1) := by decide +kernel
theorem d_Mo_join_1 : decode y_Mo_join.2.1 1 = .ok (.getfield 110, 3) := by decide +kernel
theorem d_Mo_join_4 : decode y_Mo_join.2.1 4 = .ok (.iconst 1, 1) := by decide +kernel
theorem d_Mo_join_5 : decode y_Mo_join.2.1 5 = .ok (.isub, 1) := by decide +kernel
theorem d_Mo_join_6 : decode y_Mo_join.2.1 6 = .ok (.istore_n 2, 1) := by decide +kernel
theorem d_Mo_join_7 : decode y_Mo_join.2.1 7 = .ok (.aload_n 0, 1) := by decide +kernel
theorem d_Mo_join_8 : decode y_Mo_join.2.1 8 = .ok (.getfield 65, 3) := by decide +kernel
theorem d_Mo_join_11 : decode y_Mo_join.2.1 11 = .ok (.iload_n 2, 1) := by decide +kernel
theorem d_Mo_join_12 : decode y_Mo_join.2.1 12 = .ok (.aload_n 0, 1) := by decide +kernel
theorem d_Mo_join_13 : decode y_Mo_join.2.1 13 = .ok (.getfield 65, 3) := by decide +kernel
theorem d_Mo_join_16 : decode y_Mo_join.2.1 16 = .ok (.iload_n 2, 1) := by decide +kernel
theorem d_Mo_join_17 : decode y_Mo_join.2.1 17 = .ok (.baload, 1) := by decide +kernel
theorem d_Mo_join_18 : decode y_Mo_join.2.1 18 = .ok (.ifCond .eq 17, 3) := by decide +kernel
theorem d_Mo_join_21 : decode y_Mo_join.2.1 21 = .ok (.iload_n 1, 1) := by decide +kernel
theorem d_Mo_join_22 : decode y_Mo_join.2.1 22 = .ok (.aload_n 0, 1) := by decide +kernel
theorem d_Mo_join_23 : decode y_Mo_join.2.1 23 = .ok (.getfield 68, 3) := by decide +kernel
theorem d_Mo_join_26 : decode y_Mo_join.2.1 26 = .ok (.iload_n 2, 1) := by decide +kernel
theorem d_Mo_join_27 : decode y_Mo_join.2.1 27 = .ok (.baload, 1) := by decide +kernel
theorem d_Mo_join_28 : decode y_Mo_join.2.1 28 = .ok (.if_icmp .eq 7, 3) := by decide +kernel
theorem d_Mo_join_31 : decode y_Mo_join.2.1 31 = .ok (.iconst 1, 1) := by decide +kernel
theorem d_Mo_join_32 : decode y_Mo_join.2.1 32 = .ok (.goto 4, 3) := by decide +kernel
theorem d_Mo_join_35 : decode y_Mo_join.2.1 35 = .ok (.iconst 0, 1) := by decide +kernel
theorem d_Mo_join_36 : decode y_Mo_join.2.1 36 = .ok (.bastore, 1) := by decide +kernel
theorem d_Mo_join_37 : decode y_Mo_join.2.1 37 = .ok (.aload_n 0, 1) := by decide +kernel
theorem d_Mo_join_38 : decode y_Mo_join.2.1 38 = .ok (.getfield 68, 3) := by decide +kernel
theorem d_Mo_join_41 : decode y_Mo_join.2.1 41 = .ok (.iload_n 2, 1) := by decide +kernel
theorem d_Mo_join_42 : decode y_Mo_join.2.1 42 = .ok (.iconst 0, 1) := by decide +kernel
theorem d_Mo_join_43 : decode y_Mo_join.2.1 43 = .ok (.bastore, 1) := by decide +kernel
theorem d_Mo_join_44 : decode y_Mo_join.2.1 44 = .ok (.return_, 1) := by decide +kernel
def y_Mo_endAnd : MethodName × ByteArray × Nat × Option FieldType × List (Nat × Nat × Nat × Nat) := (⟨"MaskedCausesModel", "endAnd", "()V"⟩, prog_13_method_14_code, 2, (Option.none : Option Jvm.ClassFile.FieldType), [])
theorem d_Mo_endAnd_0 : decode y_Mo_endAnd.2.1 0 = .ok (.aload_n 0, 1) := by decide +kernel
theorem d_Mo_endAnd_1 : decode y_Mo_endAnd.2.1 1 = .ok (.getfield 110, 3) := by decide +kernel
theorem d_Mo_endAnd_4 : decode y_Mo_endAnd.2.1 4 = .ok (.iconst 1, 1) := by decide +kernel
theorem d_Mo_endAnd_5 : decode y_Mo_endAnd.2.1 5 = .ok (.isub, 1) := by decide +kernel
theorem d_Mo_endAnd_6 : decode y_Mo_endAnd.2.1 6 = .ok (.istore_n 1, 1) := by decide +kernel
theorem d_Mo_endAnd_7 : decode y_Mo_endAnd.2.1 7 = .ok (.aload_n 0, 1) := by decide +kernel
theorem d_Mo_endAnd_8 : decode y_Mo_endAnd.2.1 8 = .ok (.getfield 62, 3) := by decide +kernel
theorem d_Mo_endAnd_11 : decode y_Mo_endAnd.2.1 11 = .ok (.iload_n 1, 1) := by decide +kernel
theorem d_Mo_endAnd_12 : decode y_Mo_endAnd.2.1 12 = .ok (.aload_n 0, 1) := by decide +kernel
theorem d_Mo_endAnd_13 : decode y_Mo_endAnd.2.1 13 = .ok (.getfield 62, 3) := by decide +kernel
theorem d_Mo_endAnd_16 : decode y_Mo_endAnd.2.1 16 = .ok (.iload_n 1, 1) := by decide +kernel
theorem d_Mo_endAnd_17 : decode y_Mo_endAnd.2.1 17 = .ok (.baload, 1) := by decide +kernel
theorem d_Mo_endAnd_18 : decode y_Mo_endAnd.2.1 18 = .ok (.aload_n 0, 1) := by decide +kernel
theorem d_Mo_endAnd_19 : decode y_Mo_endAnd.2.1 19 = .ok (.getfield 65, 3) := by decide +kernel
theorem d_Mo_endAnd_22 : decode y_Mo_endAnd.2.1 22 = .ok (.iload_n 1, 1) := by decide +kernel
theorem d_Mo_endAnd_23 : decode y_Mo_endAnd.2.1 23 = .ok (.baload, 1) := by decide +kernel
theorem d_Mo_endAnd_24 : decode y_Mo_endAnd.2.1 24 = .ok (.if_icmp .eq 7, 3) := by decide +kernel
theorem d_Mo_endAnd_27 : decode y_Mo_endAnd.2.1 27 = .ok (.iconst 1, 1) := by decide +kernel
theorem d_Mo_endAnd_28 : decode y_Mo_endAnd.2.1 28 = .ok (.goto 4, 3) := by decide +kernel
theorem d_Mo_endAnd_31 : decode y_Mo_endAnd.2.1 31 = .ok (.iconst 0, 1) := by decide +kernel
theorem d_Mo_endAnd_32 : decode y_Mo_endAnd.2.1 32 = .ok (.bastore, 1) := by decide +kernel
theorem d_Mo_endAnd_33 : decode y_Mo_endAnd.2.1 33 = .ok (.aload_n 0, 1) := by decide +kernel
theorem d_Mo_endAnd_34 : decode y_Mo_endAnd.2.1 34 = .ok (.getfield 65, 3) := by decide +kernel
theorem d_Mo_endAnd_37 : decode y_Mo_endAnd.2.1 37 = .ok (.iload_n 1, 1) := by decide +kernel
theorem d_Mo_endAnd_38 : decode y_Mo_endAnd.2.1 38 = .ok (.iconst 1, 1) := by decide +kernel
theorem d_Mo_endAnd_39 : decode y_Mo_endAnd.2.1 39 = .ok (.bastore, 1) := by decide +kernel
theorem d_Mo_endAnd_40 : decode y_Mo_endAnd.2.1 40 = .ok (.return_, 1) := by decide +kernel
def y_Mo_endXor : MethodName × ByteArray × Nat × Option FieldType × List (Nat × Nat × Nat × Nat) := (⟨"MaskedCausesModel", "endXor", "()V"⟩, prog_13_method_15_code, 2, (Option.none : Option Jvm.ClassFile.FieldType), [])
theorem d_Mo_endXor_0 : decode y_Mo_endXor.2.1 0 = .ok (.aload_n 0, 1) := by decide +kernel
theorem d_Mo_endXor_1 : decode y_Mo_endXor.2.1 1 = .ok (.invokevirtual 113, 3) := by decide +kernel
theorem d_Mo_endXor_4 : decode y_Mo_endXor.2.1 4 = .ok (.aload_n 0, 1) := by decide +kernel
theorem d_Mo_endXor_5 : decode y_Mo_endXor.2.1 5 = .ok (.getfield 110, 3) := by decide +kernel
theorem d_Mo_endXor_8 : decode y_Mo_endXor.2.1 8 = .ok (.iconst 1, 1) := by decide +kernel
theorem d_Mo_endXor_9 : decode y_Mo_endXor.2.1 9 = .ok (.isub, 1) := by decide +kernel
theorem d_Mo_endXor_10 : decode y_Mo_endXor.2.1 10 = .ok (.istore_n 1, 1) := by decide +kernel
theorem d_Mo_endXor_11 : decode y_Mo_endXor.2.1 11 = .ok (.aload_n 0, 1) := by decide +kernel
theorem d_Mo_endXor_12 : decode y_Mo_endXor.2.1 12 = .ok (.getfield 59, 3) := by decide +kernel
theorem d_Mo_endXor_15 : decode y_Mo_endXor.2.1 15 = .ok (.iload_n 1, 1) := by decide +kernel
theorem d_Mo_endXor_16 : decode y_Mo_endXor.2.1 16 = .ok (.aload_n 0, 1) := by decide +kernel
theorem d_Mo_endXor_17 : decode y_Mo_endXor.2.1 17 = .ok (.getfield 59, 3) := by decide +kernel
theorem d_Mo_endXor_20 : decode y_Mo_endXor.2.1 20 = .ok (.iload_n 1, 1) := by decide +kernel
theorem d_Mo_endXor_21 : decode y_Mo_endXor.2.1 21 = .ok (.baload, 1) := by decide +kernel
theorem d_Mo_endXor_22 : decode y_Mo_endXor.2.1 22 = .ok (.ifCond .ne 12, 3) := by decide +kernel
theorem d_Mo_endXor_25 : decode y_Mo_endXor.2.1 25 = .ok (.aload_n 0, 1) := by decide +kernel
theorem d_Mo_endXor_26 : decode y_Mo_endXor.2.1 26 = .ok (.getfield 62, 3) := by decide +kernel
theorem d_Mo_endXor_29 : decode y_Mo_endXor.2.1 29 = .ok (.iload_n 1, 1) := by decide +kernel
theorem d_Mo_endXor_30 : decode y_Mo_endXor.2.1 30 = .ok (.baload, 1) := by decide +kernel
theorem d_Mo_endXor_31 : decode y_Mo_endXor.2.1 31 = .ok (.ifCond .eq 7, 3) := by decide +kernel
theorem d_Mo_endXor_34 : decode y_Mo_endXor.2.1 34 = .ok (.iconst 1, 1) := by decide +kernel
theorem d_Mo_endXor_35 : decode y_Mo_endXor.2.1 35 = .ok (.goto 4, 3) := by decide +kernel
theorem d_Mo_endXor_38 : decode y_Mo_endXor.2.1 38 = .ok (.iconst 0, 1) := by decide +kernel
theorem d_Mo_endXor_39 : decode y_Mo_endXor.2.1 39 = .ok (.bastore, 1) := by decide +kernel
theorem d_Mo_endXor_40 : decode y_Mo_endXor.2.1 40 = .ok (.aload_n 0, 1) := by decide +kernel
theorem d_Mo_endXor_41 : decode y_Mo_endXor.2.1 41 = .ok (.getfield 62, 3) := by decide +kernel
theorem d_Mo_endXor_44 : decode y_Mo_endXor.2.1 44 = .ok (.iload_n 1, 1) := by decide +kernel
theorem d_Mo_endXor_45 : decode y_Mo_endXor.2.1 45 = .ok (.iconst 0, 1) := by decide +kernel
theorem d_Mo_endXor_46 : decode y_Mo_endXor.2.1 46 = .ok (.bastore, 1) := by decide +kernel
theorem d_Mo_endXor_47 : decode y_Mo_endXor.2.1 47 = .ok (.return_, 1) := by decide +kernel
def y_Mo_place : MethodName × ByteArray × Nat × Option FieldType × List (Nat × Nat × Nat × Nat) := (⟨"MaskedCausesModel", "place", "(II)I"⟩, prog_13_method_16_code, 5, (Option.some Jvm.ClassFile.FieldType.int), [])
theorem d_Mo_place_0 : decode y_Mo_place.2.1 0 = .ok (.iconst (-1), 1) := by decide +kernel
theorem d_Mo_place_1 : decode y_Mo_place.2.1 1 = .ok (.istore_n 3, 1) := by decide +kernel
theorem d_Mo_place_2 : decode y_Mo_place.2.1 2 = .ok (.iconst 0, 1) := by decide +kernel
theorem d_Mo_place_3 : decode y_Mo_place.2.1 3 = .ok (.istore 4, 2) := by decide +kernel
theorem d_Mo_place_5 : decode y_Mo_place.2.1 5 = .ok (.iload 4, 2) := by decide +kernel
theorem d_Mo_place_7 : decode y_Mo_place.2.1 7 = .ok (.aload_n 0, 1) := by decide +kernel
theorem d_Mo_place_8 : decode y_Mo_place.2.1 8 = .ok (.getfield 41, 3) := by decide +kernel
theorem d_Mo_place_11 : decode y_Mo_place.2.1 11 = .ok (.iload_n 1, 1) := by decide +kernel
theorem d_Mo_place_12 : decode y_Mo_place.2.1 12 = .ok (.iaload, 1) := by decide +kernel
theorem d_Mo_place_13 : decode y_Mo_place.2.1 13 = .ok (.if_icmp .ge 32, 3) := by decide +kernel
theorem d_Mo_place_16 : decode y_Mo_place.2.1 16 = .ok (.aload_n 0, 1) := by decide +kernel
theorem d_Mo_place_17 : decode y_Mo_place.2.1 17 = .ok (.getfield 44, 3) := by decide +kernel
theorem d_Mo_place_20 : decode y_Mo_place.2.1 20 = .ok (.bipush 6, 2) := by decide +kernel
theorem d_Mo_place_22 : decode y_Mo_place.2.1 22 = .ok (.iload_n 1, 1) := by decide +kernel
theorem d_Mo_place_23 : decode y_Mo_place.2.1 23 = .ok (.imul, 1) := by decide +kernel
theorem d_Mo_place_24 : decode y_Mo_place.2.1 24 = .ok (.iload 4, 2) := by decide +kernel
theorem d_Mo_place_26 : decode y_Mo_place.2.1 26 = .ok (.iadd, 1) := by decide +kernel
theorem d_Mo_place_27 : decode y_Mo_place.2.1 27 = .ok (.iaload, 1) := by decide +kernel
theorem d_Mo_place_28 : decode y_Mo_place.2.1 28 = .ok (.iload_n 2, 1) := by decide +kernel
theorem d_Mo_place_29 : decode y_Mo_place.2.1 29 = .ok (.if_icmp .ne 8, 3) := by decide +kernel
theorem d_Mo_place_32 : decode y_Mo_place.2.1 32 = .ok (.iload 4, 2) := by decide +kernel
theorem d_Mo_place_34 : decode y_Mo_place.2.1 34 = .ok (.goto 4, 3) := by decide +kernel
theorem d_Mo_place_37 : decode y_Mo_place.2.1 37 = .ok (.iload_n 3, 1) := by decide +kernel
theorem d_Mo_place_38 : decode y_Mo_place.2.1 38 = .ok (.istore_n 3, 1) := by decide +kernel
theorem d_Mo_place_39 : decode y_Mo_place.2.1 39 = .ok (.iinc 4 1, 3) := by decide +kernel
theorem d_Mo_place_42 : decode y_Mo_place.2.1 42 = .ok (.goto (-37), 3) := by decide +kernel
theorem d_Mo_place_45 : decode y_Mo_place.2.1 45 = .ok (.iload_n 3, 1) := by decide +kernel
theorem d_Mo_place_46 : decode y_Mo_place.2.1 46 = .ok (.ireturn, 1) := by decide +kernel
def y_Mo_go : MethodName × ByteArray × Nat × Option FieldType × List (Nat × Nat × Nat × Nat) := (⟨"MaskedCausesModel", "go", "(II)Z"⟩, prog_13_method_17_code, 6, (Option.some Jvm.ClassFile.FieldType.boolean), [])
theorem d_Mo_go_0 : decode y_Mo_go.2.1 0 = .ok (.aload_n 0, 1) := by decide +kernel
theorem d_Mo_go_1 : decode y_Mo_go.2.1 1 = .ok (.iconst 0, 1) := by decide +kernel
theorem d_Mo_go_2 : decode y_Mo_go.2.1 2 = .ok (.putfield 110, 3) := by decide +kernel
theorem d_Mo_go_5 : decode y_Mo_go.2.1 5 = .ok (.aload_n 0, 1) := by decide +kernel
theorem d_Mo_go_6 : decode y_Mo_go.2.1 6 = .ok (.iconst 0, 1) := by decide +kernel
theorem d_Mo_go_7 : decode y_Mo_go.2.1 7 = .ok (.putfield 103, 3) := by decide +kernel
theorem d_Mo_go_10 : decode y_Mo_go.2.1 10 = .ok (.aload_n 0, 1) := by decide +kernel
theorem d_Mo_go_11 : decode y_Mo_go.2.1 11 = .ok (.iconst 1, 1) := by decide +kernel
theorem d_Mo_go_12 : decode y_Mo_go.2.1 12 = .ok (.invokevirtual 116, 3) := by decide +kernel
theorem d_Mo_go_15 : decode y_Mo_go.2.1 15 = .ok (.iconst 0, 1) := by decide +kernel
theorem d_Mo_go_16 : decode y_Mo_go.2.1 16 = .ok (.istore_n 3, 1) := by decide +kernel
theorem d_Mo_go_17 : decode y_Mo_go.2.1 17 = .ok (.iload_n 3, 1) := by decide +kernel
theorem d_Mo_go_18 : decode y_Mo_go.2.1 18 = .ok (.aload_n 0, 1) := by decide +kernel
theorem d_Mo_go_19 : decode y_Mo_go.2.1 19 = .ok (.getfield 34, 3) := by decide +kernel
theorem d_Mo_go_22 : decode y_Mo_go.2.1 22 = .ok (.iload_n 1, 1) := by decide +kernel
theorem d_Mo_go_23 : decode y_Mo_go.2.1 23 = .ok (.iaload, 1) := by decide +kernel
theorem d_Mo_go_24 : decode y_Mo_go.2.1 24 = .ok (.if_icmp .ge 203, 3) := by decide +kernel
theorem d_Mo_go_27 : decode y_Mo_go.2.1 27 = .ok (.aload_n 0, 1) := by decide +kernel
theorem d_Mo_go_28 : decode y_Mo_go.2.1 28 = .ok (.getfield 31, 3) := by decide +kernel
theorem d_Mo_go_31 : decode y_Mo_go.2.1 31 = .ok (.bipush 40, 2) := by decide +kernel
theorem d_Mo_go_33 : decode y_Mo_go.2.1 33 = .ok (.iload_n 1, 1) := by decide +kernel
theorem d_Mo_go_34 : decode y_Mo_go.2.1 34 = .ok (.imul, 1) := by decide +kernel
theorem d_Mo_go_35 : decode y_Mo_go.2.1 35 = .ok (.iload_n 3, 1) := by decide +kernel
theorem d_Mo_go_36 : decode y_Mo_go.2.1 36 = .ok (.iadd, 1) := by decide +kernel
theorem d_Mo_go_37 : decode y_Mo_go.2.1 37 = .ok (.iaload, 1) := by decide +kernel
theorem d_Mo_go_38 : decode y_Mo_go.2.1 38 = .ok (.istore 4, 2) := by decide +kernel
theorem d_Mo_go_40 : decode y_Mo_go.2.1 40 = .ok (.iload 4, 2) := by decide +kernel
theorem d_Mo_go_42 : decode y_Mo_go.2.1 42 = .ok (.bipush 33, 2) := by decide +kernel
theorem d_Mo_go_44 : decode y_Mo_go.2.1 44 = .ok (.if_icmp .ne 36, 3) := by decide +kernel
theorem d_Mo_go_47 : decode y_Mo_go.2.1 47 = .ok (.aload_n 0, 1) := by decide +kernel
theorem d_Mo_go_48 : decode y_Mo_go.2.1 48 = .ok (.getfield 68, 3) := by decide +kernel
theorem d_Mo_go_51 : decode y_Mo_go.2.1 51 = .ok (.aload_n 0, 1) := by decide +kernel
theorem d_Mo_go_52 : decode y_Mo_go.2.1 52 = .ok (.getfield 110, 3) := by decide +kernel
theorem d_Mo_go_55 : decode y_Mo_go.2.1 55 = .ok (.iconst 1, 1) := by decide +kernel
theorem d_Mo_go_56 : decode y_Mo_go.2.1 56 = .ok (.isub, 1) := by decide +kernel
theorem d_Mo_go_57 : decode y_Mo_go.2.1 57 = .ok (.aload_n 0, 1) := by decide +kernel
theorem d_Mo_go_58 : decode y_Mo_go.2.1 58 = .ok (.getfield 68, 3) := by decide +kernel
theorem d_Mo_go_61 : decode y_Mo_go.2.1 61 = .ok (.aload_n 0, 1) := by decide +kernel
theorem d_Mo_go_62 : decode y_Mo_go.2.1 62 = .ok (.getfield 110, 3) := by decide +kernel
theorem d_Mo_go_65 : decode y_Mo_go.2.1 65 = .ok (.iconst 1, 1) := by decide +kernel
theorem d_Mo_go_66 : decode y_Mo_go.2.1 66 = .ok (.isub, 1) := by decide +kernel
theorem d_Mo_go_67 : decode y_Mo_go.2.1 67 = .ok (.baload, 1) := by decide +kernel
theorem d_Mo_go_68 : decode y_Mo_go.2.1 68 = .ok (.ifCond .ne 7, 3) := by decide +kernel
theorem d_Mo_go_71 : decode y_Mo_go.2.1 71 = .ok (.iconst 1, 1) := by decide +kernel
theorem d_Mo_go_72 : decode y_Mo_go.2.1 72 = .ok (.goto 4, 3) := by decide +kernel
theorem d_Mo_go_75 : decode y_Mo_go.2.1 75 = .ok (.iconst 0, 1) := by decide +kernel
theorem d_Mo_go_76 : decode y_Mo_go.2.1 76 = .ok (.bastore, 1) := by decide +kernel
theorem d_Mo_go_77 : decode y_Mo_go.2.1 77 = .ok (.goto 144, 3) := by decide +kernel
theorem d_Mo_go_80 : decode y_Mo_go.2.1 80 = .ok (.iload 4, 2) := by decide +kernel
theorem d_Mo_go_82 : decode y_Mo_go.2.1 82 = .ok (.bipush 40, 2) := by decide +kernel
theorem d_Mo_go_84 : decode y_Mo_go.2.1 84 = .ok (.if_icmp .ne 15, 3) := by decide +kernel
theorem d_Mo_go_87 : decode y_Mo_go.2.1 87 = .ok (.aload_n 0, 1) := by decide +kernel
theorem d_Mo_go_88 : decode y_Mo_go.2.1 88 = .ok (.aload_n 0, 1) := by decide +kernel
theorem d_Mo_go_89 : decode y_Mo_go.2.1 89 = .ok (.iload_n 1, 1) := by decide +kernel
theorem d_Mo_go_90 : decode y_Mo_go.2.1 90 = .ok (.invokevirtual 120, 3) := by decide +kernel
theorem d_Mo_go_93 : decode y_Mo_go.2.1 93 = .ok (.invokevirtual 116, 3) := by decide +kernel
theorem d_Mo_go_96 : decode y_Mo_go.2.1 96 = .ok (.goto 125, 3) := by decide +kernel
theorem d_Mo_go_99 : decode y_Mo_go.2.1 99 = .ok (.iload 4, 2) := by decide +kernel
theorem d_Mo_go_101 : decode y_Mo_go.2.1 101 = .ok (.bipush 41, 2) := by decide +kernel
theorem d_Mo_go_103 : decode y_Mo_go.2.1 103 = .ok (.if_icmp .ne 33, 3) := by decide +kernel
theorem d_Mo_go_106 : decode y_Mo_go.2.1 106 = .ok (.aload_n 0, 1) := by decide +kernel
theorem d_Mo_go_107 : decode y_Mo_go.2.1 107 = .ok (.invokevirtual 124, 3) := by decide +kernel
theorem d_Mo_go_110 : decode y_Mo_go.2.1 110 = .ok (.aload_n 0, 1) := by decide +kernel
theorem d_Mo_go_111 : decode y_Mo_go.2.1 111 = .ok (.dup, 1) := by decide +kernel
theorem d_Mo_go_112 : decode y_Mo_go.2.1 112 = .ok (.getfield 110, 3) := by decide +kernel
theorem d_Mo_go_115 : decode y_Mo_go.2.1 115 = .ok (.iconst 1, 1) := by decide +kernel
theorem d_Mo_go_116 : decode y_Mo_go.2.1 116 = .ok (.isub, 1) := by decide +kernel
theorem d_Mo_go_117 : decode y_Mo_go.2.1 117 = .ok (.putfield 110, 3) := by decide +kernel
theorem d_Mo_go_120 : decode y_Mo_go.2.1 120 = .ok (.aload_n 0, 1) := by decide +kernel
theorem d_Mo_go_121 : decode y_Mo_go.2.1 121 = .ok (.aload_n 0, 1) := by decide +kernel
theorem d_Mo_go_122 : decode y_Mo_go.2.1 122 = .ok (.getfield 59, 3) := by decide +kernel
theorem d_Mo_go_125 : decode y_Mo_go.2.1 125 = .ok (.aload_n 0, 1) := by decide +kernel
theorem d_Mo_go_126 : decode y_Mo_go.2.1 126 = .ok (.getfield 110, 3) := by decide +kernel
theorem d_Mo_go_129 : decode y_Mo_go.2.1 129 = .ok (.baload, 1) := by decide +kernel
theorem d_Mo_go_130 : decode y_Mo_go.2.1 130 = .ok (.invokevirtual 127, 3) := by decide +kernel
theorem d_Mo_go_133 : decode y_Mo_go.2.1 133 = .ok (.goto 88, 3) := by decide +kernel
theorem d_Mo_go_136 : decode y_Mo_go.2.1 136 = .ok (.iload 4, 2) := by decide +kernel
theorem d_Mo_go_138 : decode y_Mo_go.2.1 138 = .ok (.bipush 94, 2) := by decide +kernel
theorem d_Mo_go_140 : decode y_Mo_go.2.1 140 = .ok (.if_icmp .ne 10, 3) := by decide +kernel
theorem d_Mo_go_143 : decode y_Mo_go.2.1 143 = .ok (.aload_n 0, 1) := by decide +kernel
theorem d_Mo_go_144 : decode y_Mo_go.2.1 144 = .ok (.invokevirtual 113, 3) := by decide +kernel
theorem d_Mo_go_147 : decode y_Mo_go.2.1 147 = .ok (.goto 74, 3) := by decide +kernel
theorem d_Mo_go_150 : decode y_Mo_go.2.1 150 = .ok (.iload 4, 2) := by decide +kernel
theorem d_Mo_go_152 : decode y_Mo_go.2.1 152 = .ok (.bipush 124, 2) := by decide +kernel
theorem d_Mo_go_154 : decode y_Mo_go.2.1 154 = .ok (.if_icmp .ne 10, 3) := by decide +kernel
theorem d_Mo_go_157 : decode y_Mo_go.2.1 157 = .ok (.aload_n 0, 1) := by decide +kernel
theorem d_Mo_go_158 : decode y_Mo_go.2.1 158 = .ok (.invokevirtual 124, 3) := by decide +kernel
theorem d_Mo_go_161 : decode y_Mo_go.2.1 161 = .ok (.goto 60, 3) := by decide +kernel
theorem d_Mo_go_164 : decode y_Mo_go.2.1 164 = .ok (.iload 4, 2) := by decide +kernel
theorem d_Mo_go_166 : decode y_Mo_go.2.1 166 = .ok (.bipush 38, 2) := by decide +kernel
theorem d_Mo_go_168 : decode y_Mo_go.2.1 168 = .ok (.if_icmp .eq 53, 3) := by decide +kernel
theorem d_Mo_go_171 : decode y_Mo_go.2.1 171 = .ok (.aload_n 0, 1) := by decide +kernel
theorem d_Mo_go_172 : decode y_Mo_go.2.1 172 = .ok (.iload_n 1, 1) := by decide +kernel
theorem d_Mo_go_173 : decode y_Mo_go.2.1 173 = .ok (.iload 4, 2) := by decide +kernel
theorem d_Mo_go_175 : decode y_Mo_go.2.1 175 = .ok (.bipush 65, 2) := by decide +kernel
theorem d_Mo_go_177 : decode y_Mo_go.2.1 177 = .ok (.isub, 1) := by decide +kernel
theorem d_Mo_go_178 : decode y_Mo_go.2.1 178 = .ok (.invokevirtual 130, 3) := by decide +kernel
theorem d_Mo_go_181 : decode y_Mo_go.2.1 181 = .ok (.istore 5, 2) := by decide +kernel
theorem d_Mo_go_183 : decode y_Mo_go.2.1 183 = .ok (.aload_n 0, 1) := by decide +kernel
theorem d_Mo_go_184 : decode y_Mo_go.2.1 184 = .ok (.aload_n 0, 1) := by decide +kernel
theorem d_Mo_go_185 : decode y_Mo_go.2.1 185 = .ok (.iload_n 1, 1) := by decide +kernel
theorem d_Mo_go_186 : decode y_Mo_go.2.1 186 = .ok (.invokevirtual 120, 3) := by decide +kernel
theorem d_Mo_go_189 : decode y_Mo_go.2.1 189 = .ok (.ifCond .eq 15, 3) := by decide +kernel
theorem d_Mo_go_192 : decode y_Mo_go.2.1 192 = .ok (.aload_n 0, 1) := by decide +kernel
theorem d_Mo_go_193 : decode y_Mo_go.2.1 193 = .ok (.getfield 103, 3) := by decide +kernel
theorem d_Mo_go_196 : decode y_Mo_go.2.1 196 = .ok (.iconst 1, 1) := by decide +kernel
theorem d_Mo_go_197 : decode y_Mo_go.2.1 197 = .ok (.iload 5, 2) := by decide +kernel
theorem d_Mo_go_199 : decode y_Mo_go.2.1 199 = .ok (.ishl, 1) := by decide +kernel
theorem d_Mo_go_200 : decode y_Mo_go.2.1 200 = .ok (.ior, 1) := by decide +kernel
theorem d_Mo_go_201 : decode y_Mo_go.2.1 201 = .ok (.goto 7, 3) := by decide +kernel
theorem d_Mo_go_204 : decode y_Mo_go.2.1 204 = .ok (.aload_n 0, 1) := by decide +kernel
theorem d_Mo_go_205 : decode y_Mo_go.2.1 205 = .ok (.getfield 103, 3) := by decide +kernel
theorem d_Mo_go_208 : decode y_Mo_go.2.1 208 = .ok (.putfield 103, 3) := by decide +kernel
theorem d_Mo_go_211 : decode y_Mo_go.2.1 211 = .ok (.aload_n 0, 1) := by decide +kernel
theorem d_Mo_go_212 : decode y_Mo_go.2.1 212 = .ok (.iload_n 2, 1) := by decide +kernel
theorem d_Mo_go_213 : decode y_Mo_go.2.1 213 = .ok (.iload 5, 2) := by decide +kernel
theorem d_Mo_go_215 : decode y_Mo_go.2.1 215 = .ok (.invokestatic 134, 3) := by decide +kernel
theorem d_Mo_go_218 : decode y_Mo_go.2.1 218 = .ok (.invokevirtual 127, 3) := by decide +kernel
theorem d_Mo_go_221 : decode y_Mo_go.2.1 221 = .ok (.iinc 3 1, 3) := by decide +kernel
theorem d_Mo_go_224 : decode y_Mo_go.2.1 224 = .ok (.goto (-207), 3) := by decide +kernel
theorem d_Mo_go_227 : decode y_Mo_go.2.1 227 = .ok (.aload_n 0, 1) := by decide +kernel
theorem d_Mo_go_228 : decode y_Mo_go.2.1 228 = .ok (.invokevirtual 124, 3) := by decide +kernel
theorem d_Mo_go_231 : decode y_Mo_go.2.1 231 = .ok (.aload_n 0, 1) := by decide +kernel
theorem d_Mo_go_232 : decode y_Mo_go.2.1 232 = .ok (.getfield 59, 3) := by decide +kernel
theorem d_Mo_go_235 : decode y_Mo_go.2.1 235 = .ok (.iconst 0, 1) := by decide +kernel
theorem d_Mo_go_236 : decode y_Mo_go.2.1 236 = .ok (.baload, 1) := by decide +kernel
theorem d_Mo_go_237 : decode y_Mo_go.2.1 237 = .ok (.ireturn, 1) := by decide +kernel
def y_Mo_holds : MethodName × ByteArray × Nat × Option FieldType × List (Nat × Nat × Nat × Nat) := (⟨"MaskedCausesModel", "holds", "(IIII)Z"⟩, prog_13_method_18_code, 9, (Option.some Jvm.ClassFile.FieldType.boolean), [])
theorem d_Mo_holds_0 : decode y_Mo_holds.2.1 0 = .ok (.aload_n 0, 1) := by decide +kernel
theorem d_Mo_holds_1 : decode y_Mo_holds.2.1 1 = .ok (.getfield 19, 3) := by decide +kernel
theorem d_Mo_holds_4 : decode y_Mo_holds.2.1 4 = .ok (.iload_n 1, 1) := by decide +kernel
theorem d_Mo_holds_5 : decode y_Mo_holds.2.1 5 = .ok (.iaload, 1) := by decide +kernel
theorem d_Mo_holds_6 : decode y_Mo_holds.2.1 6 = .ok (.istore 5, 2) := by decide +kernel
theorem d_Mo_holds_8 : decode y_Mo_holds.2.1 8 = .ok (.aload_n 0, 1) := by decide +kernel
theorem d_Mo_holds_9 : decode y_Mo_holds.2.1 9 = .ok (.getfield 22, 3) := by decide +kernel
theorem d_Mo_holds_12 : decode y_Mo_holds.2.1 12 = .ok (.iload_n 1, 1) := by decide +kernel
theorem d_Mo_holds_13 : decode y_Mo_holds.2.1 13 = .ok (.iaload, 1) := by decide +kernel
theorem d_Mo_holds_14 : decode y_Mo_holds.2.1 14 = .ok (.istore 6, 2) := by decide +kernel
theorem d_Mo_holds_16 : decode y_Mo_holds.2.1 16 = .ok (.iload 5, 2) := by decide +kernel
theorem d_Mo_holds_18 : decode y_Mo_holds.2.1 18 = .ok (.ifCond .ne 7, 3) := by decide +kernel
theorem d_Mo_holds_21 : decode y_Mo_holds.2.1 21 = .ok (.iload_n 2, 1) := by decide +kernel
theorem d_Mo_holds_22 : decode y_Mo_holds.2.1 22 = .ok (.goto 15, 3) := by decide +kernel
theorem d_Mo_holds_25 : decode y_Mo_holds.2.1 25 = .ok (.iload 5, 2) := by decide +kernel
theorem d_Mo_holds_27 : decode y_Mo_holds.2.1 27 = .ok (.iconst 1, 1) := by decide +kernel
theorem d_Mo_holds_28 : decode y_Mo_holds.2.1 28 = .ok (.if_icmp .ne 7, 3) := by decide +kernel
theorem d_Mo_holds_31 : decode y_Mo_holds.2.1 31 = .ok (.iload_n 3, 1) := by decide +kernel
theorem d_Mo_holds_32 : decode y_Mo_holds.2.1 32 = .ok (.goto 5, 3) := by decide +kernel
theorem d_Mo_holds_35 : decode y_Mo_holds.2.1 35 = .ok (.iload 4, 2) := by decide +kernel
theorem d_Mo_holds_37 : decode y_Mo_holds.2.1 37 = .ok (.istore 7, 2) := by decide +kernel
theorem d_Mo_holds_39 : decode y_Mo_holds.2.1 39 = .ok (.iload 7, 2) := by decide +kernel
theorem d_Mo_holds_41 : decode y_Mo_holds.2.1 41 = .ok (.iload 6, 2) := by decide +kernel
theorem d_Mo_holds_43 : decode y_Mo_holds.2.1 43 = .ok (.ifCond .ge 7, 3) := by decide +kernel
theorem d_Mo_holds_46 : decode y_Mo_holds.2.1 46 = .ok (.iconst 0, 1) := by decide +kernel
theorem d_Mo_holds_47 : decode y_Mo_holds.2.1 47 = .ok (.goto 24, 3) := by decide +kernel
theorem d_Mo_holds_50 : decode y_Mo_holds.2.1 50 = .ok (.iload 6, 2) := by decide +kernel
theorem d_Mo_holds_52 : decode y_Mo_holds.2.1 52 = .ok (.ifCond .ne 7, 3) := by decide +kernel
theorem d_Mo_holds_55 : decode y_Mo_holds.2.1 55 = .ok (.iload_n 2, 1) := by decide +kernel
theorem d_Mo_holds_56 : decode y_Mo_holds.2.1 56 = .ok (.goto 15, 3) := by decide +kernel
theorem d_Mo_holds_59 : decode y_Mo_holds.2.1 59 = .ok (.iload 6, 2) := by decide +kernel
theorem d_Mo_holds_61 : decode y_Mo_holds.2.1 61 = .ok (.iconst 1, 1) := by decide +kernel
theorem d_Mo_holds_62 : decode y_Mo_holds.2.1 62 = .ok (.if_icmp .ne 7, 3) := by decide +kernel
theorem d_Mo_holds_65 : decode y_Mo_holds.2.1 65 = .ok (.iload_n 3, 1) := by decide +kernel
theorem d_Mo_holds_66 : decode y_Mo_holds.2.1 66 = .ok (.goto 5, 3) := by decide +kernel
theorem d_Mo_holds_69 : decode y_Mo_holds.2.1 69 = .ok (.iload 4, 2) := by decide +kernel
theorem d_Mo_holds_71 : decode y_Mo_holds.2.1 71 = .ok (.isub, 1) := by decide +kernel
theorem d_Mo_holds_72 : decode y_Mo_holds.2.1 72 = .ok (.istore 7, 2) := by decide +kernel
theorem d_Mo_holds_74 : decode y_Mo_holds.2.1 74 = .ok (.aload_n 0, 1) := by decide +kernel
theorem d_Mo_holds_75 : decode y_Mo_holds.2.1 75 = .ok (.getfield 25, 3) := by decide +kernel
theorem d_Mo_holds_78 : decode y_Mo_holds.2.1 78 = .ok (.iload_n 1, 1) := by decide +kernel
theorem d_Mo_holds_79 : decode y_Mo_holds.2.1 79 = .ok (.iaload, 1) := by decide +kernel
theorem d_Mo_holds_80 : decode y_Mo_holds.2.1 80 = .ok (.istore 8, 2) := by decide +kernel
theorem d_Mo_holds_82 : decode y_Mo_holds.2.1 82 = .ok (.aload_n 0, 1) := by decide +kernel
theorem d_Mo_holds_83 : decode y_Mo_holds.2.1 83 = .ok (.getfield 16, 3) := by decide +kernel
theorem d_Mo_holds_86 : decode y_Mo_holds.2.1 86 = .ok (.iload_n 1, 1) := by decide +kernel
theorem d_Mo_holds_87 : decode y_Mo_holds.2.1 87 = .ok (.iaload, 1) := by decide +kernel
theorem d_Mo_holds_88 : decode y_Mo_holds.2.1 88 = .ok (.ifCond .ne 18, 3) := by decide +kernel
theorem d_Mo_holds_91 : decode y_Mo_holds.2.1 91 = .ok (.iload 7, 2) := by decide +kernel
theorem d_Mo_holds_93 : decode y_Mo_holds.2.1 93 = .ok (.iload 8, 2) := by decide +kernel
theorem d_Mo_holds_95 : decode y_Mo_holds.2.1 95 = .ok (.if_icmp .gt 7, 3) := by decide +kernel
theorem d_Mo_holds_98 : decode y_Mo_holds.2.1 98 = .ok (.iconst 1, 1) := by decide +kernel
theorem d_Mo_holds_99 : decode y_Mo_holds.2.1 99 = .ok (.goto 69, 3) := by decide +kernel
theorem d_Mo_holds_102 : decode y_Mo_holds.2.1 102 = .ok (.iconst 0, 1) := by decide +kernel
theorem d_Mo_holds_103 : decode y_Mo_holds.2.1 103 = .ok (.goto 65, 3) := by decide +kernel
theorem d_Mo_holds_106 : decode y_Mo_holds.2.1 106 = .ok (.aload_n 0, 1) := by decide +kernel
theorem d_Mo_holds_107 : decode y_Mo_holds.2.1 107 = .ok (.getfield 16, 3) := by decide +kernel
theorem d_Mo_holds_110 : decode y_Mo_holds.2.1 110 = .ok (.iload_n 1, 1) := by decide +kernel
theorem d_Mo_holds_111 : decode y_Mo_holds.2.1 111 = .ok (.iaload, 1) := by decide +kernel
theorem d_Mo_holds_112 : decode y_Mo_holds.2.1 112 = .ok (.iconst 1, 1) := by decide +kernel
theorem d_Mo_holds_113 : decode y_Mo_holds.2.1 113 = .ok (.if_icmp .ne 18, 3) := by decide +kernel
theorem d_Mo_holds_116 : decode y_Mo_holds.2.1 116 = .ok (.iload 7, 2) := by decide +kernel
theorem d_Mo_holds_118 : decode y_Mo_holds.2.1 118 = .ok (.iload 8, 2) := by decide +kernel
theorem d_Mo_holds_120 : decode y_Mo_holds.2.1 120 = .ok (.if_icmp .ge 7, 3) := by decide +kernel
theorem d_Mo_holds_123 : decode y_Mo_holds.2.1 123 = .ok (.iconst 1, 1) := by decide +kernel
theorem d_Mo_holds_124 : decode y_Mo_holds.2.1 124 = .ok (.goto 44, 3) := by decide +kernel
theorem d_Mo_holds_127 : decode y_Mo_holds.2.1 127 = .ok (.iconst 0, 1) := by decide +kernel
theorem d_Mo_holds_128 : decode y_Mo_holds.2.1 128 = .ok (.goto 40, 3) := by decide +kernel
theorem d_Mo_holds_131 : decode y_Mo_holds.2.1 131 = .ok (.aload_n 0, 1) := by decide +kernel
theorem d_Mo_holds_132 : decode y_Mo_holds.2.1 132 = .ok (.getfield 16, 3) := by decide +kernel
theorem d_Mo_holds_135 : decode y_Mo_holds.2.1 135 = .ok (.iload_n 1, 1) := by decide +kernel
theorem d_Mo_holds_136 : decode y_Mo_holds.2.1 136 = .ok (.iaload, 1) := by decide +kernel
theorem d_Mo_holds_137 : decode y_Mo_holds.2.1 137 = .ok (.iconst 2, 1) := by decide +kernel
theorem d_Mo_holds_138 : decode y_Mo_holds.2.1 138 = .ok (.if_icmp .ne 18, 3) := by decide +kernel
theorem d_Mo_holds_141 : decode y_Mo_holds.2.1 141 = .ok (.iload 7, 2) := by decide +kernel
theorem d_Mo_holds_143 : decode y_Mo_holds.2.1 143 = .ok (.iload 8, 2) := by decide +kernel
theorem d_Mo_holds_145 : decode y_Mo_holds.2.1 145 = .ok (.if_icmp .ne 7, 3) := by decide +kernel
theorem d_Mo_holds_148 : decode y_Mo_holds.2.1 148 = .ok (.iconst 1, 1) := by decide +kernel
theorem d_Mo_holds_149 : decode y_Mo_holds.2.1 149 = .ok (.goto 19, 3) := by decide +kernel
theorem d_Mo_holds_152 : decode y_Mo_holds.2.1 152 = .ok (.iconst 0, 1) := by decide +kernel
theorem d_Mo_holds_153 : decode y_Mo_holds.2.1 153 = .ok (.goto 15, 3) := by decide +kernel
theorem d_Mo_holds_156 : decode y_Mo_holds.2.1 156 = .ok (.iload 7, 2) := by decide +kernel
theorem d_Mo_holds_158 : decode y_Mo_holds.2.1 158 = .ok (.iload 8, 2) := by decide +kernel
theorem d_Mo_holds_160 : decode y_Mo_holds.2.1 160 = .ok (.if_icmp .eq 7, 3) := by decide +kernel
theorem d_Mo_holds_163 : decode y_Mo_holds.2.1 163 = .ok (.iconst 1, 1) := by decide +kernel
theorem d_Mo_holds_164 : decode y_Mo_holds.2.1 164 = .ok (.goto 4, 3) := by decide +kernel
theorem d_Mo_holds_167 : decode y_Mo_holds.2.1 167 = .ok (.iconst 0, 1) := by decide +kernel
theorem d_Mo_holds_168 : decode y_Mo_holds.2.1 168 = .ok (.ireturn, 1) := by decide +kernel
def y_Mo_wordOf : MethodName × ByteArray × Nat × Option FieldType × List (Nat × Nat × Nat × Nat) := (⟨"MaskedCausesModel", "wordOf", "(IIII)I"⟩, prog_13_method_19_code, 7, (Option.some Jvm.ClassFile.FieldType.int), [])
theorem d_Mo_wordOf_0 : decode y_Mo_wordOf.2.1 0 = .ok (.iconst 0, 1) := by decide +kernel
theorem d_Mo_wordOf_1 : decode y_Mo_wordOf.2.1 1 = .ok (.istore 5, 2) := by decide +kernel
theorem d_Mo_wordOf_3 : decode y_Mo_wordOf.2.1 3 = .ok (.iconst 0, 1) := by decide +kernel
theorem d_Mo_wordOf_4 : decode y_Mo_wordOf.2.1 4 = .ok (.istore 6, 2) := by decide +kernel
theorem d_Mo_wordOf_6 : decode y_Mo_wordOf.2.1 6 = .ok (.iload 6, 2) := by decide +kernel
theorem d_Mo_wordOf_8 : decode y_Mo_wordOf.2.1 8 = .ok (.aload_n 0, 1) := by decide +kernel
theorem d_Mo_wordOf_9 : decode y_Mo_wordOf.2.1 9 = .ok (.getfield 41, 3) := by decide +kernel
theorem d_Mo_wordOf_12 : decode y_Mo_wordOf.2.1 12 = .ok (.iload_n 1, 1) := by decide +kernel
theorem d_Mo_wordOf_13 : decode y_Mo_wordOf.2.1 13 = .ok (.iaload, 1) := by decide +kernel
theorem d_Mo_wordOf_14 : decode y_Mo_wordOf.2.1 14 = .ok (.if_icmp .ge 46, 3) := by decide +kernel
theorem d_Mo_wordOf_17 : decode y_Mo_wordOf.2.1 17 = .ok (.aload_n 0, 1) := by decide +kernel
theorem d_Mo_wordOf_18 : decode y_Mo_wordOf.2.1 18 = .ok (.aload_n 0, 1) := by decide +kernel
theorem d_Mo_wordOf_19 : decode y_Mo_wordOf.2.1 19 = .ok (.getfield 44, 3) := by decide +kernel
theorem d_Mo_wordOf_22 : decode y_Mo_wordOf.2.1 22 = .ok (.bipush 6, 2) := by decide +kernel
theorem d_Mo_wordOf_24 : decode y_Mo_wordOf.2.1 24 = .ok (.iload_n 1, 1) := by decide +kernel
theorem d_Mo_wordOf_25 : decode y_Mo_wordOf.2.1 25 = .ok (.imul, 1) := by decide +kernel
theorem d_Mo_wordOf_26 : decode y_Mo_wordOf.2.1 26 = .ok (.iload 6, 2) := by decide +kernel
theorem d_Mo_wordOf_28 : decode y_Mo_wordOf.2.1 28 = .ok (.iadd, 1) := by decide +kernel
theorem d_Mo_wordOf_29 : decode y_Mo_wordOf.2.1 29 = .ok (.iaload, 1) := by decide +kernel
theorem d_Mo_wordOf_30 : decode y_Mo_wordOf.2.1 30 = .ok (.iload_n 2, 1) := by decide +kernel
theorem d_Mo_wordOf_31 : decode y_Mo_wordOf.2.1 31 = .ok (.iload_n 3, 1) := by decide +kernel
theorem d_Mo_wordOf_32 : decode y_Mo_wordOf.2.1 32 = .ok (.iload 4, 2) := by decide +kernel
theorem d_Mo_wordOf_34 : decode y_Mo_wordOf.2.1 34 = .ok (.invokevirtual 138, 3) := by decide +kernel
theorem d_Mo_wordOf_37 : decode y_Mo_wordOf.2.1 37 = .ok (.ifCond .eq 13, 3) := by decide +kernel
theorem d_Mo_wordOf_40 : decode y_Mo_wordOf.2.1 40 = .ok (.iload 5, 2) := by decide +kernel
theorem d_Mo_wordOf_42 : decode y_Mo_wordOf.2.1 42 = .ok (.iconst 1, 1) := by decide +kernel
theorem d_Mo_wordOf_43 : decode y_Mo_wordOf.2.1 43 = .ok (.iload 6, 2) := by decide +kernel
theorem d_Mo_wordOf_45 : decode y_Mo_wordOf.2.1 45 = .ok (.ishl, 1) := by decide +kernel
theorem d_Mo_wordOf_46 : decode y_Mo_wordOf.2.1 46 = .ok (.ior, 1) := by decide +kernel
theorem d_Mo_wordOf_47 : decode y_Mo_wordOf.2.1 47 = .ok (.goto 5, 3) := by decide +kernel
theorem d_Mo_wordOf_50 : decode y_Mo_wordOf.2.1 50 = .ok (.iload 5, 2) := by decide +kernel
theorem d_Mo_wordOf_52 : decode y_Mo_wordOf.2.1 52 = .ok (.istore 5, 2) := by decide +kernel
theorem d_Mo_wordOf_54 : decode y_Mo_wordOf.2.1 54 = .ok (.iinc 6 1, 3) := by decide +kernel
theorem d_Mo_wordOf_57 : decode y_Mo_wordOf.2.1 57 = .ok (.goto (-51), 3) := by decide +kernel
theorem d_Mo_wordOf_60 : decode y_Mo_wordOf.2.1 60 = .ok (.iload 5, 2) := by decide +kernel
theorem d_Mo_wordOf_62 : decode y_Mo_wordOf.2.1 62 = .ok (.ireturn, 1) := by decide +kernel
def y_Mo_findVectors : MethodName × ByteArray × Nat × Option FieldType × List (Nat × Nat × Nat × Nat) := (⟨"MaskedCausesModel", "findVectors", "(I)V"⟩, prog_13_method_20_code, 6, (Option.none : Option Jvm.ClassFile.FieldType), [])
theorem d_Mo_findVectors_0 : decode y_Mo_findVectors.2.1 0 = .ok (.aload_n 0, 1) := by decide +kernel
theorem d_Mo_findVectors_1 : decode y_Mo_findVectors.2.1 1 = .ok (.getfield 7, 3) := by decide +kernel
theorem d_Mo_findVectors_4 : decode y_Mo_findVectors.2.1 4 = .ok (.iconst 0, 1) := by decide +kernel
theorem d_Mo_findVectors_5 : decode y_Mo_findVectors.2.1 5 = .ok (.iaload, 1) := by decide +kernel
theorem d_Mo_findVectors_6 : decode y_Mo_findVectors.2.1 6 = .ok (.istore_n 2, 1) := by decide +kernel
theorem d_Mo_findVectors_7 : decode y_Mo_findVectors.2.1 7 = .ok (.iload_n 2, 1) := by decide +kernel
theorem d_Mo_findVectors_8 : decode y_Mo_findVectors.2.1 8 = .ok (.aload_n 0, 1) := by decide +kernel
theorem d_Mo_findVectors_9 : decode y_Mo_findVectors.2.1 9 = .ok (.getfield 13, 3) := by decide +kernel
theorem d_Mo_findVectors_12 : decode y_Mo_findVectors.2.1 12 = .ok (.iconst 0, 1) := by decide +kernel
theorem d_Mo_findVectors_13 : decode y_Mo_findVectors.2.1 13 = .ok (.iaload, 1) := by decide +kernel
theorem d_Mo_findVectors_14 : decode y_Mo_findVectors.2.1 14 = .ok (.if_icmp .gt 174, 3) := by decide +kernel
theorem d_Mo_findVectors_17 : decode y_Mo_findVectors.2.1 17 = .ok (.aload_n 0, 1) := by decide +kernel
theorem d_Mo_findVectors_18 : decode y_Mo_findVectors.2.1 18 = .ok (.getfield 90, 3) := by decide +kernel
theorem d_Mo_findVectors_21 : decode y_Mo_findVectors.2.1 21 = .ok (.iconst 1, 1) := by decide +kernel
theorem d_Mo_findVectors_22 : decode y_Mo_findVectors.2.1 22 = .ok (.if_icmp .le 12, 3) := by decide +kernel
theorem d_Mo_findVectors_25 : decode y_Mo_findVectors.2.1 25 = .ok (.aload_n 0, 1) := by decide +kernel
theorem d_Mo_findVectors_26 : decode y_Mo_findVectors.2.1 26 = .ok (.getfield 7, 3) := by decide +kernel
theorem d_Mo_findVectors_29 : decode y_Mo_findVectors.2.1 29 = .ok (.iconst 1, 1) := by decide +kernel
theorem d_Mo_findVectors_30 : decode y_Mo_findVectors.2.1 30 = .ok (.iaload, 1) := by decide +kernel
theorem d_Mo_findVectors_31 : decode y_Mo_findVectors.2.1 31 = .ok (.goto 4, 3) := by decide +kernel
theorem d_Mo_findVectors_34 : decode y_Mo_findVectors.2.1 34 = .ok (.iconst 0, 1) := by decide +kernel
theorem d_Mo_findVectors_35 : decode y_Mo_findVectors.2.1 35 = .ok (.istore_n 3, 1) := by decide +kernel
theorem d_Mo_findVectors_36 : decode y_Mo_findVectors.2.1 36 = .ok (.iload_n 3, 1) := by decide +kernel
theorem d_Mo_findVectors_37 : decode y_Mo_findVectors.2.1 37 = .ok (.aload_n 0, 1) := by decide +kernel
theorem d_Mo_findVectors_38 : decode y_Mo_findVectors.2.1 38 = .ok (.getfield 90, 3) := by decide +kernel
theorem d_Mo_findVectors_41 : decode y_Mo_findVectors.2.1 41 = .ok (.iconst 1, 1) := by decide +kernel
theorem d_Mo_findVectors_42 : decode y_Mo_findVectors.2.1 42 = .ok (.if_icmp .le 12, 3) := by decide +kernel
theorem d_Mo_findVectors_45 : decode y_Mo_findVectors.2.1 45 = .ok (.aload_n 0, 1) := by decide +kernel
theorem d_Mo_findVectors_46 : decode y_Mo_findVectors.2.1 46 = .ok (.getfield 13, 3) := by decide +kernel
theorem d_Mo_findVectors_49 : decode y_Mo_findVectors.2.1 49 = .ok (.iconst 1, 1) := by decide +kernel
theorem d_Mo_findVectors_50 : decode y_Mo_findVectors.2.1 50 = .ok (.iaload, 1) := by decide +kernel
theorem d_Mo_findVectors_51 : decode y_Mo_findVectors.2.1 51 = .ok (.goto 4, 3) := by decide +kernel
theorem d_Mo_findVectors_54 : decode y_Mo_findVectors.2.1 54 = .ok (.iconst 0, 1) := by decide +kernel
theorem d_Mo_findVectors_55 : decode y_Mo_findVectors.2.1 55 = .ok (.if_icmp .gt 127, 3) := by decide +kernel
theorem d_Mo_findVectors_58 : decode y_Mo_findVectors.2.1 58 = .ok (.aload_n 0, 1) := by decide +kernel
theorem d_Mo_findVectors_59 : decode y_Mo_findVectors.2.1 59 = .ok (.getfield 90, 3) := by decide +kernel
theorem d_Mo_findVectors_62 : decode y_Mo_findVectors.2.1 62 = .ok (.iconst 2, 1) := by decide +kernel
theorem d_Mo_findVectors_63 : decode y_Mo_findVectors.2.1 63 = .ok (.if_icmp .le 12, 3) := by decide +kernel
theorem d_Mo_findVectors_66 : decode y_Mo_findVectors.2.1 66 = .ok (.aload_n 0, 1) := by decide +kernel
theorem d_Mo_findVectors_67 : decode y_Mo_findVectors.2.1 67 = .ok (.getfield 7, 3) := by decide +kernel
theorem d_Mo_findVectors_70 : decode y_Mo_findVectors.2.1 70 = .ok (.iconst 2, 1) := by decide +kernel
theorem d_Mo_findVectors_71 : decode y_Mo_findVectors.2.1 71 = .ok (.iaload, 1) := by decide +kernel
theorem d_Mo_findVectors_72 : decode y_Mo_findVectors.2.1 72 = .ok (.goto 4, 3) := by decide +kernel
theorem d_Mo_findVectors_75 : decode y_Mo_findVectors.2.1 75 = .ok (.iconst 0, 1) := by decide +kernel
theorem d_Mo_findVectors_76 : decode y_Mo_findVectors.2.1 76 = .ok (.istore 4, 2) := by decide +kernel
theorem d_Mo_findVectors_78 : decode y_Mo_findVectors.2.1 78 = .ok (.iload 4, 2) := by decide +kernel
theorem d_Mo_findVectors_80 : decode y_Mo_findVectors.2.1 80 = .ok (.aload_n 0, 1) := by decide +kernel
theorem d_Mo_findVectors_81 : decode y_Mo_findVectors.2.1 81 = .ok (.getfield 90, 3) := by decide +kernel
theorem d_Mo_findVectors_84 : decode y_Mo_findVectors.2.1 84 = .ok (.iconst 2, 1) := by decide +kernel
theorem d_Mo_findVectors_85 : decode y_Mo_findVectors.2.1 85 = .ok (.if_icmp .le 12, 3) := by decide +kernel
theorem d_Mo_findVectors_88 : decode y_Mo_findVectors.2.1 88 = .ok (.aload_n 0, 1) := by decide +kernel
theorem d_Mo_findVectors_89 : decode y_Mo_findVectors.2.1 89 = .ok (.getfield 13, 3) := by decide +kernel
theorem d_Mo_findVectors_92 : decode y_Mo_findVectors.2.1 92 = .ok (.iconst 2, 1) := by decide +kernel
theorem d_Mo_findVectors_93 : decode y_Mo_findVectors.2.1 93 = .ok (.iaload, 1) := by decide +kernel
theorem d_Mo_findVectors_94 : decode y_Mo_findVectors.2.1 94 = .ok (.goto 4, 3) := by decide +kernel
theorem d_Mo_findVectors_97 : decode y_Mo_findVectors.2.1 97 = .ok (.iconst 0, 1) := by decide +kernel
theorem d_Mo_findVectors_98 : decode y_Mo_findVectors.2.1 98 = .ok (.if_icmp .gt 78, 3) := by decide +kernel
theorem d_Mo_findVectors_101 : decode y_Mo_findVectors.2.1 101 = .ok (.bipush 64, 2) := by decide +kernel
theorem d_Mo_findVectors_103 : decode y_Mo_findVectors.2.1 103 = .ok (.iload_n 1, 1) := by decide +kernel
theorem d_Mo_findVectors_104 : decode y_Mo_findVectors.2.1 104 = .ok (.imul, 1) := by decide +kernel
theorem d_Mo_findVectors_105 : decode y_Mo_findVectors.2.1 105 = .ok (.aload_n 0, 1) := by decide +kernel
theorem d_Mo_findVectors_106 : decode y_Mo_findVectors.2.1 106 = .ok (.iload_n 1, 1) := by decide +kernel
theorem d_Mo_findVectors_107 : decode y_Mo_findVectors.2.1 107 = .ok (.iload_n 2, 1) := by decide +kernel
theorem d_Mo_findVectors_108 : decode y_Mo_findVectors.2.1 108 = .ok (.iload_n 3, 1) := by decide +kernel
theorem d_Mo_findVectors_109 : decode y_Mo_findVectors.2.1 109 = .ok (.iload 4, 2) := by decide +kernel
theorem d_Mo_findVectors_111 : decode y_Mo_findVectors.2.1 111 = .ok (.invokevirtual 142, 3) := by decide +kernel
theorem d_Mo_findVectors_114 : decode y_Mo_findVectors.2.1 114 = .ok (.iadd, 1) := by decide +kernel
theorem d_Mo_findVectors_115 : decode y_Mo_findVectors.2.1 115 = .ok (.istore 5, 2) := by decide +kernel
theorem d_Mo_findVectors_117 : decode y_Mo_findVectors.2.1 117 = .ok (.aload_n 0, 1) := by decide +kernel
theorem d_Mo_findVectors_118 : decode y_Mo_findVectors.2.1 118 = .ok (.getfield 47, 3) := by decide +kernel
theorem d_Mo_findVectors_121 : decode y_Mo_findVectors.2.1 121 = .ok (.iload 5, 2) := by decide +kernel
theorem d_Mo_findVectors_123 : decode y_Mo_findVectors.2.1 123 = .ok (.baload, 1) := by decide +kernel
theorem d_Mo_findVectors_124 : decode y_Mo_findVectors.2.1 124 = .ok (.ifCond .ne 46, 3) := by decide +kernel
theorem d_Mo_findVectors_127 : decode y_Mo_findVectors.2.1 127 = .ok (.aload_n 0, 1) := by decide +kernel
theorem d_Mo_findVectors_128 : decode y_Mo_findVectors.2.1 128 = .ok (.getfield 47, 3) := by decide +kernel
theorem d_Mo_findVectors_131 : decode y_Mo_findVectors.2.1 131 = .ok (.iload 5, 2) := by decide +kernel
theorem d_Mo_findVectors_133 : decode y_Mo_findVectors.2.1 133 = .ok (.iconst 1, 1) := by decide +kernel
theorem d_Mo_findVectors_134 : decode y_Mo_findVectors.2.1 134 = .ok (.bastore, 1) := by decide +kernel
theorem d_Mo_findVectors_135 : decode y_Mo_findVectors.2.1 135 = .ok (.aload_n 0, 1) := by decide +kernel
theorem d_Mo_findVectors_136 : decode y_Mo_findVectors.2.1 136 = .ok (.getfield 50, 3) := by decide +kernel
theorem d_Mo_findVectors_139 : decode y_Mo_findVectors.2.1 139 = .ok (.iconst 3, 1) := by decide +kernel
theorem d_Mo_findVectors_140 : decode y_Mo_findVectors.2.1 140 = .ok (.iload 5, 2) := by decide +kernel
theorem d_Mo_findVectors_142 : decode y_Mo_findVectors.2.1 142 = .ok (.imul, 1) := by decide +kernel
theorem d_Mo_findVectors_143 : decode y_Mo_findVectors.2.1 143 = .ok (.iload_n 2, 1) := by decide +kernel
theorem d_Mo_findVectors_144 : decode y_Mo_findVectors.2.1 144 = .ok (.iastore, 1) := by decide +kernel
theorem d_Mo_findVectors_145 : decode y_Mo_findVectors.2.1 145 = .ok (.aload_n 0, 1) := by decide +kernel
theorem d_Mo_findVectors_146 : decode y_Mo_findVectors.2.1 146 = .ok (.getfield 50, 3) := by decide +kernel
theorem d_Mo_findVectors_149 : decode y_Mo_findVectors.2.1 149 = .ok (.iconst 3, 1) := by decide +kernel
theorem d_Mo_findVectors_150 : decode y_Mo_findVectors.2.1 150 = .ok (.iload 5, 2) := by decide +kernel
theorem d_Mo_findVectors_152 : decode y_Mo_findVectors.2.1 152 = .ok (.imul, 1) := by decide +kernel
theorem d_Mo_findVectors_153 : decode y_Mo_findVectors.2.1 153 = .ok (.iconst 1, 1) := by decide +kernel
theorem d_Mo_findVectors_154 : decode y_Mo_findVectors.2.1 154 = .ok (.iadd, 1) := by decide +kernel
theorem d_Mo_findVectors_155 : decode y_Mo_findVectors.2.1 155 = .ok (.iload_n 3, 1) := by decide +kernel
theorem d_Mo_findVectors_156 : decode y_Mo_findVectors.2.1 156 = .ok (.iastore, 1) := by decide +kernel
theorem d_Mo_findVectors_157 : decode y_Mo_findVectors.2.1 157 = .ok (.aload_n 0, 1) := by decide +kernel
theorem d_Mo_findVectors_158 : decode y_Mo_findVectors.2.1 158 = .ok (.getfield 50, 3) := by decide +kernel
theorem d_Mo_findVectors_161 : decode y_Mo_findVectors.2.1 161 = .ok (.iconst 3, 1) := by decide +kernel
theorem d_Mo_findVectors_162 : decode y_Mo_findVectors.2.1 162 = .ok (.iload 5, 2) := by decide +kernel
theorem d_Mo_findVectors_164 : decode y_Mo_findVectors.2.1 164 = .ok (.imul, 1) := by decide +kernel
theorem d_Mo_findVectors_165 : decode y_Mo_findVectors.2.1 165 = .ok (.iconst 2, 1) := by decide +kernel
theorem d_Mo_findVectors_166 : decode y_Mo_findVectors.2.1 166 = .ok (.iadd, 1) := by decide +kernel
theorem d_Mo_findVectors_167 : decode y_Mo_findVectors.2.1 167 = .ok (.iload 4, 2) := by decide +kernel
theorem d_Mo_findVectors_169 : decode y_Mo_findVectors.2.1 169 = .ok (.iastore, 1) := by decide +kernel
theorem d_Mo_findVectors_170 : decode y_Mo_findVectors.2.1 170 = .ok (.iinc 4 1, 3) := by decide +kernel
theorem d_Mo_findVectors_173 : decode y_Mo_findVectors.2.1 173 = .ok (.goto (-95), 3) := by decide +kernel
theorem d_Mo_findVectors_176 : decode y_Mo_findVectors.2.1 176 = .ok (.iinc 3 1, 3) := by decide +kernel
theorem d_Mo_findVectors_179 : decode y_Mo_findVectors.2.1 179 = .ok (.goto (-143), 3) := by decide +kernel
theorem d_Mo_findVectors_182 : decode y_Mo_findVectors.2.1 182 = .ok (.iinc 2 1, 3) := by decide +kernel
theorem d_Mo_findVectors_185 : decode y_Mo_findVectors.2.1 185 = .ok (.goto (-178), 3) := by decide +kernel
theorem d_Mo_findVectors_188 : decode y_Mo_findVectors.2.1 188 = .ok (.return_, 1) := by decide +kernel
def y_Mo_decision : MethodName × ByteArray × Nat × Option FieldType × List (Nat × Nat × Nat × Nat) := (⟨"MaskedCausesModel", "decision", "(Z)I"⟩, prog_13_method_21_code, 6, (Option.some Jvm.ClassFile.FieldType.int), [])
theorem d_Mo_decision_0 : decode y_Mo_decision.2.1 0 = .ok (.aload_n 0, 1) := by decide +kernel
theorem d_Mo_decision_1 : decode y_Mo_decision.2.1 1 = .ok (.aload_n 0, 1) := by decide +kernel
theorem d_Mo_decision_2 : decode y_Mo_decision.2.1 2 = .ok (.getfield 146, 3) := by decide +kernel
theorem d_Mo_decision_5 : decode y_Mo_decision.2.1 5 = .ok (.iconst 4, 1) := by decide +kernel
theorem d_Mo_decision_6 : decode y_Mo_decision.2.1 6 = .ok (.if_icmp .eq 10, 3) := by decide +kernel
theorem d_Mo_decision_9 : decode y_Mo_decision.2.1 9 = .ok (.aload_n 0, 1) := by decide +kernel
theorem d_Mo_decision_10 : decode y_Mo_decision.2.1 10 = .ok (.getfield 93, 3) := by decide +kernel
theorem d_Mo_decision_13 : decode y_Mo_decision.2.1 13 = .ok (.ifCond .ne 7, 3) := by decide +kernel
theorem d_Mo_decision_16 : decode y_Mo_decision.2.1 16 = .ok (.iconst 1, 1) := by decide +kernel
theorem d_Mo_decision_17 : decode y_Mo_decision.2.1 17 = .ok (.goto 4, 3) := by decide +kernel
theorem d_Mo_decision_20 : decode y_Mo_decision.2.1 20 = .ok (.iconst 0, 1) := by decide +kernel
theorem d_Mo_decision_21 : decode y_Mo_decision.2.1 21 = .ok (.iconst 0, 1) := by decide +kernel
theorem d_Mo_decision_22 : decode y_Mo_decision.2.1 22 = .ok (.invokevirtual 96, 3) := by decide +kernel
theorem d_Mo_decision_25 : decode y_Mo_decision.2.1 25 = .ok (.ifCond .eq 5, 3) := by decide +kernel
theorem d_Mo_decision_28 : decode y_Mo_decision.2.1 28 = .ok (.iconst 0, 1) := by decide +kernel
theorem d_Mo_decision_29 : decode y_Mo_decision.2.1 29 = .ok (.ireturn, 1) := by decide +kernel
theorem d_Mo_decision_30 : decode y_Mo_decision.2.1 30 = .ok (.aload_n 0, 1) := by decide +kernel
theorem d_Mo_decision_31 : decode y_Mo_decision.2.1 31 = .ok (.getfield 100, 3) := by decide +kernel
theorem d_Mo_decision_34 : decode y_Mo_decision.2.1 34 = .ok (.istore_n 2, 1) := by decide +kernel
theorem d_Mo_decision_35 : decode y_Mo_decision.2.1 35 = .ok (.aload_n 0, 1) := by decide +kernel
theorem d_Mo_decision_36 : decode y_Mo_decision.2.1 36 = .ok (.iconst 0, 1) := by decide +kernel
theorem d_Mo_decision_37 : decode y_Mo_decision.2.1 37 = .ok (.putfield 100, 3) := by decide +kernel
theorem d_Mo_decision_40 : decode y_Mo_decision.2.1 40 = .ok (.aload_n 0, 1) := by decide +kernel
theorem d_Mo_decision_41 : decode y_Mo_decision.2.1 41 = .ok (.iload_n 2, 1) := by decide +kernel
theorem d_Mo_decision_42 : decode y_Mo_decision.2.1 42 = .ok (.invokevirtual 149, 3) := by decide +kernel
theorem d_Mo_decision_45 : decode y_Mo_decision.2.1 45 = .ok (.istore_n 3, 1) := by decide +kernel
theorem d_Mo_decision_46 : decode y_Mo_decision.2.1 46 = .ok (.iload_n 3, 1) := by decide +kernel
theorem d_Mo_decision_47 : decode y_Mo_decision.2.1 47 = .ok (.ifCond .lt 7, 3) := by decide +kernel
theorem d_Mo_decision_50 : decode y_Mo_decision.2.1 50 = .ok (.iconst (-1), 1) := by decide +kernel
theorem d_Mo_decision_51 : decode y_Mo_decision.2.1 51 = .ok (.iload_n 3, 1) := by decide +kernel
theorem d_Mo_decision_52 : decode y_Mo_decision.2.1 52 = .ok (.isub, 1) := by decide +kernel
theorem d_Mo_decision_53 : decode y_Mo_decision.2.1 53 = .ok (.ireturn, 1) := by decide +kernel
theorem d_Mo_decision_54 : decode y_Mo_decision.2.1 54 = .ok (.aload_n 0, 1) := by decide +kernel
theorem d_Mo_decision_55 : decode y_Mo_decision.2.1 55 = .ok (.getfield 146, 3) := by decide +kernel
theorem d_Mo_decision_58 : decode y_Mo_decision.2.1 58 = .ok (.istore 4, 2) := by decide +kernel
theorem d_Mo_decision_60 : decode y_Mo_decision.2.1 60 = .ok (.aload_n 0, 1) := by decide +kernel
theorem d_Mo_decision_61 : decode y_Mo_decision.2.1 61 = .ok (.dup, 1) := by decide +kernel
theorem d_Mo_decision_62 : decode y_Mo_decision.2.1 62 = .ok (.getfield 146, 3) := by decide +kernel
theorem d_Mo_decision_65 : decode y_Mo_decision.2.1 65 = .ok (.iconst 1, 1) := by decide +kernel
theorem d_Mo_decision_66 : decode y_Mo_decision.2.1 66 = .ok (.iadd, 1) := by decide +kernel
theorem d_Mo_decision_67 : decode y_Mo_decision.2.1 67 = .ok (.putfield 146, 3) := by decide +kernel
theorem d_Mo_decision_70 : decode y_Mo_decision.2.1 70 = .ok (.aload_n 0, 1) := by decide +kernel
theorem d_Mo_decision_71 : decode y_Mo_decision.2.1 71 = .ok (.getfield 34, 3) := by decide +kernel
theorem d_Mo_decision_74 : decode y_Mo_decision.2.1 74 = .ok (.iload 4, 2) := by decide +kernel
theorem d_Mo_decision_76 : decode y_Mo_decision.2.1 76 = .ok (.iload_n 2, 1) := by decide +kernel
theorem d_Mo_decision_77 : decode y_Mo_decision.2.1 77 = .ok (.iastore, 1) := by decide +kernel
theorem d_Mo_decision_78 : decode y_Mo_decision.2.1 78 = .ok (.aload_n 0, 1) := by decide +kernel
theorem d_Mo_decision_79 : decode y_Mo_decision.2.1 79 = .ok (.getfield 37, 3) := by decide +kernel
theorem d_Mo_decision_82 : decode y_Mo_decision.2.1 82 = .ok (.iload 4, 2) := by decide +kernel
theorem d_Mo_decision_84 : decode y_Mo_decision.2.1 84 = .ok (.iload_n 1, 1) := by decide +kernel
theorem d_Mo_decision_85 : decode y_Mo_decision.2.1 85 = .ok (.bastore, 1) := by decide +kernel
theorem d_Mo_decision_86 : decode y_Mo_decision.2.1 86 = .ok (.iconst 0, 1) := by decide +kernel
theorem d_Mo_decision_87 : decode y_Mo_decision.2.1 87 = .ok (.istore 5, 2) := by decide +kernel
theorem d_Mo_decision_89 : decode y_Mo_decision.2.1 89 = .ok (.iload 5, 2) := by decide +kernel
theorem d_Mo_decision_91 : decode y_Mo_decision.2.1 91 = .ok (.iload_n 2, 1) := by decide +kernel
theorem d_Mo_decision_92 : decode y_Mo_decision.2.1 92 = .ok (.if_icmp .ge 29, 3) := by decide +kernel
theorem d_Mo_decision_95 : decode y_Mo_decision.2.1 95 = .ok (.aload_n 0, 1) := by decide +kernel
theorem d_Mo_decision_96 : decode y_Mo_decision.2.1 96 = .ok (.getfield 31, 3) := by decide +kernel
theorem d_Mo_decision_99 : decode y_Mo_decision.2.1 99 = .ok (.bipush 40, 2) := by decide +kernel
theorem d_Mo_decision_101 : decode y_Mo_decision.2.1 101 = .ok (.iload 4, 2) := by decide +kernel
theorem d_Mo_decision_103 : decode y_Mo_decision.2.1 103 = .ok (.imul, 1) := by decide +kernel
theorem d_Mo_decision_104 : decode y_Mo_decision.2.1 104 = .ok (.iload 5, 2) := by decide +kernel
theorem d_Mo_decision_106 : decode y_Mo_decision.2.1 106 = .ok (.iadd, 1) := by decide +kernel
theorem d_Mo_decision_107 : decode y_Mo_decision.2.1 107 = .ok (.aload_n 0, 1) := by decide +kernel
theorem d_Mo_decision_108 : decode y_Mo_decision.2.1 108 = .ok (.getfield 28, 3) := by decide +kernel
theorem d_Mo_decision_111 : decode y_Mo_decision.2.1 111 = .ok (.iload 5, 2) := by decide +kernel
theorem d_Mo_decision_113 : decode y_Mo_decision.2.1 113 = .ok (.iaload, 1) := by decide +kernel
theorem d_Mo_decision_114 : decode y_Mo_decision.2.1 114 = .ok (.iastore, 1) := by decide +kernel
theorem d_Mo_decision_115 : decode y_Mo_decision.2.1 115 = .ok (.iinc 5 1, 3) := by decide +kernel
theorem d_Mo_decision_118 : decode y_Mo_decision.2.1 118 = .ok (.goto (-29), 3) := by decide +kernel
theorem d_Mo_decision_121 : decode y_Mo_decision.2.1 121 = .ok (.aload_n 0, 1) := by decide +kernel
theorem d_Mo_decision_122 : decode y_Mo_decision.2.1 122 = .ok (.getfield 41, 3) := by decide +kernel
theorem d_Mo_decision_125 : decode y_Mo_decision.2.1 125 = .ok (.iload 4, 2) := by decide +kernel
theorem d_Mo_decision_127 : decode y_Mo_decision.2.1 127 = .ok (.iconst 0, 1) := by decide +kernel
theorem d_Mo_decision_128 : decode y_Mo_decision.2.1 128 = .ok (.iastore, 1) := by decide +kernel
theorem d_Mo_decision_129 : decode y_Mo_decision.2.1 129 = .ok (.iconst 0, 1) := by decide +kernel
theorem d_Mo_decision_130 : decode y_Mo_decision.2.1 130 = .ok (.istore 5, 2) := by decide +kernel
theorem d_Mo_decision_132 : decode y_Mo_decision.2.1 132 = .ok (.iload 5, 2) := by decide +kernel
theorem d_Mo_decision_134 : decode y_Mo_decision.2.1 134 = .ok (.bipush 8, 2) := by decide +kernel
theorem d_Mo_decision_136 : decode y_Mo_decision.2.1 136 = .ok (.if_icmp .ge 52, 3) := by decide +kernel
theorem d_Mo_decision_139 : decode y_Mo_decision.2.1 139 = .ok (.aload_n 0, 1) := by decide +kernel
theorem d_Mo_decision_140 : decode y_Mo_decision.2.1 140 = .ok (.getfield 103, 3) := by decide +kernel
theorem d_Mo_decision_143 : decode y_Mo_decision.2.1 143 = .ok (.iload 5, 2) := by decide +kernel
theorem d_Mo_decision_145 : decode y_Mo_decision.2.1 145 = .ok (.invokestatic 134, 3) := by decide +kernel
theorem d_Mo_decision_148 : decode y_Mo_decision.2.1 148 = .ok (.ifCond .eq 34, 3) := by decide +kernel
theorem d_Mo_decision_151 : decode y_Mo_decision.2.1 151 = .ok (.aload_n 0, 1) := by decide +kernel
theorem d_Mo_decision_152 : decode y_Mo_decision.2.1 152 = .ok (.getfield 44, 3) := by decide +kernel
theorem d_Mo_decision_155 : decode y_Mo_decision.2.1 155 = .ok (.bipush 6, 2) := by decide +kernel
theorem d_Mo_decision_157 : decode y_Mo_decision.2.1 157 = .ok (.iload 4, 2) := by decide +kernel
theorem d_Mo_decision_159 : decode y_Mo_decision.2.1 159 = .ok (.imul, 1) := by decide +kernel
theorem d_Mo_decision_160 : decode y_Mo_decision.2.1 160 = .ok (.aload_n 0, 1) := by decide +kernel
theorem d_Mo_decision_161 : decode y_Mo_decision.2.1 161 = .ok (.getfield 41, 3) := by decide +kernel
theorem d_Mo_decision_164 : decode y_Mo_decision.2.1 164 = .ok (.iload 4, 2) := by decide +kernel
theorem d_Mo_decision_166 : decode y_Mo_decision.2.1 166 = .ok (.iaload, 1) := by decide +kernel
theorem d_Mo_decision_167 : decode y_Mo_decision.2.1 167 = .ok (.iadd, 1) := by decide +kernel
theorem d_Mo_decision_168 : decode y_Mo_decision.2.1 168 = .ok (.iload 5, 2) := by decide +kernel
theorem d_Mo_decision_170 : decode y_Mo_decision.2.1 170 = .ok (.iastore, 1) := by decide +kernel
theorem d_Mo_decision_171 : decode y_Mo_decision.2.1 171 = .ok (.aload_n 0, 1) := by decide +kernel
theorem d_Mo_decision_172 : decode y_Mo_decision.2.1 172 = .ok (.getfield 41, 3) := by decide +kernel
theorem d_Mo_decision_175 : decode y_Mo_decision.2.1 175 = .ok (.iload 4, 2) := by decide +kernel
theorem d_Mo_decision_177 : decode y_Mo_decision.2.1 177 = .ok (.dup2, 1) := by decide +kernel
theorem d_Mo_decision_178 : decode y_Mo_decision.2.1 178 = .ok (.iaload, 1) := by decide +kernel
theorem d_Mo_decision_179 : decode y_Mo_decision.2.1 179 = .ok (.iconst 1, 1) := by decide +kernel
theorem d_Mo_decision_180 : decode y_Mo_decision.2.1 180 = .ok (.iadd, 1) := by decide +kernel
theorem d_Mo_decision_181 : decode y_Mo_decision.2.1 181 = .ok (.iastore, 1) := by decide +kernel
theorem d_Mo_decision_182 : decode y_Mo_decision.2.1 182 = .ok (.iinc 5 1, 3) := by decide +kernel
theorem d_Mo_decision_185 : decode y_Mo_decision.2.1 185 = .ok (.goto (-53), 3) := by decide +kernel
theorem d_Mo_decision_188 : decode y_Mo_decision.2.1 188 = .ok (.iconst 0, 1) := by decide +kernel
theorem d_Mo_decision_189 : decode y_Mo_decision.2.1 189 = .ok (.istore 5, 2) := by decide +kernel
theorem d_Mo_decision_191 : decode y_Mo_decision.2.1 191 = .ok (.iload 5, 2) := by decide +kernel
theorem d_Mo_decision_193 : decode y_Mo_decision.2.1 193 = .ok (.iconst 1, 1) := by decide +kernel
theorem d_Mo_decision_194 : decode y_Mo_decision.2.1 194 = .ok (.aload_n 0, 1) := by decide +kernel
theorem d_Mo_decision_195 : decode y_Mo_decision.2.1 195 = .ok (.getfield 41, 3) := by decide +kernel
theorem d_Mo_decision_198 : decode y_Mo_decision.2.1 198 = .ok (.iload 4, 2) := by decide +kernel
theorem d_Mo_decision_200 : decode y_Mo_decision.2.1 200 = .ok (.iaload, 1) := by decide +kernel
theorem d_Mo_decision_201 : decode y_Mo_decision.2.1 201 = .ok (.ishl, 1) := by decide +kernel
theorem d_Mo_decision_202 : decode y_Mo_decision.2.1 202 = .ok (.if_icmp .ge 65, 3) := by decide +kernel
theorem d_Mo_decision_205 : decode y_Mo_decision.2.1 205 = .ok (.aload_n 0, 1) := by decide +kernel
theorem d_Mo_decision_206 : decode y_Mo_decision.2.1 206 = .ok (.getfield 53, 3) := by decide +kernel
theorem d_Mo_decision_209 : decode y_Mo_decision.2.1 209 = .ok (.bipush 64, 2) := by decide +kernel
theorem d_Mo_decision_211 : decode y_Mo_decision.2.1 211 = .ok (.iload 4, 2) := by decide +kernel
theorem d_Mo_decision_213 : decode y_Mo_decision.2.1 213 = .ok (.imul, 1) := by decide +kernel
theorem d_Mo_decision_214 : decode y_Mo_decision.2.1 214 = .ok (.iload 5, 2) := by decide +kernel
theorem d_Mo_decision_216 : decode y_Mo_decision.2.1 216 = .ok (.iadd, 1) := by decide +kernel
theorem d_Mo_decision_217 : decode y_Mo_decision.2.1 217 = .ok (.aload_n 0, 1) := by decide +kernel
theorem d_Mo_decision_218 : decode y_Mo_decision.2.1 218 = .ok (.iload 4, 2) := by decide +kernel
theorem d_Mo_decision_220 : decode y_Mo_decision.2.1 220 = .ok (.iload 5, 2) := by decide +kernel
theorem d_Mo_decision_222 : decode y_Mo_decision.2.1 222 = .ok (.invokevirtual 152, 3) := by decide +kernel
theorem d_Mo_decision_225 : decode y_Mo_decision.2.1 225 = .ok (.bastore, 1) := by decide +kernel
theorem d_Mo_decision_226 : decode y_Mo_decision.2.1 226 = .ok (.aload_n 0, 1) := by decide +kernel
theorem d_Mo_decision_227 : decode y_Mo_decision.2.1 227 = .ok (.getfield 56, 3) := by decide +kernel
theorem d_Mo_decision_230 : decode y_Mo_decision.2.1 230 = .ok (.bipush 64, 2) := by decide +kernel
theorem d_Mo_decision_232 : decode y_Mo_decision.2.1 232 = .ok (.iload 4, 2) := by decide +kernel
theorem d_Mo_decision_234 : decode y_Mo_decision.2.1 234 = .ok (.imul, 1) := by decide +kernel
theorem d_Mo_decision_235 : decode y_Mo_decision.2.1 235 = .ok (.iload 5, 2) := by decide +kernel
theorem d_Mo_decision_237 : decode y_Mo_decision.2.1 237 = .ok (.iadd, 1) := by decide +kernel
theorem d_Mo_decision_238 : decode y_Mo_decision.2.1 238 = .ok (.iload_n 1, 1) := by decide +kernel
theorem d_Mo_decision_239 : decode y_Mo_decision.2.1 239 = .ok (.ifCond .eq 10, 3) := by decide +kernel
theorem d_Mo_decision_242 : decode y_Mo_decision.2.1 242 = .ok (.aload_n 0, 1) := by decide +kernel
theorem d_Mo_decision_243 : decode y_Mo_decision.2.1 243 = .ok (.getfield 103, 3) := by decide +kernel
theorem d_Mo_decision_246 : decode y_Mo_decision.2.1 246 = .ok (.goto 14, 3) := by decide +kernel
theorem d_Mo_decision_249 : decode y_Mo_decision.2.1 249 = .ok (.iconst 1, 1) := by decide +kernel
theorem d_Mo_decision_250 : decode y_Mo_decision.2.1 250 = .ok (.aload_n 0, 1) := by decide +kernel
theorem d_Mo_decision_251 : decode y_Mo_decision.2.1 251 = .ok (.getfield 41, 3) := by decide +kernel
theorem d_Mo_decision_254 : decode y_Mo_decision.2.1 254 = .ok (.iload 4, 2) := by decide +kernel
theorem d_Mo_decision_256 : decode y_Mo_decision.2.1 256 = .ok (.iaload, 1) := by decide +kernel
theorem d_Mo_decision_257 : decode y_Mo_decision.2.1 257 = .ok (.ishl, 1) := by decide +kernel
theorem d_Mo_decision_258 : decode y_Mo_decision.2.1 258 = .ok (.iconst 1, 1) := by decide +kernel
theorem d_Mo_decision_259 : decode y_Mo_decision.2.1 259 = .ok (.isub, 1) := by decide +kernel
theorem d_Mo_decision_260 : decode y_Mo_decision.2.1 260 = .ok (.iastore, 1) := by decide +kernel
theorem d_Mo_decision_261 : decode y_Mo_decision.2.1 261 = .ok (.iinc 5 1, 3) := by decide +kernel
theorem d_Mo_decision_264 : decode y_Mo_decision.2.1 264 = .ok (.goto (-73), 3) := by decide +kernel
theorem d_Mo_decision_267 : decode y_Mo_decision.2.1 267 = .ok (.aload_n 0, 1) := by decide +kernel
theorem d_Mo_decision_268 : decode y_Mo_decision.2.1 268 = .ok (.iload 4, 2) := by decide +kernel
theorem d_Mo_decision_270 : decode y_Mo_decision.2.1 270 = .ok (.invokevirtual 155, 3) := by decide +kernel
theorem d_Mo_decision_273 : decode y_Mo_decision.2.1 273 = .ok (.iload 4, 2) := by decide +kernel
theorem d_Mo_decision_275 : decode y_Mo_decision.2.1 275 = .ok (.ireturn, 1) := by decide +kernel
def y_Mo_isDecision : MethodName × ByteArray × Nat × Option FieldType × List (Nat × Nat × Nat × Nat) := (⟨"MaskedCausesModel", "isDecision", "(I)Z"⟩, prog_13_method_22_code, 2, (Option.some Jvm.ClassFile.FieldType.boolean), [])
theorem d_Mo_isDecision_0 : decode y_Mo_isDecision.2.1 0 = .ok (.iload_n 1, 1) := by decide +kernel
theorem d_Mo_isDecision_1 : decode y_Mo_isDecision.2.1 1 = .ok (.ifCond .lt 15, 3) := by decide +kernel
theorem d_Mo_isDecision_4 : decode y_Mo_isDecision.2.1 4 = .ok (.iload_n 1, 1) := by decide +kernel
theorem d_Mo_isDecision_5 : decode y_Mo_isDecision.2.1 5 = .ok (.aload_n 0, 1) := by decide +kernel
theorem d_Mo_isDecision_6 : decode y_Mo_isDecision.2.1 6 = .ok (.getfield 146, 3) := by decide +kernel
theorem d_Mo_isDecision_9 : decode y_Mo_isDecision.2.1 9 = .ok (.if_icmp .ge 7, 3) := by decide +kernel
theorem d_Mo_isDecision_12 : decode y_Mo_isDecision.2.1 12 = .ok (.iconst 1, 1) := by decide +kernel
theorem d_Mo_isDecision_13 : decode y_Mo_isDecision.2.1 13 = .ok (.goto 4, 3) := by decide +kernel
theorem d_Mo_isDecision_16 : decode y_Mo_isDecision.2.1 16 = .ok (.iconst 0, 1) := by decide +kernel
theorem d_Mo_isDecision_17 : decode y_Mo_isDecision.2.1 17 = .ok (.ireturn, 1) := by decide +kernel
def y_Mo_isWord : MethodName × ByteArray × Nat × Option FieldType × List (Nat × Nat × Nat × Nat) := (⟨"MaskedCausesModel", "isWord", "(II)Z"⟩, prog_13_method_23_code, 3, (Option.some Jvm.ClassFile.FieldType.boolean), [])
theorem d_Mo_isWord_0 : decode y_Mo_isWord.2.1 0 = .ok (.aload_n 0, 1) := by decide +kernel
theorem d_Mo_isWord_1 : decode y_Mo_isWord.2.1 1 = .ok (.iload_n 1, 1) := by decide +kernel
theorem d_Mo_isWord_2 : decode y_Mo_isWord.2.1 2 = .ok (.invokevirtual 159, 3) := by decide +kernel
theorem d_Mo_isWord_5 : decode y_Mo_isWord.2.1 5 = .ok (.ifCond .eq 23, 3) := by decide +kernel
theorem d_Mo_isWord_8 : decode y_Mo_isWord.2.1 8 = .ok (.iload_n 2, 1) := by decide +kernel
theorem d_Mo_isWord_9 : decode y_Mo_isWord.2.1 9 = .ok (.ifCond .lt 19, 3) := by decide +kernel
theorem d_Mo_isWord_12 : decode y_Mo_isWord.2.1 12 = .ok (.iload_n 2, 1) := by decide +kernel
theorem d_Mo_isWord_13 : decode y_Mo_isWord.2.1 13 = .ok (.iconst 1, 1) := by decide +kernel
theorem d_Mo_isWord_14 : decode y_Mo_isWord.2.1 14 = .ok (.aload_n 0, 1) := by decide +kernel
theorem d_Mo_isWord_15 : decode y_Mo_isWord.2.1 15 = .ok (.getfield 41, 3) := by decide +kernel
theorem d_Mo_isWord_18 : decode y_Mo_isWord.2.1 18 = .ok (.iload_n 1, 1) := by decide +kernel
theorem d_Mo_isWord_19 : decode y_Mo_isWord.2.1 19 = .ok (.iaload, 1) := by decide +kernel
theorem d_Mo_isWord_20 : decode y_Mo_isWord.2.1 20 = .ok (.ishl, 1) := by decide +kernel
theorem d_Mo_isWord_21 : decode y_Mo_isWord.2.1 21 = .ok (.if_icmp .ge 7, 3) := by decide +kernel
theorem d_Mo_isWord_24 : decode y_Mo_isWord.2.1 24 = .ok (.iconst 1, 1) := by decide +kernel
theorem d_Mo_isWord_25 : decode y_Mo_isWord.2.1 25 = .ok (.goto 4, 3) := by decide +kernel
theorem d_Mo_isWord_28 : decode y_Mo_isWord.2.1 28 = .ok (.iconst 0, 1) := by decide +kernel
theorem d_Mo_isWord_29 : decode y_Mo_isWord.2.1 29 = .ok (.ireturn, 1) := by decide +kernel
def y_Mo_isCondition : MethodName × ByteArray × Nat × Option FieldType × List (Nat × Nat × Nat × Nat) := (⟨"MaskedCausesModel", "isCondition", "(II)Z"⟩, prog_13_method_24_code, 3, (Option.some Jvm.ClassFile.FieldType.boolean), [])
theorem d_Mo_isCondition_0 : decode y_Mo_isCondition.2.1 0 = .ok (.aload_n 0, 1) := by decide +kernel
theorem d_Mo_isCondition_1 : decode y_Mo_isCondition.2.1 1 = .ok (.iload_n 1, 1) := by decide +kernel
theorem d_Mo_isCondition_2 : decode y_Mo_isCondition.2.1 2 = .ok (.invokevirtual 159, 3) := by decide +kernel
theorem d_Mo_isCondition_5 : decode y_Mo_isCondition.2.1 5 = .ok (.ifCond .eq 21, 3) := by decide +kernel
theorem d_Mo_isCondition_8 : decode y_Mo_isCondition.2.1 8 = .ok (.iload_n 2, 1) := by decide +kernel
theorem d_Mo_isCondition_9 : decode y_Mo_isCondition.2.1 9 = .ok (.ifCond .lt 17, 3) := by decide +kernel
theorem d_Mo_isCondition_12 : decode y_Mo_isCondition.2.1 12 = .ok (.iload_n 2, 1) := by decide +kernel
theorem d_Mo_isCondition_13 : decode y_Mo_isCondition.2.1 13 = .ok (.aload_n 0, 1) := by decide +kernel
theorem d_Mo_isCondition_14 : decode y_Mo_isCondition.2.1 14 = .ok (.getfield 41, 3) := by decide +kernel
theorem d_Mo_isCondition_17 : decode y_Mo_isCondition.2.1 17 = .ok (.iload_n 1, 1) := by decide +kernel
theorem d_Mo_isCondition_18 : decode y_Mo_isCondition.2.1 18 = .ok (.iaload, 1) := by decide +kernel
theorem d_Mo_isCondition_19 : decode y_Mo_isCondition.2.1 19 = .ok (.if_icmp .ge 7, 3) := by decide +kernel
theorem d_Mo_isCondition_22 : decode y_Mo_isCondition.2.1 22 = .ok (.iconst 1, 1) := by decide +kernel
theorem d_Mo_isCondition_23 : decode y_Mo_isCondition.2.1 23 = .ok (.goto 4, 3) := by decide +kernel
theorem d_Mo_isCondition_26 : decode y_Mo_isCondition.2.1 26 = .ok (.iconst 0, 1) := by decide +kernel
theorem d_Mo_isCondition_27 : decode y_Mo_isCondition.2.1 27 = .ok (.ireturn, 1) := by decide +kernel
def y_Mo_isCriterion : MethodName × ByteArray × Nat × Option FieldType × List (Nat × Nat × Nat × Nat) := (⟨"MaskedCausesModel", "isCriterion", "(I)Z"⟩, prog_13_method_25_code, 1, (Option.some Jvm.ClassFile.FieldType.boolean), [])
theorem d_Mo_isCriterion_0 : decode y_Mo_isCriterion.2.1 0 = .ok (.iload_n 0, 1) := by decide +kernel
theorem d_Mo_isCriterion_1 : decode y_Mo_isCriterion.2.1 1 = .ok (.ifCond .lt 12, 3) := by decide +kernel
theorem d_Mo_isCriterion_4 : decode y_Mo_isCriterion.2.1 4 = .ok (.iload_n 0, 1) := by decide +kernel
theorem d_Mo_isCriterion_5 : decode y_Mo_isCriterion.2.1 5 = .ok (.iconst 2, 1) := by decide +kernel
theorem d_Mo_isCriterion_6 : decode y_Mo_isCriterion.2.1 6 = .ok (.if_icmp .gt 7, 3) := by decide +kernel
theorem d_Mo_isCriterion_9 : decode y_Mo_isCriterion.2.1 9 = .ok (.iconst 1, 1) := by decide +kernel
theorem d_Mo_isCriterion_10 : decode y_Mo_isCriterion.2.1 10 = .ok (.goto 4, 3) := by decide +kernel
theorem d_Mo_isCriterion_13 : decode y_Mo_isCriterion.2.1 13 = .ok (.iconst 0, 1) := by decide +kernel
theorem d_Mo_isCriterion_14 : decode y_Mo_isCriterion.2.1 14 = .ok (.ireturn, 1) := by decide +kernel
def y_Mo_conditions : MethodName × ByteArray × Nat × Option FieldType × List (Nat × Nat × Nat × Nat) := (⟨"MaskedCausesModel", "conditions", "(I)I"⟩, prog_13_method_26_code, 2, (Option.some Jvm.ClassFile.FieldType.int), [])
theorem d_Mo_conditions_0 : decode y_Mo_conditions.2.1 0 = .ok (.aload_n 0, 1) := by decide +kernel
theorem d_Mo_conditions_1 : decode y_Mo_conditions.2.1 1 = .ok (.aload_n 0, 1) := by decide +kernel
theorem d_Mo_conditions_2 : decode y_Mo_conditions.2.1 2 = .ok (.iload_n 1, 1) := by decide +kernel
theorem d_Mo_conditions_3 : decode y_Mo_conditions.2.1 3 = .ok (.invokevirtual 159, 3) := by decide +kernel
theorem d_Mo_conditions_6 : decode y_Mo_conditions.2.1 6 = .ok (.ifCond .ne 7, 3) := by decide +kernel
theorem d_Mo_conditions_9 : decode y_Mo_conditions.2.1 9 = .ok (.iconst 1, 1) := by decide +kernel
theorem d_Mo_conditions_10 : decode y_Mo_conditions.2.1 10 = .ok (.goto 4, 3) := by decide +kernel
theorem d_Mo_conditions_13 : decode y_Mo_conditions.2.1 13 = .ok (.iconst 0, 1) := by decide +kernel
theorem d_Mo_conditions_14 : decode y_Mo_conditions.2.1 14 = .ok (.iconst 0, 1) := by decide +kernel
theorem d_Mo_conditions_15 : decode y_Mo_conditions.2.1 15 = .ok (.invokevirtual 96, 3) := by decide +kernel
theorem d_Mo_conditions_18 : decode y_Mo_conditions.2.1 18 = .ok (.ifCond .eq 7, 3) := by decide +kernel
theorem d_Mo_conditions_21 : decode y_Mo_conditions.2.1 21 = .ok (.iconst 0, 1) := by decide +kernel
theorem d_Mo_conditions_22 : decode y_Mo_conditions.2.1 22 = .ok (.goto 9, 3) := by decide +kernel
theorem d_Mo_conditions_25 : decode y_Mo_conditions.2.1 25 = .ok (.aload_n 0, 1) := by decide +kernel
theorem d_Mo_conditions_26 : decode y_Mo_conditions.2.1 26 = .ok (.getfield 41, 3) := by decide +kernel
theorem d_Mo_conditions_29 : decode y_Mo_conditions.2.1 29 = .ok (.iload_n 1, 1) := by decide +kernel
theorem d_Mo_conditions_30 : decode y_Mo_conditions.2.1 30 = .ok (.iaload, 1) := by decide +kernel
theorem d_Mo_conditions_31 : decode y_Mo_conditions.2.1 31 = .ok (.ireturn, 1) := by decide +kernel
def y_Mo_closing : MethodName × ByteArray × Nat × Option FieldType × List (Nat × Nat × Nat × Nat) := (⟨"MaskedCausesModel", "closing", "(II)I"⟩, prog_13_method_27_code, 5, (Option.some Jvm.ClassFile.FieldType.int), [])
theorem d_Mo_closing_0 : decode y_Mo_closing.2.1 0 = .ok (.iconst 1, 1) := by decide +kernel
theorem d_Mo_closing_1 : decode y_Mo_closing.2.1 1 = .ok (.istore_n 3, 1) := by decide +kernel
theorem d_Mo_closing_2 : decode y_Mo_closing.2.1 2 = .ok (.iload_n 2, 1) := by decide +kernel
theorem d_Mo_closing_3 : decode y_Mo_closing.2.1 3 = .ok (.istore 4, 2) := by decide +kernel
theorem d_Mo_closing_5 : decode y_Mo_closing.2.1 5 = .ok (.iload_n 3, 1) := by decide +kernel
theorem d_Mo_closing_6 : decode y_Mo_closing.2.1 6 = .ok (.ifCond .le 55, 3) := by decide +kernel
theorem d_Mo_closing_9 : decode y_Mo_closing.2.1 9 = .ok (.iinc 4 1, 3) := by decide +kernel
theorem d_Mo_closing_12 : decode y_Mo_closing.2.1 12 = .ok (.iload_n 3, 1) := by decide +kernel
theorem d_Mo_closing_13 : decode y_Mo_closing.2.1 13 = .ok (.aload_n 0, 1) := by decide +kernel
theorem d_Mo_closing_14 : decode y_Mo_closing.2.1 14 = .ok (.getfield 31, 3) := by decide +kernel
theorem d_Mo_closing_17 : decode y_Mo_closing.2.1 17 = .ok (.bipush 40, 2) := by decide +kernel
theorem d_Mo_closing_19 : decode y_Mo_closing.2.1 19 = .ok (.iload_n 1, 1) := by decide +kernel
theorem d_Mo_closing_20 : decode y_Mo_closing.2.1 20 = .ok (.imul, 1) := by decide +kernel
theorem d_Mo_closing_21 : decode y_Mo_closing.2.1 21 = .ok (.iload 4, 2) := by decide +kernel
theorem d_Mo_closing_23 : decode y_Mo_closing.2.1 23 = .ok (.iadd, 1) := by decide +kernel
theorem d_Mo_closing_24 : decode y_Mo_closing.2.1 24 = .ok (.iaload, 1) := by decide +kernel
theorem d_Mo_closing_25 : decode y_Mo_closing.2.1 25 = .ok (.bipush 40, 2) := by decide +kernel
theorem d_Mo_closing_27 : decode y_Mo_closing.2.1 27 = .ok (.if_icmp .ne 7, 3) := by decide +kernel
theorem d_Mo_closing_30 : decode y_Mo_closing.2.1 30 = .ok (.iconst 1, 1) := by decide +kernel
theorem d_Mo_closing_31 : decode y_Mo_closing.2.1 31 = .ok (.goto 25, 3) := by decide +kernel
theorem d_Mo_closing_34 : decode y_Mo_closing.2.1 34 = .ok (.aload_n 0, 1) := by decide +kernel
theorem d_Mo_closing_35 : decode y_Mo_closing.2.1 35 = .ok (.getfield 31, 3) := by decide +kernel
theorem d_Mo_closing_38 : decode y_Mo_closing.2.1 38 = .ok (.bipush 40, 2) := by decide +kernel
theorem d_Mo_closing_40 : decode y_Mo_closing.2.1 40 = .ok (.iload_n 1, 1) := by decide +kernel
theorem d_Mo_closing_41 : decode y_Mo_closing.2.1 41 = .ok (.imul, 1) := by decide +kernel
theorem d_Mo_closing_42 : decode y_Mo_closing.2.1 42 = .ok (.iload 4, 2) := by decide +kernel
theorem d_Mo_closing_44 : decode y_Mo_closing.2.1 44 = .ok (.iadd, 1) := by decide +kernel
theorem d_Mo_closing_45 : decode y_Mo_closing.2.1 45 = .ok (.iaload, 1) := by decide +kernel
theorem d_Mo_closing_46 : decode y_Mo_closing.2.1 46 = .ok (.bipush 41, 2) := by decide +kernel
theorem d_Mo_closing_48 : decode y_Mo_closing.2.1 48 = .ok (.if_icmp .ne 7, 3) := by decide +kernel
theorem d_Mo_closing_51 : decode y_Mo_closing.2.1 51 = .ok (.iconst (-1), 1) := by decide +kernel
theorem d_Mo_closing_52 : decode y_Mo_closing.2.1 52 = .ok (.goto 4, 3) := by decide +kernel
theorem d_Mo_closing_55 : decode y_Mo_closing.2.1 55 = .ok (.iconst 0, 1) := by decide +kernel
theorem d_Mo_closing_56 : decode y_Mo_closing.2.1 56 = .ok (.iadd, 1) := by decide +kernel
theorem d_Mo_closing_57 : decode y_Mo_closing.2.1 57 = .ok (.istore_n 3, 1) := by decide +kernel
theorem d_Mo_closing_58 : decode y_Mo_closing.2.1 58 = .ok (.goto (-53), 3) := by decide +kernel
theorem d_Mo_closing_61 : decode y_Mo_closing.2.1 61 = .ok (.iload 4, 2) := by decide +kernel
theorem d_Mo_closing_63 : decode y_Mo_closing.2.1 63 = .ok (.ireturn, 1) := by decide +kernel
def y_Mo_joinOf : MethodName × ByteArray × Nat × Option FieldType × List (Nat × Nat × Nat × Nat) := (⟨"MaskedCausesModel", "joinOf", "(II)I"⟩, prog_13_method_28_code, 10, (Option.some Jvm.ClassFile.FieldType.int), [])
theorem d_Mo_joinOf_0 : decode y_Mo_joinOf.2.1 0 = .ok (.iload_n 2, 1) := by decide +kernel
theorem d_Mo_joinOf_1 : decode y_Mo_joinOf.2.1 1 = .ok (.istore_n 3, 1) := by decide +kernel
theorem d_Mo_joinOf_2 : decode y_Mo_joinOf.2.1 2 = .ok (.iconst 0, 1) := by decide +kernel
theorem d_Mo_joinOf_3 : decode y_Mo_joinOf.2.1 3 = .ok (.istore 4, 2) := by decide +kernel
theorem d_Mo_joinOf_5 : decode y_Mo_joinOf.2.1 5 = .ok (.iconst 1, 1) := by decide +kernel
theorem d_Mo_joinOf_6 : decode y_Mo_joinOf.2.1 6 = .ok (.istore 5, 2) := by decide +kernel
theorem d_Mo_joinOf_8 : decode y_Mo_joinOf.2.1 8 = .ok (.iload 5, 2) := by decide +kernel
theorem d_Mo_joinOf_10 : decode y_Mo_joinOf.2.1 10 = .ok (.ifCond .eq 154, 3) := by decide +kernel
theorem d_Mo_joinOf_13 : decode y_Mo_joinOf.2.1 13 = .ok (.aload_n 0, 1) := by decide +kernel
theorem d_Mo_joinOf_14 : decode y_Mo_joinOf.2.1 14 = .ok (.iload_n 1, 1) := by decide +kernel
theorem d_Mo_joinOf_15 : decode y_Mo_joinOf.2.1 15 = .ok (.iload_n 3, 1) := by decide +kernel
theorem d_Mo_joinOf_16 : decode y_Mo_joinOf.2.1 16 = .ok (.invokevirtual 162, 3) := by decide +kernel
theorem d_Mo_joinOf_19 : decode y_Mo_joinOf.2.1 19 = .ok (.istore 6, 2) := by decide +kernel
theorem d_Mo_joinOf_21 : decode y_Mo_joinOf.2.1 21 = .ok (.iload_n 3, 1) := by decide +kernel
theorem d_Mo_joinOf_22 : decode y_Mo_joinOf.2.1 22 = .ok (.iconst 1, 1) := by decide +kernel
theorem d_Mo_joinOf_23 : decode y_Mo_joinOf.2.1 23 = .ok (.iadd, 1) := by decide +kernel
theorem d_Mo_joinOf_24 : decode y_Mo_joinOf.2.1 24 = .ok (.istore 7, 2) := by decide +kernel
theorem d_Mo_joinOf_26 : decode y_Mo_joinOf.2.1 26 = .ok (.iload 7, 2) := by decide +kernel
theorem d_Mo_joinOf_28 : decode y_Mo_joinOf.2.1 28 = .ok (.iload 6, 2) := by decide +kernel
theorem d_Mo_joinOf_30 : decode y_Mo_joinOf.2.1 30 = .ok (.if_icmp .ge 97, 3) := by decide +kernel
theorem d_Mo_joinOf_33 : decode y_Mo_joinOf.2.1 33 = .ok (.aload_n 0, 1) := by decide +kernel
theorem d_Mo_joinOf_34 : decode y_Mo_joinOf.2.1 34 = .ok (.getfield 31, 3) := by decide +kernel
theorem d_Mo_joinOf_37 : decode y_Mo_joinOf.2.1 37 = .ok (.bipush 40, 2) := by decide +kernel
theorem d_Mo_joinOf_39 : decode y_Mo_joinOf.2.1 39 = .ok (.iload_n 1, 1) := by decide +kernel
theorem d_Mo_joinOf_40 : decode y_Mo_joinOf.2.1 40 = .ok (.imul, 1) := by decide +kernel
theorem d_Mo_joinOf_41 : decode y_Mo_joinOf.2.1 41 = .ok (.iload 7, 2) := by decide +kernel
theorem d_Mo_joinOf_43 : decode y_Mo_joinOf.2.1 43 = .ok (.iadd, 1) := by decide +kernel
theorem d_Mo_joinOf_44 : decode y_Mo_joinOf.2.1 44 = .ok (.iaload, 1) := by decide +kernel
theorem d_Mo_joinOf_45 : decode y_Mo_joinOf.2.1 45 = .ok (.istore 8, 2) := by decide +kernel
theorem d_Mo_joinOf_47 : decode y_Mo_joinOf.2.1 47 = .ok (.iload 8, 2) := by decide +kernel
theorem d_Mo_joinOf_49 : decode y_Mo_joinOf.2.1 49 = .ok (.bipush 124, 2) := by decide +kernel
theorem d_Mo_joinOf_51 : decode y_Mo_joinOf.2.1 51 = .ok (.if_icmp .ne 7, 3) := by decide +kernel
theorem d_Mo_joinOf_54 : decode y_Mo_joinOf.2.1 54 = .ok (.iconst 3, 1) := by decide +kernel
theorem d_Mo_joinOf_55 : decode y_Mo_joinOf.2.1 55 = .ok (.goto 26, 3) := by decide +kernel
theorem d_Mo_joinOf_58 : decode y_Mo_joinOf.2.1 58 = .ok (.iload 8, 2) := by decide +kernel
theorem d_Mo_joinOf_60 : decode y_Mo_joinOf.2.1 60 = .ok (.bipush 94, 2) := by decide +kernel
theorem d_Mo_joinOf_62 : decode y_Mo_joinOf.2.1 62 = .ok (.if_icmp .ne 7, 3) := by decide +kernel
theorem d_Mo_joinOf_65 : decode y_Mo_joinOf.2.1 65 = .ok (.iconst 2, 1) := by decide +kernel
theorem d_Mo_joinOf_66 : decode y_Mo_joinOf.2.1 66 = .ok (.goto 15, 3) := by decide +kernel
theorem d_Mo_joinOf_69 : decode y_Mo_joinOf.2.1 69 = .ok (.iload 8, 2) := by decide +kernel
theorem d_Mo_joinOf_71 : decode y_Mo_joinOf.2.1 71 = .ok (.bipush 38, 2) := by decide +kernel
theorem d_Mo_joinOf_73 : decode y_Mo_joinOf.2.1 73 = .ok (.if_icmp .ne 7, 3) := by decide +kernel
theorem d_Mo_joinOf_76 : decode y_Mo_joinOf.2.1 76 = .ok (.iconst 1, 1) := by decide +kernel
theorem d_Mo_joinOf_77 : decode y_Mo_joinOf.2.1 77 = .ok (.goto 4, 3) := by decide +kernel
theorem d_Mo_joinOf_80 : decode y_Mo_joinOf.2.1 80 = .ok (.iconst 0, 1) := by decide +kernel
theorem d_Mo_joinOf_81 : decode y_Mo_joinOf.2.1 81 = .ok (.istore 9, 2) := by decide +kernel
theorem d_Mo_joinOf_83 : decode y_Mo_joinOf.2.1 83 = .ok (.iload 9, 2) := by decide +kernel
theorem d_Mo_joinOf_85 : decode y_Mo_joinOf.2.1 85 = .ok (.iload 4, 2) := by decide +kernel
theorem d_Mo_joinOf_87 : decode y_Mo_joinOf.2.1 87 = .ok (.if_icmp .le 8, 3) := by decide +kernel
theorem d_Mo_joinOf_90 : decode y_Mo_joinOf.2.1 90 = .ok (.iload 9, 2) := by decide +kernel
theorem d_Mo_joinOf_92 : decode y_Mo_joinOf.2.1 92 = .ok (.goto 5, 3) := by decide +kernel
theorem d_Mo_joinOf_95 : decode y_Mo_joinOf.2.1 95 = .ok (.iload 4, 2) := by decide +kernel
theorem d_Mo_joinOf_97 : decode y_Mo_joinOf.2.1 97 = .ok (.istore 4, 2) := by decide +kernel
theorem d_Mo_joinOf_99 : decode y_Mo_joinOf.2.1 99 = .ok (.iload 8, 2) := by decide +kernel
theorem d_Mo_joinOf_101 : decode y_Mo_joinOf.2.1 101 = .ok (.bipush 40, 2) := by decide +kernel
theorem d_Mo_joinOf_103 : decode y_Mo_joinOf.2.1 103 = .ok (.if_icmp .ne 15, 3) := by decide +kernel
theorem d_Mo_joinOf_106 : decode y_Mo_joinOf.2.1 106 = .ok (.aload_n 0, 1) := by decide +kernel
theorem d_Mo_joinOf_107 : decode y_Mo_joinOf.2.1 107 = .ok (.iload_n 1, 1) := by decide +kernel
theorem d_Mo_joinOf_108 : decode y_Mo_joinOf.2.1 108 = .ok (.iload 7, 2) := by decide +kernel
theorem d_Mo_joinOf_110 : decode y_Mo_joinOf.2.1 110 = .ok (.invokevirtual 162, 3) := by decide +kernel
theorem d_Mo_joinOf_113 : decode y_Mo_joinOf.2.1 113 = .ok (.iconst 1, 1) := by decide +kernel
theorem d_Mo_joinOf_114 : decode y_Mo_joinOf.2.1 114 = .ok (.iadd, 1) := by decide +kernel
theorem d_Mo_joinOf_115 : decode y_Mo_joinOf.2.1 115 = .ok (.goto 7, 3) := by decide +kernel
theorem d_Mo_joinOf_118 : decode y_Mo_joinOf.2.1 118 = .ok (.iload 7, 2) := by decide +kernel
theorem d_Mo_joinOf_120 : decode y_Mo_joinOf.2.1 120 = .ok (.iconst 1, 1) := by decide +kernel
theorem d_Mo_joinOf_121 : decode y_Mo_joinOf.2.1 121 = .ok (.iadd, 1) := by decide +kernel
theorem d_Mo_joinOf_122 : decode y_Mo_joinOf.2.1 122 = .ok (.istore 7, 2) := by decide +kernel
theorem d_Mo_joinOf_124 : decode y_Mo_joinOf.2.1 124 = .ok (.goto (-98), 3) := by decide +kernel
theorem d_Mo_joinOf_127 : decode y_Mo_joinOf.2.1 127 = .ok (.iload 4, 2) := by decide +kernel
theorem d_Mo_joinOf_129 : decode y_Mo_joinOf.2.1 129 = .ok (.ifCond .ne 25, 3) := by decide +kernel
theorem d_Mo_joinOf_132 : decode y_Mo_joinOf.2.1 132 = .ok (.aload_n 0, 1) := by decide +kernel
theorem d_Mo_joinOf_133 : decode y_Mo_joinOf.2.1 133 = .ok (.getfield 31, 3) := by decide +kernel
theorem d_Mo_joinOf_136 : decode y_Mo_joinOf.2.1 136 = .ok (.bipush 40, 2) := by decide +kernel
theorem d_Mo_joinOf_138 : decode y_Mo_joinOf.2.1 138 = .ok (.iload_n 1, 1) := by decide +kernel
theorem d_Mo_joinOf_139 : decode y_Mo_joinOf.2.1 139 = .ok (.imul, 1) := by decide +kernel
theorem d_Mo_joinOf_140 : decode y_Mo_joinOf.2.1 140 = .ok (.iload_n 3, 1) := by decide +kernel
theorem d_Mo_joinOf_141 : decode y_Mo_joinOf.2.1 141 = .ok (.iadd, 1) := by decide +kernel
theorem d_Mo_joinOf_142 : decode y_Mo_joinOf.2.1 142 = .ok (.iconst 1, 1) := by decide +kernel
theorem d_Mo_joinOf_143 : decode y_Mo_joinOf.2.1 143 = .ok (.iadd, 1) := by decide +kernel
theorem d_Mo_joinOf_144 : decode y_Mo_joinOf.2.1 144 = .ok (.iaload, 1) := by decide +kernel
theorem d_Mo_joinOf_145 : decode y_Mo_joinOf.2.1 145 = .ok (.bipush 40, 2) := by decide +kernel
theorem d_Mo_joinOf_147 : decode y_Mo_joinOf.2.1 147 = .ok (.if_icmp .ne 7, 3) := by decide +kernel
theorem d_Mo_joinOf_150 : decode y_Mo_joinOf.2.1 150 = .ok (.iconst 1, 1) := by decide +kernel
theorem d_Mo_joinOf_151 : decode y_Mo_joinOf.2.1 151 = .ok (.goto 4, 3) := by decide +kernel
theorem d_Mo_joinOf_154 : decode y_Mo_joinOf.2.1 154 = .ok (.iconst 0, 1) := by decide +kernel
theorem d_Mo_joinOf_155 : decode y_Mo_joinOf.2.1 155 = .ok (.istore 5, 2) := by decide +kernel
theorem d_Mo_joinOf_157 : decode y_Mo_joinOf.2.1 157 = .ok (.iload_n 3, 1) := by decide +kernel
theorem d_Mo_joinOf_158 : decode y_Mo_joinOf.2.1 158 = .ok (.iconst 1, 1) := by decide +kernel
theorem d_Mo_joinOf_159 : decode y_Mo_joinOf.2.1 159 = .ok (.iadd, 1) := by decide +kernel
theorem d_Mo_joinOf_160 : decode y_Mo_joinOf.2.1 160 = .ok (.istore_n 3, 1) := by decide +kernel
theorem d_Mo_joinOf_161 : decode y_Mo_joinOf.2.1 161 = .ok (.goto (-153), 3) := by decide +kernel
theorem d_Mo_joinOf_164 : decode y_Mo_joinOf.2.1 164 = .ok (.iload 4, 2) := by decide +kernel
theorem d_Mo_joinOf_166 : decode y_Mo_joinOf.2.1 166 = .ok (.ireturn, 1) := by decide +kernel
def y_Mo_isNeeded : MethodName × ByteArray × Nat × Option FieldType × List (Nat × Nat × Nat × Nat) := (⟨"MaskedCausesModel", "isNeeded", "(II)Z"⟩, prog_13_method_29_code, 7, (Option.some Jvm.ClassFile.FieldType.boolean), [])
theorem d_Mo_isNeeded_0 : decode y_Mo_isNeeded.2.1 0 = .ok (.iload_n 2, 1) := by decide +kernel
theorem d_Mo_isNeeded_1 : decode y_Mo_isNeeded.2.1 1 = .ok (.ifCond .le 19, 3) := by decide +kernel
theorem d_Mo_isNeeded_4 : decode y_Mo_isNeeded.2.1 4 = .ok (.aload_n 0, 1) := by decide +kernel
theorem d_Mo_isNeeded_5 : decode y_Mo_isNeeded.2.1 5 = .ok (.getfield 31, 3) := by decide +kernel
theorem d_Mo_isNeeded_8 : decode y_Mo_isNeeded.2.1 8 = .ok (.bipush 40, 2) := by decide +kernel
theorem d_Mo_isNeeded_10 : decode y_Mo_isNeeded.2.1 10 = .ok (.iload_n 1, 1) := by decide +kernel
theorem d_Mo_isNeeded_11 : decode y_Mo_isNeeded.2.1 11 = .ok (.imul, 1) := by decide +kernel
theorem d_Mo_isNeeded_12 : decode y_Mo_isNeeded.2.1 12 = .ok (.iload_n 2, 1) := by decide +kernel
theorem d_Mo_isNeeded_13 : decode y_Mo_isNeeded.2.1 13 = .ok (.iadd, 1) := by decide +kernel
theorem d_Mo_isNeeded_14 : decode y_Mo_isNeeded.2.1 14 = .ok (.iconst 1, 1) := by decide +kernel
theorem d_Mo_isNeeded_15 : decode y_Mo_isNeeded.2.1 15 = .ok (.isub, 1) := by decide +kernel
theorem d_Mo_isNeeded_16 : decode y_Mo_isNeeded.2.1 16 = .ok (.iaload, 1) := by decide +kernel
theorem d_Mo_isNeeded_17 : decode y_Mo_isNeeded.2.1 17 = .ok (.goto 4, 3) := by decide +kernel
theorem d_Mo_isNeeded_20 : decode y_Mo_isNeeded.2.1 20 = .ok (.iconst 0, 1) := by decide +kernel
theorem d_Mo_isNeeded_21 : decode y_Mo_isNeeded.2.1 21 = .ok (.istore_n 3, 1) := by decide +kernel
theorem d_Mo_isNeeded_22 : decode y_Mo_isNeeded.2.1 22 = .ok (.aload_n 0, 1) := by decide +kernel
theorem d_Mo_isNeeded_23 : decode y_Mo_isNeeded.2.1 23 = .ok (.iload_n 1, 1) := by decide +kernel
theorem d_Mo_isNeeded_24 : decode y_Mo_isNeeded.2.1 24 = .ok (.iload_n 2, 1) := by decide +kernel
theorem d_Mo_isNeeded_25 : decode y_Mo_isNeeded.2.1 25 = .ok (.invokevirtual 162, 3) := by decide +kernel
theorem d_Mo_isNeeded_28 : decode y_Mo_isNeeded.2.1 28 = .ok (.iconst 1, 1) := by decide +kernel
theorem d_Mo_isNeeded_29 : decode y_Mo_isNeeded.2.1 29 = .ok (.iadd, 1) := by decide +kernel
theorem d_Mo_isNeeded_30 : decode y_Mo_isNeeded.2.1 30 = .ok (.istore 4, 2) := by decide +kernel
theorem d_Mo_isNeeded_32 : decode y_Mo_isNeeded.2.1 32 = .ok (.iload 4, 2) := by decide +kernel
theorem d_Mo_isNeeded_34 : decode y_Mo_isNeeded.2.1 34 = .ok (.aload_n 0, 1) := by decide +kernel
theorem d_Mo_isNeeded_35 : decode y_Mo_isNeeded.2.1 35 = .ok (.getfield 34, 3) := by decide +kernel
theorem d_Mo_isNeeded_38 : decode y_Mo_isNeeded.2.1 38 = .ok (.iload_n 1, 1) := by decide +kernel
theorem d_Mo_isNeeded_39 : decode y_Mo_isNeeded.2.1 39 = .ok (.iaload, 1) := by decide +kernel
theorem d_Mo_isNeeded_40 : decode y_Mo_isNeeded.2.1 40 = .ok (.if_icmp .ge 18, 3) := by decide +kernel
theorem d_Mo_isNeeded_43 : decode y_Mo_isNeeded.2.1 43 = .ok (.aload_n 0, 1) := by decide +kernel
theorem d_Mo_isNeeded_44 : decode y_Mo_isNeeded.2.1 44 = .ok (.getfield 31, 3) := by decide +kernel
theorem d_Mo_isNeeded_47 : decode y_Mo_isNeeded.2.1 47 = .ok (.bipush 40, 2) := by decide +kernel
theorem d_Mo_isNeeded_49 : decode y_Mo_isNeeded.2.1 49 = .ok (.iload_n 1, 1) := by decide +kernel
theorem d_Mo_isNeeded_50 : decode y_Mo_isNeeded.2.1 50 = .ok (.imul, 1) := by decide +kernel
theorem d_Mo_isNeeded_51 : decode y_Mo_isNeeded.2.1 51 = .ok (.iload 4, 2) := by decide +kernel
theorem d_Mo_isNeeded_53 : decode y_Mo_isNeeded.2.1 53 = .ok (.iadd, 1) := by decide +kernel
theorem d_Mo_isNeeded_54 : decode y_Mo_isNeeded.2.1 54 = .ok (.iaload, 1) := by decide +kernel
theorem d_Mo_isNeeded_55 : decode y_Mo_isNeeded.2.1 55 = .ok (.goto 4, 3) := by decide +kernel
theorem d_Mo_isNeeded_58 : decode y_Mo_isNeeded.2.1 58 = .ok (.iconst 0, 1) := by decide +kernel
theorem d_Mo_isNeeded_59 : decode y_Mo_isNeeded.2.1 59 = .ok (.istore 5, 2) := by decide +kernel
theorem d_Mo_isNeeded_61 : decode y_Mo_isNeeded.2.1 61 = .ok (.aload_n 0, 1) := by decide +kernel
theorem d_Mo_isNeeded_62 : decode y_Mo_isNeeded.2.1 62 = .ok (.iload_n 1, 1) := by decide +kernel
theorem d_Mo_isNeeded_63 : decode y_Mo_isNeeded.2.1 63 = .ok (.iload_n 2, 1) := by decide +kernel
theorem d_Mo_isNeeded_64 : decode y_Mo_isNeeded.2.1 64 = .ok (.invokevirtual 165, 3) := by decide +kernel
theorem d_Mo_isNeeded_67 : decode y_Mo_isNeeded.2.1 67 = .ok (.istore 6, 2) := by decide +kernel
theorem d_Mo_isNeeded_69 : decode y_Mo_isNeeded.2.1 69 = .ok (.iload_n 3, 1) := by decide +kernel
theorem d_Mo_isNeeded_70 : decode y_Mo_isNeeded.2.1 70 = .ok (.bipush 33, 2) := by decide +kernel
theorem d_Mo_isNeeded_72 : decode y_Mo_isNeeded.2.1 72 = .ok (.if_icmp .ne 14, 3) := by decide +kernel
theorem d_Mo_isNeeded_75 : decode y_Mo_isNeeded.2.1 75 = .ok (.iload 6, 2) := by decide +kernel
theorem d_Mo_isNeeded_77 : decode y_Mo_isNeeded.2.1 77 = .ok (.ifCond .le 7, 3) := by decide +kernel
theorem d_Mo_isNeeded_80 : decode y_Mo_isNeeded.2.1 80 = .ok (.iconst 1, 1) := by decide +kernel
theorem d_Mo_isNeeded_81 : decode y_Mo_isNeeded.2.1 81 = .ok (.goto 4, 3) := by decide +kernel
theorem d_Mo_isNeeded_84 : decode y_Mo_isNeeded.2.1 84 = .ok (.iconst 0, 1) := by decide +kernel
theorem d_Mo_isNeeded_85 : decode y_Mo_isNeeded.2.1 85 = .ok (.ireturn, 1) := by decide +kernel
theorem d_Mo_isNeeded_86 : decode y_Mo_isNeeded.2.1 86 = .ok (.iload_n 3, 1) := by decide +kernel
theorem d_Mo_isNeeded_87 : decode y_Mo_isNeeded.2.1 87 = .ok (.bipush 38, 2) := by decide +kernel
theorem d_Mo_isNeeded_89 : decode y_Mo_isNeeded.2.1 89 = .ok (.if_icmp .eq 10, 3) := by decide +kernel
theorem d_Mo_isNeeded_92 : decode y_Mo_isNeeded.2.1 92 = .ok (.iload 5, 2) := by decide +kernel
theorem d_Mo_isNeeded_94 : decode y_Mo_isNeeded.2.1 94 = .ok (.bipush 38, 2) := by decide +kernel
theorem d_Mo_isNeeded_96 : decode y_Mo_isNeeded.2.1 96 = .ok (.if_icmp .ne 15, 3) := by decide +kernel
theorem d_Mo_isNeeded_99 : decode y_Mo_isNeeded.2.1 99 = .ok (.iload 6, 2) := by decide +kernel
theorem d_Mo_isNeeded_101 : decode y_Mo_isNeeded.2.1 101 = .ok (.iconst 1, 1) := by decide +kernel
theorem d_Mo_isNeeded_102 : decode y_Mo_isNeeded.2.1 102 = .ok (.if_icmp .le 7, 3) := by decide +kernel
theorem d_Mo_isNeeded_105 : decode y_Mo_isNeeded.2.1 105 = .ok (.iconst 1, 1) := by decide +kernel
theorem d_Mo_isNeeded_106 : decode y_Mo_isNeeded.2.1 106 = .ok (.goto 4, 3) := by decide +kernel
theorem d_Mo_isNeeded_109 : decode y_Mo_isNeeded.2.1 109 = .ok (.iconst 0, 1) := by decide +kernel
theorem d_Mo_isNeeded_110 : decode y_Mo_isNeeded.2.1 110 = .ok (.ireturn, 1) := by decide +kernel
theorem d_Mo_isNeeded_111 : decode y_Mo_isNeeded.2.1 111 = .ok (.iload_n 3, 1) := by decide +kernel
theorem d_Mo_isNeeded_112 : decode y_Mo_isNeeded.2.1 112 = .ok (.bipush 94, 2) := by decide +kernel
theorem d_Mo_isNeeded_114 : decode y_Mo_isNeeded.2.1 114 = .ok (.if_icmp .eq 10, 3) := by decide +kernel
theorem d_Mo_isNeeded_117 : decode y_Mo_isNeeded.2.1 117 = .ok (.iload 5, 2) := by decide +kernel
theorem d_Mo_isNeeded_119 : decode y_Mo_isNeeded.2.1 119 = .ok (.bipush 94, 2) := by decide +kernel
theorem d_Mo_isNeeded_121 : decode y_Mo_isNeeded.2.1 121 = .ok (.if_icmp .ne 13, 3) := by decide +kernel
theorem d_Mo_isNeeded_124 : decode y_Mo_isNeeded.2.1 124 = .ok (.iload 6, 2) := by decide +kernel
theorem d_Mo_isNeeded_126 : decode y_Mo_isNeeded.2.1 126 = .ok (.iconst 2, 1) := by decide +kernel
theorem d_Mo_isNeeded_127 : decode y_Mo_isNeeded.2.1 127 = .ok (.if_icmp .le 7, 3) := by decide +kernel
theorem d_Mo_isNeeded_130 : decode y_Mo_isNeeded.2.1 130 = .ok (.iconst 1, 1) := by decide +kernel
theorem d_Mo_isNeeded_131 : decode y_Mo_isNeeded.2.1 131 = .ok (.goto 4, 3) := by decide +kernel
theorem d_Mo_isNeeded_134 : decode y_Mo_isNeeded.2.1 134 = .ok (.iconst 0, 1) := by decide +kernel
theorem d_Mo_isNeeded_135 : decode y_Mo_isNeeded.2.1 135 = .ok (.ireturn, 1) := by decide +kernel
def y_Mo_show : MethodName × ByteArray × Nat × Option FieldType × List (Nat × Nat × Nat × Nat) := (⟨"MaskedCausesModel", "show", "(I)I"⟩, prog_13_method_30_code, 7, (Option.some Jvm.ClassFile.FieldType.int), [])
theorem d_Mo_show_0 : decode y_Mo_show.2.1 0 = .ok (.aload_n 0, 1) := by decide +kernel
theorem d_Mo_show_1 : decode y_Mo_show.2.1 1 = .ok (.aload_n 0, 1) := by decide +kernel
theorem d_Mo_show_2 : decode y_Mo_show.2.1 2 = .ok (.iload_n 1, 1) := by decide +kernel
theorem d_Mo_show_3 : decode y_Mo_show.2.1 3 = .ok (.invokevirtual 159, 3) := by decide +kernel
theorem d_Mo_show_6 : decode y_Mo_show.2.1 6 = .ok (.ifCond .ne 7, 3) := by decide +kernel
theorem d_Mo_show_9 : decode y_Mo_show.2.1 9 = .ok (.iconst 1, 1) := by decide +kernel
theorem d_Mo_show_10 : decode y_Mo_show.2.1 10 = .ok (.goto 4, 3) := by decide +kernel
theorem d_Mo_show_13 : decode y_Mo_show.2.1 13 = .ok (.iconst 0, 1) := by decide +kernel
theorem d_Mo_show_14 : decode y_Mo_show.2.1 14 = .ok (.iconst 0, 1) := by decide +kernel
theorem d_Mo_show_15 : decode y_Mo_show.2.1 15 = .ok (.invokevirtual 96, 3) := by decide +kernel
theorem d_Mo_show_18 : decode y_Mo_show.2.1 18 = .ok (.ifCond .eq 5, 3) := by decide +kernel
theorem d_Mo_show_21 : decode y_Mo_show.2.1 21 = .ok (.iconst 0, 1) := by decide +kernel
theorem d_Mo_show_22 : decode y_Mo_show.2.1 22 = .ok (.ireturn, 1) := by decide +kernel
theorem d_Mo_show_23 : decode y_Mo_show.2.1 23 = .ok (.aload_n 0, 1) := by decide +kernel
theorem d_Mo_show_24 : decode y_Mo_show.2.1 24 = .ok (.iconst 0, 1) := by decide +kernel
theorem d_Mo_show_25 : decode y_Mo_show.2.1 25 = .ok (.putfield 168, 3) := by decide +kernel
theorem d_Mo_show_28 : decode y_Mo_show.2.1 28 = .ok (.lconst 0, 1) := by decide +kernel
theorem d_Mo_show_29 : decode y_Mo_show.2.1 29 = .ok (.lstore_n 2, 1) := by decide +kernel
theorem d_Mo_show_30 : decode y_Mo_show.2.1 30 = .ok (.iconst 0, 1) := by decide +kernel
theorem d_Mo_show_31 : decode y_Mo_show.2.1 31 = .ok (.istore 4, 2) := by decide +kernel
theorem d_Mo_show_33 : decode y_Mo_show.2.1 33 = .ok (.iload 4, 2) := by decide +kernel
theorem d_Mo_show_35 : decode y_Mo_show.2.1 35 = .ok (.aload_n 0, 1) := by decide +kernel
theorem d_Mo_show_36 : decode y_Mo_show.2.1 36 = .ok (.getfield 34, 3) := by decide +kernel
theorem d_Mo_show_39 : decode y_Mo_show.2.1 39 = .ok (.iload_n 1, 1) := by decide +kernel
theorem d_Mo_show_40 : decode y_Mo_show.2.1 40 = .ok (.iaload, 1) := by decide +kernel
theorem d_Mo_show_41 : decode y_Mo_show.2.1 41 = .ok (.if_icmp .ge 132, 3) := by decide +kernel
theorem d_Mo_show_44 : decode y_Mo_show.2.1 44 = .ok (.aload_n 0, 1) := by decide +kernel
theorem d_Mo_show_45 : decode y_Mo_show.2.1 45 = .ok (.getfield 31, 3) := by decide +kernel
theorem d_Mo_show_48 : decode y_Mo_show.2.1 48 = .ok (.bipush 40, 2) := by decide +kernel
theorem d_Mo_show_50 : decode y_Mo_show.2.1 50 = .ok (.iload_n 1, 1) := by decide +kernel
theorem d_Mo_show_51 : decode y_Mo_show.2.1 51 = .ok (.imul, 1) := by decide +kernel
theorem d_Mo_show_52 : decode y_Mo_show.2.1 52 = .ok (.iload 4, 2) := by decide +kernel
theorem d_Mo_show_54 : decode y_Mo_show.2.1 54 = .ok (.iadd, 1) := by decide +kernel
theorem d_Mo_show_55 : decode y_Mo_show.2.1 55 = .ok (.iaload, 1) := by decide +kernel
theorem d_Mo_show_56 : decode y_Mo_show.2.1 56 = .ok (.istore 5, 2) := by decide +kernel
theorem d_Mo_show_58 : decode y_Mo_show.2.1 58 = .ok (.iload 5, 2) := by decide +kernel
theorem d_Mo_show_60 : decode y_Mo_show.2.1 60 = .ok (.bipush 40, 2) := by decide +kernel
theorem d_Mo_show_62 : decode y_Mo_show.2.1 62 = .ok (.if_icmp .eq 14, 3) := by decide +kernel
theorem d_Mo_show_65 : decode y_Mo_show.2.1 65 = .ok (.iload 5, 2) := by decide +kernel
theorem d_Mo_show_67 : decode y_Mo_show.2.1 67 = .ok (.bipush 41, 2) := by decide +kernel
theorem d_Mo_show_69 : decode y_Mo_show.2.1 69 = .ok (.if_icmp .eq 7, 3) := by decide +kernel
theorem d_Mo_show_72 : decode y_Mo_show.2.1 72 = .ok (.iconst 1, 1) := by decide +kernel
theorem d_Mo_show_73 : decode y_Mo_show.2.1 73 = .ok (.goto 4, 3) := by decide +kernel
theorem d_Mo_show_76 : decode y_Mo_show.2.1 76 = .ok (.iconst 0, 1) := by decide +kernel
theorem d_Mo_show_77 : decode y_Mo_show.2.1 77 = .ok (.istore 6, 2) := by decide +kernel
theorem d_Mo_show_79 : decode y_Mo_show.2.1 79 = .ok (.iload 5, 2) := by decide +kernel
theorem d_Mo_show_81 : decode y_Mo_show.2.1 81 = .ok (.bipush 40, 2) := by decide +kernel
theorem d_Mo_show_83 : decode y_Mo_show.2.1 83 = .ok (.if_icmp .ne 33, 3) := by decide +kernel
theorem d_Mo_show_86 : decode y_Mo_show.2.1 86 = .ok (.aload_n 0, 1) := by decide +kernel
theorem d_Mo_show_87 : decode y_Mo_show.2.1 87 = .ok (.iload_n 1, 1) := by decide +kernel
theorem d_Mo_show_88 : decode y_Mo_show.2.1 88 = .ok (.iload 4, 2) := by decide +kernel
theorem d_Mo_show_90 : decode y_Mo_show.2.1 90 = .ok (.invokevirtual 171, 3) := by decide +kernel
theorem d_Mo_show_93 : decode y_Mo_show.2.1 93 = .ok (.istore 6, 2) := by decide +kernel
theorem d_Mo_show_95 : decode y_Mo_show.2.1 95 = .ok (.iload 6, 2) := by decide +kernel
theorem d_Mo_show_97 : decode y_Mo_show.2.1 97 = .ok (.ifCond .eq 17, 3) := by decide +kernel
theorem d_Mo_show_100 : decode y_Mo_show.2.1 100 = .ok (.lload_n 2, 1) := by decide +kernel
theorem d_Mo_show_101 : decode y_Mo_show.2.1 101 = .ok (.lconst 1, 1) := by decide +kernel
theorem d_Mo_show_102 : decode y_Mo_show.2.1 102 = .ok (.aload_n 0, 1) := by decide +kernel
theorem d_Mo_show_103 : decode y_Mo_show.2.1 103 = .ok (.iload_n 1, 1) := by decide +kernel
theorem d_Mo_show_104 : decode y_Mo_show.2.1 104 = .ok (.iload 4, 2) := by decide +kernel
theorem d_Mo_show_106 : decode y_Mo_show.2.1 106 = .ok (.invokevirtual 162, 3) := by decide +kernel
theorem d_Mo_show_109 : decode y_Mo_show.2.1 109 = .ok (.lshl, 1) := by decide +kernel
theorem d_Mo_show_110 : decode y_Mo_show.2.1 110 = .ok (.lor, 1) := by decide +kernel
theorem d_Mo_show_111 : decode y_Mo_show.2.1 111 = .ok (.goto 4, 3) := by decide +kernel
theorem d_Mo_show_114 : decode y_Mo_show.2.1 114 = .ok (.lload_n 2, 1) := by decide +kernel
theorem d_Mo_show_115 : decode y_Mo_show.2.1 115 = .ok (.lstore_n 2, 1) := by decide +kernel
theorem d_Mo_show_116 : decode y_Mo_show.2.1 116 = .ok (.iload 5, 2) := by decide +kernel
theorem d_Mo_show_118 : decode y_Mo_show.2.1 118 = .ok (.bipush 41, 2) := by decide +kernel
theorem d_Mo_show_120 : decode y_Mo_show.2.1 120 = .ok (.if_icmp .ne 21, 3) := by decide +kernel
theorem d_Mo_show_123 : decode y_Mo_show.2.1 123 = .ok (.lload_n 2, 1) := by decide +kernel
theorem d_Mo_show_124 : decode y_Mo_show.2.1 124 = .ok (.iload 4, 2) := by decide +kernel
theorem d_Mo_show_126 : decode y_Mo_show.2.1 126 = .ok (.lshr, 1) := by decide +kernel
theorem d_Mo_show_127 : decode y_Mo_show.2.1 127 = .ok (.lconst 1, 1) := by decide +kernel
theorem d_Mo_show_128 : decode y_Mo_show.2.1 128 = .ok (.land, 1) := by decide +kernel
theorem d_Mo_show_129 : decode y_Mo_show.2.1 129 = .ok (.lconst 1, 1) := by decide +kernel
theorem d_Mo_show_130 : decode y_Mo_show.2.1 130 = .ok (.lcmp, 1) := by decide +kernel
theorem d_Mo_show_131 : decode y_Mo_show.2.1 131 = .ok (.ifCond .ne 7, 3) := by decide +kernel
theorem d_Mo_show_134 : decode y_Mo_show.2.1 134 = .ok (.iconst 1, 1) := by decide +kernel
theorem d_Mo_show_135 : decode y_Mo_show.2.1 135 = .ok (.goto 4, 3) := by decide +kernel
theorem d_Mo_show_138 : decode y_Mo_show.2.1 138 = .ok (.iconst 0, 1) := by decide +kernel
theorem d_Mo_show_139 : decode y_Mo_show.2.1 139 = .ok (.istore 6, 2) := by decide +kernel
theorem d_Mo_show_141 : decode y_Mo_show.2.1 141 = .ok (.iload 6, 2) := by decide +kernel
theorem d_Mo_show_143 : decode y_Mo_show.2.1 143 = .ok (.ifCond .eq 24, 3) := by decide +kernel
theorem d_Mo_show_146 : decode y_Mo_show.2.1 146 = .ok (.aload_n 0, 1) := by decide +kernel
theorem d_Mo_show_147 : decode y_Mo_show.2.1 147 = .ok (.getfield 83, 3) := by decide +kernel
theorem d_Mo_show_150 : decode y_Mo_show.2.1 150 = .ok (.aload_n 0, 1) := by decide +kernel
theorem d_Mo_show_151 : decode y_Mo_show.2.1 151 = .ok (.getfield 168, 3) := by decide +kernel
theorem d_Mo_show_154 : decode y_Mo_show.2.1 154 = .ok (.iload 5, 2) := by decide +kernel
theorem d_Mo_show_156 : decode y_Mo_show.2.1 156 = .ok (.iastore, 1) := by decide +kernel
theorem d_Mo_show_157 : decode y_Mo_show.2.1 157 = .ok (.aload_n 0, 1) := by decide +kernel
theorem d_Mo_show_158 : decode y_Mo_show.2.1 158 = .ok (.dup, 1) := by decide +kernel
theorem d_Mo_show_159 : decode y_Mo_show.2.1 159 = .ok (.getfield 168, 3) := by decide +kernel
theorem d_Mo_show_162 : decode y_Mo_show.2.1 162 = .ok (.iconst 1, 1) := by decide +kernel
theorem d_Mo_show_163 : decode y_Mo_show.2.1 163 = .ok (.iadd, 1) := by decide +kernel
theorem d_Mo_show_164 : decode y_Mo_show.2.1 164 = .ok (.putfield 168, 3) := by decide +kernel
theorem d_Mo_show_167 : decode y_Mo_show.2.1 167 = .ok (.iinc 4 1, 3) := by decide +kernel
theorem d_Mo_show_170 : decode y_Mo_show.2.1 170 = .ok (.goto (-137), 3) := by decide +kernel
theorem d_Mo_show_173 : decode y_Mo_show.2.1 173 = .ok (.aload_n 0, 1) := by decide +kernel
theorem d_Mo_show_174 : decode y_Mo_show.2.1 174 = .ok (.getfield 168, 3) := by decide +kernel
theorem d_Mo_show_177 : decode y_Mo_show.2.1 177 = .ok (.ireturn, 1) := by decide +kernel
def y_Mo_feasible : MethodName × ByteArray × Nat × Option FieldType × List (Nat × Nat × Nat × Nat) := (⟨"MaskedCausesModel", "feasible", "(I)I"⟩, prog_13_method_31_code, 4, (Option.some Jvm.ClassFile.FieldType.int), [])
theorem d_Mo_feasible_0 : decode y_Mo_feasible.2.1 0 = .ok (.aload_n 0, 1) := by decide +kernel
theorem d_Mo_feasible_1 : decode y_Mo_feasible.2.1 1 = .ok (.aload_n 0, 1) := by decide +kernel
theorem d_Mo_feasible_2 : decode y_Mo_feasible.2.1 2 = .ok (.iload_n 1, 1) := by decide +kernel
theorem d_Mo_feasible_3 : decode y_Mo_feasible.2.1 3 = .ok (.invokevirtual 159, 3) := by decide +kernel
theorem d_Mo_feasible_6 : decode y_Mo_feasible.2.1 6 = .ok (.ifCond .ne 7, 3) := by decide +kernel
theorem d_Mo_feasible_9 : decode y_Mo_feasible.2.1 9 = .ok (.iconst 1, 1) := by decide +kernel
theorem d_Mo_feasible_10 : decode y_Mo_feasible.2.1 10 = .ok (.goto 4, 3) := by decide +kernel
theorem d_Mo_feasible_13 : decode y_Mo_feasible.2.1 13 = .ok (.iconst 0, 1) := by decide +kernel
theorem d_Mo_feasible_14 : decode y_Mo_feasible.2.1 14 = .ok (.iconst 0, 1) := by decide +kernel
theorem d_Mo_feasible_15 : decode y_Mo_feasible.2.1 15 = .ok (.invokevirtual 96, 3) := by decide +kernel
theorem d_Mo_feasible_18 : decode y_Mo_feasible.2.1 18 = .ok (.ifCond .eq 5, 3) := by decide +kernel
theorem d_Mo_feasible_21 : decode y_Mo_feasible.2.1 21 = .ok (.iconst 0, 1) := by decide +kernel
theorem d_Mo_feasible_22 : decode y_Mo_feasible.2.1 22 = .ok (.ireturn, 1) := by decide +kernel
theorem d_Mo_feasible_23 : decode y_Mo_feasible.2.1 23 = .ok (.iconst 0, 1) := by decide +kernel
theorem d_Mo_feasible_24 : decode y_Mo_feasible.2.1 24 = .ok (.istore_n 2, 1) := by decide +kernel
theorem d_Mo_feasible_25 : decode y_Mo_feasible.2.1 25 = .ok (.iconst 0, 1) := by decide +kernel
theorem d_Mo_feasible_26 : decode y_Mo_feasible.2.1 26 = .ok (.istore_n 3, 1) := by decide +kernel
theorem d_Mo_feasible_27 : decode y_Mo_feasible.2.1 27 = .ok (.iload_n 3, 1) := by decide +kernel
theorem d_Mo_feasible_28 : decode y_Mo_feasible.2.1 28 = .ok (.iconst 1, 1) := by decide +kernel
theorem d_Mo_feasible_29 : decode y_Mo_feasible.2.1 29 = .ok (.aload_n 0, 1) := by decide +kernel
theorem d_Mo_feasible_30 : decode y_Mo_feasible.2.1 30 = .ok (.getfield 41, 3) := by decide +kernel
theorem d_Mo_feasible_33 : decode y_Mo_feasible.2.1 33 = .ok (.iload_n 1, 1) := by decide +kernel
theorem d_Mo_feasible_34 : decode y_Mo_feasible.2.1 34 = .ok (.iaload, 1) := by decide +kernel
theorem d_Mo_feasible_35 : decode y_Mo_feasible.2.1 35 = .ok (.ishl, 1) := by decide +kernel
theorem d_Mo_feasible_36 : decode y_Mo_feasible.2.1 36 = .ok (.if_icmp .ge 31, 3) := by decide +kernel
theorem d_Mo_feasible_39 : decode y_Mo_feasible.2.1 39 = .ok (.aload_n 0, 1) := by decide +kernel
theorem d_Mo_feasible_40 : decode y_Mo_feasible.2.1 40 = .ok (.getfield 47, 3) := by decide +kernel
theorem d_Mo_feasible_43 : decode y_Mo_feasible.2.1 43 = .ok (.bipush 64, 2) := by decide +kernel
theorem d_Mo_feasible_45 : decode y_Mo_feasible.2.1 45 = .ok (.iload_n 1, 1) := by decide +kernel
theorem d_Mo_feasible_46 : decode y_Mo_feasible.2.1 46 = .ok (.imul, 1) := by decide +kernel
theorem d_Mo_feasible_47 : decode y_Mo_feasible.2.1 47 = .ok (.iload_n 3, 1) := by decide +kernel
theorem d_Mo_feasible_48 : decode y_Mo_feasible.2.1 48 = .ok (.iadd, 1) := by decide +kernel
theorem d_Mo_feasible_49 : decode y_Mo_feasible.2.1 49 = .ok (.baload, 1) := by decide +kernel
theorem d_Mo_feasible_50 : decode y_Mo_feasible.2.1 50 = .ok (.ifCond .eq 9, 3) := by decide +kernel
theorem d_Mo_feasible_53 : decode y_Mo_feasible.2.1 53 = .ok (.iload_n 2, 1) := by decide +kernel
theorem d_Mo_feasible_54 : decode y_Mo_feasible.2.1 54 = .ok (.iconst 1, 1) := by decide +kernel
theorem d_Mo_feasible_55 : decode y_Mo_feasible.2.1 55 = .ok (.iadd, 1) := by decide +kernel
theorem d_Mo_feasible_56 : decode y_Mo_feasible.2.1 56 = .ok (.goto 4, 3) := by decide +kernel
theorem d_Mo_feasible_59 : decode y_Mo_feasible.2.1 59 = .ok (.iload_n 2, 1) := by decide +kernel
theorem d_Mo_feasible_60 : decode y_Mo_feasible.2.1 60 = .ok (.istore_n 2, 1) := by decide +kernel
theorem d_Mo_feasible_61 : decode y_Mo_feasible.2.1 61 = .ok (.iinc 3 1, 3) := by decide +kernel
theorem d_Mo_feasible_64 : decode y_Mo_feasible.2.1 64 = .ok (.goto (-37), 3) := by decide +kernel
theorem d_Mo_feasible_67 : decode y_Mo_feasible.2.1 67 = .ok (.iload_n 2, 1) := by decide +kernel
theorem d_Mo_feasible_68 : decode y_Mo_feasible.2.1 68 = .ok (.ireturn, 1) := by decide +kernel
def y_Mo_vector : MethodName × ByteArray × Nat × Option FieldType × List (Nat × Nat × Nat × Nat) := (⟨"MaskedCausesModel", "vector", "(III)I"⟩, prog_13_method_32_code, 5, (Option.some Jvm.ClassFile.FieldType.int), [])
theorem d_Mo_vector_0 : decode y_Mo_vector.2.1 0 = .ok (.aload_n 0, 1) := by decide +kernel
theorem d_Mo_vector_1 : decode y_Mo_vector.2.1 1 = .ok (.iload_n 1, 1) := by decide +kernel
theorem d_Mo_vector_2 : decode y_Mo_vector.2.1 2 = .ok (.iload_n 2, 1) := by decide +kernel
theorem d_Mo_vector_3 : decode y_Mo_vector.2.1 3 = .ok (.invokevirtual 174, 3) := by decide +kernel
theorem d_Mo_vector_6 : decode y_Mo_vector.2.1 6 = .ok (.ifCond .eq 19, 3) := by decide +kernel
theorem d_Mo_vector_9 : decode y_Mo_vector.2.1 9 = .ok (.iload_n 3, 1) := by decide +kernel
theorem d_Mo_vector_10 : decode y_Mo_vector.2.1 10 = .ok (.ifCond .lt 15, 3) := by decide +kernel
theorem d_Mo_vector_13 : decode y_Mo_vector.2.1 13 = .ok (.iload_n 3, 1) := by decide +kernel
theorem d_Mo_vector_14 : decode y_Mo_vector.2.1 14 = .ok (.aload_n 0, 1) := by decide +kernel
theorem d_Mo_vector_15 : decode y_Mo_vector.2.1 15 = .ok (.getfield 90, 3) := by decide +kernel
theorem d_Mo_vector_18 : decode y_Mo_vector.2.1 18 = .ok (.if_icmp .ge 7, 3) := by decide +kernel
theorem d_Mo_vector_21 : decode y_Mo_vector.2.1 21 = .ok (.iconst 1, 1) := by decide +kernel
theorem d_Mo_vector_22 : decode y_Mo_vector.2.1 22 = .ok (.goto 4, 3) := by decide +kernel
theorem d_Mo_vector_25 : decode y_Mo_vector.2.1 25 = .ok (.iconst 0, 1) := by decide +kernel
theorem d_Mo_vector_26 : decode y_Mo_vector.2.1 26 = .ok (.istore 4, 2) := by decide +kernel
theorem d_Mo_vector_28 : decode y_Mo_vector.2.1 28 = .ok (.aload_n 0, 1) := by decide +kernel
theorem d_Mo_vector_29 : decode y_Mo_vector.2.1 29 = .ok (.iload 4, 2) := by decide +kernel
theorem d_Mo_vector_31 : decode y_Mo_vector.2.1 31 = .ok (.ifCond .ne 7, 3) := by decide +kernel
theorem d_Mo_vector_34 : decode y_Mo_vector.2.1 34 = .ok (.iconst 1, 1) := by decide +kernel
theorem d_Mo_vector_35 : decode y_Mo_vector.2.1 35 = .ok (.goto 4, 3) := by decide +kernel
theorem d_Mo_vector_38 : decode y_Mo_vector.2.1 38 = .ok (.iconst 0, 1) := by decide +kernel
theorem d_Mo_vector_39 : decode y_Mo_vector.2.1 39 = .ok (.iload 4, 2) := by decide +kernel
theorem d_Mo_vector_41 : decode y_Mo_vector.2.1 41 = .ok (.ifCond .eq 21, 3) := by decide +kernel
theorem d_Mo_vector_44 : decode y_Mo_vector.2.1 44 = .ok (.aload_n 0, 1) := by decide +kernel
theorem d_Mo_vector_45 : decode y_Mo_vector.2.1 45 = .ok (.getfield 47, 3) := by decide +kernel
theorem d_Mo_vector_48 : decode y_Mo_vector.2.1 48 = .ok (.bipush 64, 2) := by decide +kernel
theorem d_Mo_vector_50 : decode y_Mo_vector.2.1 50 = .ok (.iload_n 1, 1) := by decide +kernel
theorem d_Mo_vector_51 : decode y_Mo_vector.2.1 51 = .ok (.imul, 1) := by decide +kernel
theorem d_Mo_vector_52 : decode y_Mo_vector.2.1 52 = .ok (.iload_n 2, 1) := by decide +kernel
theorem d_Mo_vector_53 : decode y_Mo_vector.2.1 53 = .ok (.iadd, 1) := by decide +kernel
theorem d_Mo_vector_54 : decode y_Mo_vector.2.1 54 = .ok (.baload, 1) := by decide +kernel
theorem d_Mo_vector_55 : decode y_Mo_vector.2.1 55 = .ok (.ifCond .ne 7, 3) := by decide +kernel
theorem d_Mo_vector_58 : decode y_Mo_vector.2.1 58 = .ok (.iconst 1, 1) := by decide +kernel
theorem d_Mo_vector_59 : decode y_Mo_vector.2.1 59 = .ok (.goto 4, 3) := by decide +kernel
theorem d_Mo_vector_62 : decode y_Mo_vector.2.1 62 = .ok (.iconst 0, 1) := by decide +kernel
theorem d_Mo_vector_63 : decode y_Mo_vector.2.1 63 = .ok (.invokevirtual 96, 3) := by decide +kernel
theorem d_Mo_vector_66 : decode y_Mo_vector.2.1 66 = .ok (.ifCond .eq 5, 3) := by decide +kernel
theorem d_Mo_vector_69 : decode y_Mo_vector.2.1 69 = .ok (.iconst 0, 1) := by decide +kernel
theorem d_Mo_vector_70 : decode y_Mo_vector.2.1 70 = .ok (.ireturn, 1) := by decide +kernel
theorem d_Mo_vector_71 : decode y_Mo_vector.2.1 71 = .ok (.aload_n 0, 1) := by decide +kernel
theorem d_Mo_vector_72 : decode y_Mo_vector.2.1 72 = .ok (.getfield 50, 3) := by decide +kernel
theorem d_Mo_vector_75 : decode y_Mo_vector.2.1 75 = .ok (.iconst 3, 1) := by decide +kernel
theorem d_Mo_vector_76 : decode y_Mo_vector.2.1 76 = .ok (.bipush 64, 2) := by decide +kernel
theorem d_Mo_vector_78 : decode y_Mo_vector.2.1 78 = .ok (.iload_n 1, 1) := by decide +kernel
theorem d_Mo_vector_79 : decode y_Mo_vector.2.1 79 = .ok (.imul, 1) := by decide +kernel
theorem d_Mo_vector_80 : decode y_Mo_vector.2.1 80 = .ok (.iload_n 2, 1) := by decide +kernel
theorem d_Mo_vector_81 : decode y_Mo_vector.2.1 81 = .ok (.iadd, 1) := by decide +kernel
theorem d_Mo_vector_82 : decode y_Mo_vector.2.1 82 = .ok (.imul, 1) := by decide +kernel
theorem d_Mo_vector_83 : decode y_Mo_vector.2.1 83 = .ok (.iload_n 3, 1) := by decide +kernel
theorem d_Mo_vector_84 : decode y_Mo_vector.2.1 84 = .ok (.iadd, 1) := by decide +kernel
theorem d_Mo_vector_85 : decode y_Mo_vector.2.1 85 = .ok (.iaload, 1) := by decide +kernel
theorem d_Mo_vector_86 : decode y_Mo_vector.2.1 86 = .ok (.ireturn, 1) := by decide +kernel
def y_Mo_outcome : MethodName × ByteArray × Nat × Option FieldType × List (Nat × Nat × Nat × Nat) := (⟨"MaskedCausesModel", "outcome", "(II)Z"⟩, prog_13_method_33_code, 3, (Option.some Jvm.ClassFile.FieldType.boolean), [])
theorem d_Mo_outcome_0 : decode y_Mo_outcome.2.1 0 = .ok (.aload_n 0, 1) := by decide +kernel
theorem d_Mo_outcome_1 : decode y_Mo_outcome.2.1 1 = .ok (.aload_n 0, 1) := by decide +kernel
theorem d_Mo_outcome_2 : decode y_Mo_outcome.2.1 2 = .ok (.iload_n 1, 1) := by decide +kernel
theorem d_Mo_outcome_3 : decode y_Mo_outcome.2.1 3 = .ok (.iload_n 2, 1) := by decide +kernel
theorem d_Mo_outcome_4 : decode y_Mo_outcome.2.1 4 = .ok (.invokevirtual 174, 3) := by decide +kernel
theorem d_Mo_outcome_7 : decode y_Mo_outcome.2.1 7 = .ok (.ifCond .ne 7, 3) := by decide +kernel
theorem d_Mo_outcome_10 : decode y_Mo_outcome.2.1 10 = .ok (.iconst 1, 1) := by decide +kernel
theorem d_Mo_outcome_11 : decode y_Mo_outcome.2.1 11 = .ok (.goto 4, 3) := by decide +kernel
theorem d_Mo_outcome_14 : decode y_Mo_outcome.2.1 14 = .ok (.iconst 0, 1) := by decide +kernel
theorem d_Mo_outcome_15 : decode y_Mo_outcome.2.1 15 = .ok (.iconst 0, 1) := by decide +kernel
theorem d_Mo_outcome_16 : decode y_Mo_outcome.2.1 16 = .ok (.invokevirtual 96, 3) := by decide +kernel
theorem d_Mo_outcome_19 : decode y_Mo_outcome.2.1 19 = .ok (.ifCond .ne 21, 3) := by decide +kernel
theorem d_Mo_outcome_22 : decode y_Mo_outcome.2.1 22 = .ok (.aload_n 0, 1) := by decide +kernel
theorem d_Mo_outcome_23 : decode y_Mo_outcome.2.1 23 = .ok (.getfield 53, 3) := by decide +kernel
theorem d_Mo_outcome_26 : decode y_Mo_outcome.2.1 26 = .ok (.bipush 64, 2) := by decide +kernel
theorem d_Mo_outcome_28 : decode y_Mo_outcome.2.1 28 = .ok (.iload_n 1, 1) := by decide +kernel
theorem d_Mo_outcome_29 : decode y_Mo_outcome.2.1 29 = .ok (.imul, 1) := by decide +kernel
theorem d_Mo_outcome_30 : decode y_Mo_outcome.2.1 30 = .ok (.iload_n 2, 1) := by decide +kernel
theorem d_Mo_outcome_31 : decode y_Mo_outcome.2.1 31 = .ok (.iadd, 1) := by decide +kernel
theorem d_Mo_outcome_32 : decode y_Mo_outcome.2.1 32 = .ok (.baload, 1) := by decide +kernel
theorem d_Mo_outcome_33 : decode y_Mo_outcome.2.1 33 = .ok (.ifCond .eq 7, 3) := by decide +kernel
theorem d_Mo_outcome_36 : decode y_Mo_outcome.2.1 36 = .ok (.iconst 1, 1) := by decide +kernel
theorem d_Mo_outcome_37 : decode y_Mo_outcome.2.1 37 = .ok (.goto 4, 3) := by decide +kernel
theorem d_Mo_outcome_40 : decode y_Mo_outcome.2.1 40 = .ok (.iconst 0, 1) := by decide +kernel
theorem d_Mo_outcome_41 : decode y_Mo_outcome.2.1 41 = .ok (.ireturn, 1) := by decide +kernel
def y_Mo_evaluated : MethodName × ByteArray × Nat × Option FieldType × List (Nat × Nat × Nat × Nat) := (⟨"MaskedCausesModel", "evaluated", "(III)Z"⟩, prog_13_method_34_code, 4, (Option.some Jvm.ClassFile.FieldType.boolean), [])
theorem d_Mo_evaluated_0 : decode y_Mo_evaluated.2.1 0 = .ok (.aload_n 0, 1) := by decide +kernel
theorem d_Mo_evaluated_1 : decode y_Mo_evaluated.2.1 1 = .ok (.aload_n 0, 1) := by decide +kernel
theorem d_Mo_evaluated_2 : decode y_Mo_evaluated.2.1 2 = .ok (.iload_n 1, 1) := by decide +kernel
theorem d_Mo_evaluated_3 : decode y_Mo_evaluated.2.1 3 = .ok (.iload_n 2, 1) := by decide +kernel
theorem d_Mo_evaluated_4 : decode y_Mo_evaluated.2.1 4 = .ok (.invokevirtual 174, 3) := by decide +kernel
theorem d_Mo_evaluated_7 : decode y_Mo_evaluated.2.1 7 = .ok (.ifCond .eq 12, 3) := by decide +kernel
theorem d_Mo_evaluated_10 : decode y_Mo_evaluated.2.1 10 = .ok (.aload_n 0, 1) := by decide +kernel
theorem d_Mo_evaluated_11 : decode y_Mo_evaluated.2.1 11 = .ok (.iload_n 1, 1) := by decide +kernel
theorem d_Mo_evaluated_12 : decode y_Mo_evaluated.2.1 12 = .ok (.iload_n 3, 1) := by decide +kernel
theorem d_Mo_evaluated_13 : decode y_Mo_evaluated.2.1 13 = .ok (.invokevirtual 177, 3) := by decide +kernel
theorem d_Mo_evaluated_16 : decode y_Mo_evaluated.2.1 16 = .ok (.ifCond .ne 7, 3) := by decide +kernel
theorem d_Mo_evaluated_19 : decode y_Mo_evaluated.2.1 19 = .ok (.iconst 1, 1) := by decide +kernel
theorem d_Mo_evaluated_20 : decode y_Mo_evaluated.2.1 20 = .ok (.goto 4, 3) := by decide +kernel
theorem d_Mo_evaluated_23 : decode y_Mo_evaluated.2.1 23 = .ok (.iconst 0, 1) := by decide +kernel
theorem d_Mo_evaluated_24 : decode y_Mo_evaluated.2.1 24 = .ok (.iconst 0, 1) := by decide +kernel
theorem d_Mo_evaluated_25 : decode y_Mo_evaluated.2.1 25 = .ok (.invokevirtual 96, 3) := by decide +kernel
theorem d_Mo_evaluated_28 : decode y_Mo_evaluated.2.1 28 = .ok (.ifCond .ne 25, 3) := by decide +kernel
theorem d_Mo_evaluated_31 : decode y_Mo_evaluated.2.1 31 = .ok (.aload_n 0, 1) := by decide +kernel
theorem d_Mo_evaluated_32 : decode y_Mo_evaluated.2.1 32 = .ok (.getfield 56, 3) := by decide +kernel
theorem d_Mo_evaluated_35 : decode y_Mo_evaluated.2.1 35 = .ok (.bipush 64, 2) := by decide +kernel
theorem d_Mo_evaluated_37 : decode y_Mo_evaluated.2.1 37 = .ok (.iload_n 1, 1) := by decide +kernel
theorem d_Mo_evaluated_38 : decode y_Mo_evaluated.2.1 38 = .ok (.imul, 1) := by decide +kernel
theorem d_Mo_evaluated_39 : decode y_Mo_evaluated.2.1 39 = .ok (.iload_n 2, 1) := by decide +kernel
theorem d_Mo_evaluated_40 : decode y_Mo_evaluated.2.1 40 = .ok (.iadd, 1) := by decide +kernel
theorem d_Mo_evaluated_41 : decode y_Mo_evaluated.2.1 41 = .ok (.iaload, 1) := by decide +kernel
theorem d_Mo_evaluated_42 : decode y_Mo_evaluated.2.1 42 = .ok (.iload_n 3, 1) := by decide +kernel
theorem d_Mo_evaluated_43 : decode y_Mo_evaluated.2.1 43 = .ok (.invokestatic 134, 3) := by decide +kernel
theorem d_Mo_evaluated_46 : decode y_Mo_evaluated.2.1 46 = .ok (.ifCond .eq 7, 3) := by decide +kernel
theorem d_Mo_evaluated_49 : decode y_Mo_evaluated.2.1 49 = .ok (.iconst 1, 1) := by decide +kernel
theorem d_Mo_evaluated_50 : decode y_Mo_evaluated.2.1 50 = .ok (.goto 4, 3) := by decide +kernel
theorem d_Mo_evaluated_53 : decode y_Mo_evaluated.2.1 53 = .ok (.iconst 0, 1) := by decide +kernel
theorem d_Mo_evaluated_54 : decode y_Mo_evaluated.2.1 54 = .ok (.ireturn, 1) := by decide +kernel
def y_Mo_share : MethodName × ByteArray × Nat × Option FieldType × List (Nat × Nat × Nat × Nat) := (⟨"MaskedCausesModel", "share", "(III)Z"⟩, prog_13_method_35_code, 6, (Option.some Jvm.ClassFile.FieldType.boolean), [])
theorem d_Mo_share_0 : decode y_Mo_share.2.1 0 = .ok (.aload_n 0, 1) := by decide +kernel
theorem d_Mo_share_1 : decode y_Mo_share.2.1 1 = .ok (.getfield 44, 3) := by decide +kernel
theorem d_Mo_share_4 : decode y_Mo_share.2.1 4 = .ok (.bipush 6, 2) := by decide +kernel
theorem d_Mo_share_6 : decode y_Mo_share.2.1 6 = .ok (.iload_n 1, 1) := by decide +kernel
theorem d_Mo_share_7 : decode y_Mo_share.2.1 7 = .ok (.imul, 1) := by decide +kernel
theorem d_Mo_share_8 : decode y_Mo_share.2.1 8 = .ok (.iload_n 2, 1) := by decide +kernel
theorem d_Mo_share_9 : decode y_Mo_share.2.1 9 = .ok (.iadd, 1) := by decide +kernel
theorem d_Mo_share_10 : decode y_Mo_share.2.1 10 = .ok (.iaload, 1) := by decide +kernel
theorem d_Mo_share_11 : decode y_Mo_share.2.1 11 = .ok (.istore 4, 2) := by decide +kernel
theorem d_Mo_share_13 : decode y_Mo_share.2.1 13 = .ok (.aload_n 0, 1) := by decide +kernel
theorem d_Mo_share_14 : decode y_Mo_share.2.1 14 = .ok (.getfield 44, 3) := by decide +kernel
theorem d_Mo_share_17 : decode y_Mo_share.2.1 17 = .ok (.bipush 6, 2) := by decide +kernel
theorem d_Mo_share_19 : decode y_Mo_share.2.1 19 = .ok (.iload_n 1, 1) := by decide +kernel
theorem d_Mo_share_20 : decode y_Mo_share.2.1 20 = .ok (.imul, 1) := by decide +kernel
theorem d_Mo_share_21 : decode y_Mo_share.2.1 21 = .ok (.iload_n 3, 1) := by decide +kernel
theorem d_Mo_share_22 : decode y_Mo_share.2.1 22 = .ok (.iadd, 1) := by decide +kernel
theorem d_Mo_share_23 : decode y_Mo_share.2.1 23 = .ok (.iaload, 1) := by decide +kernel
theorem d_Mo_share_24 : decode y_Mo_share.2.1 24 = .ok (.istore 5, 2) := by decide +kernel
theorem d_Mo_share_26 : decode y_Mo_share.2.1 26 = .ok (.aload_n 0, 1) := by decide +kernel
theorem d_Mo_share_27 : decode y_Mo_share.2.1 27 = .ok (.getfield 19, 3) := by decide +kernel
theorem d_Mo_share_30 : decode y_Mo_share.2.1 30 = .ok (.iload 4, 2) := by decide +kernel
theorem d_Mo_share_32 : decode y_Mo_share.2.1 32 = .ok (.iaload, 1) := by decide +kernel
theorem d_Mo_share_33 : decode y_Mo_share.2.1 33 = .ok (.aload_n 0, 1) := by decide +kernel
theorem d_Mo_share_34 : decode y_Mo_share.2.1 34 = .ok (.getfield 19, 3) := by decide +kernel
theorem d_Mo_share_37 : decode y_Mo_share.2.1 37 = .ok (.iload 5, 2) := by decide +kernel
theorem d_Mo_share_39 : decode y_Mo_share.2.1 39 = .ok (.iaload, 1) := by decide +kernel
theorem d_Mo_share_40 : decode y_Mo_share.2.1 40 = .ok (.if_icmp .eq 64, 3) := by decide +kernel
theorem d_Mo_share_43 : decode y_Mo_share.2.1 43 = .ok (.aload_n 0, 1) := by decide +kernel
theorem d_Mo_share_44 : decode y_Mo_share.2.1 44 = .ok (.getfield 19, 3) := by decide +kernel
theorem d_Mo_share_47 : decode y_Mo_share.2.1 47 = .ok (.iload 4, 2) := by decide +kernel
theorem d_Mo_share_49 : decode y_Mo_share.2.1 49 = .ok (.iaload, 1) := by decide +kernel
theorem d_Mo_share_50 : decode y_Mo_share.2.1 50 = .ok (.aload_n 0, 1) := by decide +kernel
theorem d_Mo_share_51 : decode y_Mo_share.2.1 51 = .ok (.getfield 22, 3) := by decide +kernel
theorem d_Mo_share_54 : decode y_Mo_share.2.1 54 = .ok (.iload 5, 2) := by decide +kernel
theorem d_Mo_share_56 : decode y_Mo_share.2.1 56 = .ok (.iaload, 1) := by decide +kernel
theorem d_Mo_share_57 : decode y_Mo_share.2.1 57 = .ok (.if_icmp .eq 47, 3) := by decide +kernel
theorem d_Mo_share_60 : decode y_Mo_share.2.1 60 = .ok (.aload_n 0, 1) := by decide +kernel
theorem d_Mo_share_61 : decode y_Mo_share.2.1 61 = .ok (.getfield 22, 3) := by decide +kernel
theorem d_Mo_share_64 : decode y_Mo_share.2.1 64 = .ok (.iload 4, 2) := by decide +kernel
theorem d_Mo_share_66 : decode y_Mo_share.2.1 66 = .ok (.iaload, 1) := by decide +kernel
theorem d_Mo_share_67 : decode y_Mo_share.2.1 67 = .ok (.ifCond .lt 41, 3) := by decide +kernel
theorem d_Mo_share_70 : decode y_Mo_share.2.1 70 = .ok (.aload_n 0, 1) := by decide +kernel
theorem d_Mo_share_71 : decode y_Mo_share.2.1 71 = .ok (.getfield 22, 3) := by decide +kernel
theorem d_Mo_share_74 : decode y_Mo_share.2.1 74 = .ok (.iload 4, 2) := by decide +kernel
theorem d_Mo_share_76 : decode y_Mo_share.2.1 76 = .ok (.iaload, 1) := by decide +kernel
theorem d_Mo_share_77 : decode y_Mo_share.2.1 77 = .ok (.aload_n 0, 1) := by decide +kernel
theorem d_Mo_share_78 : decode y_Mo_share.2.1 78 = .ok (.getfield 19, 3) := by decide +kernel
theorem d_Mo_share_81 : decode y_Mo_share.2.1 81 = .ok (.iload 5, 2) := by decide +kernel
theorem d_Mo_share_83 : decode y_Mo_share.2.1 83 = .ok (.iaload, 1) := by decide +kernel
theorem d_Mo_share_84 : decode y_Mo_share.2.1 84 = .ok (.if_icmp .eq 20, 3) := by decide +kernel
theorem d_Mo_share_87 : decode y_Mo_share.2.1 87 = .ok (.aload_n 0, 1) := by decide +kernel
theorem d_Mo_share_88 : decode y_Mo_share.2.1 88 = .ok (.getfield 22, 3) := by decide +kernel
theorem d_Mo_share_91 : decode y_Mo_share.2.1 91 = .ok (.iload 4, 2) := by decide +kernel
theorem d_Mo_share_93 : decode y_Mo_share.2.1 93 = .ok (.iaload, 1) := by decide +kernel
theorem d_Mo_share_94 : decode y_Mo_share.2.1 94 = .ok (.aload_n 0, 1) := by decide +kernel
theorem d_Mo_share_95 : decode y_Mo_share.2.1 95 = .ok (.getfield 22, 3) := by decide +kernel
theorem d_Mo_share_98 : decode y_Mo_share.2.1 98 = .ok (.iload 5, 2) := by decide +kernel
theorem d_Mo_share_100 : decode y_Mo_share.2.1 100 = .ok (.iaload, 1) := by decide +kernel
theorem d_Mo_share_101 : decode y_Mo_share.2.1 101 = .ok (.if_icmp .ne 7, 3) := by decide +kernel
theorem d_Mo_share_104 : decode y_Mo_share.2.1 104 = .ok (.iconst 1, 1) := by decide +kernel
theorem d_Mo_share_105 : decode y_Mo_share.2.1 105 = .ok (.goto 4, 3) := by decide +kernel
theorem d_Mo_share_108 : decode y_Mo_share.2.1 108 = .ok (.iconst 0, 1) := by decide +kernel
theorem d_Mo_share_109 : decode y_Mo_share.2.1 109 = .ok (.ireturn, 1) := by decide +kernel
def y_Mo_isTurned : MethodName × ByteArray × Nat × Option FieldType × List (Nat × Nat × Nat × Nat) := (⟨"MaskedCausesModel", "isTurned", "(III)Z"⟩, prog_13_method_36_code, 4, (Option.some Jvm.ClassFile.FieldType.boolean), [])
theorem d_Mo_isTurned_0 : decode y_Mo_isTurned.2.1 0 = .ok (.aload_n 0, 1) := by decide +kernel
theorem d_Mo_isTurned_1 : decode y_Mo_isTurned.2.1 1 = .ok (.getfield 53, 3) := by decide +kernel
theorem d_Mo_isTurned_4 : decode y_Mo_isTurned.2.1 4 = .ok (.bipush 64, 2) := by decide +kernel
theorem d_Mo_isTurned_6 : decode y_Mo_isTurned.2.1 6 = .ok (.iload_n 1, 1) := by decide +kernel
theorem d_Mo_isTurned_7 : decode y_Mo_isTurned.2.1 7 = .ok (.imul, 1) := by decide +kernel
theorem d_Mo_isTurned_8 : decode y_Mo_isTurned.2.1 8 = .ok (.iload_n 2, 1) := by decide +kernel
theorem d_Mo_isTurned_9 : decode y_Mo_isTurned.2.1 9 = .ok (.iadd, 1) := by decide +kernel
theorem d_Mo_isTurned_10 : decode y_Mo_isTurned.2.1 10 = .ok (.baload, 1) := by decide +kernel
theorem d_Mo_isTurned_11 : decode y_Mo_isTurned.2.1 11 = .ok (.aload_n 0, 1) := by decide +kernel
theorem d_Mo_isTurned_12 : decode y_Mo_isTurned.2.1 12 = .ok (.getfield 53, 3) := by decide +kernel
theorem d_Mo_isTurned_15 : decode y_Mo_isTurned.2.1 15 = .ok (.bipush 64, 2) := by decide +kernel
theorem d_Mo_isTurned_17 : decode y_Mo_isTurned.2.1 17 = .ok (.iload_n 1, 1) := by decide +kernel
theorem d_Mo_isTurned_18 : decode y_Mo_isTurned.2.1 18 = .ok (.imul, 1) := by decide +kernel
theorem d_Mo_isTurned_19 : decode y_Mo_isTurned.2.1 19 = .ok (.iload_n 2, 1) := by decide +kernel
theorem d_Mo_isTurned_20 : decode y_Mo_isTurned.2.1 20 = .ok (.iconst 1, 1) := by decide +kernel
theorem d_Mo_isTurned_21 : decode y_Mo_isTurned.2.1 21 = .ok (.iload_n 3, 1) := by decide +kernel
theorem d_Mo_isTurned_22 : decode y_Mo_isTurned.2.1 22 = .ok (.ishl, 1) := by decide +kernel
theorem d_Mo_isTurned_23 : decode y_Mo_isTurned.2.1 23 = .ok (.ixor, 1) := by decide +kernel
theorem d_Mo_isTurned_24 : decode y_Mo_isTurned.2.1 24 = .ok (.iadd, 1) := by decide +kernel
theorem d_Mo_isTurned_25 : decode y_Mo_isTurned.2.1 25 = .ok (.baload, 1) := by decide +kernel
theorem d_Mo_isTurned_26 : decode y_Mo_isTurned.2.1 26 = .ok (.if_icmp .eq 7, 3) := by decide +kernel
theorem d_Mo_isTurned_29 : decode y_Mo_isTurned.2.1 29 = .ok (.iconst 1, 1) := by decide +kernel
theorem d_Mo_isTurned_30 : decode y_Mo_isTurned.2.1 30 = .ok (.goto 4, 3) := by decide +kernel
theorem d_Mo_isTurned_33 : decode y_Mo_isTurned.2.1 33 = .ok (.iconst 0, 1) := by decide +kernel
theorem d_Mo_isTurned_34 : decode y_Mo_isTurned.2.1 34 = .ok (.ireturn, 1) := by decide +kernel
def y_Mo_shows : MethodName × ByteArray × Nat × Option FieldType × List (Nat × Nat × Nat × Nat) := (⟨"MaskedCausesModel", "shows", "(IIIII)Z"⟩, prog_13_method_37_code, 10, (Option.some Jvm.ClassFile.FieldType.boolean), [])
theorem d_Mo_shows_0 : decode y_Mo_shows.2.1 0 = .ok (.aload_n 0, 1) := by decide +kernel
theorem d_Mo_shows_1 : decode y_Mo_shows.2.1 1 = .ok (.getfield 56, 3) := by decide +kernel
theorem d_Mo_shows_4 : decode y_Mo_shows.2.1 4 = .ok (.bipush 64, 2) := by decide +kernel
theorem d_Mo_shows_6 : decode y_Mo_shows.2.1 6 = .ok (.iload_n 1, 1) := by decide +kernel
theorem d_Mo_shows_7 : decode y_Mo_shows.2.1 7 = .ok (.imul, 1) := by decide +kernel
theorem d_Mo_shows_8 : decode y_Mo_shows.2.1 8 = .ok (.iload 4, 2) := by decide +kernel
theorem d_Mo_shows_10 : decode y_Mo_shows.2.1 10 = .ok (.iadd, 1) := by decide +kernel
theorem d_Mo_shows_11 : decode y_Mo_shows.2.1 11 = .ok (.iaload, 1) := by decide +kernel
theorem d_Mo_shows_12 : decode y_Mo_shows.2.1 12 = .ok (.aload_n 0, 1) := by decide +kernel
theorem d_Mo_shows_13 : decode y_Mo_shows.2.1 13 = .ok (.getfield 56, 3) := by decide +kernel
theorem d_Mo_shows_16 : decode y_Mo_shows.2.1 16 = .ok (.bipush 64, 2) := by decide +kernel
theorem d_Mo_shows_18 : decode y_Mo_shows.2.1 18 = .ok (.iload_n 1, 1) := by decide +kernel
theorem d_Mo_shows_19 : decode y_Mo_shows.2.1 19 = .ok (.imul, 1) := by decide +kernel
theorem d_Mo_shows_20 : decode y_Mo_shows.2.1 20 = .ok (.iload 5, 2) := by decide +kernel
theorem d_Mo_shows_22 : decode y_Mo_shows.2.1 22 = .ok (.iadd, 1) := by decide +kernel
theorem d_Mo_shows_23 : decode y_Mo_shows.2.1 23 = .ok (.iaload, 1) := by decide +kernel
theorem d_Mo_shows_24 : decode y_Mo_shows.2.1 24 = .ok (.iand, 1) := by decide +kernel
theorem d_Mo_shows_25 : decode y_Mo_shows.2.1 25 = .ok (.istore 6, 2) := by decide +kernel
theorem d_Mo_shows_27 : decode y_Mo_shows.2.1 27 = .ok (.aload_n 0, 1) := by decide +kernel
theorem d_Mo_shows_28 : decode y_Mo_shows.2.1 28 = .ok (.getfield 47, 3) := by decide +kernel
theorem d_Mo_shows_31 : decode y_Mo_shows.2.1 31 = .ok (.bipush 64, 2) := by decide +kernel
theorem d_Mo_shows_33 : decode y_Mo_shows.2.1 33 = .ok (.iload_n 1, 1) := by decide +kernel
theorem d_Mo_shows_34 : decode y_Mo_shows.2.1 34 = .ok (.imul, 1) := by decide +kernel
theorem d_Mo_shows_35 : decode y_Mo_shows.2.1 35 = .ok (.iload 4, 2) := by decide +kernel
theorem d_Mo_shows_37 : decode y_Mo_shows.2.1 37 = .ok (.iadd, 1) := by decide +kernel
theorem d_Mo_shows_38 : decode y_Mo_shows.2.1 38 = .ok (.baload, 1) := by decide +kernel
theorem d_Mo_shows_39 : decode y_Mo_shows.2.1 39 = .ok (.ifCond .eq 66, 3) := by decide +kernel
theorem d_Mo_shows_42 : decode y_Mo_shows.2.1 42 = .ok (.aload_n 0, 1) := by decide +kernel
theorem d_Mo_shows_43 : decode y_Mo_shows.2.1 43 = .ok (.getfield 47, 3) := by decide +kernel
theorem d_Mo_shows_46 : decode y_Mo_shows.2.1 46 = .ok (.bipush 64, 2) := by decide +kernel
theorem d_Mo_shows_48 : decode y_Mo_shows.2.1 48 = .ok (.iload_n 1, 1) := by decide +kernel
theorem d_Mo_shows_49 : decode y_Mo_shows.2.1 49 = .ok (.imul, 1) := by decide +kernel
theorem d_Mo_shows_50 : decode y_Mo_shows.2.1 50 = .ok (.iload 5, 2) := by decide +kernel
theorem d_Mo_shows_52 : decode y_Mo_shows.2.1 52 = .ok (.iadd, 1) := by decide +kernel
theorem d_Mo_shows_53 : decode y_Mo_shows.2.1 53 = .ok (.baload, 1) := by decide +kernel
theorem d_Mo_shows_54 : decode y_Mo_shows.2.1 54 = .ok (.ifCond .eq 51, 3) := by decide +kernel
theorem d_Mo_shows_57 : decode y_Mo_shows.2.1 57 = .ok (.iload 6, 2) := by decide +kernel
theorem d_Mo_shows_59 : decode y_Mo_shows.2.1 59 = .ok (.iload_n 2, 1) := by decide +kernel
theorem d_Mo_shows_60 : decode y_Mo_shows.2.1 60 = .ok (.invokestatic 134, 3) := by decide +kernel
theorem d_Mo_shows_63 : decode y_Mo_shows.2.1 63 = .ok (.ifCond .eq 42, 3) := by decide +kernel
theorem d_Mo_shows_66 : decode y_Mo_shows.2.1 66 = .ok (.iload 4, 2) := by decide +kernel
theorem d_Mo_shows_68 : decode y_Mo_shows.2.1 68 = .ok (.iload 5, 2) := by decide +kernel
theorem d_Mo_shows_70 : decode y_Mo_shows.2.1 70 = .ok (.ixor, 1) := by decide +kernel
theorem d_Mo_shows_71 : decode y_Mo_shows.2.1 71 = .ok (.iload_n 2, 1) := by decide +kernel
theorem d_Mo_shows_72 : decode y_Mo_shows.2.1 72 = .ok (.invokestatic 134, 3) := by decide +kernel
theorem d_Mo_shows_75 : decode y_Mo_shows.2.1 75 = .ok (.ifCond .eq 30, 3) := by decide +kernel
theorem d_Mo_shows_78 : decode y_Mo_shows.2.1 78 = .ok (.aload_n 0, 1) := by decide +kernel
theorem d_Mo_shows_79 : decode y_Mo_shows.2.1 79 = .ok (.getfield 53, 3) := by decide +kernel
theorem d_Mo_shows_82 : decode y_Mo_shows.2.1 82 = .ok (.bipush 64, 2) := by decide +kernel
theorem d_Mo_shows_84 : decode y_Mo_shows.2.1 84 = .ok (.iload_n 1, 1) := by decide +kernel
theorem d_Mo_shows_85 : decode y_Mo_shows.2.1 85 = .ok (.imul, 1) := by decide +kernel
theorem d_Mo_shows_86 : decode y_Mo_shows.2.1 86 = .ok (.iload 4, 2) := by decide +kernel
theorem d_Mo_shows_88 : decode y_Mo_shows.2.1 88 = .ok (.iadd, 1) := by decide +kernel
theorem d_Mo_shows_89 : decode y_Mo_shows.2.1 89 = .ok (.baload, 1) := by decide +kernel
theorem d_Mo_shows_90 : decode y_Mo_shows.2.1 90 = .ok (.aload_n 0, 1) := by decide +kernel
theorem d_Mo_shows_91 : decode y_Mo_shows.2.1 91 = .ok (.getfield 53, 3) := by decide +kernel
theorem d_Mo_shows_94 : decode y_Mo_shows.2.1 94 = .ok (.bipush 64, 2) := by decide +kernel
theorem d_Mo_shows_96 : decode y_Mo_shows.2.1 96 = .ok (.iload_n 1, 1) := by decide +kernel
theorem d_Mo_shows_97 : decode y_Mo_shows.2.1 97 = .ok (.imul, 1) := by decide +kernel
theorem d_Mo_shows_98 : decode y_Mo_shows.2.1 98 = .ok (.iload 5, 2) := by decide +kernel
theorem d_Mo_shows_100 : decode y_Mo_shows.2.1 100 = .ok (.iadd, 1) := by decide +kernel
theorem d_Mo_shows_101 : decode y_Mo_shows.2.1 101 = .ok (.baload, 1) := by decide +kernel
theorem d_Mo_shows_102 : decode y_Mo_shows.2.1 102 = .ok (.if_icmp .ne 5, 3) := by decide +kernel
theorem d_Mo_shows_105 : decode y_Mo_shows.2.1 105 = .ok (.iconst 0, 1) := by decide +kernel
theorem d_Mo_shows_106 : decode y_Mo_shows.2.1 106 = .ok (.ireturn, 1) := by decide +kernel
theorem d_Mo_shows_107 : decode y_Mo_shows.2.1 107 = .ok (.iload_n 3, 1) := by decide +kernel
theorem d_Mo_shows_108 : decode y_Mo_shows.2.1 108 = .ok (.ifCond .eq 25, 3) := by decide +kernel
theorem d_Mo_shows_111 : decode y_Mo_shows.2.1 111 = .ok (.aload_n 0, 1) := by decide +kernel
theorem d_Mo_shows_112 : decode y_Mo_shows.2.1 112 = .ok (.iload_n 1, 1) := by decide +kernel
theorem d_Mo_shows_113 : decode y_Mo_shows.2.1 113 = .ok (.iload 4, 2) := by decide +kernel
theorem d_Mo_shows_115 : decode y_Mo_shows.2.1 115 = .ok (.iload_n 2, 1) := by decide +kernel
theorem d_Mo_shows_116 : decode y_Mo_shows.2.1 116 = .ok (.invokevirtual 180, 3) := by decide +kernel
theorem d_Mo_shows_119 : decode y_Mo_shows.2.1 119 = .ok (.ifCond .eq 18, 3) := by decide +kernel
theorem d_Mo_shows_122 : decode y_Mo_shows.2.1 122 = .ok (.aload_n 0, 1) := by decide +kernel
theorem d_Mo_shows_123 : decode y_Mo_shows.2.1 123 = .ok (.iload_n 1, 1) := by decide +kernel
theorem d_Mo_shows_124 : decode y_Mo_shows.2.1 124 = .ok (.iload 5, 2) := by decide +kernel
theorem d_Mo_shows_126 : decode y_Mo_shows.2.1 126 = .ok (.iload_n 2, 1) := by decide +kernel
theorem d_Mo_shows_127 : decode y_Mo_shows.2.1 127 = .ok (.invokevirtual 180, 3) := by decide +kernel
theorem d_Mo_shows_130 : decode y_Mo_shows.2.1 130 = .ok (.ifCond .eq 7, 3) := by decide +kernel
theorem d_Mo_shows_133 : decode y_Mo_shows.2.1 133 = .ok (.iconst 1, 1) := by decide +kernel
theorem d_Mo_shows_134 : decode y_Mo_shows.2.1 134 = .ok (.goto 4, 3) := by decide +kernel
theorem d_Mo_shows_137 : decode y_Mo_shows.2.1 137 = .ok (.iconst 0, 1) := by decide +kernel
theorem d_Mo_shows_138 : decode y_Mo_shows.2.1 138 = .ok (.istore 7, 2) := by decide +kernel
theorem d_Mo_shows_140 : decode y_Mo_shows.2.1 140 = .ok (.iconst 0, 1) := by decide +kernel
theorem d_Mo_shows_141 : decode y_Mo_shows.2.1 141 = .ok (.istore 8, 2) := by decide +kernel
theorem d_Mo_shows_143 : decode y_Mo_shows.2.1 143 = .ok (.iload 8, 2) := by decide +kernel
theorem d_Mo_shows_145 : decode y_Mo_shows.2.1 145 = .ok (.aload_n 0, 1) := by decide +kernel
theorem d_Mo_shows_146 : decode y_Mo_shows.2.1 146 = .ok (.getfield 41, 3) := by decide +kernel
theorem d_Mo_shows_149 : decode y_Mo_shows.2.1 149 = .ok (.iload_n 1, 1) := by decide +kernel
theorem d_Mo_shows_150 : decode y_Mo_shows.2.1 150 = .ok (.iaload, 1) := by decide +kernel
theorem d_Mo_shows_151 : decode y_Mo_shows.2.1 151 = .ok (.if_icmp .ge 82, 3) := by decide +kernel
theorem d_Mo_shows_154 : decode y_Mo_shows.2.1 154 = .ok (.iload 8, 2) := by decide +kernel
theorem d_Mo_shows_156 : decode y_Mo_shows.2.1 156 = .ok (.iload_n 2, 1) := by decide +kernel
theorem d_Mo_shows_157 : decode y_Mo_shows.2.1 157 = .ok (.if_icmp .eq 37, 3) := by decide +kernel
theorem d_Mo_shows_160 : decode y_Mo_shows.2.1 160 = .ok (.iload 6, 2) := by decide +kernel
theorem d_Mo_shows_162 : decode y_Mo_shows.2.1 162 = .ok (.iload 8, 2) := by decide +kernel
theorem d_Mo_shows_164 : decode y_Mo_shows.2.1 164 = .ok (.invokestatic 134, 3) := by decide +kernel
theorem d_Mo_shows_167 : decode y_Mo_shows.2.1 167 = .ok (.ifCond .eq 27, 3) := by decide +kernel
theorem d_Mo_shows_170 : decode y_Mo_shows.2.1 170 = .ok (.iload_n 3, 1) := by decide +kernel
theorem d_Mo_shows_171 : decode y_Mo_shows.2.1 171 = .ok (.ifCond .eq 19, 3) := by decide +kernel
theorem d_Mo_shows_174 : decode y_Mo_shows.2.1 174 = .ok (.iload_n 3, 1) := by decide +kernel
theorem d_Mo_shows_175 : decode y_Mo_shows.2.1 175 = .ok (.iconst 2, 1) := by decide +kernel
theorem d_Mo_shows_176 : decode y_Mo_shows.2.1 176 = .ok (.if_icmp .ne 18, 3) := by decide +kernel
theorem d_Mo_shows_179 : decode y_Mo_shows.2.1 179 = .ok (.aload_n 0, 1) := by decide +kernel
theorem d_Mo_shows_180 : decode y_Mo_shows.2.1 180 = .ok (.iload_n 1, 1) := by decide +kernel
theorem d_Mo_shows_181 : decode y_Mo_shows.2.1 181 = .ok (.iload_n 2, 1) := by decide +kernel
theorem d_Mo_shows_182 : decode y_Mo_shows.2.1 182 = .ok (.iload 8, 2) := by decide +kernel
theorem d_Mo_shows_184 : decode y_Mo_shows.2.1 184 = .ok (.invokevirtual 184, 3) := by decide +kernel
theorem d_Mo_shows_187 : decode y_Mo_shows.2.1 187 = .ok (.ifCond .ne 7, 3) := by decide +kernel
theorem d_Mo_shows_190 : decode y_Mo_shows.2.1 190 = .ok (.iconst 1, 1) := by decide +kernel
theorem d_Mo_shows_191 : decode y_Mo_shows.2.1 191 = .ok (.goto 4, 3) := by decide +kernel
theorem d_Mo_shows_194 : decode y_Mo_shows.2.1 194 = .ok (.iconst 0, 1) := by decide +kernel
theorem d_Mo_shows_195 : decode y_Mo_shows.2.1 195 = .ok (.istore 9, 2) := by decide +kernel
theorem d_Mo_shows_197 : decode y_Mo_shows.2.1 197 = .ok (.iload 7, 2) := by decide +kernel
theorem d_Mo_shows_199 : decode y_Mo_shows.2.1 199 = .ok (.ifCond .eq 25, 3) := by decide +kernel
theorem d_Mo_shows_202 : decode y_Mo_shows.2.1 202 = .ok (.iload 9, 2) := by decide +kernel
theorem d_Mo_shows_204 : decode y_Mo_shows.2.1 204 = .ok (.ifCond .eq 16, 3) := by decide +kernel
theorem d_Mo_shows_207 : decode y_Mo_shows.2.1 207 = .ok (.iload 4, 2) := by decide +kernel
theorem d_Mo_shows_209 : decode y_Mo_shows.2.1 209 = .ok (.iload 5, 2) := by decide +kernel
theorem d_Mo_shows_211 : decode y_Mo_shows.2.1 211 = .ok (.ixor, 1) := by decide +kernel
theorem d_Mo_shows_212 : decode y_Mo_shows.2.1 212 = .ok (.iload 8, 2) := by decide +kernel
theorem d_Mo_shows_214 : decode y_Mo_shows.2.1 214 = .ok (.invokestatic 134, 3) := by decide +kernel
theorem d_Mo_shows_217 : decode y_Mo_shows.2.1 217 = .ok (.ifCond .ne 7, 3) := by decide +kernel
theorem d_Mo_shows_220 : decode y_Mo_shows.2.1 220 = .ok (.iconst 1, 1) := by decide +kernel
theorem d_Mo_shows_221 : decode y_Mo_shows.2.1 221 = .ok (.goto 4, 3) := by decide +kernel
theorem d_Mo_shows_224 : decode y_Mo_shows.2.1 224 = .ok (.iconst 0, 1) := by decide +kernel
theorem d_Mo_shows_225 : decode y_Mo_shows.2.1 225 = .ok (.istore 7, 2) := by decide +kernel
theorem d_Mo_shows_227 : decode y_Mo_shows.2.1 227 = .ok (.iinc 8 1, 3) := by decide +kernel
theorem d_Mo_shows_230 : decode y_Mo_shows.2.1 230 = .ok (.goto (-87), 3) := by decide +kernel
theorem d_Mo_shows_233 : decode y_Mo_shows.2.1 233 = .ok (.iload 7, 2) := by decide +kernel
theorem d_Mo_shows_235 : decode y_Mo_shows.2.1 235 = .ok (.ireturn, 1) := by decide +kernel
def y_Mo_pairOf : MethodName × ByteArray × Nat × Option FieldType × List (Nat × Nat × Nat × Nat) := (⟨"MaskedCausesModel", "pairOf", "(III)I"⟩, prog_13_method_38_code, 6, (Option.some Jvm.ClassFile.FieldType.int), [])
theorem d_Mo_pairOf_0 : decode y_Mo_pairOf.2.1 0 = .ok (.iconst 0, 1) := by decide +kernel
theorem d_Mo_pairOf_1 : decode y_Mo_pairOf.2.1 1 = .ok (.istore 4, 2) := by decide +kernel
theorem d_Mo_pairOf_3 : decode y_Mo_pairOf.2.1 3 = .ok (.iload 4, 2) := by decide +kernel
theorem d_Mo_pairOf_5 : decode y_Mo_pairOf.2.1 5 = .ok (.iconst 1, 1) := by decide +kernel
theorem d_Mo_pairOf_6 : decode y_Mo_pairOf.2.1 6 = .ok (.aload_n 0, 1) := by decide +kernel
theorem d_Mo_pairOf_7 : decode y_Mo_pairOf.2.1 7 = .ok (.getfield 41, 3) := by decide +kernel
theorem d_Mo_pairOf_10 : decode y_Mo_pairOf.2.1 10 = .ok (.iload_n 1, 1) := by decide +kernel
theorem d_Mo_pairOf_11 : decode y_Mo_pairOf.2.1 11 = .ok (.iaload, 1) := by decide +kernel
theorem d_Mo_pairOf_12 : decode y_Mo_pairOf.2.1 12 = .ok (.ishl, 1) := by decide +kernel
theorem d_Mo_pairOf_13 : decode y_Mo_pairOf.2.1 13 = .ok (.if_icmp .ge 57, 3) := by decide +kernel
theorem d_Mo_pairOf_16 : decode y_Mo_pairOf.2.1 16 = .ok (.iload 4, 2) := by decide +kernel
theorem d_Mo_pairOf_18 : decode y_Mo_pairOf.2.1 18 = .ok (.iconst 1, 1) := by decide +kernel
theorem d_Mo_pairOf_19 : decode y_Mo_pairOf.2.1 19 = .ok (.iadd, 1) := by decide +kernel
theorem d_Mo_pairOf_20 : decode y_Mo_pairOf.2.1 20 = .ok (.istore 5, 2) := by decide +kernel
theorem d_Mo_pairOf_22 : decode y_Mo_pairOf.2.1 22 = .ok (.iload 5, 2) := by decide +kernel
theorem d_Mo_pairOf_24 : decode y_Mo_pairOf.2.1 24 = .ok (.iconst 1, 1) := by decide +kernel
theorem d_Mo_pairOf_25 : decode y_Mo_pairOf.2.1 25 = .ok (.aload_n 0, 1) := by decide +kernel
theorem d_Mo_pairOf_26 : decode y_Mo_pairOf.2.1 26 = .ok (.getfield 41, 3) := by decide +kernel
theorem d_Mo_pairOf_29 : decode y_Mo_pairOf.2.1 29 = .ok (.iload_n 1, 1) := by decide +kernel
theorem d_Mo_pairOf_30 : decode y_Mo_pairOf.2.1 30 = .ok (.iaload, 1) := by decide +kernel
theorem d_Mo_pairOf_31 : decode y_Mo_pairOf.2.1 31 = .ok (.ishl, 1) := by decide +kernel
theorem d_Mo_pairOf_32 : decode y_Mo_pairOf.2.1 32 = .ok (.if_icmp .ge 32, 3) := by decide +kernel
theorem d_Mo_pairOf_35 : decode y_Mo_pairOf.2.1 35 = .ok (.aload_n 0, 1) := by decide +kernel
theorem d_Mo_pairOf_36 : decode y_Mo_pairOf.2.1 36 = .ok (.iload_n 1, 1) := by decide +kernel
theorem d_Mo_pairOf_37 : decode y_Mo_pairOf.2.1 37 = .ok (.iload_n 2, 1) := by decide +kernel
theorem d_Mo_pairOf_38 : decode y_Mo_pairOf.2.1 38 = .ok (.iload_n 3, 1) := by decide +kernel
theorem d_Mo_pairOf_39 : decode y_Mo_pairOf.2.1 39 = .ok (.iload 4, 2) := by decide +kernel
theorem d_Mo_pairOf_41 : decode y_Mo_pairOf.2.1 41 = .ok (.iload 5, 2) := by decide +kernel
theorem d_Mo_pairOf_43 : decode y_Mo_pairOf.2.1 43 = .ok (.invokevirtual 187, 3) := by decide +kernel
theorem d_Mo_pairOf_46 : decode y_Mo_pairOf.2.1 46 = .ok (.ifCond .eq 12, 3) := by decide +kernel
theorem d_Mo_pairOf_49 : decode y_Mo_pairOf.2.1 49 = .ok (.bipush 100, 2) := by decide +kernel
theorem d_Mo_pairOf_51 : decode y_Mo_pairOf.2.1 51 = .ok (.iload 4, 2) := by decide +kernel
theorem d_Mo_pairOf_53 : decode y_Mo_pairOf.2.1 53 = .ok (.imul, 1) := by decide +kernel
theorem d_Mo_pairOf_54 : decode y_Mo_pairOf.2.1 54 = .ok (.iload 5, 2) := by decide +kernel
theorem d_Mo_pairOf_56 : decode y_Mo_pairOf.2.1 56 = .ok (.iadd, 1) := by decide +kernel
theorem d_Mo_pairOf_57 : decode y_Mo_pairOf.2.1 57 = .ok (.ireturn, 1) := by decide +kernel
theorem d_Mo_pairOf_58 : decode y_Mo_pairOf.2.1 58 = .ok (.iinc 5 1, 3) := by decide +kernel
theorem d_Mo_pairOf_61 : decode y_Mo_pairOf.2.1 61 = .ok (.goto (-39), 3) := by decide +kernel
theorem d_Mo_pairOf_64 : decode y_Mo_pairOf.2.1 64 = .ok (.iinc 4 1, 3) := by decide +kernel
theorem d_Mo_pairOf_67 : decode y_Mo_pairOf.2.1 67 = .ok (.goto (-64), 3) := by decide +kernel
theorem d_Mo_pairOf_70 : decode y_Mo_pairOf.2.1 70 = .ok (.iconst (-1), 1) := by decide +kernel
theorem d_Mo_pairOf_71 : decode y_Mo_pairOf.2.1 71 = .ok (.ireturn, 1) := by decide +kernel
def y_Mo_solve : MethodName × ByteArray × Nat × Option FieldType × List (Nat × Nat × Nat × Nat) := (⟨"MaskedCausesModel", "solve", "(III)I"⟩, prog_13_method_39_code, 4, (Option.some Jvm.ClassFile.FieldType.int), [])
theorem d_Mo_solve_0 : decode y_Mo_solve.2.1 0 = .ok (.aload_n 0, 1) := by decide +kernel
theorem d_Mo_solve_1 : decode y_Mo_solve.2.1 1 = .ok (.aload_n 0, 1) := by decide +kernel
theorem d_Mo_solve_2 : decode y_Mo_solve.2.1 2 = .ok (.iload_n 1, 1) := by decide +kernel
theorem d_Mo_solve_3 : decode y_Mo_solve.2.1 3 = .ok (.iload_n 2, 1) := by decide +kernel
theorem d_Mo_solve_4 : decode y_Mo_solve.2.1 4 = .ok (.invokevirtual 177, 3) := by decide +kernel
theorem d_Mo_solve_7 : decode y_Mo_solve.2.1 7 = .ok (.ifCond .ne 7, 3) := by decide +kernel
theorem d_Mo_solve_10 : decode y_Mo_solve.2.1 10 = .ok (.iconst 1, 1) := by decide +kernel
theorem d_Mo_solve_11 : decode y_Mo_solve.2.1 11 = .ok (.goto 4, 3) := by decide +kernel
theorem d_Mo_solve_14 : decode y_Mo_solve.2.1 14 = .ok (.iconst 0, 1) := by decide +kernel
theorem d_Mo_solve_15 : decode y_Mo_solve.2.1 15 = .ok (.iload_n 3, 1) := by decide +kernel
theorem d_Mo_solve_16 : decode y_Mo_solve.2.1 16 = .ok (.invokestatic 191, 3) := by decide +kernel
theorem d_Mo_solve_19 : decode y_Mo_solve.2.1 19 = .ok (.ifCond .ne 7, 3) := by decide +kernel
theorem d_Mo_solve_22 : decode y_Mo_solve.2.1 22 = .ok (.iconst 1, 1) := by decide +kernel
theorem d_Mo_solve_23 : decode y_Mo_solve.2.1 23 = .ok (.goto 4, 3) := by decide +kernel
theorem d_Mo_solve_26 : decode y_Mo_solve.2.1 26 = .ok (.iconst 0, 1) := by decide +kernel
theorem d_Mo_solve_27 : decode y_Mo_solve.2.1 27 = .ok (.invokevirtual 96, 3) := by decide +kernel
theorem d_Mo_solve_30 : decode y_Mo_solve.2.1 30 = .ok (.ifCond .eq 7, 3) := by decide +kernel
theorem d_Mo_solve_33 : decode y_Mo_solve.2.1 33 = .ok (.iconst 0, 1) := by decide +kernel
theorem d_Mo_solve_34 : decode y_Mo_solve.2.1 34 = .ok (.goto 10, 3) := by decide +kernel
theorem d_Mo_solve_37 : decode y_Mo_solve.2.1 37 = .ok (.aload_n 0, 1) := by decide +kernel
theorem d_Mo_solve_38 : decode y_Mo_solve.2.1 38 = .ok (.iload_n 1, 1) := by decide +kernel
theorem d_Mo_solve_39 : decode y_Mo_solve.2.1 39 = .ok (.iload_n 2, 1) := by decide +kernel
theorem d_Mo_solve_40 : decode y_Mo_solve.2.1 40 = .ok (.iload_n 3, 1) := by decide +kernel
theorem d_Mo_solve_41 : decode y_Mo_solve.2.1 41 = .ok (.invokevirtual 194, 3) := by decide +kernel
theorem d_Mo_solve_44 : decode y_Mo_solve.2.1 44 = .ok (.ireturn, 1) := by decide +kernel
def y_Mo_isShown : MethodName × ByteArray × Nat × Option FieldType × List (Nat × Nat × Nat × Nat) := (⟨"MaskedCausesModel", "isShown", "(III)Z"⟩, prog_13_method_40_code, 7, (Option.some Jvm.ClassFile.FieldType.boolean), [])
theorem d_Mo_isShown_0 : decode y_Mo_isShown.2.1 0 = .ok (.iconst 0, 1) := by decide +kernel
theorem d_Mo_isShown_1 : decode y_Mo_isShown.2.1 1 = .ok (.istore 4, 2) := by decide +kernel
theorem d_Mo_isShown_3 : decode y_Mo_isShown.2.1 3 = .ok (.iconst 0, 1) := by decide +kernel
theorem d_Mo_isShown_4 : decode y_Mo_isShown.2.1 4 = .ok (.istore 5, 2) := by decide +kernel
theorem d_Mo_isShown_6 : decode y_Mo_isShown.2.1 6 = .ok (.iload 5, 2) := by decide +kernel
theorem d_Mo_isShown_8 : decode y_Mo_isShown.2.1 8 = .ok (.aload_n 0, 1) := by decide +kernel
theorem d_Mo_isShown_9 : decode y_Mo_isShown.2.1 9 = .ok (.getfield 198, 3) := by decide +kernel
theorem d_Mo_isShown_12 : decode y_Mo_isShown.2.1 12 = .ok (.if_icmp .ge 61, 3) := by decide +kernel
theorem d_Mo_isShown_15 : decode y_Mo_isShown.2.1 15 = .ok (.iconst 0, 1) := by decide +kernel
theorem d_Mo_isShown_16 : decode y_Mo_isShown.2.1 16 = .ok (.istore 6, 2) := by decide +kernel
theorem d_Mo_isShown_18 : decode y_Mo_isShown.2.1 18 = .ok (.iload 6, 2) := by decide +kernel
theorem d_Mo_isShown_20 : decode y_Mo_isShown.2.1 20 = .ok (.iload 5, 2) := by decide +kernel
theorem d_Mo_isShown_22 : decode y_Mo_isShown.2.1 22 = .ok (.if_icmp .ge 45, 3) := by decide +kernel
theorem d_Mo_isShown_25 : decode y_Mo_isShown.2.1 25 = .ok (.iload 4, 2) := by decide +kernel
theorem d_Mo_isShown_27 : decode y_Mo_isShown.2.1 27 = .ok (.ifCond .ne 27, 3) := by decide +kernel
theorem d_Mo_isShown_30 : decode y_Mo_isShown.2.1 30 = .ok (.aload_n 0, 1) := by decide +kernel
theorem d_Mo_isShown_31 : decode y_Mo_isShown.2.1 31 = .ok (.iload_n 1, 1) := by decide +kernel
theorem d_Mo_isShown_32 : decode y_Mo_isShown.2.1 32 = .ok (.iload_n 2, 1) := by decide +kernel
theorem d_Mo_isShown_33 : decode y_Mo_isShown.2.1 33 = .ok (.iload_n 3, 1) := by decide +kernel
theorem d_Mo_isShown_34 : decode y_Mo_isShown.2.1 34 = .ok (.aload_n 0, 1) := by decide +kernel
theorem d_Mo_isShown_35 : decode y_Mo_isShown.2.1 35 = .ok (.getfield 74, 3) := by decide +kernel
theorem d_Mo_isShown_38 : decode y_Mo_isShown.2.1 38 = .ok (.iload 5, 2) := by decide +kernel
theorem d_Mo_isShown_40 : decode y_Mo_isShown.2.1 40 = .ok (.iaload, 1) := by decide +kernel
theorem d_Mo_isShown_41 : decode y_Mo_isShown.2.1 41 = .ok (.aload_n 0, 1) := by decide +kernel
theorem d_Mo_isShown_42 : decode y_Mo_isShown.2.1 42 = .ok (.getfield 74, 3) := by decide +kernel
theorem d_Mo_isShown_45 : decode y_Mo_isShown.2.1 45 = .ok (.iload 6, 2) := by decide +kernel
theorem d_Mo_isShown_47 : decode y_Mo_isShown.2.1 47 = .ok (.iaload, 1) := by decide +kernel
theorem d_Mo_isShown_48 : decode y_Mo_isShown.2.1 48 = .ok (.invokevirtual 187, 3) := by decide +kernel
theorem d_Mo_isShown_51 : decode y_Mo_isShown.2.1 51 = .ok (.ifCond .eq 7, 3) := by decide +kernel
theorem d_Mo_isShown_54 : decode y_Mo_isShown.2.1 54 = .ok (.iconst 1, 1) := by decide +kernel
theorem d_Mo_isShown_55 : decode y_Mo_isShown.2.1 55 = .ok (.goto 4, 3) := by decide +kernel
theorem d_Mo_isShown_58 : decode y_Mo_isShown.2.1 58 = .ok (.iconst 0, 1) := by decide +kernel
theorem d_Mo_isShown_59 : decode y_Mo_isShown.2.1 59 = .ok (.istore 4, 2) := by decide +kernel
theorem d_Mo_isShown_61 : decode y_Mo_isShown.2.1 61 = .ok (.iinc 6 1, 3) := by decide +kernel
theorem d_Mo_isShown_64 : decode y_Mo_isShown.2.1 64 = .ok (.goto (-46), 3) := by decide +kernel
theorem d_Mo_isShown_67 : decode y_Mo_isShown.2.1 67 = .ok (.iinc 5 1, 3) := by decide +kernel
theorem d_Mo_isShown_70 : decode y_Mo_isShown.2.1 70 = .ok (.goto (-64), 3) := by decide +kernel
theorem d_Mo_isShown_73 : decode y_Mo_isShown.2.1 73 = .ok (.iload 4, 2) := by decide +kernel
theorem d_Mo_isShown_75 : decode y_Mo_isShown.2.1 75 = .ok (.ireturn, 1) := by decide +kernel
def y_Mo_include : MethodName × ByteArray × Nat × Option FieldType × List (Nat × Nat × Nat × Nat) := (⟨"MaskedCausesModel", "include", "(I)V"⟩, prog_13_method_41_code, 4, (Option.none : Option Jvm.ClassFile.FieldType), [])
theorem d_Mo_include_0 : decode y_Mo_include.2.1 0 = .ok (.iconst 0, 1) := by decide +kernel
theorem d_Mo_include_1 : decode y_Mo_include.2.1 1 = .ok (.istore_n 2, 1) := by decide +kernel
theorem d_Mo_include_2 : decode y_Mo_include.2.1 2 = .ok (.iconst 0, 1) := by decide +kernel
theorem d_Mo_include_3 : decode y_Mo_include.2.1 3 = .ok (.istore_n 3, 1) := by decide +kernel
theorem d_Mo_include_4 : decode y_Mo_include.2.1 4 = .ok (.iload_n 3, 1) := by decide +kernel
theorem d_Mo_include_5 : decode y_Mo_include.2.1 5 = .ok (.aload_n 0, 1) := by decide +kernel
theorem d_Mo_include_6 : decode y_Mo_include.2.1 6 = .ok (.getfield 198, 3) := by decide +kernel
theorem d_Mo_include_9 : decode y_Mo_include.2.1 9 = .ok (.if_icmp .ge 29, 3) := by decide +kernel
theorem d_Mo_include_12 : decode y_Mo_include.2.1 12 = .ok (.iload_n 2, 1) := by decide +kernel
theorem d_Mo_include_13 : decode y_Mo_include.2.1 13 = .ok (.ifCond .ne 13, 3) := by decide +kernel
theorem d_Mo_include_16 : decode y_Mo_include.2.1 16 = .ok (.aload_n 0, 1) := by decide +kernel
theorem d_Mo_include_17 : decode y_Mo_include.2.1 17 = .ok (.getfield 74, 3) := by decide +kernel
theorem d_Mo_include_20 : decode y_Mo_include.2.1 20 = .ok (.iload_n 3, 1) := by decide +kernel
theorem d_Mo_include_21 : decode y_Mo_include.2.1 21 = .ok (.iaload, 1) := by decide +kernel
theorem d_Mo_include_22 : decode y_Mo_include.2.1 22 = .ok (.iload_n 1, 1) := by decide +kernel
theorem d_Mo_include_23 : decode y_Mo_include.2.1 23 = .ok (.if_icmp .ne 7, 3) := by decide +kernel
theorem d_Mo_include_26 : decode y_Mo_include.2.1 26 = .ok (.iconst 1, 1) := by decide +kernel
theorem d_Mo_include_27 : decode y_Mo_include.2.1 27 = .ok (.goto 4, 3) := by decide +kernel
theorem d_Mo_include_30 : decode y_Mo_include.2.1 30 = .ok (.iconst 0, 1) := by decide +kernel
theorem d_Mo_include_31 : decode y_Mo_include.2.1 31 = .ok (.istore_n 2, 1) := by decide +kernel
theorem d_Mo_include_32 : decode y_Mo_include.2.1 32 = .ok (.iinc 3 1, 3) := by decide +kernel
theorem d_Mo_include_35 : decode y_Mo_include.2.1 35 = .ok (.goto (-31), 3) := by decide +kernel
theorem d_Mo_include_38 : decode y_Mo_include.2.1 38 = .ok (.iload_n 2, 1) := by decide +kernel
theorem d_Mo_include_39 : decode y_Mo_include.2.1 39 = .ok (.ifCond .ne 23, 3) := by decide +kernel
theorem d_Mo_include_42 : decode y_Mo_include.2.1 42 = .ok (.aload_n 0, 1) := by decide +kernel
theorem d_Mo_include_43 : decode y_Mo_include.2.1 43 = .ok (.getfield 74, 3) := by decide +kernel
theorem d_Mo_include_46 : decode y_Mo_include.2.1 46 = .ok (.aload_n 0, 1) := by decide +kernel
theorem d_Mo_include_47 : decode y_Mo_include.2.1 47 = .ok (.getfield 198, 3) := by decide +kernel
theorem d_Mo_include_50 : decode y_Mo_include.2.1 50 = .ok (.iload_n 1, 1) := by decide +kernel
theorem d_Mo_include_51 : decode y_Mo_include.2.1 51 = .ok (.iastore, 1) := by decide +kernel
theorem d_Mo_include_52 : decode y_Mo_include.2.1 52 = .ok (.aload_n 0, 1) := by decide +kernel
theorem d_Mo_include_53 : decode y_Mo_include.2.1 53 = .ok (.dup, 1) := by decide +kernel
theorem d_Mo_include_54 : decode y_Mo_include.2.1 54 = .ok (.getfield 198, 3) := by decide +kernel
theorem d_Mo_include_57 : decode y_Mo_include.2.1 57 = .ok (.iconst 1, 1) := by decide +kernel
theorem d_Mo_include_58 : decode y_Mo_include.2.1 58 = .ok (.iadd, 1) := by decide +kernel
theorem d_Mo_include_59 : decode y_Mo_include.2.1 59 = .ok (.putfield 198, 3) := by decide +kernel
theorem d_Mo_include_62 : decode y_Mo_include.2.1 62 = .ok (.return_, 1) := by decide +kernel
def y_Mo_suite : MethodName × ByteArray × Nat × Option FieldType × List (Nat × Nat × Nat × Nat) := (⟨"MaskedCausesModel", "suite", "(II)I"⟩, prog_13_method_42_code, 5, (Option.some Jvm.ClassFile.FieldType.int), [])
theorem d_Mo_suite_0 : decode y_Mo_suite.2.1 0 = .ok (.aload_n 0, 1) := by decide +kernel
theorem d_Mo_suite_1 : decode y_Mo_suite.2.1 1 = .ok (.aload_n 0, 1) := by decide +kernel
theorem d_Mo_suite_2 : decode y_Mo_suite.2.1 2 = .ok (.iload_n 1, 1) := by decide +kernel
theorem d_Mo_suite_3 : decode y_Mo_suite.2.1 3 = .ok (.invokevirtual 159, 3) := by decide +kernel
theorem d_Mo_suite_6 : decode y_Mo_suite.2.1 6 = .ok (.ifCond .ne 7, 3) := by decide +kernel
theorem d_Mo_suite_9 : decode y_Mo_suite.2.1 9 = .ok (.iconst 1, 1) := by decide +kernel
theorem d_Mo_suite_10 : decode y_Mo_suite.2.1 10 = .ok (.goto 4, 3) := by decide +kernel
theorem d_Mo_suite_13 : decode y_Mo_suite.2.1 13 = .ok (.iconst 0, 1) := by decide +kernel
theorem d_Mo_suite_14 : decode y_Mo_suite.2.1 14 = .ok (.iload_n 2, 1) := by decide +kernel
theorem d_Mo_suite_15 : decode y_Mo_suite.2.1 15 = .ok (.invokestatic 191, 3) := by decide +kernel
theorem d_Mo_suite_18 : decode y_Mo_suite.2.1 18 = .ok (.ifCond .ne 7, 3) := by decide +kernel
theorem d_Mo_suite_21 : decode y_Mo_suite.2.1 21 = .ok (.iconst 1, 1) := by decide +kernel
theorem d_Mo_suite_22 : decode y_Mo_suite.2.1 22 = .ok (.goto 4, 3) := by decide +kernel
theorem d_Mo_suite_25 : decode y_Mo_suite.2.1 25 = .ok (.iconst 0, 1) := by decide +kernel
theorem d_Mo_suite_26 : decode y_Mo_suite.2.1 26 = .ok (.invokevirtual 96, 3) := by decide +kernel
theorem d_Mo_suite_29 : decode y_Mo_suite.2.1 29 = .ok (.ifCond .eq 5, 3) := by decide +kernel
theorem d_Mo_suite_32 : decode y_Mo_suite.2.1 32 = .ok (.iconst 0, 1) := by decide +kernel
theorem d_Mo_suite_33 : decode y_Mo_suite.2.1 33 = .ok (.ireturn, 1) := by decide +kernel
theorem d_Mo_suite_34 : decode y_Mo_suite.2.1 34 = .ok (.aload_n 0, 1) := by decide +kernel
theorem d_Mo_suite_35 : decode y_Mo_suite.2.1 35 = .ok (.iconst 0, 1) := by decide +kernel
theorem d_Mo_suite_36 : decode y_Mo_suite.2.1 36 = .ok (.putfield 198, 3) := by decide +kernel
theorem d_Mo_suite_39 : decode y_Mo_suite.2.1 39 = .ok (.iconst 0, 1) := by decide +kernel
theorem d_Mo_suite_40 : decode y_Mo_suite.2.1 40 = .ok (.istore_n 3, 1) := by decide +kernel
theorem d_Mo_suite_41 : decode y_Mo_suite.2.1 41 = .ok (.iload_n 3, 1) := by decide +kernel
theorem d_Mo_suite_42 : decode y_Mo_suite.2.1 42 = .ok (.aload_n 0, 1) := by decide +kernel
theorem d_Mo_suite_43 : decode y_Mo_suite.2.1 43 = .ok (.getfield 41, 3) := by decide +kernel
theorem d_Mo_suite_46 : decode y_Mo_suite.2.1 46 = .ok (.iload_n 1, 1) := by decide +kernel
theorem d_Mo_suite_47 : decode y_Mo_suite.2.1 47 = .ok (.iaload, 1) := by decide +kernel
theorem d_Mo_suite_48 : decode y_Mo_suite.2.1 48 = .ok (.if_icmp .ge 51, 3) := by decide +kernel
theorem d_Mo_suite_51 : decode y_Mo_suite.2.1 51 = .ok (.aload_n 0, 1) := by decide +kernel
theorem d_Mo_suite_52 : decode y_Mo_suite.2.1 52 = .ok (.iload_n 1, 1) := by decide +kernel
theorem d_Mo_suite_53 : decode y_Mo_suite.2.1 53 = .ok (.iload_n 3, 1) := by decide +kernel
theorem d_Mo_suite_54 : decode y_Mo_suite.2.1 54 = .ok (.iload_n 2, 1) := by decide +kernel
theorem d_Mo_suite_55 : decode y_Mo_suite.2.1 55 = .ok (.invokevirtual 194, 3) := by decide +kernel
theorem d_Mo_suite_58 : decode y_Mo_suite.2.1 58 = .ok (.istore 4, 2) := by decide +kernel
theorem d_Mo_suite_60 : decode y_Mo_suite.2.1 60 = .ok (.iload 4, 2) := by decide +kernel
theorem d_Mo_suite_62 : decode y_Mo_suite.2.1 62 = .ok (.ifCond .lt 31, 3) := by decide +kernel
theorem d_Mo_suite_65 : decode y_Mo_suite.2.1 65 = .ok (.aload_n 0, 1) := by decide +kernel
theorem d_Mo_suite_66 : decode y_Mo_suite.2.1 66 = .ok (.iload_n 1, 1) := by decide +kernel
theorem d_Mo_suite_67 : decode y_Mo_suite.2.1 67 = .ok (.iload_n 3, 1) := by decide +kernel
theorem d_Mo_suite_68 : decode y_Mo_suite.2.1 68 = .ok (.iload_n 2, 1) := by decide +kernel
theorem d_Mo_suite_69 : decode y_Mo_suite.2.1 69 = .ok (.invokevirtual 201, 3) := by decide +kernel
theorem d_Mo_suite_72 : decode y_Mo_suite.2.1 72 = .ok (.ifCond .ne 21, 3) := by decide +kernel
theorem d_Mo_suite_75 : decode y_Mo_suite.2.1 75 = .ok (.aload_n 0, 1) := by decide +kernel
theorem d_Mo_suite_76 : decode y_Mo_suite.2.1 76 = .ok (.iload 4, 2) := by decide +kernel
theorem d_Mo_suite_78 : decode y_Mo_suite.2.1 78 = .ok (.bipush 100, 2) := by decide +kernel
theorem d_Mo_suite_80 : decode y_Mo_suite.2.1 80 = .ok (.idiv, 1) := by decide +kernel
theorem d_Mo_suite_81 : decode y_Mo_suite.2.1 81 = .ok (.invokevirtual 204, 3) := by decide +kernel
theorem d_Mo_suite_84 : decode y_Mo_suite.2.1 84 = .ok (.aload_n 0, 1) := by decide +kernel
theorem d_Mo_suite_85 : decode y_Mo_suite.2.1 85 = .ok (.iload 4, 2) := by decide +kernel
theorem d_Mo_suite_87 : decode y_Mo_suite.2.1 87 = .ok (.bipush 100, 2) := by decide +kernel
theorem d_Mo_suite_89 : decode y_Mo_suite.2.1 89 = .ok (.irem, 1) := by decide +kernel
theorem d_Mo_suite_90 : decode y_Mo_suite.2.1 90 = .ok (.invokevirtual 204, 3) := by decide +kernel
theorem d_Mo_suite_93 : decode y_Mo_suite.2.1 93 = .ok (.iinc 3 1, 3) := by decide +kernel
theorem d_Mo_suite_96 : decode y_Mo_suite.2.1 96 = .ok (.goto (-55), 3) := by decide +kernel
theorem d_Mo_suite_99 : decode y_Mo_suite.2.1 99 = .ok (.aload_n 0, 1) := by decide +kernel
theorem d_Mo_suite_100 : decode y_Mo_suite.2.1 100 = .ok (.getfield 198, 3) := by decide +kernel
theorem d_Mo_suite_103 : decode y_Mo_suite.2.1 103 = .ok (.ireturn, 1) := by decide +kernel
def y_Mo_suiteAt : MethodName × ByteArray × Nat × Option FieldType × List (Nat × Nat × Nat × Nat) := (⟨"MaskedCausesModel", "suiteAt", "(I)I"⟩, prog_13_method_43_code, 2, (Option.some Jvm.ClassFile.FieldType.int), [])
theorem d_Mo_suiteAt_0 : decode y_Mo_suiteAt.2.1 0 = .ok (.aload_n 0, 1) := by decide +kernel
theorem d_Mo_suiteAt_1 : decode y_Mo_suiteAt.2.1 1 = .ok (.iconst 0, 1) := by decide +kernel
theorem d_Mo_suiteAt_2 : decode y_Mo_suiteAt.2.1 2 = .ok (.putfield 86, 3) := by decide +kernel
theorem d_Mo_suiteAt_5 : decode y_Mo_suiteAt.2.1 5 = .ok (.iload_n 1, 1) := by decide +kernel
theorem d_Mo_suiteAt_6 : decode y_Mo_suiteAt.2.1 6 = .ok (.ifCond .lt 20, 3) := by decide +kernel
theorem d_Mo_suiteAt_9 : decode y_Mo_suiteAt.2.1 9 = .ok (.iload_n 1, 1) := by decide +kernel
theorem d_Mo_suiteAt_10 : decode y_Mo_suiteAt.2.1 10 = .ok (.aload_n 0, 1) := by decide +kernel
theorem d_Mo_suiteAt_11 : decode y_Mo_suiteAt.2.1 11 = .ok (.getfield 198, 3) := by decide +kernel
theorem d_Mo_suiteAt_14 : decode y_Mo_suiteAt.2.1 14 = .ok (.if_icmp .ge 12, 3) := by decide +kernel
theorem d_Mo_suiteAt_17 : decode y_Mo_suiteAt.2.1 17 = .ok (.aload_n 0, 1) := by decide +kernel
theorem d_Mo_suiteAt_18 : decode y_Mo_suiteAt.2.1 18 = .ok (.getfield 74, 3) := by decide +kernel
theorem d_Mo_suiteAt_21 : decode y_Mo_suiteAt.2.1 21 = .ok (.iload_n 1, 1) := by decide +kernel
theorem d_Mo_suiteAt_22 : decode y_Mo_suiteAt.2.1 22 = .ok (.iaload, 1) := by decide +kernel
theorem d_Mo_suiteAt_23 : decode y_Mo_suiteAt.2.1 23 = .ok (.goto 4, 3) := by decide +kernel
theorem d_Mo_suiteAt_26 : decode y_Mo_suiteAt.2.1 26 = .ok (.iconst (-1), 1) := by decide +kernel
theorem d_Mo_suiteAt_27 : decode y_Mo_suiteAt.2.1 27 = .ok (.ireturn, 1) := by decide +kernel
def y_Mo_isEnough : MethodName × ByteArray × Nat × Option FieldType × List (Nat × Nat × Nat × Nat) := (⟨"MaskedCausesModel", "isEnough", "(II)Z"⟩, prog_13_method_44_code, 8, (Option.some Jvm.ClassFile.FieldType.boolean), [])
theorem d_Mo_isEnough_0 : decode y_Mo_isEnough.2.1 0 = .ok (.iconst 1, 1) := by decide +kernel
theorem d_Mo_isEnough_1 : decode y_Mo_isEnough.2.1 1 = .ok (.istore_n 3, 1) := by decide +kernel
theorem d_Mo_isEnough_2 : decode y_Mo_isEnough.2.1 2 = .ok (.iconst 0, 1) := by decide +kernel
theorem d_Mo_isEnough_3 : decode y_Mo_isEnough.2.1 3 = .ok (.istore 4, 2) := by decide +kernel
theorem d_Mo_isEnough_5 : decode y_Mo_isEnough.2.1 5 = .ok (.iload 4, 2) := by decide +kernel
theorem d_Mo_isEnough_7 : decode y_Mo_isEnough.2.1 7 = .ok (.aload_n 0, 1) := by decide +kernel
theorem d_Mo_isEnough_8 : decode y_Mo_isEnough.2.1 8 = .ok (.getfield 41, 3) := by decide +kernel
theorem d_Mo_isEnough_11 : decode y_Mo_isEnough.2.1 11 = .ok (.iload_n 1, 1) := by decide +kernel
theorem d_Mo_isEnough_12 : decode y_Mo_isEnough.2.1 12 = .ok (.iaload, 1) := by decide +kernel
theorem d_Mo_isEnough_13 : decode y_Mo_isEnough.2.1 13 = .ok (.if_icmp .ge 124, 3) := by decide +kernel
theorem d_Mo_isEnough_16 : decode y_Mo_isEnough.2.1 16 = .ok (.iload_n 3, 1) := by decide +kernel
theorem d_Mo_isEnough_17 : decode y_Mo_isEnough.2.1 17 = .ok (.ifCond .eq 120, 3) := by decide +kernel
theorem d_Mo_isEnough_20 : decode y_Mo_isEnough.2.1 20 = .ok (.iconst 0, 1) := by decide +kernel
theorem d_Mo_isEnough_21 : decode y_Mo_isEnough.2.1 21 = .ok (.istore 5, 2) := by decide +kernel
theorem d_Mo_isEnough_23 : decode y_Mo_isEnough.2.1 23 = .ok (.iconst 0, 1) := by decide +kernel
theorem d_Mo_isEnough_24 : decode y_Mo_isEnough.2.1 24 = .ok (.istore 6, 2) := by decide +kernel
theorem d_Mo_isEnough_26 : decode y_Mo_isEnough.2.1 26 = .ok (.iconst 0, 1) := by decide +kernel
theorem d_Mo_isEnough_27 : decode y_Mo_isEnough.2.1 27 = .ok (.istore 7, 2) := by decide +kernel
theorem d_Mo_isEnough_29 : decode y_Mo_isEnough.2.1 29 = .ok (.iload 7, 2) := by decide +kernel
theorem d_Mo_isEnough_31 : decode y_Mo_isEnough.2.1 31 = .ok (.iconst 1, 1) := by decide +kernel
theorem d_Mo_isEnough_32 : decode y_Mo_isEnough.2.1 32 = .ok (.aload_n 0, 1) := by decide +kernel
theorem d_Mo_isEnough_33 : decode y_Mo_isEnough.2.1 33 = .ok (.getfield 41, 3) := by decide +kernel
theorem d_Mo_isEnough_36 : decode y_Mo_isEnough.2.1 36 = .ok (.iload_n 1, 1) := by decide +kernel
theorem d_Mo_isEnough_37 : decode y_Mo_isEnough.2.1 37 = .ok (.iaload, 1) := by decide +kernel
theorem d_Mo_isEnough_38 : decode y_Mo_isEnough.2.1 38 = .ok (.ishl, 1) := by decide +kernel
theorem d_Mo_isEnough_39 : decode y_Mo_isEnough.2.1 39 = .ok (.if_icmp .ge 76, 3) := by decide +kernel
theorem d_Mo_isEnough_42 : decode y_Mo_isEnough.2.1 42 = .ok (.iload 5, 2) := by decide +kernel
theorem d_Mo_isEnough_44 : decode y_Mo_isEnough.2.1 44 = .ok (.ifCond .ne 19, 3) := by decide +kernel
theorem d_Mo_isEnough_47 : decode y_Mo_isEnough.2.1 47 = .ok (.aload_n 0, 1) := by decide +kernel
theorem d_Mo_isEnough_48 : decode y_Mo_isEnough.2.1 48 = .ok (.getfield 77, 3) := by decide +kernel
theorem d_Mo_isEnough_51 : decode y_Mo_isEnough.2.1 51 = .ok (.bipush 16, 2) := by decide +kernel
theorem d_Mo_isEnough_53 : decode y_Mo_isEnough.2.1 53 = .ok (.iload 4, 2) := by decide +kernel
theorem d_Mo_isEnough_55 : decode y_Mo_isEnough.2.1 55 = .ok (.imul, 1) := by decide +kernel
theorem d_Mo_isEnough_56 : decode y_Mo_isEnough.2.1 56 = .ok (.iload 7, 2) := by decide +kernel
theorem d_Mo_isEnough_58 : decode y_Mo_isEnough.2.1 58 = .ok (.iadd, 1) := by decide +kernel
theorem d_Mo_isEnough_59 : decode y_Mo_isEnough.2.1 59 = .ok (.iaload, 1) := by decide +kernel
theorem d_Mo_isEnough_60 : decode y_Mo_isEnough.2.1 60 = .ok (.ifCond .eq 7, 3) := by decide +kernel
theorem d_Mo_isEnough_63 : decode y_Mo_isEnough.2.1 63 = .ok (.iconst 1, 1) := by decide +kernel
theorem d_Mo_isEnough_64 : decode y_Mo_isEnough.2.1 64 = .ok (.goto 4, 3) := by decide +kernel
theorem d_Mo_isEnough_67 : decode y_Mo_isEnough.2.1 67 = .ok (.iconst 0, 1) := by decide +kernel
theorem d_Mo_isEnough_68 : decode y_Mo_isEnough.2.1 68 = .ok (.istore 5, 2) := by decide +kernel
theorem d_Mo_isEnough_70 : decode y_Mo_isEnough.2.1 70 = .ok (.iload 6, 2) := by decide +kernel
theorem d_Mo_isEnough_72 : decode y_Mo_isEnough.2.1 72 = .ok (.ifCond .ne 30, 3) := by decide +kernel
theorem d_Mo_isEnough_75 : decode y_Mo_isEnough.2.1 75 = .ok (.iload_n 2, 1) := by decide +kernel
theorem d_Mo_isEnough_76 : decode y_Mo_isEnough.2.1 76 = .ok (.iload 7, 2) := by decide +kernel
theorem d_Mo_isEnough_78 : decode y_Mo_isEnough.2.1 78 = .ok (.invokestatic 134, 3) := by decide +kernel
theorem d_Mo_isEnough_81 : decode y_Mo_isEnough.2.1 81 = .ok (.ifCond .eq 25, 3) := by decide +kernel
theorem d_Mo_isEnough_84 : decode y_Mo_isEnough.2.1 84 = .ok (.aload_n 0, 1) := by decide +kernel
theorem d_Mo_isEnough_85 : decode y_Mo_isEnough.2.1 85 = .ok (.getfield 77, 3) := by decide +kernel
theorem d_Mo_isEnough_88 : decode y_Mo_isEnough.2.1 88 = .ok (.bipush 16, 2) := by decide +kernel
theorem d_Mo_isEnough_90 : decode y_Mo_isEnough.2.1 90 = .ok (.iload 4, 2) := by decide +kernel
theorem d_Mo_isEnough_92 : decode y_Mo_isEnough.2.1 92 = .ok (.imul, 1) := by decide +kernel
theorem d_Mo_isEnough_93 : decode y_Mo_isEnough.2.1 93 = .ok (.iload 7, 2) := by decide +kernel
theorem d_Mo_isEnough_95 : decode y_Mo_isEnough.2.1 95 = .ok (.iadd, 1) := by decide +kernel
theorem d_Mo_isEnough_96 : decode y_Mo_isEnough.2.1 96 = .ok (.iaload, 1) := by decide +kernel
theorem d_Mo_isEnough_97 : decode y_Mo_isEnough.2.1 97 = .ok (.iload_n 2, 1) := by decide +kernel
theorem d_Mo_isEnough_98 : decode y_Mo_isEnough.2.1 98 = .ok (.iand, 1) := by decide +kernel
theorem d_Mo_isEnough_99 : decode y_Mo_isEnough.2.1 99 = .ok (.ifCond .eq 7, 3) := by decide +kernel
theorem d_Mo_isEnough_102 : decode y_Mo_isEnough.2.1 102 = .ok (.iconst 1, 1) := by decide +kernel
theorem d_Mo_isEnough_103 : decode y_Mo_isEnough.2.1 103 = .ok (.goto 4, 3) := by decide +kernel
theorem d_Mo_isEnough_106 : decode y_Mo_isEnough.2.1 106 = .ok (.iconst 0, 1) := by decide +kernel
theorem d_Mo_isEnough_107 : decode y_Mo_isEnough.2.1 107 = .ok (.istore 6, 2) := by decide +kernel
theorem d_Mo_isEnough_109 : decode y_Mo_isEnough.2.1 109 = .ok (.iinc 7 1, 3) := by decide +kernel
theorem d_Mo_isEnough_112 : decode y_Mo_isEnough.2.1 112 = .ok (.goto (-83), 3) := by decide +kernel
theorem d_Mo_isEnough_115 : decode y_Mo_isEnough.2.1 115 = .ok (.iload 6, 2) := by decide +kernel
theorem d_Mo_isEnough_117 : decode y_Mo_isEnough.2.1 117 = .ok (.ifCond .ne 8, 3) := by decide +kernel
theorem d_Mo_isEnough_120 : decode y_Mo_isEnough.2.1 120 = .ok (.iload 5, 2) := by decide +kernel
theorem d_Mo_isEnough_122 : decode y_Mo_isEnough.2.1 122 = .ok (.ifCond .ne 7, 3) := by decide +kernel
theorem d_Mo_isEnough_125 : decode y_Mo_isEnough.2.1 125 = .ok (.iconst 1, 1) := by decide +kernel
theorem d_Mo_isEnough_126 : decode y_Mo_isEnough.2.1 126 = .ok (.goto 4, 3) := by decide +kernel
theorem d_Mo_isEnough_129 : decode y_Mo_isEnough.2.1 129 = .ok (.iconst 0, 1) := by decide +kernel
theorem d_Mo_isEnough_130 : decode y_Mo_isEnough.2.1 130 = .ok (.istore_n 3, 1) := by decide +kernel
theorem d_Mo_isEnough_131 : decode y_Mo_isEnough.2.1 131 = .ok (.iinc 4 1, 3) := by decide +kernel
theorem d_Mo_isEnough_134 : decode y_Mo_isEnough.2.1 134 = .ok (.goto (-129), 3) := by decide +kernel
theorem d_Mo_isEnough_137 : decode y_Mo_isEnough.2.1 137 = .ok (.iload_n 3, 1) := by decide +kernel
theorem d_Mo_isEnough_138 : decode y_Mo_isEnough.2.1 138 = .ok (.ireturn, 1) := by decide +kernel
def y_Mo_least : MethodName × ByteArray × Nat × Option FieldType × List (Nat × Nat × Nat × Nat) := (⟨"MaskedCausesModel", "least", "(II)I"⟩, prog_13_method_45_code, 7, (Option.some Jvm.ClassFile.FieldType.int), [])
theorem d_Mo_least_0 : decode y_Mo_least.2.1 0 = .ok (.aload_n 0, 1) := by decide +kernel
theorem d_Mo_least_1 : decode y_Mo_least.2.1 1 = .ok (.aload_n 0, 1) := by decide +kernel
theorem d_Mo_least_2 : decode y_Mo_least.2.1 2 = .ok (.iload_n 1, 1) := by decide +kernel
theorem d_Mo_least_3 : decode y_Mo_least.2.1 3 = .ok (.invokevirtual 159, 3) := by decide +kernel
theorem d_Mo_least_6 : decode y_Mo_least.2.1 6 = .ok (.ifCond .ne 7, 3) := by decide +kernel
theorem d_Mo_least_9 : decode y_Mo_least.2.1 9 = .ok (.iconst 1, 1) := by decide +kernel
theorem d_Mo_least_10 : decode y_Mo_least.2.1 10 = .ok (.goto 4, 3) := by decide +kernel
theorem d_Mo_least_13 : decode y_Mo_least.2.1 13 = .ok (.iconst 0, 1) := by decide +kernel
theorem d_Mo_least_14 : decode y_Mo_least.2.1 14 = .ok (.iload_n 2, 1) := by decide +kernel
theorem d_Mo_least_15 : decode y_Mo_least.2.1 15 = .ok (.invokestatic 191, 3) := by decide +kernel
theorem d_Mo_least_18 : decode y_Mo_least.2.1 18 = .ok (.ifCond .ne 7, 3) := by decide +kernel
theorem d_Mo_least_21 : decode y_Mo_least.2.1 21 = .ok (.iconst 1, 1) := by decide +kernel
theorem d_Mo_least_22 : decode y_Mo_least.2.1 22 = .ok (.goto 4, 3) := by decide +kernel
theorem d_Mo_least_25 : decode y_Mo_least.2.1 25 = .ok (.iconst 0, 1) := by decide +kernel
theorem d_Mo_least_26 : decode y_Mo_least.2.1 26 = .ok (.invokevirtual 96, 3) := by decide +kernel
theorem d_Mo_least_29 : decode y_Mo_least.2.1 29 = .ok (.ifCond .eq 5, 3) := by decide +kernel
theorem d_Mo_least_32 : decode y_Mo_least.2.1 32 = .ok (.iconst 0, 1) := by decide +kernel
theorem d_Mo_least_33 : decode y_Mo_least.2.1 33 = .ok (.ireturn, 1) := by decide +kernel
theorem d_Mo_least_34 : decode y_Mo_least.2.1 34 = .ok (.aload_n 0, 1) := by decide +kernel
theorem d_Mo_least_35 : decode y_Mo_least.2.1 35 = .ok (.getfield 41, 3) := by decide +kernel
theorem d_Mo_least_38 : decode y_Mo_least.2.1 38 = .ok (.iload_n 1, 1) := by decide +kernel
theorem d_Mo_least_39 : decode y_Mo_least.2.1 39 = .ok (.iaload, 1) := by decide +kernel
theorem d_Mo_least_40 : decode y_Mo_least.2.1 40 = .ok (.iconst 4, 1) := by decide +kernel
theorem d_Mo_least_41 : decode y_Mo_least.2.1 41 = .ok (.if_icmp .le 5, 3) := by decide +kernel
theorem d_Mo_least_44 : decode y_Mo_least.2.1 44 = .ok (.iconst (-1), 1) := by decide +kernel
theorem d_Mo_least_45 : decode y_Mo_least.2.1 45 = .ok (.ireturn, 1) := by decide +kernel
theorem d_Mo_least_46 : decode y_Mo_least.2.1 46 = .ok (.iconst 1, 1) := by decide +kernel
theorem d_Mo_least_47 : decode y_Mo_least.2.1 47 = .ok (.aload_n 0, 1) := by decide +kernel
theorem d_Mo_least_48 : decode y_Mo_least.2.1 48 = .ok (.getfield 41, 3) := by decide +kernel
theorem d_Mo_least_51 : decode y_Mo_least.2.1 51 = .ok (.iload_n 1, 1) := by decide +kernel
theorem d_Mo_least_52 : decode y_Mo_least.2.1 52 = .ok (.iaload, 1) := by decide +kernel
theorem d_Mo_least_53 : decode y_Mo_least.2.1 53 = .ok (.ishl, 1) := by decide +kernel
theorem d_Mo_least_54 : decode y_Mo_least.2.1 54 = .ok (.istore_n 3, 1) := by decide +kernel
theorem d_Mo_least_55 : decode y_Mo_least.2.1 55 = .ok (.iconst 0, 1) := by decide +kernel
theorem d_Mo_least_56 : decode y_Mo_least.2.1 56 = .ok (.istore 4, 2) := by decide +kernel
theorem d_Mo_least_58 : decode y_Mo_least.2.1 58 = .ok (.iload 4, 2) := by decide +kernel
theorem d_Mo_least_60 : decode y_Mo_least.2.1 60 = .ok (.aload_n 0, 1) := by decide +kernel
theorem d_Mo_least_61 : decode y_Mo_least.2.1 61 = .ok (.getfield 41, 3) := by decide +kernel
theorem d_Mo_least_64 : decode y_Mo_least.2.1 64 = .ok (.iload_n 1, 1) := by decide +kernel
theorem d_Mo_least_65 : decode y_Mo_least.2.1 65 = .ok (.iaload, 1) := by decide +kernel
theorem d_Mo_least_66 : decode y_Mo_least.2.1 66 = .ok (.if_icmp .ge 115, 3) := by decide +kernel
theorem d_Mo_least_69 : decode y_Mo_least.2.1 69 = .ok (.iconst 0, 1) := by decide +kernel
theorem d_Mo_least_70 : decode y_Mo_least.2.1 70 = .ok (.istore 5, 2) := by decide +kernel
theorem d_Mo_least_72 : decode y_Mo_least.2.1 72 = .ok (.iload 5, 2) := by decide +kernel
theorem d_Mo_least_74 : decode y_Mo_least.2.1 74 = .ok (.iload_n 3, 1) := by decide +kernel
theorem d_Mo_least_75 : decode y_Mo_least.2.1 75 = .ok (.if_icmp .ge 100, 3) := by decide +kernel
theorem d_Mo_least_78 : decode y_Mo_least.2.1 78 = .ok (.aload_n 0, 1) := by decide +kernel
theorem d_Mo_least_79 : decode y_Mo_least.2.1 79 = .ok (.getfield 77, 3) := by decide +kernel
theorem d_Mo_least_82 : decode y_Mo_least.2.1 82 = .ok (.bipush 16, 2) := by decide +kernel
theorem d_Mo_least_84 : decode y_Mo_least.2.1 84 = .ok (.iload 4, 2) := by decide +kernel
theorem d_Mo_least_86 : decode y_Mo_least.2.1 86 = .ok (.imul, 1) := by decide +kernel
theorem d_Mo_least_87 : decode y_Mo_least.2.1 87 = .ok (.iload 5, 2) := by decide +kernel
theorem d_Mo_least_89 : decode y_Mo_least.2.1 89 = .ok (.iadd, 1) := by decide +kernel
theorem d_Mo_least_90 : decode y_Mo_least.2.1 90 = .ok (.iconst 0, 1) := by decide +kernel
theorem d_Mo_least_91 : decode y_Mo_least.2.1 91 = .ok (.iastore, 1) := by decide +kernel
theorem d_Mo_least_92 : decode y_Mo_least.2.1 92 = .ok (.iconst 0, 1) := by decide +kernel
theorem d_Mo_least_93 : decode y_Mo_least.2.1 93 = .ok (.istore 6, 2) := by decide +kernel
theorem d_Mo_least_95 : decode y_Mo_least.2.1 95 = .ok (.iload 6, 2) := by decide +kernel
theorem d_Mo_least_97 : decode y_Mo_least.2.1 97 = .ok (.iload_n 3, 1) := by decide +kernel
theorem d_Mo_least_98 : decode y_Mo_least.2.1 98 = .ok (.if_icmp .ge 71, 3) := by decide +kernel
theorem d_Mo_least_101 : decode y_Mo_least.2.1 101 = .ok (.aload_n 0, 1) := by decide +kernel
theorem d_Mo_least_102 : decode y_Mo_least.2.1 102 = .ok (.getfield 77, 3) := by decide +kernel
theorem d_Mo_least_105 : decode y_Mo_least.2.1 105 = .ok (.bipush 16, 2) := by decide +kernel
theorem d_Mo_least_107 : decode y_Mo_least.2.1 107 = .ok (.iload 4, 2) := by decide +kernel
theorem d_Mo_least_109 : decode y_Mo_least.2.1 109 = .ok (.imul, 1) := by decide +kernel
theorem d_Mo_least_110 : decode y_Mo_least.2.1 110 = .ok (.iload 5, 2) := by decide +kernel
theorem d_Mo_least_112 : decode y_Mo_least.2.1 112 = .ok (.iadd, 1) := by decide +kernel
theorem d_Mo_least_113 : decode y_Mo_least.2.1 113 = .ok (.aload_n 0, 1) := by decide +kernel
theorem d_Mo_least_114 : decode y_Mo_least.2.1 114 = .ok (.iload_n 1, 1) := by decide +kernel
theorem d_Mo_least_115 : decode y_Mo_least.2.1 115 = .ok (.iload 4, 2) := by decide +kernel
theorem d_Mo_least_117 : decode y_Mo_least.2.1 117 = .ok (.iload_n 2, 1) := by decide +kernel
theorem d_Mo_least_118 : decode y_Mo_least.2.1 118 = .ok (.iload 5, 2) := by decide +kernel
theorem d_Mo_least_120 : decode y_Mo_least.2.1 120 = .ok (.iload 6, 2) := by decide +kernel
theorem d_Mo_least_122 : decode y_Mo_least.2.1 122 = .ok (.invokevirtual 187, 3) := by decide +kernel
theorem d_Mo_least_125 : decode y_Mo_least.2.1 125 = .ok (.ifCond .eq 24, 3) := by decide +kernel
theorem d_Mo_least_128 : decode y_Mo_least.2.1 128 = .ok (.aload_n 0, 1) := by decide +kernel
theorem d_Mo_least_129 : decode y_Mo_least.2.1 129 = .ok (.getfield 77, 3) := by decide +kernel
theorem d_Mo_least_132 : decode y_Mo_least.2.1 132 = .ok (.bipush 16, 2) := by decide +kernel
theorem d_Mo_least_134 : decode y_Mo_least.2.1 134 = .ok (.iload 4, 2) := by decide +kernel
theorem d_Mo_least_136 : decode y_Mo_least.2.1 136 = .ok (.imul, 1) := by decide +kernel
theorem d_Mo_least_137 : decode y_Mo_least.2.1 137 = .ok (.iload 5, 2) := by decide +kernel
theorem d_Mo_least_139 : decode y_Mo_least.2.1 139 = .ok (.iadd, 1) := by decide +kernel
theorem d_Mo_least_140 : decode y_Mo_least.2.1 140 = .ok (.iaload, 1) := by decide +kernel
theorem d_Mo_least_141 : decode y_Mo_least.2.1 141 = .ok (.iconst 1, 1) := by decide +kernel
theorem d_Mo_least_142 : decode y_Mo_least.2.1 142 = .ok (.iload 6, 2) := by decide +kernel
theorem d_Mo_least_144 : decode y_Mo_least.2.1 144 = .ok (.ishl, 1) := by decide +kernel
theorem d_Mo_least_145 : decode y_Mo_least.2.1 145 = .ok (.ior, 1) := by decide +kernel
theorem d_Mo_least_146 : decode y_Mo_least.2.1 146 = .ok (.goto 16, 3) := by decide +kernel
theorem d_Mo_least_149 : decode y_Mo_least.2.1 149 = .ok (.aload_n 0, 1) := by decide +kernel
theorem d_Mo_least_150 : decode y_Mo_least.2.1 150 = .ok (.getfield 77, 3) := by decide +kernel
theorem d_Mo_least_153 : decode y_Mo_least.2.1 153 = .ok (.bipush 16, 2) := by decide +kernel
theorem d_Mo_least_155 : decode y_Mo_least.2.1 155 = .ok (.iload 4, 2) := by decide +kernel
theorem d_Mo_least_157 : decode y_Mo_least.2.1 157 = .ok (.imul, 1) := by decide +kernel
theorem d_Mo_least_158 : decode y_Mo_least.2.1 158 = .ok (.iload 5, 2) := by decide +kernel
theorem d_Mo_least_160 : decode y_Mo_least.2.1 160 = .ok (.iadd, 1) := by decide +kernel
theorem d_Mo_least_161 : decode y_Mo_least.2.1 161 = .ok (.iaload, 1) := by decide +kernel
theorem d_Mo_least_162 : decode y_Mo_least.2.1 162 = .ok (.iastore, 1) := by decide +kernel
theorem d_Mo_least_163 : decode y_Mo_least.2.1 163 = .ok (.iinc 6 1, 3) := by decide +kernel
theorem d_Mo_least_166 : decode y_Mo_least.2.1 166 = .ok (.goto (-71), 3) := by decide +kernel
theorem d_Mo_least_169 : decode y_Mo_least.2.1 169 = .ok (.iinc 5 1, 3) := by decide +kernel
theorem d_Mo_least_172 : decode y_Mo_least.2.1 172 = .ok (.goto (-100), 3) := by decide +kernel
theorem d_Mo_least_175 : decode y_Mo_least.2.1 175 = .ok (.iinc 4 1, 3) := by decide +kernel
theorem d_Mo_least_178 : decode y_Mo_least.2.1 178 = .ok (.goto (-120), 3) := by decide +kernel
theorem d_Mo_least_181 : decode y_Mo_least.2.1 181 = .ok (.bipush 100, 2) := by decide +kernel
theorem d_Mo_least_183 : decode y_Mo_least.2.1 183 = .ok (.istore 4, 2) := by decide +kernel
theorem d_Mo_least_185 : decode y_Mo_least.2.1 185 = .ok (.iconst 0, 1) := by decide +kernel
theorem d_Mo_least_186 : decode y_Mo_least.2.1 186 = .ok (.istore 5, 2) := by decide +kernel
theorem d_Mo_least_188 : decode y_Mo_least.2.1 188 = .ok (.iload 5, 2) := by decide +kernel
theorem d_Mo_least_190 : decode y_Mo_least.2.1 190 = .ok (.iconst 1, 1) := by decide +kernel
theorem d_Mo_least_191 : decode y_Mo_least.2.1 191 = .ok (.iload_n 3, 1) := by decide +kernel
theorem d_Mo_least_192 : decode y_Mo_least.2.1 192 = .ok (.ishl, 1) := by decide +kernel
theorem d_Mo_least_193 : decode y_Mo_least.2.1 193 = .ok (.if_icmp .ge 42, 3) := by decide +kernel
theorem d_Mo_least_196 : decode y_Mo_least.2.1 196 = .ok (.iload 5, 2) := by decide +kernel
theorem d_Mo_least_198 : decode y_Mo_least.2.1 198 = .ok (.invokestatic 106, 3) := by decide +kernel
theorem d_Mo_least_201 : decode y_Mo_least.2.1 201 = .ok (.istore 6, 2) := by decide +kernel
theorem d_Mo_least_203 : decode y_Mo_least.2.1 203 = .ok (.iload 6, 2) := by decide +kernel
theorem d_Mo_least_205 : decode y_Mo_least.2.1 205 = .ok (.iload 4, 2) := by decide +kernel
theorem d_Mo_least_207 : decode y_Mo_least.2.1 207 = .ok (.if_icmp .ge 18, 3) := by decide +kernel
theorem d_Mo_least_210 : decode y_Mo_least.2.1 210 = .ok (.aload_n 0, 1) := by decide +kernel
theorem d_Mo_least_211 : decode y_Mo_least.2.1 211 = .ok (.iload_n 1, 1) := by decide +kernel
theorem d_Mo_least_212 : decode y_Mo_least.2.1 212 = .ok (.iload 5, 2) := by decide +kernel
theorem d_Mo_least_214 : decode y_Mo_least.2.1 214 = .ok (.invokevirtual 207, 3) := by decide +kernel
theorem d_Mo_least_217 : decode y_Mo_least.2.1 217 = .ok (.ifCond .eq 8, 3) := by decide +kernel
theorem d_Mo_least_220 : decode y_Mo_least.2.1 220 = .ok (.iload 6, 2) := by decide +kernel
theorem d_Mo_least_222 : decode y_Mo_least.2.1 222 = .ok (.goto 5, 3) := by decide +kernel
theorem d_Mo_least_225 : decode y_Mo_least.2.1 225 = .ok (.iload 4, 2) := by decide +kernel
theorem d_Mo_least_227 : decode y_Mo_least.2.1 227 = .ok (.istore 4, 2) := by decide +kernel
theorem d_Mo_least_229 : decode y_Mo_least.2.1 229 = .ok (.iinc 5 1, 3) := by decide +kernel
theorem d_Mo_least_232 : decode y_Mo_least.2.1 232 = .ok (.goto (-44), 3) := by decide +kernel
theorem d_Mo_least_235 : decode y_Mo_least.2.1 235 = .ok (.iload 4, 2) := by decide +kernel
theorem d_Mo_least_237 : decode y_Mo_least.2.1 237 = .ok (.ireturn, 1) := by decide +kernel
def y_Mo_isOut : MethodName × ByteArray × Nat × Option FieldType × List (Nat × Nat × Nat × Nat) := (⟨"MaskedCausesModel", "isOut", "(II)Z"⟩, prog_13_method_46_code, 3, (Option.some Jvm.ClassFile.FieldType.boolean), [])
theorem d_Mo_isOut_0 : decode y_Mo_isOut.2.1 0 = .ok (.iload_n 2, 1) := by decide +kernel
theorem d_Mo_isOut_1 : decode y_Mo_isOut.2.1 1 = .ok (.aload_n 0, 1) := by decide +kernel
theorem d_Mo_isOut_2 : decode y_Mo_isOut.2.1 2 = .ok (.getfield 90, 3) := by decide +kernel
theorem d_Mo_isOut_5 : decode y_Mo_isOut.2.1 5 = .ok (.if_icmp .ge 27, 3) := by decide +kernel
theorem d_Mo_isOut_8 : decode y_Mo_isOut.2.1 8 = .ok (.iload_n 1, 1) := by decide +kernel
theorem d_Mo_isOut_9 : decode y_Mo_isOut.2.1 9 = .ok (.aload_n 0, 1) := by decide +kernel
theorem d_Mo_isOut_10 : decode y_Mo_isOut.2.1 10 = .ok (.getfield 7, 3) := by decide +kernel
theorem d_Mo_isOut_13 : decode y_Mo_isOut.2.1 13 = .ok (.iload_n 2, 1) := by decide +kernel
theorem d_Mo_isOut_14 : decode y_Mo_isOut.2.1 14 = .ok (.iaload, 1) := by decide +kernel
theorem d_Mo_isOut_15 : decode y_Mo_isOut.2.1 15 = .ok (.if_icmp .lt 13, 3) := by decide +kernel
theorem d_Mo_isOut_18 : decode y_Mo_isOut.2.1 18 = .ok (.iload_n 1, 1) := by decide +kernel
theorem d_Mo_isOut_19 : decode y_Mo_isOut.2.1 19 = .ok (.aload_n 0, 1) := by decide +kernel
theorem d_Mo_isOut_20 : decode y_Mo_isOut.2.1 20 = .ok (.getfield 13, 3) := by decide +kernel
theorem d_Mo_isOut_23 : decode y_Mo_isOut.2.1 23 = .ok (.iload_n 2, 1) := by decide +kernel
theorem d_Mo_isOut_24 : decode y_Mo_isOut.2.1 24 = .ok (.iaload, 1) := by decide +kernel
theorem d_Mo_isOut_25 : decode y_Mo_isOut.2.1 25 = .ok (.if_icmp .le 7, 3) := by decide +kernel
theorem d_Mo_isOut_28 : decode y_Mo_isOut.2.1 28 = .ok (.iconst 1, 1) := by decide +kernel
theorem d_Mo_isOut_29 : decode y_Mo_isOut.2.1 29 = .ok (.goto 4, 3) := by decide +kernel
theorem d_Mo_isOut_32 : decode y_Mo_isOut.2.1 32 = .ok (.iconst 0, 1) := by decide +kernel
theorem d_Mo_isOut_33 : decode y_Mo_isOut.2.1 33 = .ok (.ireturn, 1) := by decide +kernel
def y_Mo_keep : MethodName × ByteArray × Nat × Option FieldType × List (Nat × Nat × Nat × Nat) := (⟨"MaskedCausesModel", "keep", "(III)I"⟩, prog_13_method_47_code, 4, (Option.some Jvm.ClassFile.FieldType.int), [])
theorem d_Mo_keep_0 : decode y_Mo_keep.2.1 0 = .ok (.aload_n 0, 1) := by decide +kernel
theorem d_Mo_keep_1 : decode y_Mo_keep.2.1 1 = .ok (.aload_n 0, 1) := by decide +kernel
theorem d_Mo_keep_2 : decode y_Mo_keep.2.1 2 = .ok (.getfield 210, 3) := by decide +kernel
theorem d_Mo_keep_5 : decode y_Mo_keep.2.1 5 = .ok (.bipush 12, 2) := by decide +kernel
theorem d_Mo_keep_7 : decode y_Mo_keep.2.1 7 = .ok (.if_icmp .eq 10, 3) := by decide +kernel
theorem d_Mo_keep_10 : decode y_Mo_keep.2.1 10 = .ok (.aload_n 0, 1) := by decide +kernel
theorem d_Mo_keep_11 : decode y_Mo_keep.2.1 11 = .ok (.getfield 93, 3) := by decide +kernel
theorem d_Mo_keep_14 : decode y_Mo_keep.2.1 14 = .ok (.ifCond .ne 7, 3) := by decide +kernel
theorem d_Mo_keep_17 : decode y_Mo_keep.2.1 17 = .ok (.iconst 1, 1) := by decide +kernel
theorem d_Mo_keep_18 : decode y_Mo_keep.2.1 18 = .ok (.goto 4, 3) := by decide +kernel
theorem d_Mo_keep_21 : decode y_Mo_keep.2.1 21 = .ok (.iconst 0, 1) := by decide +kernel
theorem d_Mo_keep_22 : decode y_Mo_keep.2.1 22 = .ok (.aload_n 0, 1) := by decide +kernel
theorem d_Mo_keep_23 : decode y_Mo_keep.2.1 23 = .ok (.iload_n 1, 1) := by decide +kernel
theorem d_Mo_keep_24 : decode y_Mo_keep.2.1 24 = .ok (.iconst 0, 1) := by decide +kernel
theorem d_Mo_keep_25 : decode y_Mo_keep.2.1 25 = .ok (.invokevirtual 213, 3) := by decide +kernel
theorem d_Mo_keep_28 : decode y_Mo_keep.2.1 28 = .ok (.ifCond .ne 21, 3) := by decide +kernel
theorem d_Mo_keep_31 : decode y_Mo_keep.2.1 31 = .ok (.aload_n 0, 1) := by decide +kernel
theorem d_Mo_keep_32 : decode y_Mo_keep.2.1 32 = .ok (.iload_n 2, 1) := by decide +kernel
theorem d_Mo_keep_33 : decode y_Mo_keep.2.1 33 = .ok (.iconst 1, 1) := by decide +kernel
theorem d_Mo_keep_34 : decode y_Mo_keep.2.1 34 = .ok (.invokevirtual 213, 3) := by decide +kernel
theorem d_Mo_keep_37 : decode y_Mo_keep.2.1 37 = .ok (.ifCond .ne 12, 3) := by decide +kernel
theorem d_Mo_keep_40 : decode y_Mo_keep.2.1 40 = .ok (.aload_n 0, 1) := by decide +kernel
theorem d_Mo_keep_41 : decode y_Mo_keep.2.1 41 = .ok (.iload_n 3, 1) := by decide +kernel
theorem d_Mo_keep_42 : decode y_Mo_keep.2.1 42 = .ok (.iconst 2, 1) := by decide +kernel
theorem d_Mo_keep_43 : decode y_Mo_keep.2.1 43 = .ok (.invokevirtual 213, 3) := by decide +kernel
theorem d_Mo_keep_46 : decode y_Mo_keep.2.1 46 = .ok (.ifCond .eq 7, 3) := by decide +kernel
theorem d_Mo_keep_49 : decode y_Mo_keep.2.1 49 = .ok (.iconst 1, 1) := by decide +kernel
theorem d_Mo_keep_50 : decode y_Mo_keep.2.1 50 = .ok (.goto 4, 3) := by decide +kernel
theorem d_Mo_keep_53 : decode y_Mo_keep.2.1 53 = .ok (.iconst 0, 1) := by decide +kernel
theorem d_Mo_keep_54 : decode y_Mo_keep.2.1 54 = .ok (.invokevirtual 96, 3) := by decide +kernel
theorem d_Mo_keep_57 : decode y_Mo_keep.2.1 57 = .ok (.ifCond .eq 5, 3) := by decide +kernel
theorem d_Mo_keep_60 : decode y_Mo_keep.2.1 60 = .ok (.iconst 0, 1) := by decide +kernel
theorem d_Mo_keep_61 : decode y_Mo_keep.2.1 61 = .ok (.ireturn, 1) := by decide +kernel
theorem d_Mo_keep_62 : decode y_Mo_keep.2.1 62 = .ok (.aload_n 0, 1) := by decide +kernel
theorem d_Mo_keep_63 : decode y_Mo_keep.2.1 63 = .ok (.getfield 80, 3) := by decide +kernel
theorem d_Mo_keep_66 : decode y_Mo_keep.2.1 66 = .ok (.iconst 3, 1) := by decide +kernel
theorem d_Mo_keep_67 : decode y_Mo_keep.2.1 67 = .ok (.aload_n 0, 1) := by decide +kernel
theorem d_Mo_keep_68 : decode y_Mo_keep.2.1 68 = .ok (.getfield 210, 3) := by decide +kernel
theorem d_Mo_keep_71 : decode y_Mo_keep.2.1 71 = .ok (.imul, 1) := by decide +kernel
theorem d_Mo_keep_72 : decode y_Mo_keep.2.1 72 = .ok (.iload_n 1, 1) := by decide +kernel
theorem d_Mo_keep_73 : decode y_Mo_keep.2.1 73 = .ok (.iastore, 1) := by decide +kernel
theorem d_Mo_keep_74 : decode y_Mo_keep.2.1 74 = .ok (.aload_n 0, 1) := by decide +kernel
theorem d_Mo_keep_75 : decode y_Mo_keep.2.1 75 = .ok (.getfield 80, 3) := by decide +kernel
theorem d_Mo_keep_78 : decode y_Mo_keep.2.1 78 = .ok (.iconst 3, 1) := by decide +kernel
theorem d_Mo_keep_79 : decode y_Mo_keep.2.1 79 = .ok (.aload_n 0, 1) := by decide +kernel
theorem d_Mo_keep_80 : decode y_Mo_keep.2.1 80 = .ok (.getfield 210, 3) := by decide +kernel
theorem d_Mo_keep_83 : decode y_Mo_keep.2.1 83 = .ok (.imul, 1) := by decide +kernel
theorem d_Mo_keep_84 : decode y_Mo_keep.2.1 84 = .ok (.iconst 1, 1) := by decide +kernel
theorem d_Mo_keep_85 : decode y_Mo_keep.2.1 85 = .ok (.iadd, 1) := by decide +kernel
theorem d_Mo_keep_86 : decode y_Mo_keep.2.1 86 = .ok (.iload_n 2, 1) := by decide +kernel
theorem d_Mo_keep_87 : decode y_Mo_keep.2.1 87 = .ok (.iastore, 1) := by decide +kernel
theorem d_Mo_keep_88 : decode y_Mo_keep.2.1 88 = .ok (.aload_n 0, 1) := by decide +kernel
theorem d_Mo_keep_89 : decode y_Mo_keep.2.1 89 = .ok (.getfield 80, 3) := by decide +kernel
theorem d_Mo_keep_92 : decode y_Mo_keep.2.1 92 = .ok (.iconst 3, 1) := by decide +kernel
theorem d_Mo_keep_93 : decode y_Mo_keep.2.1 93 = .ok (.aload_n 0, 1) := by decide +kernel
theorem d_Mo_keep_94 : decode y_Mo_keep.2.1 94 = .ok (.getfield 210, 3) := by decide +kernel
theorem d_Mo_keep_97 : decode y_Mo_keep.2.1 97 = .ok (.imul, 1) := by decide +kernel
theorem d_Mo_keep_98 : decode y_Mo_keep.2.1 98 = .ok (.iconst 2, 1) := by decide +kernel
theorem d_Mo_keep_99 : decode y_Mo_keep.2.1 99 = .ok (.iadd, 1) := by decide +kernel
theorem d_Mo_keep_100 : decode y_Mo_keep.2.1 100 = .ok (.iload_n 3, 1) := by decide +kernel
theorem d_Mo_keep_101 : decode y_Mo_keep.2.1 101 = .ok (.iastore, 1) := by decide +kernel
theorem d_Mo_keep_102 : decode y_Mo_keep.2.1 102 = .ok (.aload_n 0, 1) := by decide +kernel
theorem d_Mo_keep_103 : decode y_Mo_keep.2.1 103 = .ok (.dup, 1) := by decide +kernel
theorem d_Mo_keep_104 : decode y_Mo_keep.2.1 104 = .ok (.getfield 210, 3) := by decide +kernel
theorem d_Mo_keep_107 : decode y_Mo_keep.2.1 107 = .ok (.iconst 1, 1) := by decide +kernel
theorem d_Mo_keep_108 : decode y_Mo_keep.2.1 108 = .ok (.iadd, 1) := by decide +kernel
theorem d_Mo_keep_109 : decode y_Mo_keep.2.1 109 = .ok (.putfield 210, 3) := by decide +kernel
theorem d_Mo_keep_112 : decode y_Mo_keep.2.1 112 = .ok (.aload_n 0, 1) := by decide +kernel
theorem d_Mo_keep_113 : decode y_Mo_keep.2.1 113 = .ok (.getfield 210, 3) := by decide +kernel
theorem d_Mo_keep_116 : decode y_Mo_keep.2.1 116 = .ok (.ireturn, 1) := by decide +kernel
def y_Mo_forget : MethodName × ByteArray × Nat × Option FieldType × List (Nat × Nat × Nat × Nat) := (⟨"MaskedCausesModel", "forget", "()I"⟩, prog_13_method_48_code, 2, (Option.some Jvm.ClassFile.FieldType.int), [])
theorem d_Mo_forget_0 : decode y_Mo_forget.2.1 0 = .ok (.aload_n 0, 1) := by decide +kernel
theorem d_Mo_forget_1 : decode y_Mo_forget.2.1 1 = .ok (.iconst 0, 1) := by decide +kernel
theorem d_Mo_forget_2 : decode y_Mo_forget.2.1 2 = .ok (.putfield 86, 3) := by decide +kernel
theorem d_Mo_forget_5 : decode y_Mo_forget.2.1 5 = .ok (.aload_n 0, 1) := by decide +kernel
theorem d_Mo_forget_6 : decode y_Mo_forget.2.1 6 = .ok (.getfield 210, 3) := by decide +kernel
theorem d_Mo_forget_9 : decode y_Mo_forget.2.1 9 = .ok (.istore_n 1, 1) := by decide +kernel
theorem d_Mo_forget_10 : decode y_Mo_forget.2.1 10 = .ok (.aload_n 0, 1) := by decide +kernel
theorem d_Mo_forget_11 : decode y_Mo_forget.2.1 11 = .ok (.iconst 0, 1) := by decide +kernel
theorem d_Mo_forget_12 : decode y_Mo_forget.2.1 12 = .ok (.putfield 210, 3) := by decide +kernel
theorem d_Mo_forget_15 : decode y_Mo_forget.2.1 15 = .ok (.iload_n 1, 1) := by decide +kernel
theorem d_Mo_forget_16 : decode y_Mo_forget.2.1 16 = .ok (.ireturn, 1) := by decide +kernel
def y_Mo_isCovered : MethodName × ByteArray × Nat × Option FieldType × List (Nat × Nat × Nat × Nat) := (⟨"MaskedCausesModel", "isCovered", "(III)Z"⟩, prog_13_method_49_code, 8, (Option.some Jvm.ClassFile.FieldType.boolean), [])
theorem d_Mo_isCovered_0 : decode y_Mo_isCovered.2.1 0 = .ok (.iconst 0, 1) := by decide +kernel
theorem d_Mo_isCovered_1 : decode y_Mo_isCovered.2.1 1 = .ok (.istore 4, 2) := by decide +kernel
theorem d_Mo_isCovered_3 : decode y_Mo_isCovered.2.1 3 = .ok (.iconst 0, 1) := by decide +kernel
theorem d_Mo_isCovered_4 : decode y_Mo_isCovered.2.1 4 = .ok (.istore 5, 2) := by decide +kernel
theorem d_Mo_isCovered_6 : decode y_Mo_isCovered.2.1 6 = .ok (.iload 5, 2) := by decide +kernel
theorem d_Mo_isCovered_8 : decode y_Mo_isCovered.2.1 8 = .ok (.aload_n 0, 1) := by decide +kernel
theorem d_Mo_isCovered_9 : decode y_Mo_isCovered.2.1 9 = .ok (.getfield 210, 3) := by decide +kernel
theorem d_Mo_isCovered_12 : decode y_Mo_isCovered.2.1 12 = .ok (.if_icmp .ge 123, 3) := by decide +kernel
theorem d_Mo_isCovered_15 : decode y_Mo_isCovered.2.1 15 = .ok (.aload_n 0, 1) := by decide +kernel
theorem d_Mo_isCovered_16 : decode y_Mo_isCovered.2.1 16 = .ok (.iload_n 1, 1) := by decide +kernel
theorem d_Mo_isCovered_17 : decode y_Mo_isCovered.2.1 17 = .ok (.aload_n 0, 1) := by decide +kernel
theorem d_Mo_isCovered_18 : decode y_Mo_isCovered.2.1 18 = .ok (.getfield 80, 3) := by decide +kernel
theorem d_Mo_isCovered_21 : decode y_Mo_isCovered.2.1 21 = .ok (.iconst 3, 1) := by decide +kernel
theorem d_Mo_isCovered_22 : decode y_Mo_isCovered.2.1 22 = .ok (.iload 5, 2) := by decide +kernel
theorem d_Mo_isCovered_24 : decode y_Mo_isCovered.2.1 24 = .ok (.imul, 1) := by decide +kernel
theorem d_Mo_isCovered_25 : decode y_Mo_isCovered.2.1 25 = .ok (.iaload, 1) := by decide +kernel
theorem d_Mo_isCovered_26 : decode y_Mo_isCovered.2.1 26 = .ok (.aload_n 0, 1) := by decide +kernel
theorem d_Mo_isCovered_27 : decode y_Mo_isCovered.2.1 27 = .ok (.getfield 80, 3) := by decide +kernel
theorem d_Mo_isCovered_30 : decode y_Mo_isCovered.2.1 30 = .ok (.iconst 3, 1) := by decide +kernel
theorem d_Mo_isCovered_31 : decode y_Mo_isCovered.2.1 31 = .ok (.iload 5, 2) := by decide +kernel
theorem d_Mo_isCovered_33 : decode y_Mo_isCovered.2.1 33 = .ok (.imul, 1) := by decide +kernel
theorem d_Mo_isCovered_34 : decode y_Mo_isCovered.2.1 34 = .ok (.iconst 1, 1) := by decide +kernel
theorem d_Mo_isCovered_35 : decode y_Mo_isCovered.2.1 35 = .ok (.iadd, 1) := by decide +kernel
theorem d_Mo_isCovered_36 : decode y_Mo_isCovered.2.1 36 = .ok (.iaload, 1) := by decide +kernel
theorem d_Mo_isCovered_37 : decode y_Mo_isCovered.2.1 37 = .ok (.aload_n 0, 1) := by decide +kernel
theorem d_Mo_isCovered_38 : decode y_Mo_isCovered.2.1 38 = .ok (.getfield 80, 3) := by decide +kernel
theorem d_Mo_isCovered_41 : decode y_Mo_isCovered.2.1 41 = .ok (.iconst 3, 1) := by decide +kernel
theorem d_Mo_isCovered_42 : decode y_Mo_isCovered.2.1 42 = .ok (.iload 5, 2) := by decide +kernel
theorem d_Mo_isCovered_44 : decode y_Mo_isCovered.2.1 44 = .ok (.imul, 1) := by decide +kernel
theorem d_Mo_isCovered_45 : decode y_Mo_isCovered.2.1 45 = .ok (.iconst 2, 1) := by decide +kernel
theorem d_Mo_isCovered_46 : decode y_Mo_isCovered.2.1 46 = .ok (.iadd, 1) := by decide +kernel
theorem d_Mo_isCovered_47 : decode y_Mo_isCovered.2.1 47 = .ok (.iaload, 1) := by decide +kernel
theorem d_Mo_isCovered_48 : decode y_Mo_isCovered.2.1 48 = .ok (.invokevirtual 142, 3) := by decide +kernel
theorem d_Mo_isCovered_51 : decode y_Mo_isCovered.2.1 51 = .ok (.istore 6, 2) := by decide +kernel
theorem d_Mo_isCovered_53 : decode y_Mo_isCovered.2.1 53 = .ok (.iconst 0, 1) := by decide +kernel
theorem d_Mo_isCovered_54 : decode y_Mo_isCovered.2.1 54 = .ok (.istore 7, 2) := by decide +kernel
theorem d_Mo_isCovered_56 : decode y_Mo_isCovered.2.1 56 = .ok (.iload 7, 2) := by decide +kernel
theorem d_Mo_isCovered_58 : decode y_Mo_isCovered.2.1 58 = .ok (.iload 5, 2) := by decide +kernel
theorem d_Mo_isCovered_60 : decode y_Mo_isCovered.2.1 60 = .ok (.if_icmp .ge 69, 3) := by decide +kernel
theorem d_Mo_isCovered_63 : decode y_Mo_isCovered.2.1 63 = .ok (.iload 4, 2) := by decide +kernel
theorem d_Mo_isCovered_65 : decode y_Mo_isCovered.2.1 65 = .ok (.ifCond .ne 51, 3) := by decide +kernel
theorem d_Mo_isCovered_68 : decode y_Mo_isCovered.2.1 68 = .ok (.aload_n 0, 1) := by decide +kernel
theorem d_Mo_isCovered_69 : decode y_Mo_isCovered.2.1 69 = .ok (.iload_n 1, 1) := by decide +kernel
theorem d_Mo_isCovered_70 : decode y_Mo_isCovered.2.1 70 = .ok (.iload_n 2, 1) := by decide +kernel
theorem d_Mo_isCovered_71 : decode y_Mo_isCovered.2.1 71 = .ok (.iload_n 3, 1) := by decide +kernel
theorem d_Mo_isCovered_72 : decode y_Mo_isCovered.2.1 72 = .ok (.iload 6, 2) := by decide +kernel
theorem d_Mo_isCovered_74 : decode y_Mo_isCovered.2.1 74 = .ok (.aload_n 0, 1) := by decide +kernel
theorem d_Mo_isCovered_75 : decode y_Mo_isCovered.2.1 75 = .ok (.iload_n 1, 1) := by decide +kernel
theorem d_Mo_isCovered_76 : decode y_Mo_isCovered.2.1 76 = .ok (.aload_n 0, 1) := by decide +kernel
theorem d_Mo_isCovered_77 : decode y_Mo_isCovered.2.1 77 = .ok (.getfield 80, 3) := by decide +kernel
theorem d_Mo_isCovered_80 : decode y_Mo_isCovered.2.1 80 = .ok (.iconst 3, 1) := by decide +kernel
theorem d_Mo_isCovered_81 : decode y_Mo_isCovered.2.1 81 = .ok (.iload 7, 2) := by decide +kernel
theorem d_Mo_isCovered_83 : decode y_Mo_isCovered.2.1 83 = .ok (.imul, 1) := by decide +kernel
theorem d_Mo_isCovered_84 : decode y_Mo_isCovered.2.1 84 = .ok (.iaload, 1) := by decide +kernel
theorem d_Mo_isCovered_85 : decode y_Mo_isCovered.2.1 85 = .ok (.aload_n 0, 1) := by decide +kernel
theorem d_Mo_isCovered_86 : decode y_Mo_isCovered.2.1 86 = .ok (.getfield 80, 3) := by decide +kernel
theorem d_Mo_isCovered_89 : decode y_Mo_isCovered.2.1 89 = .ok (.iconst 3, 1) := by decide +kernel
theorem d_Mo_isCovered_90 : decode y_Mo_isCovered.2.1 90 = .ok (.iload 7, 2) := by decide +kernel
theorem d_Mo_isCovered_92 : decode y_Mo_isCovered.2.1 92 = .ok (.imul, 1) := by decide +kernel
theorem d_Mo_isCovered_93 : decode y_Mo_isCovered.2.1 93 = .ok (.iconst 1, 1) := by decide +kernel
theorem d_Mo_isCovered_94 : decode y_Mo_isCovered.2.1 94 = .ok (.iadd, 1) := by decide +kernel
theorem d_Mo_isCovered_95 : decode y_Mo_isCovered.2.1 95 = .ok (.iaload, 1) := by decide +kernel
theorem d_Mo_isCovered_96 : decode y_Mo_isCovered.2.1 96 = .ok (.aload_n 0, 1) := by decide +kernel
theorem d_Mo_isCovered_97 : decode y_Mo_isCovered.2.1 97 = .ok (.getfield 80, 3) := by decide +kernel
theorem d_Mo_isCovered_100 : decode y_Mo_isCovered.2.1 100 = .ok (.iconst 3, 1) := by decide +kernel
theorem d_Mo_isCovered_101 : decode y_Mo_isCovered.2.1 101 = .ok (.iload 7, 2) := by decide +kernel
theorem d_Mo_isCovered_103 : decode y_Mo_isCovered.2.1 103 = .ok (.imul, 1) := by decide +kernel
theorem d_Mo_isCovered_104 : decode y_Mo_isCovered.2.1 104 = .ok (.iconst 2, 1) := by decide +kernel
theorem d_Mo_isCovered_105 : decode y_Mo_isCovered.2.1 105 = .ok (.iadd, 1) := by decide +kernel
theorem d_Mo_isCovered_106 : decode y_Mo_isCovered.2.1 106 = .ok (.iaload, 1) := by decide +kernel
theorem d_Mo_isCovered_107 : decode y_Mo_isCovered.2.1 107 = .ok (.invokevirtual 142, 3) := by decide +kernel
theorem d_Mo_isCovered_110 : decode y_Mo_isCovered.2.1 110 = .ok (.invokevirtual 187, 3) := by decide +kernel
theorem d_Mo_isCovered_113 : decode y_Mo_isCovered.2.1 113 = .ok (.ifCond .eq 7, 3) := by decide +kernel
theorem d_Mo_isCovered_116 : decode y_Mo_isCovered.2.1 116 = .ok (.iconst 1, 1) := by decide +kernel
theorem d_Mo_isCovered_117 : decode y_Mo_isCovered.2.1 117 = .ok (.goto 4, 3) := by decide +kernel
theorem d_Mo_isCovered_120 : decode y_Mo_isCovered.2.1 120 = .ok (.iconst 0, 1) := by decide +kernel
theorem d_Mo_isCovered_121 : decode y_Mo_isCovered.2.1 121 = .ok (.istore 4, 2) := by decide +kernel
theorem d_Mo_isCovered_123 : decode y_Mo_isCovered.2.1 123 = .ok (.iinc 7 1, 3) := by decide +kernel
theorem d_Mo_isCovered_126 : decode y_Mo_isCovered.2.1 126 = .ok (.goto (-70), 3) := by decide +kernel
theorem d_Mo_isCovered_129 : decode y_Mo_isCovered.2.1 129 = .ok (.iinc 5 1, 3) := by decide +kernel
theorem d_Mo_isCovered_132 : decode y_Mo_isCovered.2.1 132 = .ok (.goto (-126), 3) := by decide +kernel
theorem d_Mo_isCovered_135 : decode y_Mo_isCovered.2.1 135 = .ok (.iload 4, 2) := by decide +kernel
theorem d_Mo_isCovered_137 : decode y_Mo_isCovered.2.1 137 = .ok (.ireturn, 1) := by decide +kernel
def y_Mo_covered : MethodName × ByteArray × Nat × Option FieldType × List (Nat × Nat × Nat × Nat) := (⟨"MaskedCausesModel", "covered", "(III)Z"⟩, prog_13_method_50_code, 4, (Option.some Jvm.ClassFile.FieldType.boolean), [])
theorem d_Mo_covered_0 : decode y_Mo_covered.2.1 0 = .ok (.aload_n 0, 1) := by decide +kernel
theorem d_Mo_covered_1 : decode y_Mo_covered.2.1 1 = .ok (.aload_n 0, 1) := by decide +kernel
theorem d_Mo_covered_2 : decode y_Mo_covered.2.1 2 = .ok (.iload_n 1, 1) := by decide +kernel
theorem d_Mo_covered_3 : decode y_Mo_covered.2.1 3 = .ok (.iload_n 2, 1) := by decide +kernel
theorem d_Mo_covered_4 : decode y_Mo_covered.2.1 4 = .ok (.invokevirtual 177, 3) := by decide +kernel
theorem d_Mo_covered_7 : decode y_Mo_covered.2.1 7 = .ok (.ifCond .ne 7, 3) := by decide +kernel
theorem d_Mo_covered_10 : decode y_Mo_covered.2.1 10 = .ok (.iconst 1, 1) := by decide +kernel
theorem d_Mo_covered_11 : decode y_Mo_covered.2.1 11 = .ok (.goto 4, 3) := by decide +kernel
theorem d_Mo_covered_14 : decode y_Mo_covered.2.1 14 = .ok (.iconst 0, 1) := by decide +kernel
theorem d_Mo_covered_15 : decode y_Mo_covered.2.1 15 = .ok (.iload_n 3, 1) := by decide +kernel
theorem d_Mo_covered_16 : decode y_Mo_covered.2.1 16 = .ok (.invokestatic 191, 3) := by decide +kernel
theorem d_Mo_covered_19 : decode y_Mo_covered.2.1 19 = .ok (.ifCond .ne 7, 3) := by decide +kernel
theorem d_Mo_covered_22 : decode y_Mo_covered.2.1 22 = .ok (.iconst 1, 1) := by decide +kernel
theorem d_Mo_covered_23 : decode y_Mo_covered.2.1 23 = .ok (.goto 4, 3) := by decide +kernel
theorem d_Mo_covered_26 : decode y_Mo_covered.2.1 26 = .ok (.iconst 0, 1) := by decide +kernel
theorem d_Mo_covered_27 : decode y_Mo_covered.2.1 27 = .ok (.invokevirtual 96, 3) := by decide +kernel
theorem d_Mo_covered_30 : decode y_Mo_covered.2.1 30 = .ok (.ifCond .ne 17, 3) := by decide +kernel
theorem d_Mo_covered_33 : decode y_Mo_covered.2.1 33 = .ok (.aload_n 0, 1) := by decide +kernel
theorem d_Mo_covered_34 : decode y_Mo_covered.2.1 34 = .ok (.iload_n 1, 1) := by decide +kernel
theorem d_Mo_covered_35 : decode y_Mo_covered.2.1 35 = .ok (.iload_n 2, 1) := by decide +kernel
theorem d_Mo_covered_36 : decode y_Mo_covered.2.1 36 = .ok (.iload_n 3, 1) := by decide +kernel
theorem d_Mo_covered_37 : decode y_Mo_covered.2.1 37 = .ok (.invokevirtual 216, 3) := by decide +kernel
theorem d_Mo_covered_40 : decode y_Mo_covered.2.1 40 = .ok (.ifCond .eq 7, 3) := by decide +kernel
theorem d_Mo_covered_43 : decode y_Mo_covered.2.1 43 = .ok (.iconst 1, 1) := by decide +kernel
theorem d_Mo_covered_44 : decode y_Mo_covered.2.1 44 = .ok (.goto 4, 3) := by decide +kernel
theorem d_Mo_covered_47 : decode y_Mo_covered.2.1 47 = .ok (.iconst 0, 1) := by decide +kernel
theorem d_Mo_covered_48 : decode y_Mo_covered.2.1 48 = .ok (.ireturn, 1) := by decide +kernel
def y_Mo_missing : MethodName × ByteArray × Nat × Option FieldType × List (Nat × Nat × Nat × Nat) := (⟨"MaskedCausesModel", "missing", "(II)I"⟩, prog_13_method_51_code, 5, (Option.some Jvm.ClassFile.FieldType.int), [])
theorem d_Mo_missing_0 : decode y_Mo_missing.2.1 0 = .ok (.aload_n 0, 1) := by decide +kernel
theorem d_Mo_missing_1 : decode y_Mo_missing.2.1 1 = .ok (.aload_n 0, 1) := by decide +kernel
theorem d_Mo_missing_2 : decode y_Mo_missing.2.1 2 = .ok (.iload_n 1, 1) := by decide +kernel
theorem d_Mo_missing_3 : decode y_Mo_missing.2.1 3 = .ok (.invokevirtual 159, 3) := by decide +kernel
theorem d_Mo_missing_6 : decode y_Mo_missing.2.1 6 = .ok (.ifCond .ne 7, 3) := by decide +kernel
theorem d_Mo_missing_9 : decode y_Mo_missing.2.1 9 = .ok (.iconst 1, 1) := by decide +kernel
theorem d_Mo_missing_10 : decode y_Mo_missing.2.1 10 = .ok (.goto 4, 3) := by decide +kernel
theorem d_Mo_missing_13 : decode y_Mo_missing.2.1 13 = .ok (.iconst 0, 1) := by decide +kernel
theorem d_Mo_missing_14 : decode y_Mo_missing.2.1 14 = .ok (.iload_n 2, 1) := by decide +kernel
theorem d_Mo_missing_15 : decode y_Mo_missing.2.1 15 = .ok (.invokestatic 191, 3) := by decide +kernel
theorem d_Mo_missing_18 : decode y_Mo_missing.2.1 18 = .ok (.ifCond .ne 7, 3) := by decide +kernel
theorem d_Mo_missing_21 : decode y_Mo_missing.2.1 21 = .ok (.iconst 1, 1) := by decide +kernel
theorem d_Mo_missing_22 : decode y_Mo_missing.2.1 22 = .ok (.goto 4, 3) := by decide +kernel
theorem d_Mo_missing_25 : decode y_Mo_missing.2.1 25 = .ok (.iconst 0, 1) := by decide +kernel
theorem d_Mo_missing_26 : decode y_Mo_missing.2.1 26 = .ok (.invokevirtual 96, 3) := by decide +kernel
theorem d_Mo_missing_29 : decode y_Mo_missing.2.1 29 = .ok (.ifCond .eq 5, 3) := by decide +kernel
theorem d_Mo_missing_32 : decode y_Mo_missing.2.1 32 = .ok (.iconst 0, 1) := by decide +kernel
theorem d_Mo_missing_33 : decode y_Mo_missing.2.1 33 = .ok (.ireturn, 1) := by decide +kernel
theorem d_Mo_missing_34 : decode y_Mo_missing.2.1 34 = .ok (.iconst (-1), 1) := by decide +kernel
theorem d_Mo_missing_35 : decode y_Mo_missing.2.1 35 = .ok (.istore_n 3, 1) := by decide +kernel
theorem d_Mo_missing_36 : decode y_Mo_missing.2.1 36 = .ok (.aload_n 0, 1) := by decide +kernel
theorem d_Mo_missing_37 : decode y_Mo_missing.2.1 37 = .ok (.getfield 41, 3) := by decide +kernel
theorem d_Mo_missing_40 : decode y_Mo_missing.2.1 40 = .ok (.iload_n 1, 1) := by decide +kernel
theorem d_Mo_missing_41 : decode y_Mo_missing.2.1 41 = .ok (.iaload, 1) := by decide +kernel
theorem d_Mo_missing_42 : decode y_Mo_missing.2.1 42 = .ok (.iconst 1, 1) := by decide +kernel
theorem d_Mo_missing_43 : decode y_Mo_missing.2.1 43 = .ok (.isub, 1) := by decide +kernel
theorem d_Mo_missing_44 : decode y_Mo_missing.2.1 44 = .ok (.istore 4, 2) := by decide +kernel
theorem d_Mo_missing_46 : decode y_Mo_missing.2.1 46 = .ok (.iload 4, 2) := by decide +kernel
theorem d_Mo_missing_48 : decode y_Mo_missing.2.1 48 = .ok (.ifCond .lt 38, 3) := by decide +kernel
theorem d_Mo_missing_51 : decode y_Mo_missing.2.1 51 = .ok (.aload_n 0, 1) := by decide +kernel
theorem d_Mo_missing_52 : decode y_Mo_missing.2.1 52 = .ok (.iload_n 1, 1) := by decide +kernel
theorem d_Mo_missing_53 : decode y_Mo_missing.2.1 53 = .ok (.iload 4, 2) := by decide +kernel
theorem d_Mo_missing_55 : decode y_Mo_missing.2.1 55 = .ok (.iload_n 2, 1) := by decide +kernel
theorem d_Mo_missing_56 : decode y_Mo_missing.2.1 56 = .ok (.invokevirtual 194, 3) := by decide +kernel
theorem d_Mo_missing_59 : decode y_Mo_missing.2.1 59 = .ok (.ifCond .lt 19, 3) := by decide +kernel
theorem d_Mo_missing_62 : decode y_Mo_missing.2.1 62 = .ok (.aload_n 0, 1) := by decide +kernel
theorem d_Mo_missing_63 : decode y_Mo_missing.2.1 63 = .ok (.iload_n 1, 1) := by decide +kernel
theorem d_Mo_missing_64 : decode y_Mo_missing.2.1 64 = .ok (.iload 4, 2) := by decide +kernel
theorem d_Mo_missing_66 : decode y_Mo_missing.2.1 66 = .ok (.iload_n 2, 1) := by decide +kernel
theorem d_Mo_missing_67 : decode y_Mo_missing.2.1 67 = .ok (.invokevirtual 216, 3) := by decide +kernel
theorem d_Mo_missing_70 : decode y_Mo_missing.2.1 70 = .ok (.ifCond .ne 8, 3) := by decide +kernel
theorem d_Mo_missing_73 : decode y_Mo_missing.2.1 73 = .ok (.iload 4, 2) := by decide +kernel
theorem d_Mo_missing_75 : decode y_Mo_missing.2.1 75 = .ok (.goto 4, 3) := by decide +kernel
theorem d_Mo_missing_78 : decode y_Mo_missing.2.1 78 = .ok (.iload_n 3, 1) := by decide +kernel
theorem d_Mo_missing_79 : decode y_Mo_missing.2.1 79 = .ok (.istore_n 3, 1) := by decide +kernel
theorem d_Mo_missing_80 : decode y_Mo_missing.2.1 80 = .ok (.iinc 4 (-1), 3) := by decide +kernel
theorem d_Mo_missing_83 : decode y_Mo_missing.2.1 83 = .ok (.goto (-37), 3) := by decide +kernel
theorem d_Mo_missing_86 : decode y_Mo_missing.2.1 86 = .ok (.iload_n 3, 1) := by decide +kernel
theorem d_Mo_missing_87 : decode y_Mo_missing.2.1 87 = .ok (.ireturn, 1) := by decide +kernel
def y_Mo_length : MethodName × ByteArray × Nat × Option FieldType × List (Nat × Nat × Nat × Nat) := (⟨"MaskedCausesModel", "length", "()I"⟩, prog_13_method_52_code, 1, (Option.some Jvm.ClassFile.FieldType.int), [])
theorem d_Mo_length_0 : decode y_Mo_length.2.1 0 = .ok (.aload_n 0, 1) := by decide +kernel
theorem d_Mo_length_1 : decode y_Mo_length.2.1 1 = .ok (.iconst 0, 1) := by decide +kernel
theorem d_Mo_length_2 : decode y_Mo_length.2.1 2 = .ok (.putfield 86, 3) := by decide +kernel
theorem d_Mo_length_5 : decode y_Mo_length.2.1 5 = .ok (.aload_n 0, 1) := by decide +kernel
theorem d_Mo_length_6 : decode y_Mo_length.2.1 6 = .ok (.getfield 168, 3) := by decide +kernel
theorem d_Mo_length_9 : decode y_Mo_length.2.1 9 = .ok (.ireturn, 1) := by decide +kernel
def y_Mo_charAt : MethodName × ByteArray × Nat × Option FieldType × List (Nat × Nat × Nat × Nat) := (⟨"MaskedCausesModel", "charAt", "(I)C"⟩, prog_13_method_53_code, 2, (Option.some Jvm.ClassFile.FieldType.char), [])
theorem d_Mo_charAt_0 : decode y_Mo_charAt.2.1 0 = .ok (.aload_n 0, 1) := by decide +kernel
theorem d_Mo_charAt_1 : decode y_Mo_charAt.2.1 1 = .ok (.iconst 0, 1) := by decide +kernel
theorem d_Mo_charAt_2 : decode y_Mo_charAt.2.1 2 = .ok (.putfield 86, 3) := by decide +kernel
theorem d_Mo_charAt_5 : decode y_Mo_charAt.2.1 5 = .ok (.iload_n 1, 1) := by decide +kernel
theorem d_Mo_charAt_6 : decode y_Mo_charAt.2.1 6 = .ok (.ifCond .lt 11, 3) := by decide +kernel
theorem d_Mo_charAt_9 : decode y_Mo_charAt.2.1 9 = .ok (.iload_n 1, 1) := by decide +kernel
theorem d_Mo_charAt_10 : decode y_Mo_charAt.2.1 10 = .ok (.aload_n 0, 1) := by decide +kernel
theorem d_Mo_charAt_11 : decode y_Mo_charAt.2.1 11 = .ok (.getfield 168, 3) := by decide +kernel
theorem d_Mo_charAt_14 : decode y_Mo_charAt.2.1 14 = .ok (.if_icmp .lt 8, 3) := by decide +kernel
theorem d_Mo_charAt_17 : decode y_Mo_charAt.2.1 17 = .ok (.bipush 32, 2) := by decide +kernel
theorem d_Mo_charAt_19 : decode y_Mo_charAt.2.1 19 = .ok (.goto 10, 3) := by decide +kernel
theorem d_Mo_charAt_22 : decode y_Mo_charAt.2.1 22 = .ok (.aload_n 0, 1) := by decide +kernel
theorem d_Mo_charAt_23 : decode y_Mo_charAt.2.1 23 = .ok (.getfield 83, 3) := by decide +kernel
theorem d_Mo_charAt_26 : decode y_Mo_charAt.2.1 26 = .ok (.iload_n 1, 1) := by decide +kernel
theorem d_Mo_charAt_27 : decode y_Mo_charAt.2.1 27 = .ok (.iaload, 1) := by decide +kernel
theorem d_Mo_charAt_28 : decode y_Mo_charAt.2.1 28 = .ok (.i2c, 1) := by decide +kernel
theorem d_Mo_charAt_29 : decode y_Mo_charAt.2.1 29 = .ok (.ireturn, 1) := by decide +kernel
end
