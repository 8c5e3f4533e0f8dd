/-! methods and their instructions -/
section
def y_MC_init : MethodName × ByteArray × Nat × Option FieldType × List (Nat × Nat × Nat × Nat) := (⟨"MaskedCauses", "<init>", "()V"⟩, prog_1_method_1_code, 2, (Option.none : Option Jvm.ClassFile.FieldType), [])
theorem d_MC_init_0 : decode y_MC_init.2.1 0 = .ok (.aload_n 0, 1) := by decide +kernel
theorem d_MC_init_1 : decode y_MC_init.2.1 1 = .ok (.invokespecial 1, 3) := by decide +kernel
theorem d_MC_init_4 : decode y_MC_init.2.1 4 = .ok (.aload_n 0, 1) := by decide +kernel
theorem d_MC_init_5 : decode y_MC_init.2.1 5 = .ok (.new 7, 3) := by decide +kernel
theorem d_MC_init_8 : decode y_MC_init.2.1 8 = .ok (.dup, 1) := by decide +kernel
theorem d_MC_init_9 : decode y_MC_init.2.1 9 = .ok (.invokespecial 9, 3) := by decide +kernel
theorem d_MC_init_12 : decode y_MC_init.2.1 12 = .ok (.putfield 10, 3) := by decide +kernel
theorem d_MC_init_15 : decode y_MC_init.2.1 15 = .ok (.aload_n 0, 1) := by decide +kernel
theorem d_MC_init_16 : decode y_MC_init.2.1 16 = .ok (.new 16, 3) := by decide +kernel
theorem d_MC_init_19 : decode y_MC_init.2.1 19 = .ok (.dup, 1) := by decide +kernel
theorem d_MC_init_20 : decode y_MC_init.2.1 20 = .ok (.invokespecial 18, 3) := by decide +kernel
theorem d_MC_init_23 : decode y_MC_init.2.1 23 = .ok (.putfield 19, 3) := by decide +kernel
theorem d_MC_init_26 : decode y_MC_init.2.1 26 = .ok (.aload_n 0, 1) := by decide +kernel
theorem d_MC_init_27 : decode y_MC_init.2.1 27 = .ok (.new 23, 3) := by decide +kernel
theorem d_MC_init_30 : decode y_MC_init.2.1 30 = .ok (.dup, 1) := by decide +kernel
theorem d_MC_init_31 : decode y_MC_init.2.1 31 = .ok (.invokespecial 25, 3) := by decide +kernel
theorem d_MC_init_34 : decode y_MC_init.2.1 34 = .ok (.putfield 26, 3) := by decide +kernel
theorem d_MC_init_37 : decode y_MC_init.2.1 37 = .ok (.aload_n 0, 1) := by decide +kernel
theorem d_MC_init_38 : decode y_MC_init.2.1 38 = .ok (.new 30, 3) := by decide +kernel
theorem d_MC_init_41 : decode y_MC_init.2.1 41 = .ok (.dup, 1) := by decide +kernel
theorem d_MC_init_42 : decode y_MC_init.2.1 42 = .ok (.invokespecial 32, 3) := by decide +kernel
theorem d_MC_init_45 : decode y_MC_init.2.1 45 = .ok (.putfield 33, 3) := by decide +kernel
theorem d_MC_init_48 : decode y_MC_init.2.1 48 = .ok (.aload_n 0, 1) := by decide +kernel
theorem d_MC_init_49 : decode y_MC_init.2.1 49 = .ok (.new 37, 3) := by decide +kernel
theorem d_MC_init_52 : decode y_MC_init.2.1 52 = .ok (.dup, 1) := by decide +kernel
theorem d_MC_init_53 : decode y_MC_init.2.1 53 = .ok (.aload_n 0, 1) := by decide +kernel
theorem d_MC_init_54 : decode y_MC_init.2.1 54 = .ok (.getfield 26, 3) := by decide +kernel
theorem d_MC_init_57 : decode y_MC_init.2.1 57 = .ok (.aload_n 0, 1) := by decide +kernel
theorem d_MC_init_58 : decode y_MC_init.2.1 58 = .ok (.getfield 33, 3) := by decide +kernel
theorem d_MC_init_61 : decode y_MC_init.2.1 61 = .ok (.invokespecial 39, 3) := by decide +kernel
theorem d_MC_init_64 : decode y_MC_init.2.1 64 = .ok (.putfield 42, 3) := by decide +kernel
theorem d_MC_init_67 : decode y_MC_init.2.1 67 = .ok (.aload_n 0, 1) := by decide +kernel
theorem d_MC_init_68 : decode y_MC_init.2.1 68 = .ok (.new 46, 3) := by decide +kernel
theorem d_MC_init_71 : decode y_MC_init.2.1 71 = .ok (.dup, 1) := by decide +kernel
theorem d_MC_init_72 : decode y_MC_init.2.1 72 = .ok (.aload_n 0, 1) := by decide +kernel
theorem d_MC_init_73 : decode y_MC_init.2.1 73 = .ok (.getfield 10, 3) := by decide +kernel
theorem d_MC_init_76 : decode y_MC_init.2.1 76 = .ok (.aload_n 0, 1) := by decide +kernel
theorem d_MC_init_77 : decode y_MC_init.2.1 77 = .ok (.getfield 19, 3) := by decide +kernel
theorem d_MC_init_80 : decode y_MC_init.2.1 80 = .ok (.invokespecial 48, 3) := by decide +kernel
theorem d_MC_init_83 : decode y_MC_init.2.1 83 = .ok (.putfield 51, 3) := by decide +kernel
theorem d_MC_init_86 : decode y_MC_init.2.1 86 = .ok (.aload_n 0, 1) := by decide +kernel
theorem d_MC_init_87 : decode y_MC_init.2.1 87 = .ok (.iconst 4, 1) := by decide +kernel
theorem d_MC_init_88 : decode y_MC_init.2.1 88 = .ok (.anewarray 55, 3) := by decide +kernel
theorem d_MC_init_91 : decode y_MC_init.2.1 91 = .ok (.putfield 57, 3) := by decide +kernel
theorem d_MC_init_94 : decode y_MC_init.2.1 94 = .ok (.iconst 0, 1) := by decide +kernel
theorem d_MC_init_95 : decode y_MC_init.2.1 95 = .ok (.istore_n 1, 1) := by decide +kernel
theorem d_MC_init_96 : decode y_MC_init.2.1 96 = .ok (.iload_n 1, 1) := by decide +kernel
theorem d_MC_init_97 : decode y_MC_init.2.1 97 = .ok (.iconst 4, 1) := by decide +kernel
theorem d_MC_init_98 : decode y_MC_init.2.1 98 = .ok (.if_icmp .ge 26, 3) := by decide +kernel
theorem d_MC_init_101 : decode y_MC_init.2.1 101 = .ok (.aload_n 0, 1) := by decide +kernel
theorem d_MC_init_102 : decode y_MC_init.2.1 102 = .ok (.getfield 57, 3) := by decide +kernel
theorem d_MC_init_105 : decode y_MC_init.2.1 105 = .ok (.iload_n 1, 1) := by decide +kernel
theorem d_MC_init_106 : decode y_MC_init.2.1 106 = .ok (.new 55, 3) := by decide +kernel
theorem d_MC_init_109 : decode y_MC_init.2.1 109 = .ok (.dup, 1) := by decide +kernel
theorem d_MC_init_110 : decode y_MC_init.2.1 110 = .ok (.aload_n 0, 1) := by decide +kernel
theorem d_MC_init_111 : decode y_MC_init.2.1 111 = .ok (.getfield 19, 3) := by decide +kernel
theorem d_MC_init_114 : decode y_MC_init.2.1 114 = .ok (.invokespecial 61, 3) := by decide +kernel
theorem d_MC_init_117 : decode y_MC_init.2.1 117 = .ok (.aastore, 1) := by decide +kernel
theorem d_MC_init_118 : decode y_MC_init.2.1 118 = .ok (.iinc 1 1, 3) := by decide +kernel
theorem d_MC_init_121 : decode y_MC_init.2.1 121 = .ok (.goto (-25), 3) := by decide +kernel
theorem d_MC_init_124 : decode y_MC_init.2.1 124 = .ok (.aload_n 0, 1) := by decide +kernel
theorem d_MC_init_125 : decode y_MC_init.2.1 125 = .ok (.new 64, 3) := by decide +kernel
theorem d_MC_init_128 : decode y_MC_init.2.1 128 = .ok (.dup, 1) := by decide +kernel
theorem d_MC_init_129 : decode y_MC_init.2.1 129 = .ok (.invokespecial 66, 3) := by decide +kernel
theorem d_MC_init_132 : decode y_MC_init.2.1 132 = .ok (.putfield 67, 3) := by decide +kernel
theorem d_MC_init_135 : decode y_MC_init.2.1 135 = .ok (.aload_n 0, 1) := by decide +kernel
theorem d_MC_init_136 : decode y_MC_init.2.1 136 = .ok (.new 71, 3) := by decide +kernel
theorem d_MC_init_139 : decode y_MC_init.2.1 139 = .ok (.dup, 1) := by decide +kernel
theorem d_MC_init_140 : decode y_MC_init.2.1 140 = .ok (.invokespecial 73, 3) := by decide +kernel
theorem d_MC_init_143 : decode y_MC_init.2.1 143 = .ok (.putfield 74, 3) := by decide +kernel
theorem d_MC_init_146 : decode y_MC_init.2.1 146 = .ok (.aload_n 0, 1) := by decide +kernel
theorem d_MC_init_147 : decode y_MC_init.2.1 147 = .ok (.new 78, 3) := by decide +kernel
theorem d_MC_init_150 : decode y_MC_init.2.1 150 = .ok (.dup, 1) := by decide +kernel
theorem d_MC_init_151 : decode y_MC_init.2.1 151 = .ok (.invokespecial 80, 3) := by decide +kernel
theorem d_MC_init_154 : decode y_MC_init.2.1 154 = .ok (.putfield 81, 3) := by decide +kernel
theorem d_MC_init_157 : decode y_MC_init.2.1 157 = .ok (.aload_n 0, 1) := by decide +kernel
theorem d_MC_init_158 : decode y_MC_init.2.1 158 = .ok (.iconst 0, 1) := by decide +kernel
theorem d_MC_init_159 : decode y_MC_init.2.1 159 = .ok (.putfield 85, 3) := by decide +kernel
theorem d_MC_init_162 : decode y_MC_init.2.1 162 = .ok (.aload_n 0, 1) := by decide +kernel
theorem d_MC_init_163 : decode y_MC_init.2.1 163 = .ok (.new 23, 3) := by decide +kernel
theorem d_MC_init_166 : decode y_MC_init.2.1 166 = .ok (.dup, 1) := by decide +kernel
theorem d_MC_init_167 : decode y_MC_init.2.1 167 = .ok (.invokespecial 25, 3) := by decide +kernel
theorem d_MC_init_170 : decode y_MC_init.2.1 170 = .ok (.putfield 89, 3) := by decide +kernel
theorem d_MC_init_173 : decode y_MC_init.2.1 173 = .ok (.return_, 1) := by decide +kernel
def y_MC_input : MethodName × ByteArray × Nat × Option FieldType × List (Nat × Nat × Nat × Nat) := (⟨"MaskedCauses", "input", "(II)I"⟩, prog_1_method_2_code, 3, (Option.some Jvm.ClassFile.FieldType.int), [])
theorem d_MC_input_0 : decode y_MC_input.2.1 0 = .ok (.aload_n 0, 1) := by decide +kernel
theorem d_MC_input_1 : decode y_MC_input.2.1 1 = .ok (.getfield 10, 3) := by decide +kernel
theorem d_MC_input_4 : decode y_MC_input.2.1 4 = .ok (.invokevirtual 92, 3) := by decide +kernel
theorem d_MC_input_7 : decode y_MC_input.2.1 7 = .ok (.ifCond .ne 13, 3) := by decide +kernel
theorem d_MC_input_10 : decode y_MC_input.2.1 10 = .ok (.aload_n 0, 1) := by decide +kernel
theorem d_MC_input_11 : decode y_MC_input.2.1 11 = .ok (.getfield 19, 3) := by decide +kernel
theorem d_MC_input_14 : decode y_MC_input.2.1 14 = .ok (.invokevirtual 96, 3) := by decide +kernel
theorem d_MC_input_17 : decode y_MC_input.2.1 17 = .ok (.ifCond .le 11, 3) := by decide +kernel
theorem d_MC_input_20 : decode y_MC_input.2.1 20 = .ok (.new 100, 3) := by decide +kernel
theorem d_MC_input_23 : decode y_MC_input.2.1 23 = .ok (.dup, 1) := by decide +kernel
theorem d_MC_input_24 : decode y_MC_input.2.1 24 = .ok (.invokespecial 102, 3) := by decide +kernel
theorem d_MC_input_27 : decode y_MC_input.2.1 27 = .ok (.athrow, 1) := by decide +kernel
theorem d_MC_input_28 : decode y_MC_input.2.1 28 = .ok (.iload_n 1, 1) := by decide +kernel
theorem d_MC_input_29 : decode y_MC_input.2.1 29 = .ok (.bipush (-20), 2) := by decide +kernel
theorem d_MC_input_31 : decode y_MC_input.2.1 31 = .ok (.if_icmp .lt 14, 3) := by decide +kernel
theorem d_MC_input_34 : decode y_MC_input.2.1 34 = .ok (.iload_n 1, 1) := by decide +kernel
theorem d_MC_input_35 : decode y_MC_input.2.1 35 = .ok (.iload_n 2, 1) := by decide +kernel
theorem d_MC_input_36 : decode y_MC_input.2.1 36 = .ok (.if_icmp .gt 9, 3) := by decide +kernel
theorem d_MC_input_39 : decode y_MC_input.2.1 39 = .ok (.iload_n 2, 1) := by decide +kernel
theorem d_MC_input_40 : decode y_MC_input.2.1 40 = .ok (.bipush 20, 2) := by decide +kernel
theorem d_MC_input_42 : decode y_MC_input.2.1 42 = .ok (.if_icmp .le 11, 3) := by decide +kernel
theorem d_MC_input_45 : decode y_MC_input.2.1 45 = .ok (.new 103, 3) := by decide +kernel
theorem d_MC_input_48 : decode y_MC_input.2.1 48 = .ok (.dup, 1) := by decide +kernel
theorem d_MC_input_49 : decode y_MC_input.2.1 49 = .ok (.invokespecial 105, 3) := by decide +kernel
theorem d_MC_input_52 : decode y_MC_input.2.1 52 = .ok (.athrow, 1) := by decide +kernel
theorem d_MC_input_53 : decode y_MC_input.2.1 53 = .ok (.aload_n 0, 1) := by decide +kernel
theorem d_MC_input_54 : decode y_MC_input.2.1 54 = .ok (.getfield 10, 3) := by decide +kernel
theorem d_MC_input_57 : decode y_MC_input.2.1 57 = .ok (.iload_n 1, 1) := by decide +kernel
theorem d_MC_input_58 : decode y_MC_input.2.1 58 = .ok (.iload_n 2, 1) := by decide +kernel
theorem d_MC_input_59 : decode y_MC_input.2.1 59 = .ok (.invokevirtual 106, 3) := by decide +kernel
theorem d_MC_input_62 : decode y_MC_input.2.1 62 = .ok (.ireturn, 1) := by decide +kernel
def y_MC_condition : MethodName × ByteArray × Nat × Option FieldType × List (Nat × Nat × Nat × Nat) := (⟨"MaskedCauses", "condition", "(IIII)I"⟩, prog_1_method_3_code, 5, (Option.some Jvm.ClassFile.FieldType.int), [])
theorem d_MC_condition_0 : decode y_MC_condition.2.1 0 = .ok (.aload_n 0, 1) := by decide +kernel
theorem d_MC_condition_1 : decode y_MC_condition.2.1 1 = .ok (.getfield 19, 3) := by decide +kernel
theorem d_MC_condition_4 : decode y_MC_condition.2.1 4 = .ok (.invokevirtual 110, 3) := by decide +kernel
theorem d_MC_condition_7 : decode y_MC_condition.2.1 7 = .ok (.ifCond .eq 11, 3) := by decide +kernel
theorem d_MC_condition_10 : decode y_MC_condition.2.1 10 = .ok (.new 100, 3) := by decide +kernel
theorem d_MC_condition_13 : decode y_MC_condition.2.1 13 = .ok (.dup, 1) := by decide +kernel
theorem d_MC_condition_14 : decode y_MC_condition.2.1 14 = .ok (.invokespecial 102, 3) := by decide +kernel
theorem d_MC_condition_17 : decode y_MC_condition.2.1 17 = .ok (.athrow, 1) := by decide +kernel
theorem d_MC_condition_18 : decode y_MC_condition.2.1 18 = .ok (.aload_n 0, 1) := by decide +kernel
theorem d_MC_condition_19 : decode y_MC_condition.2.1 19 = .ok (.getfield 10, 3) := by decide +kernel
theorem d_MC_condition_22 : decode y_MC_condition.2.1 22 = .ok (.iload_n 2, 1) := by decide +kernel
theorem d_MC_condition_23 : decode y_MC_condition.2.1 23 = .ok (.invokevirtual 111, 3) := by decide +kernel
theorem d_MC_condition_26 : decode y_MC_condition.2.1 26 = .ok (.ifCond .eq 19, 3) := by decide +kernel
theorem d_MC_condition_29 : decode y_MC_condition.2.1 29 = .ok (.iload_n 3, 1) := by decide +kernel
theorem d_MC_condition_30 : decode y_MC_condition.2.1 30 = .ok (.iconst (-1), 1) := by decide +kernel
theorem d_MC_condition_31 : decode y_MC_condition.2.1 31 = .ok (.if_icmp .eq 22, 3) := by decide +kernel
theorem d_MC_condition_34 : decode y_MC_condition.2.1 34 = .ok (.aload_n 0, 1) := by decide +kernel
theorem d_MC_condition_35 : decode y_MC_condition.2.1 35 = .ok (.getfield 10, 3) := by decide +kernel
theorem d_MC_condition_38 : decode y_MC_condition.2.1 38 = .ok (.iload_n 3, 1) := by decide +kernel
theorem d_MC_condition_39 : decode y_MC_condition.2.1 39 = .ok (.invokevirtual 111, 3) := by decide +kernel
theorem d_MC_condition_42 : decode y_MC_condition.2.1 42 = .ok (.ifCond .ne 11, 3) := by decide +kernel
theorem d_MC_condition_45 : decode y_MC_condition.2.1 45 = .ok (.new 115, 3) := by decide +kernel
theorem d_MC_condition_48 : decode y_MC_condition.2.1 48 = .ok (.dup, 1) := by decide +kernel
theorem d_MC_condition_49 : decode y_MC_condition.2.1 49 = .ok (.invokespecial 117, 3) := by decide +kernel
theorem d_MC_condition_52 : decode y_MC_condition.2.1 52 = .ok (.athrow, 1) := by decide +kernel
theorem d_MC_condition_53 : decode y_MC_condition.2.1 53 = .ok (.iload_n 1, 1) := by decide +kernel
theorem d_MC_condition_54 : decode y_MC_condition.2.1 54 = .ok (.ifCond .lt 27, 3) := by decide +kernel
theorem d_MC_condition_57 : decode y_MC_condition.2.1 57 = .ok (.iload_n 1, 1) := by decide +kernel
theorem d_MC_condition_58 : decode y_MC_condition.2.1 58 = .ok (.iconst 3, 1) := by decide +kernel
theorem d_MC_condition_59 : decode y_MC_condition.2.1 59 = .ok (.if_icmp .gt 22, 3) := by decide +kernel
theorem d_MC_condition_62 : decode y_MC_condition.2.1 62 = .ok (.iload 4, 2) := by decide +kernel
theorem d_MC_condition_64 : decode y_MC_condition.2.1 64 = .ok (.bipush (-50), 2) := by decide +kernel
theorem d_MC_condition_66 : decode y_MC_condition.2.1 66 = .ok (.if_icmp .lt 15, 3) := by decide +kernel
theorem d_MC_condition_69 : decode y_MC_condition.2.1 69 = .ok (.iload 4, 2) := by decide +kernel
theorem d_MC_condition_71 : decode y_MC_condition.2.1 71 = .ok (.bipush 50, 2) := by decide +kernel
theorem d_MC_condition_73 : decode y_MC_condition.2.1 73 = .ok (.if_icmp .gt 8, 3) := by decide +kernel
theorem d_MC_condition_76 : decode y_MC_condition.2.1 76 = .ok (.iload_n 2, 1) := by decide +kernel
theorem d_MC_condition_77 : decode y_MC_condition.2.1 77 = .ok (.iload_n 3, 1) := by decide +kernel
theorem d_MC_condition_78 : decode y_MC_condition.2.1 78 = .ok (.if_icmp .ne 11, 3) := by decide +kernel
theorem d_MC_condition_81 : decode y_MC_condition.2.1 81 = .ok (.new 103, 3) := by decide +kernel
theorem d_MC_condition_84 : decode y_MC_condition.2.1 84 = .ok (.dup, 1) := by decide +kernel
theorem d_MC_condition_85 : decode y_MC_condition.2.1 85 = .ok (.invokespecial 105, 3) := by decide +kernel
theorem d_MC_condition_88 : decode y_MC_condition.2.1 88 = .ok (.athrow, 1) := by decide +kernel
theorem d_MC_condition_89 : decode y_MC_condition.2.1 89 = .ok (.aload_n 0, 1) := by decide +kernel
theorem d_MC_condition_90 : decode y_MC_condition.2.1 90 = .ok (.getfield 19, 3) := by decide +kernel
theorem d_MC_condition_93 : decode y_MC_condition.2.1 93 = .ok (.iload_n 1, 1) := by decide +kernel
theorem d_MC_condition_94 : decode y_MC_condition.2.1 94 = .ok (.iload_n 2, 1) := by decide +kernel
theorem d_MC_condition_95 : decode y_MC_condition.2.1 95 = .ok (.iload_n 3, 1) := by decide +kernel
theorem d_MC_condition_96 : decode y_MC_condition.2.1 96 = .ok (.iload 4, 2) := by decide +kernel
theorem d_MC_condition_98 : decode y_MC_condition.2.1 98 = .ok (.invokevirtual 118, 3) := by decide +kernel
theorem d_MC_condition_101 : decode y_MC_condition.2.1 101 = .ok (.ireturn, 1) := by decide +kernel
def y_MC_type : MethodName × ByteArray × Nat × Option FieldType × List (Nat × Nat × Nat × Nat) := (⟨"MaskedCauses", "type", "(C)Z"⟩, prog_1_method_4_code, 2, (Option.some Jvm.ClassFile.FieldType.boolean), [])
theorem d_MC_type_0 : decode y_MC_type.2.1 0 = .ok (.iload_n 1, 1) := by decide +kernel
theorem d_MC_type_1 : decode y_MC_type.2.1 1 = .ok (.bipush 32, 2) := by decide +kernel
theorem d_MC_type_3 : decode y_MC_type.2.1 3 = .ok (.if_icmp .lt 24, 3) := by decide +kernel
theorem d_MC_type_6 : decode y_MC_type.2.1 6 = .ok (.iload_n 1, 1) := by decide +kernel
theorem d_MC_type_7 : decode y_MC_type.2.1 7 = .ok (.bipush 126, 2) := by decide +kernel
theorem d_MC_type_9 : decode y_MC_type.2.1 9 = .ok (.if_icmp .gt 18, 3) := by decide +kernel
theorem d_MC_type_12 : decode y_MC_type.2.1 12 = .ok (.aload_n 0, 1) := by decide +kernel
theorem d_MC_type_13 : decode y_MC_type.2.1 13 = .ok (.getfield 26, 3) := by decide +kernel
theorem d_MC_type_16 : decode y_MC_type.2.1 16 = .ok (.iload_n 1, 1) := by decide +kernel
theorem d_MC_type_17 : decode y_MC_type.2.1 17 = .ok (.invokevirtual 121, 3) := by decide +kernel
theorem d_MC_type_20 : decode y_MC_type.2.1 20 = .ok (.ifCond .eq 7, 3) := by decide +kernel
theorem d_MC_type_23 : decode y_MC_type.2.1 23 = .ok (.iconst 1, 1) := by decide +kernel
theorem d_MC_type_24 : decode y_MC_type.2.1 24 = .ok (.goto 4, 3) := by decide +kernel
theorem d_MC_type_27 : decode y_MC_type.2.1 27 = .ok (.iconst 0, 1) := by decide +kernel
theorem d_MC_type_28 : decode y_MC_type.2.1 28 = .ok (.ireturn, 1) := by decide +kernel
def y_MC_wipe : MethodName × ByteArray × Nat × Option FieldType × List (Nat × Nat × Nat × Nat) := (⟨"MaskedCauses", "wipe", "()I"⟩, prog_1_method_5_code, 1, (Option.some Jvm.ClassFile.FieldType.int), [])
theorem d_MC_wipe_0 : decode y_MC_wipe.2.1 0 = .ok (.aload_n 0, 1) := by decide +kernel
theorem d_MC_wipe_1 : decode y_MC_wipe.2.1 1 = .ok (.getfield 26, 3) := by decide +kernel
theorem d_MC_wipe_4 : decode y_MC_wipe.2.1 4 = .ok (.invokevirtual 125, 3) := by decide +kernel
theorem d_MC_wipe_7 : decode y_MC_wipe.2.1 7 = .ok (.ireturn, 1) := by decide +kernel
def y_MC_decision : MethodName × ByteArray × Nat × Option FieldType × List (Nat × Nat × Nat × Nat) := (⟨"MaskedCauses", "decision", "(Z)I"⟩, prog_1_method_6_code, 4, (Option.some Jvm.ClassFile.FieldType.int), [])
theorem d_MC_decision_0 : decode y_MC_decision.2.1 0 = .ok (.aload_n 0, 1) := by decide +kernel
theorem d_MC_decision_1 : decode y_MC_decision.2.1 1 = .ok (.getfield 85, 3) := by decide +kernel
theorem d_MC_decision_4 : decode y_MC_decision.2.1 4 = .ok (.iconst 4, 1) := by decide +kernel
theorem d_MC_decision_5 : decode y_MC_decision.2.1 5 = .ok (.if_icmp .eq 13, 3) := by decide +kernel
theorem d_MC_decision_8 : decode y_MC_decision.2.1 8 = .ok (.aload_n 0, 1) := by decide +kernel
theorem d_MC_decision_9 : decode y_MC_decision.2.1 9 = .ok (.getfield 19, 3) := by decide +kernel
theorem d_MC_decision_12 : decode y_MC_decision.2.1 12 = .ok (.invokevirtual 96, 3) := by decide +kernel
theorem d_MC_decision_15 : decode y_MC_decision.2.1 15 = .ok (.ifCond .ne 11, 3) := by decide +kernel
theorem d_MC_decision_18 : decode y_MC_decision.2.1 18 = .ok (.new 100, 3) := by decide +kernel
theorem d_MC_decision_21 : decode y_MC_decision.2.1 21 = .ok (.dup, 1) := by decide +kernel
theorem d_MC_decision_22 : decode y_MC_decision.2.1 22 = .ok (.invokespecial 102, 3) := by decide +kernel
theorem d_MC_decision_25 : decode y_MC_decision.2.1 25 = .ok (.athrow, 1) := by decide +kernel
theorem d_MC_decision_26 : decode y_MC_decision.2.1 26 = .ok (.aload_n 0, 1) := by decide +kernel
theorem d_MC_decision_27 : decode y_MC_decision.2.1 27 = .ok (.getfield 42, 3) := by decide +kernel
theorem d_MC_decision_30 : decode y_MC_decision.2.1 30 = .ok (.aload_n 0, 1) := by decide +kernel
theorem d_MC_decision_31 : decode y_MC_decision.2.1 31 = .ok (.getfield 19, 3) := by decide +kernel
theorem d_MC_decision_34 : decode y_MC_decision.2.1 34 = .ok (.invokevirtual 96, 3) := by decide +kernel
theorem d_MC_decision_37 : decode y_MC_decision.2.1 37 = .ok (.invokevirtual 128, 3) := by decide +kernel
theorem d_MC_decision_40 : decode y_MC_decision.2.1 40 = .ok (.istore_n 2, 1) := by decide +kernel
theorem d_MC_decision_41 : decode y_MC_decision.2.1 41 = .ok (.aload_n 0, 1) := by decide +kernel
theorem d_MC_decision_42 : decode y_MC_decision.2.1 42 = .ok (.getfield 26, 3) := by decide +kernel
theorem d_MC_decision_45 : decode y_MC_decision.2.1 45 = .ok (.invokevirtual 125, 3) := by decide +kernel
theorem d_MC_decision_48 : decode y_MC_decision.2.1 48 = .ok (.pop, 1) := by decide +kernel
theorem d_MC_decision_49 : decode y_MC_decision.2.1 49 = .ok (.iload_n 2, 1) := by decide +kernel
theorem d_MC_decision_50 : decode y_MC_decision.2.1 50 = .ok (.iconst (-1), 1) := by decide +kernel
theorem d_MC_decision_51 : decode y_MC_decision.2.1 51 = .ok (.if_icmp .eq 7, 3) := by decide +kernel
theorem d_MC_decision_54 : decode y_MC_decision.2.1 54 = .ok (.iconst (-1), 1) := by decide +kernel
theorem d_MC_decision_55 : decode y_MC_decision.2.1 55 = .ok (.iload_n 2, 1) := by decide +kernel
theorem d_MC_decision_56 : decode y_MC_decision.2.1 56 = .ok (.isub, 1) := by decide +kernel
theorem d_MC_decision_57 : decode y_MC_decision.2.1 57 = .ok (.ireturn, 1) := by decide +kernel
theorem d_MC_decision_58 : decode y_MC_decision.2.1 58 = .ok (.aload_n 0, 1) := by decide +kernel
theorem d_MC_decision_59 : decode y_MC_decision.2.1 59 = .ok (.getfield 57, 3) := by decide +kernel
theorem d_MC_decision_62 : decode y_MC_decision.2.1 62 = .ok (.aload_n 0, 1) := by decide +kernel
theorem d_MC_decision_63 : decode y_MC_decision.2.1 63 = .ok (.getfield 85, 3) := by decide +kernel
theorem d_MC_decision_66 : decode y_MC_decision.2.1 66 = .ok (.aaload, 1) := by decide +kernel
theorem d_MC_decision_67 : decode y_MC_decision.2.1 67 = .ok (.astore_n 3, 1) := by decide +kernel
theorem d_MC_decision_68 : decode y_MC_decision.2.1 68 = .ok (.aload_n 3, 1) := by decide +kernel
theorem d_MC_decision_69 : decode y_MC_decision.2.1 69 = .ok (.aload_n 0, 1) := by decide +kernel
theorem d_MC_decision_70 : decode y_MC_decision.2.1 70 = .ok (.getfield 33, 3) := by decide +kernel
theorem d_MC_decision_73 : decode y_MC_decision.2.1 73 = .ok (.iload_n 1, 1) := by decide +kernel
theorem d_MC_decision_74 : decode y_MC_decision.2.1 74 = .ok (.invokevirtual 132, 3) := by decide +kernel
theorem d_MC_decision_77 : decode y_MC_decision.2.1 77 = .ok (.aload_n 0, 1) := by decide +kernel
theorem d_MC_decision_78 : decode y_MC_decision.2.1 78 = .ok (.getfield 51, 3) := by decide +kernel
theorem d_MC_decision_81 : decode y_MC_decision.2.1 81 = .ok (.aload_n 3, 1) := by decide +kernel
theorem d_MC_decision_82 : decode y_MC_decision.2.1 82 = .ok (.invokevirtual 136, 3) := by decide +kernel
theorem d_MC_decision_85 : decode y_MC_decision.2.1 85 = .ok (.aload_n 0, 1) := by decide +kernel
theorem d_MC_decision_86 : decode y_MC_decision.2.1 86 = .ok (.dup, 1) := by decide +kernel
theorem d_MC_decision_87 : decode y_MC_decision.2.1 87 = .ok (.getfield 85, 3) := by decide +kernel
theorem d_MC_decision_90 : decode y_MC_decision.2.1 90 = .ok (.iconst 1, 1) := by decide +kernel
theorem d_MC_decision_91 : decode y_MC_decision.2.1 91 = .ok (.iadd, 1) := by decide +kernel
theorem d_MC_decision_92 : decode y_MC_decision.2.1 92 = .ok (.putfield 85, 3) := by decide +kernel
theorem d_MC_decision_95 : decode y_MC_decision.2.1 95 = .ok (.aload_n 0, 1) := by decide +kernel
theorem d_MC_decision_96 : decode y_MC_decision.2.1 96 = .ok (.getfield 85, 3) := by decide +kernel
theorem d_MC_decision_99 : decode y_MC_decision.2.1 99 = .ok (.iconst 1, 1) := by decide +kernel
theorem d_MC_decision_100 : decode y_MC_decision.2.1 100 = .ok (.isub, 1) := by decide +kernel
theorem d_MC_decision_101 : decode y_MC_decision.2.1 101 = .ok (.ireturn, 1) := by decide +kernel
def y_MC_conditions : MethodName × ByteArray × Nat × Option FieldType × List (Nat × Nat × Nat × Nat) := (⟨"MaskedCauses", "conditions", "(I)I"⟩, prog_1_method_7_code, 2, (Option.some Jvm.ClassFile.FieldType.int), [])
theorem d_MC_conditions_0 : decode y_MC_conditions.2.1 0 = .ok (.aload_n 0, 1) := by decide +kernel
theorem d_MC_conditions_1 : decode y_MC_conditions.2.1 1 = .ok (.iload_n 1, 1) := by decide +kernel
theorem d_MC_conditions_2 : decode y_MC_conditions.2.1 2 = .ok (.invokevirtual 140, 3) := by decide +kernel
theorem d_MC_conditions_5 : decode y_MC_conditions.2.1 5 = .ok (.invokevirtual 144, 3) := by decide +kernel
theorem d_MC_conditions_8 : decode y_MC_conditions.2.1 8 = .ok (.ireturn, 1) := by decide +kernel
def y_MC_show : MethodName × ByteArray × Nat × Option FieldType × List (Nat × Nat × Nat × Nat) := (⟨"MaskedCauses", "show", "(I)I"⟩, prog_1_method_8_code, 2, (Option.some Jvm.ClassFile.FieldType.int), [])
theorem d_MC_show_0 : decode y_MC_show.2.1 0 = .ok (.aload_n 0, 1) := by decide +kernel
theorem d_MC_show_1 : decode y_MC_show.2.1 1 = .ok (.aload_n 0, 1) := by decide +kernel
theorem d_MC_show_2 : decode y_MC_show.2.1 2 = .ok (.iload_n 1, 1) := by decide +kernel
theorem d_MC_show_3 : decode y_MC_show.2.1 3 = .ok (.invokevirtual 140, 3) := by decide +kernel
theorem d_MC_show_6 : decode y_MC_show.2.1 6 = .ok (.invokevirtual 145, 3) := by decide +kernel
theorem d_MC_show_9 : decode y_MC_show.2.1 9 = .ok (.putfield 89, 3) := by decide +kernel
theorem d_MC_show_12 : decode y_MC_show.2.1 12 = .ok (.aload_n 0, 1) := by decide +kernel
theorem d_MC_show_13 : decode y_MC_show.2.1 13 = .ok (.getfield 89, 3) := by decide +kernel
theorem d_MC_show_16 : decode y_MC_show.2.1 16 = .ok (.invokevirtual 149, 3) := by decide +kernel
theorem d_MC_show_19 : decode y_MC_show.2.1 19 = .ok (.ireturn, 1) := by decide +kernel
def y_MC_feasible : MethodName × ByteArray × Nat × Option FieldType × List (Nat × Nat × Nat × Nat) := (⟨"MaskedCauses", "feasible", "(I)I"⟩, prog_1_method_9_code, 2, (Option.some Jvm.ClassFile.FieldType.int), [])
theorem d_MC_feasible_0 : decode y_MC_feasible.2.1 0 = .ok (.aload_n 0, 1) := by decide +kernel
theorem d_MC_feasible_1 : decode y_MC_feasible.2.1 1 = .ok (.iload_n 1, 1) := by decide +kernel
theorem d_MC_feasible_2 : decode y_MC_feasible.2.1 2 = .ok (.invokevirtual 140, 3) := by decide +kernel
theorem d_MC_feasible_5 : decode y_MC_feasible.2.1 5 = .ok (.invokevirtual 150, 3) := by decide +kernel
theorem d_MC_feasible_8 : decode y_MC_feasible.2.1 8 = .ok (.invokestatic 154, 3) := by decide +kernel
theorem d_MC_feasible_11 : decode y_MC_feasible.2.1 11 = .ok (.ireturn, 1) := by decide +kernel
def y_MC_vector : MethodName × ByteArray × Nat × Option FieldType × List (Nat × Nat × Nat × Nat) := (⟨"MaskedCauses", "vector", "(III)I"⟩, prog_1_method_10_code, 5, (Option.some Jvm.ClassFile.FieldType.int), [])
theorem d_MC_vector_0 : decode y_MC_vector.2.1 0 = .ok (.aload_n 0, 1) := by decide +kernel
theorem d_MC_vector_1 : decode y_MC_vector.2.1 1 = .ok (.iload_n 1, 1) := by decide +kernel
theorem d_MC_vector_2 : decode y_MC_vector.2.1 2 = .ok (.iload_n 2, 1) := by decide +kernel
theorem d_MC_vector_3 : decode y_MC_vector.2.1 3 = .ok (.invokevirtual 160, 3) := by decide +kernel
theorem d_MC_vector_6 : decode y_MC_vector.2.1 6 = .ok (.astore 4, 2) := by decide +kernel
theorem d_MC_vector_8 : decode y_MC_vector.2.1 8 = .ok (.aload_n 0, 1) := by decide +kernel
theorem d_MC_vector_9 : decode y_MC_vector.2.1 9 = .ok (.getfield 10, 3) := by decide +kernel
theorem d_MC_vector_12 : decode y_MC_vector.2.1 12 = .ok (.iload_n 3, 1) := by decide +kernel
theorem d_MC_vector_13 : decode y_MC_vector.2.1 13 = .ok (.invokevirtual 111, 3) := by decide +kernel
theorem d_MC_vector_16 : decode y_MC_vector.2.1 16 = .ok (.ifCond .ne 11, 3) := by decide +kernel
theorem d_MC_vector_19 : decode y_MC_vector.2.1 19 = .ok (.new 115, 3) := by decide +kernel
theorem d_MC_vector_22 : decode y_MC_vector.2.1 22 = .ok (.dup, 1) := by decide +kernel
theorem d_MC_vector_23 : decode y_MC_vector.2.1 23 = .ok (.invokespecial 117, 3) := by decide +kernel
theorem d_MC_vector_26 : decode y_MC_vector.2.1 26 = .ok (.athrow, 1) := by decide +kernel
theorem d_MC_vector_27 : decode y_MC_vector.2.1 27 = .ok (.aload 4, 2) := by decide +kernel
theorem d_MC_vector_29 : decode y_MC_vector.2.1 29 = .ok (.invokevirtual 150, 3) := by decide +kernel
theorem d_MC_vector_32 : decode y_MC_vector.2.1 32 = .ok (.iload_n 2, 1) := by decide +kernel
theorem d_MC_vector_33 : decode y_MC_vector.2.1 33 = .ok (.invokestatic 164, 3) := by decide +kernel
theorem d_MC_vector_36 : decode y_MC_vector.2.1 36 = .ok (.ifCond .ne 11, 3) := by decide +kernel
theorem d_MC_vector_39 : decode y_MC_vector.2.1 39 = .ok (.new 100, 3) := by decide +kernel
theorem d_MC_vector_42 : decode y_MC_vector.2.1 42 = .ok (.dup, 1) := by decide +kernel
theorem d_MC_vector_43 : decode y_MC_vector.2.1 43 = .ok (.invokespecial 102, 3) := by decide +kernel
theorem d_MC_vector_46 : decode y_MC_vector.2.1 46 = .ok (.athrow, 1) := by decide +kernel
theorem d_MC_vector_47 : decode y_MC_vector.2.1 47 = .ok (.aload 4, 2) := by decide +kernel
theorem d_MC_vector_49 : decode y_MC_vector.2.1 49 = .ok (.iload_n 2, 1) := by decide +kernel
theorem d_MC_vector_50 : decode y_MC_vector.2.1 50 = .ok (.iload_n 3, 1) := by decide +kernel
theorem d_MC_vector_51 : decode y_MC_vector.2.1 51 = .ok (.invokevirtual 168, 3) := by decide +kernel
theorem d_MC_vector_54 : decode y_MC_vector.2.1 54 = .ok (.ireturn, 1) := by decide +kernel
def y_MC_outcome : MethodName × ByteArray × Nat × Option FieldType × List (Nat × Nat × Nat × Nat) := (⟨"MaskedCauses", "outcome", "(II)Z"⟩, prog_1_method_11_code, 3, (Option.some Jvm.ClassFile.FieldType.boolean), [])
theorem d_MC_outcome_0 : decode y_MC_outcome.2.1 0 = .ok (.aload_n 0, 1) := by decide +kernel
theorem d_MC_outcome_1 : decode y_MC_outcome.2.1 1 = .ok (.iload_n 1, 1) := by decide +kernel
theorem d_MC_outcome_2 : decode y_MC_outcome.2.1 2 = .ok (.iload_n 2, 1) := by decide +kernel
theorem d_MC_outcome_3 : decode y_MC_outcome.2.1 3 = .ok (.invokevirtual 160, 3) := by decide +kernel
theorem d_MC_outcome_6 : decode y_MC_outcome.2.1 6 = .ok (.invokevirtual 171, 3) := by decide +kernel
theorem d_MC_outcome_9 : decode y_MC_outcome.2.1 9 = .ok (.iload_n 2, 1) := by decide +kernel
theorem d_MC_outcome_10 : decode y_MC_outcome.2.1 10 = .ok (.invokestatic 164, 3) := by decide +kernel
theorem d_MC_outcome_13 : decode y_MC_outcome.2.1 13 = .ok (.ireturn, 1) := by decide +kernel
def y_MC_evaluated : MethodName × ByteArray × Nat × Option FieldType × List (Nat × Nat × Nat × Nat) := (⟨"MaskedCauses", "evaluated", "(III)Z"⟩, prog_1_method_12_code, 5, (Option.some Jvm.ClassFile.FieldType.boolean), [])
theorem d_MC_evaluated_0 : decode y_MC_evaluated.2.1 0 = .ok (.aload_n 0, 1) := by decide +kernel
theorem d_MC_evaluated_1 : decode y_MC_evaluated.2.1 1 = .ok (.iload_n 1, 1) := by decide +kernel
theorem d_MC_evaluated_2 : decode y_MC_evaluated.2.1 2 = .ok (.iload_n 2, 1) := by decide +kernel
theorem d_MC_evaluated_3 : decode y_MC_evaluated.2.1 3 = .ok (.invokevirtual 160, 3) := by decide +kernel
theorem d_MC_evaluated_6 : decode y_MC_evaluated.2.1 6 = .ok (.astore 4, 2) := by decide +kernel
theorem d_MC_evaluated_8 : decode y_MC_evaluated.2.1 8 = .ok (.aload 4, 2) := by decide +kernel
theorem d_MC_evaluated_10 : decode y_MC_evaluated.2.1 10 = .ok (.iload_n 3, 1) := by decide +kernel
theorem d_MC_evaluated_11 : decode y_MC_evaluated.2.1 11 = .ok (.invokestatic 174, 3) := by decide +kernel
theorem d_MC_evaluated_14 : decode y_MC_evaluated.2.1 14 = .ok (.aload 4, 2) := by decide +kernel
theorem d_MC_evaluated_16 : decode y_MC_evaluated.2.1 16 = .ok (.iload_n 3, 1) := by decide +kernel
theorem d_MC_evaluated_17 : decode y_MC_evaluated.2.1 17 = .ok (.invokevirtual 178, 3) := by decide +kernel
theorem d_MC_evaluated_20 : decode y_MC_evaluated.2.1 20 = .ok (.iload_n 2, 1) := by decide +kernel
theorem d_MC_evaluated_21 : decode y_MC_evaluated.2.1 21 = .ok (.invokestatic 164, 3) := by decide +kernel
theorem d_MC_evaluated_24 : decode y_MC_evaluated.2.1 24 = .ok (.ireturn, 1) := by decide +kernel
def y_MC_solve : MethodName × ByteArray × Nat × Option FieldType × List (Nat × Nat × Nat × Nat) := (⟨"MaskedCauses", "solve", "(III)I"⟩, prog_1_method_13_code, 5, (Option.some Jvm.ClassFile.FieldType.int), [])
theorem d_MC_solve_0 : decode y_MC_solve.2.1 0 = .ok (.aload_n 0, 1) := by decide +kernel
theorem d_MC_solve_1 : decode y_MC_solve.2.1 1 = .ok (.iload_n 1, 1) := by decide +kernel
theorem d_MC_solve_2 : decode y_MC_solve.2.1 2 = .ok (.invokevirtual 140, 3) := by decide +kernel
theorem d_MC_solve_5 : decode y_MC_solve.2.1 5 = .ok (.astore 4, 2) := by decide +kernel
theorem d_MC_solve_7 : decode y_MC_solve.2.1 7 = .ok (.aload 4, 2) := by decide +kernel
theorem d_MC_solve_9 : decode y_MC_solve.2.1 9 = .ok (.iload_n 2, 1) := by decide +kernel
theorem d_MC_solve_10 : decode y_MC_solve.2.1 10 = .ok (.invokestatic 174, 3) := by decide +kernel
theorem d_MC_solve_13 : decode y_MC_solve.2.1 13 = .ok (.iload_n 3, 1) := by decide +kernel
theorem d_MC_solve_14 : decode y_MC_solve.2.1 14 = .ok (.invokestatic 182, 3) := by decide +kernel
theorem d_MC_solve_17 : decode y_MC_solve.2.1 17 = .ok (.aload 4, 2) := by decide +kernel
theorem d_MC_solve_19 : decode y_MC_solve.2.1 19 = .ok (.iload_n 2, 1) := by decide +kernel
theorem d_MC_solve_20 : decode y_MC_solve.2.1 20 = .ok (.iload_n 3, 1) := by decide +kernel
theorem d_MC_solve_21 : decode y_MC_solve.2.1 21 = .ok (.invokevirtual 186, 3) := by decide +kernel
theorem d_MC_solve_24 : decode y_MC_solve.2.1 24 = .ok (.ireturn, 1) := by decide +kernel
def y_MC_suite : MethodName × ByteArray × Nat × Option FieldType × List (Nat × Nat × Nat × Nat) := (⟨"MaskedCauses", "suite", "(II)I"⟩, prog_1_method_14_code, 4, (Option.some Jvm.ClassFile.FieldType.int), [])
theorem d_MC_suite_0 : decode y_MC_suite.2.1 0 = .ok (.aload_n 0, 1) := by decide +kernel
theorem d_MC_suite_1 : decode y_MC_suite.2.1 1 = .ok (.iload_n 1, 1) := by decide +kernel
theorem d_MC_suite_2 : decode y_MC_suite.2.1 2 = .ok (.invokevirtual 140, 3) := by decide +kernel
theorem d_MC_suite_5 : decode y_MC_suite.2.1 5 = .ok (.astore_n 3, 1) := by decide +kernel
theorem d_MC_suite_6 : decode y_MC_suite.2.1 6 = .ok (.iload_n 2, 1) := by decide +kernel
theorem d_MC_suite_7 : decode y_MC_suite.2.1 7 = .ok (.invokestatic 182, 3) := by decide +kernel
theorem d_MC_suite_10 : decode y_MC_suite.2.1 10 = .ok (.aload_n 0, 1) := by decide +kernel
theorem d_MC_suite_11 : decode y_MC_suite.2.1 11 = .ok (.getfield 67, 3) := by decide +kernel
theorem d_MC_suite_14 : decode y_MC_suite.2.1 14 = .ok (.aload_n 3, 1) := by decide +kernel
theorem d_MC_suite_15 : decode y_MC_suite.2.1 15 = .ok (.iload_n 2, 1) := by decide +kernel
theorem d_MC_suite_16 : decode y_MC_suite.2.1 16 = .ok (.invokevirtual 189, 3) := by decide +kernel
theorem d_MC_suite_19 : decode y_MC_suite.2.1 19 = .ok (.ireturn, 1) := by decide +kernel
def y_MC_suiteAt : MethodName × ByteArray × Nat × Option FieldType × List (Nat × Nat × Nat × Nat) := (⟨"MaskedCauses", "suiteAt", "(I)I"⟩, prog_1_method_15_code, 2, (Option.some Jvm.ClassFile.FieldType.int), [])
theorem d_MC_suiteAt_0 : decode y_MC_suiteAt.2.1 0 = .ok (.aload_n 0, 1) := by decide +kernel
theorem d_MC_suiteAt_1 : decode y_MC_suiteAt.2.1 1 = .ok (.getfield 67, 3) := by decide +kernel
theorem d_MC_suiteAt_4 : decode y_MC_suiteAt.2.1 4 = .ok (.iload_n 1, 1) := by decide +kernel
theorem d_MC_suiteAt_5 : decode y_MC_suiteAt.2.1 5 = .ok (.invokevirtual 193, 3) := by decide +kernel
theorem d_MC_suiteAt_8 : decode y_MC_suiteAt.2.1 8 = .ok (.ireturn, 1) := by decide +kernel
def y_MC_least : MethodName × ByteArray × Nat × Option FieldType × List (Nat × Nat × Nat × Nat) := (⟨"MaskedCauses", "least", "(II)I"⟩, prog_1_method_16_code, 4, (Option.some Jvm.ClassFile.FieldType.int), [])
theorem d_MC_least_0 : decode y_MC_least.2.1 0 = .ok (.aload_n 0, 1) := by decide +kernel
theorem d_MC_least_1 : decode y_MC_least.2.1 1 = .ok (.iload_n 1, 1) := by decide +kernel
theorem d_MC_least_2 : decode y_MC_least.2.1 2 = .ok (.invokevirtual 140, 3) := by decide +kernel
theorem d_MC_least_5 : decode y_MC_least.2.1 5 = .ok (.astore_n 3, 1) := by decide +kernel
theorem d_MC_least_6 : decode y_MC_least.2.1 6 = .ok (.iload_n 2, 1) := by decide +kernel
theorem d_MC_least_7 : decode y_MC_least.2.1 7 = .ok (.invokestatic 182, 3) := by decide +kernel
theorem d_MC_least_10 : decode y_MC_least.2.1 10 = .ok (.aload_n 3, 1) := by decide +kernel
theorem d_MC_least_11 : decode y_MC_least.2.1 11 = .ok (.invokevirtual 144, 3) := by decide +kernel
theorem d_MC_least_14 : decode y_MC_least.2.1 14 = .ok (.iconst 4, 1) := by decide +kernel
theorem d_MC_least_15 : decode y_MC_least.2.1 15 = .ok (.if_icmp .le 7, 3) := by decide +kernel
theorem d_MC_least_18 : decode y_MC_least.2.1 18 = .ok (.iconst (-1), 1) := by decide +kernel
theorem d_MC_least_19 : decode y_MC_least.2.1 19 = .ok (.goto 12, 3) := by decide +kernel
theorem d_MC_least_22 : decode y_MC_least.2.1 22 = .ok (.aload_n 0, 1) := by decide +kernel
theorem d_MC_least_23 : decode y_MC_least.2.1 23 = .ok (.getfield 74, 3) := by decide +kernel
theorem d_MC_least_26 : decode y_MC_least.2.1 26 = .ok (.aload_n 3, 1) := by decide +kernel
theorem d_MC_least_27 : decode y_MC_least.2.1 27 = .ok (.iload_n 2, 1) := by decide +kernel
theorem d_MC_least_28 : decode y_MC_least.2.1 28 = .ok (.invokevirtual 196, 3) := by decide +kernel
theorem d_MC_least_31 : decode y_MC_least.2.1 31 = .ok (.ireturn, 1) := by decide +kernel
def y_MC_keep : MethodName × ByteArray × Nat × Option FieldType × List (Nat × Nat × Nat × Nat) := (⟨"MaskedCauses", "keep", "(III)I"⟩, prog_1_method_17_code, 4, (Option.some Jvm.ClassFile.FieldType.int), [])
theorem d_MC_keep_0 : decode y_MC_keep.2.1 0 = .ok (.aload_n 0, 1) := by decide +kernel
theorem d_MC_keep_1 : decode y_MC_keep.2.1 1 = .ok (.getfield 81, 3) := by decide +kernel
theorem d_MC_keep_4 : decode y_MC_keep.2.1 4 = .ok (.invokevirtual 199, 3) := by decide +kernel
theorem d_MC_keep_7 : decode y_MC_keep.2.1 7 = .ok (.ifCond .ne 13, 3) := by decide +kernel
theorem d_MC_keep_10 : decode y_MC_keep.2.1 10 = .ok (.aload_n 0, 1) := by decide +kernel
theorem d_MC_keep_11 : decode y_MC_keep.2.1 11 = .ok (.getfield 19, 3) := by decide +kernel
theorem d_MC_keep_14 : decode y_MC_keep.2.1 14 = .ok (.invokevirtual 96, 3) := by decide +kernel
theorem d_MC_keep_17 : decode y_MC_keep.2.1 17 = .ok (.ifCond .ne 11, 3) := by decide +kernel
theorem d_MC_keep_20 : decode y_MC_keep.2.1 20 = .ok (.new 100, 3) := by decide +kernel
theorem d_MC_keep_23 : decode y_MC_keep.2.1 23 = .ok (.dup, 1) := by decide +kernel
theorem d_MC_keep_24 : decode y_MC_keep.2.1 24 = .ok (.invokespecial 102, 3) := by decide +kernel
theorem d_MC_keep_27 : decode y_MC_keep.2.1 27 = .ok (.athrow, 1) := by decide +kernel
theorem d_MC_keep_28 : decode y_MC_keep.2.1 28 = .ok (.aload_n 0, 1) := by decide +kernel
theorem d_MC_keep_29 : decode y_MC_keep.2.1 29 = .ok (.getfield 10, 3) := by decide +kernel
theorem d_MC_keep_32 : decode y_MC_keep.2.1 32 = .ok (.iconst 0, 1) := by decide +kernel
theorem d_MC_keep_33 : decode y_MC_keep.2.1 33 = .ok (.iload_n 1, 1) := by decide +kernel
theorem d_MC_keep_34 : decode y_MC_keep.2.1 34 = .ok (.invokevirtual 200, 3) := by decide +kernel
theorem d_MC_keep_37 : decode y_MC_keep.2.1 37 = .ok (.ifCond .eq 27, 3) := by decide +kernel
theorem d_MC_keep_40 : decode y_MC_keep.2.1 40 = .ok (.aload_n 0, 1) := by decide +kernel
theorem d_MC_keep_41 : decode y_MC_keep.2.1 41 = .ok (.getfield 10, 3) := by decide +kernel
theorem d_MC_keep_44 : decode y_MC_keep.2.1 44 = .ok (.iconst 1, 1) := by decide +kernel
theorem d_MC_keep_45 : decode y_MC_keep.2.1 45 = .ok (.iload_n 2, 1) := by decide +kernel
theorem d_MC_keep_46 : decode y_MC_keep.2.1 46 = .ok (.invokevirtual 200, 3) := by decide +kernel
theorem d_MC_keep_49 : decode y_MC_keep.2.1 49 = .ok (.ifCond .eq 15, 3) := by decide +kernel
theorem d_MC_keep_52 : decode y_MC_keep.2.1 52 = .ok (.aload_n 0, 1) := by decide +kernel
theorem d_MC_keep_53 : decode y_MC_keep.2.1 53 = .ok (.getfield 10, 3) := by decide +kernel
theorem d_MC_keep_56 : decode y_MC_keep.2.1 56 = .ok (.iconst 2, 1) := by decide +kernel
theorem d_MC_keep_57 : decode y_MC_keep.2.1 57 = .ok (.iload_n 3, 1) := by decide +kernel
theorem d_MC_keep_58 : decode y_MC_keep.2.1 58 = .ok (.invokevirtual 200, 3) := by decide +kernel
theorem d_MC_keep_61 : decode y_MC_keep.2.1 61 = .ok (.ifCond .ne 11, 3) := by decide +kernel
theorem d_MC_keep_64 : decode y_MC_keep.2.1 64 = .ok (.new 103, 3) := by decide +kernel
theorem d_MC_keep_67 : decode y_MC_keep.2.1 67 = .ok (.dup, 1) := by decide +kernel
theorem d_MC_keep_68 : decode y_MC_keep.2.1 68 = .ok (.invokespecial 105, 3) := by decide +kernel
theorem d_MC_keep_71 : decode y_MC_keep.2.1 71 = .ok (.athrow, 1) := by decide +kernel
theorem d_MC_keep_72 : decode y_MC_keep.2.1 72 = .ok (.aload_n 0, 1) := by decide +kernel
theorem d_MC_keep_73 : decode y_MC_keep.2.1 73 = .ok (.getfield 81, 3) := by decide +kernel
theorem d_MC_keep_76 : decode y_MC_keep.2.1 76 = .ok (.iload_n 1, 1) := by decide +kernel
theorem d_MC_keep_77 : decode y_MC_keep.2.1 77 = .ok (.iload_n 2, 1) := by decide +kernel
theorem d_MC_keep_78 : decode y_MC_keep.2.1 78 = .ok (.iload_n 3, 1) := by decide +kernel
theorem d_MC_keep_79 : decode y_MC_keep.2.1 79 = .ok (.invokevirtual 204, 3) := by decide +kernel
theorem d_MC_keep_82 : decode y_MC_keep.2.1 82 = .ok (.ireturn, 1) := by decide +kernel
def y_MC_forget : MethodName × ByteArray × Nat × Option FieldType × List (Nat × Nat × Nat × Nat) := (⟨"MaskedCauses", "forget", "()I"⟩, prog_1_method_18_code, 1, (Option.some Jvm.ClassFile.FieldType.int), [])
theorem d_MC_forget_0 : decode y_MC_forget.2.1 0 = .ok (.aload_n 0, 1) := by decide +kernel
theorem d_MC_forget_1 : decode y_MC_forget.2.1 1 = .ok (.getfield 81, 3) := by decide +kernel
theorem d_MC_forget_4 : decode y_MC_forget.2.1 4 = .ok (.invokevirtual 207, 3) := by decide +kernel
theorem d_MC_forget_7 : decode y_MC_forget.2.1 7 = .ok (.ireturn, 1) := by decide +kernel
def y_MC_covered : MethodName × ByteArray × Nat × Option FieldType × List (Nat × Nat × Nat × Nat) := (⟨"MaskedCauses", "covered", "(III)Z"⟩, prog_1_method_19_code, 5, (Option.some Jvm.ClassFile.FieldType.boolean), [])
theorem d_MC_covered_0 : decode y_MC_covered.2.1 0 = .ok (.aload_n 0, 1) := by decide +kernel
theorem d_MC_covered_1 : decode y_MC_covered.2.1 1 = .ok (.iload_n 1, 1) := by decide +kernel
theorem d_MC_covered_2 : decode y_MC_covered.2.1 2 = .ok (.invokevirtual 140, 3) := by decide +kernel
theorem d_MC_covered_5 : decode y_MC_covered.2.1 5 = .ok (.astore 4, 2) := by decide +kernel
theorem d_MC_covered_7 : decode y_MC_covered.2.1 7 = .ok (.aload 4, 2) := by decide +kernel
theorem d_MC_covered_9 : decode y_MC_covered.2.1 9 = .ok (.iload_n 2, 1) := by decide +kernel
theorem d_MC_covered_10 : decode y_MC_covered.2.1 10 = .ok (.invokestatic 174, 3) := by decide +kernel
theorem d_MC_covered_13 : decode y_MC_covered.2.1 13 = .ok (.iload_n 3, 1) := by decide +kernel
theorem d_MC_covered_14 : decode y_MC_covered.2.1 14 = .ok (.invokestatic 182, 3) := by decide +kernel
theorem d_MC_covered_17 : decode y_MC_covered.2.1 17 = .ok (.aload 4, 2) := by decide +kernel
theorem d_MC_covered_19 : decode y_MC_covered.2.1 19 = .ok (.aload_n 0, 1) := by decide +kernel
theorem d_MC_covered_20 : decode y_MC_covered.2.1 20 = .ok (.getfield 81, 3) := by decide +kernel
theorem d_MC_covered_23 : decode y_MC_covered.2.1 23 = .ok (.aload 4, 2) := by decide +kernel
theorem d_MC_covered_25 : decode y_MC_covered.2.1 25 = .ok (.invokevirtual 208, 3) := by decide +kernel
theorem d_MC_covered_28 : decode y_MC_covered.2.1 28 = .ok (.iload_n 2, 1) := by decide +kernel
theorem d_MC_covered_29 : decode y_MC_covered.2.1 29 = .ok (.iload_n 3, 1) := by decide +kernel
theorem d_MC_covered_30 : decode y_MC_covered.2.1 30 = .ok (.invokevirtual 212, 3) := by decide +kernel
theorem d_MC_covered_33 : decode y_MC_covered.2.1 33 = .ok (.ireturn, 1) := by decide +kernel
def y_MC_missing : MethodName × ByteArray × Nat × Option FieldType × List (Nat × Nat × Nat × Nat) := (⟨"MaskedCauses", "missing", "(II)I"⟩, prog_1_method_20_code, 7, (Option.some Jvm.ClassFile.FieldType.int), [])
theorem d_MC_missing_0 : decode y_MC_missing.2.1 0 = .ok (.aload_n 0, 1) := by decide +kernel
theorem d_MC_missing_1 : decode y_MC_missing.2.1 1 = .ok (.iload_n 1, 1) := by decide +kernel
theorem d_MC_missing_2 : decode y_MC_missing.2.1 2 = .ok (.invokevirtual 140, 3) := by decide +kernel
theorem d_MC_missing_5 : decode y_MC_missing.2.1 5 = .ok (.astore_n 3, 1) := by decide +kernel
theorem d_MC_missing_6 : decode y_MC_missing.2.1 6 = .ok (.iload_n 2, 1) := by decide +kernel
theorem d_MC_missing_7 : decode y_MC_missing.2.1 7 = .ok (.invokestatic 182, 3) := by decide +kernel
theorem d_MC_missing_10 : decode y_MC_missing.2.1 10 = .ok (.aload_n 0, 1) := by decide +kernel
theorem d_MC_missing_11 : decode y_MC_missing.2.1 11 = .ok (.getfield 81, 3) := by decide +kernel
theorem d_MC_missing_14 : decode y_MC_missing.2.1 14 = .ok (.aload_n 3, 1) := by decide +kernel
theorem d_MC_missing_15 : decode y_MC_missing.2.1 15 = .ok (.invokevirtual 208, 3) := by decide +kernel
theorem d_MC_missing_18 : decode y_MC_missing.2.1 18 = .ok (.lstore 4, 2) := by decide +kernel
theorem d_MC_missing_20 : decode y_MC_missing.2.1 20 = .ok (.iconst 0, 1) := by decide +kernel
theorem d_MC_missing_21 : decode y_MC_missing.2.1 21 = .ok (.istore 6, 2) := by decide +kernel
theorem d_MC_missing_23 : decode y_MC_missing.2.1 23 = .ok (.iload 6, 2) := by decide +kernel
theorem d_MC_missing_25 : decode y_MC_missing.2.1 25 = .ok (.aload_n 3, 1) := by decide +kernel
theorem d_MC_missing_26 : decode y_MC_missing.2.1 26 = .ok (.invokevirtual 144, 3) := by decide +kernel
theorem d_MC_missing_29 : decode y_MC_missing.2.1 29 = .ok (.if_icmp .ge 34, 3) := by decide +kernel
theorem d_MC_missing_32 : decode y_MC_missing.2.1 32 = .ok (.aload_n 3, 1) := by decide +kernel
theorem d_MC_missing_33 : decode y_MC_missing.2.1 33 = .ok (.iload 6, 2) := by decide +kernel
theorem d_MC_missing_35 : decode y_MC_missing.2.1 35 = .ok (.iload_n 2, 1) := by decide +kernel
theorem d_MC_missing_36 : decode y_MC_missing.2.1 36 = .ok (.invokevirtual 216, 3) := by decide +kernel
theorem d_MC_missing_39 : decode y_MC_missing.2.1 39 = .ok (.ifCond .eq 18, 3) := by decide +kernel
theorem d_MC_missing_42 : decode y_MC_missing.2.1 42 = .ok (.aload_n 3, 1) := by decide +kernel
theorem d_MC_missing_43 : decode y_MC_missing.2.1 43 = .ok (.lload 4, 2) := by decide +kernel
theorem d_MC_missing_45 : decode y_MC_missing.2.1 45 = .ok (.iload 6, 2) := by decide +kernel
theorem d_MC_missing_47 : decode y_MC_missing.2.1 47 = .ok (.iload_n 2, 1) := by decide +kernel
theorem d_MC_missing_48 : decode y_MC_missing.2.1 48 = .ok (.invokevirtual 212, 3) := by decide +kernel
theorem d_MC_missing_51 : decode y_MC_missing.2.1 51 = .ok (.ifCond .ne 6, 3) := by decide +kernel
theorem d_MC_missing_54 : decode y_MC_missing.2.1 54 = .ok (.iload 6, 2) := by decide +kernel
theorem d_MC_missing_56 : decode y_MC_missing.2.1 56 = .ok (.ireturn, 1) := by decide +kernel
theorem d_MC_missing_57 : decode y_MC_missing.2.1 57 = .ok (.iinc 6 1, 3) := by decide +kernel
theorem d_MC_missing_60 : decode y_MC_missing.2.1 60 = .ok (.goto (-37), 3) := by decide +kernel
theorem d_MC_missing_63 : decode y_MC_missing.2.1 63 = .ok (.iconst (-1), 1) := by decide +kernel
theorem d_MC_missing_64 : decode y_MC_missing.2.1 64 = .ok (.ireturn, 1) := by decide +kernel
def y_MC_length : MethodName × ByteArray × Nat × Option FieldType × List (Nat × Nat × Nat × Nat) := (⟨"MaskedCauses", "length", "()I"⟩, prog_1_method_21_code, 1, (Option.some Jvm.ClassFile.FieldType.int), [])
theorem d_MC_length_0 : decode y_MC_length.2.1 0 = .ok (.aload_n 0, 1) := by decide +kernel
theorem d_MC_length_1 : decode y_MC_length.2.1 1 = .ok (.getfield 89, 3) := by decide +kernel
theorem d_MC_length_4 : decode y_MC_length.2.1 4 = .ok (.invokevirtual 149, 3) := by decide +kernel
theorem d_MC_length_7 : decode y_MC_length.2.1 7 = .ok (.ireturn, 1) := by decide +kernel
def y_MC_charAt : MethodName × ByteArray × Nat × Option FieldType × List (Nat × Nat × Nat × Nat) := (⟨"MaskedCauses", "charAt", "(I)C"⟩, prog_1_method_22_code, 2, (Option.some Jvm.ClassFile.FieldType.char), [])
theorem d_MC_charAt_0 : decode y_MC_charAt.2.1 0 = .ok (.aload_n 0, 1) := by decide +kernel
theorem d_MC_charAt_1 : decode y_MC_charAt.2.1 1 = .ok (.getfield 89, 3) := by decide +kernel
theorem d_MC_charAt_4 : decode y_MC_charAt.2.1 4 = .ok (.iload_n 1, 1) := by decide +kernel
theorem d_MC_charAt_5 : decode y_MC_charAt.2.1 5 = .ok (.invokevirtual 219, 3) := by decide +kernel
theorem d_MC_charAt_8 : decode y_MC_charAt.2.1 8 = .ok (.ireturn, 1) := by decide +kernel
def y_MC_decisionAt : MethodName × ByteArray × Nat × Option FieldType × List (Nat × Nat × Nat × Nat) := (⟨"MaskedCauses", "decisionAt", "(I)LMaskedCauses$Decision;"⟩, prog_1_method_23_code, 2, (Option.some (Jvm.ClassFile.FieldType.object "MaskedCauses$Decision")), [])
theorem d_MC_decisionAt_0 : decode y_MC_decisionAt.2.1 0 = .ok (.iload_n 1, 1) := by decide +kernel
theorem d_MC_decisionAt_1 : decode y_MC_decisionAt.2.1 1 = .ok (.ifCond .lt 11, 3) := by decide +kernel
theorem d_MC_decisionAt_4 : decode y_MC_decisionAt.2.1 4 = .ok (.iload_n 1, 1) := by decide +kernel
theorem d_MC_decisionAt_5 : decode y_MC_decisionAt.2.1 5 = .ok (.aload_n 0, 1) := by decide +kernel
theorem d_MC_decisionAt_6 : decode y_MC_decisionAt.2.1 6 = .ok (.getfield 85, 3) := by decide +kernel
theorem d_MC_decisionAt_9 : decode y_MC_decisionAt.2.1 9 = .ok (.if_icmp .lt 11, 3) := by decide +kernel
theorem d_MC_decisionAt_12 : decode y_MC_decisionAt.2.1 12 = .ok (.new 115, 3) := by decide +kernel
theorem d_MC_decisionAt_15 : decode y_MC_decisionAt.2.1 15 = .ok (.dup, 1) := by decide +kernel
theorem d_MC_decisionAt_16 : decode y_MC_decisionAt.2.1 16 = .ok (.invokespecial 117, 3) := by decide +kernel
theorem d_MC_decisionAt_19 : decode y_MC_decisionAt.2.1 19 = .ok (.athrow, 1) := by decide +kernel
theorem d_MC_decisionAt_20 : decode y_MC_decisionAt.2.1 20 = .ok (.aload_n 0, 1) := by decide +kernel
theorem d_MC_decisionAt_21 : decode y_MC_decisionAt.2.1 21 = .ok (.getfield 57, 3) := by decide +kernel
theorem d_MC_decisionAt_24 : decode y_MC_decisionAt.2.1 24 = .ok (.iload_n 1, 1) := by decide +kernel
theorem d_MC_decisionAt_25 : decode y_MC_decisionAt.2.1 25 = .ok (.aaload, 1) := by decide +kernel
theorem d_MC_decisionAt_26 : decode y_MC_decisionAt.2.1 26 = .ok (.areturn, 1) := by decide +kernel
def y_MC_decisionWithWord : MethodName × ByteArray × Nat × Option FieldType × List (Nat × Nat × Nat × Nat) := (⟨"MaskedCauses", "decisionWithWord", "(II)LMaskedCauses$Decision;"⟩, prog_1_method_24_code, 4, (Option.some (Jvm.ClassFile.FieldType.object "MaskedCauses$Decision")), [])
theorem d_MC_decisionWithWord_0 : decode y_MC_decisionWithWord.2.1 0 = .ok (.aload_n 0, 1) := by decide +kernel
theorem d_MC_decisionWithWord_1 : decode y_MC_decisionWithWord.2.1 1 = .ok (.iload_n 1, 1) := by decide +kernel
theorem d_MC_decisionWithWord_2 : decode y_MC_decisionWithWord.2.1 2 = .ok (.invokevirtual 140, 3) := by decide +kernel
theorem d_MC_decisionWithWord_5 : decode y_MC_decisionWithWord.2.1 5 = .ok (.astore_n 3, 1) := by decide +kernel
theorem d_MC_decisionWithWord_6 : decode y_MC_decisionWithWord.2.1 6 = .ok (.iload_n 2, 1) := by decide +kernel
theorem d_MC_decisionWithWord_7 : decode y_MC_decisionWithWord.2.1 7 = .ok (.ifCond .lt 11, 3) := by decide +kernel
theorem d_MC_decisionWithWord_10 : decode y_MC_decisionWithWord.2.1 10 = .ok (.iload_n 2, 1) := by decide +kernel
theorem d_MC_decisionWithWord_11 : decode y_MC_decisionWithWord.2.1 11 = .ok (.aload_n 3, 1) := by decide +kernel
theorem d_MC_decisionWithWord_12 : decode y_MC_decisionWithWord.2.1 12 = .ok (.invokevirtual 223, 3) := by decide +kernel
theorem d_MC_decisionWithWord_15 : decode y_MC_decisionWithWord.2.1 15 = .ok (.if_icmp .lt 11, 3) := by decide +kernel
theorem d_MC_decisionWithWord_18 : decode y_MC_decisionWithWord.2.1 18 = .ok (.new 115, 3) := by decide +kernel
theorem d_MC_decisionWithWord_21 : decode y_MC_decisionWithWord.2.1 21 = .ok (.dup, 1) := by decide +kernel
theorem d_MC_decisionWithWord_22 : decode y_MC_decisionWithWord.2.1 22 = .ok (.invokespecial 117, 3) := by decide +kernel
theorem d_MC_decisionWithWord_25 : decode y_MC_decisionWithWord.2.1 25 = .ok (.athrow, 1) := by decide +kernel
theorem d_MC_decisionWithWord_26 : decode y_MC_decisionWithWord.2.1 26 = .ok (.aload_n 3, 1) := by decide +kernel
theorem d_MC_decisionWithWord_27 : decode y_MC_decisionWithWord.2.1 27 = .ok (.areturn, 1) := by decide +kernel
def y_MC_checkCondition : MethodName × ByteArray × Nat × Option FieldType × List (Nat × Nat × Nat × Nat) := (⟨"MaskedCauses", "checkCondition", "(LMaskedCauses$Decision;I)V"⟩, prog_1_method_25_code, 2, (Option.none : Option Jvm.ClassFile.FieldType), [])
theorem d_MC_checkCondition_0 : decode y_MC_checkCondition.2.1 0 = .ok (.iload_n 1, 1) := by decide +kernel
theorem d_MC_checkCondition_1 : decode y_MC_checkCondition.2.1 1 = .ok (.ifCond .lt 11, 3) := by decide +kernel
theorem d_MC_checkCondition_4 : decode y_MC_checkCondition.2.1 4 = .ok (.iload_n 1, 1) := by decide +kernel
theorem d_MC_checkCondition_5 : decode y_MC_checkCondition.2.1 5 = .ok (.aload_n 0, 1) := by decide +kernel
theorem d_MC_checkCondition_6 : decode y_MC_checkCondition.2.1 6 = .ok (.invokevirtual 144, 3) := by decide +kernel
theorem d_MC_checkCondition_9 : decode y_MC_checkCondition.2.1 9 = .ok (.if_icmp .lt 11, 3) := by decide +kernel
theorem d_MC_checkCondition_12 : decode y_MC_checkCondition.2.1 12 = .ok (.new 115, 3) := by decide +kernel
theorem d_MC_checkCondition_15 : decode y_MC_checkCondition.2.1 15 = .ok (.dup, 1) := by decide +kernel
theorem d_MC_checkCondition_16 : decode y_MC_checkCondition.2.1 16 = .ok (.invokespecial 117, 3) := by decide +kernel
theorem d_MC_checkCondition_19 : decode y_MC_checkCondition.2.1 19 = .ok (.athrow, 1) := by decide +kernel
theorem d_MC_checkCondition_20 : decode y_MC_checkCondition.2.1 20 = .ok (.return_, 1) := by decide +kernel
def y_MC_checkCriterion : MethodName × ByteArray × Nat × Option FieldType × List (Nat × Nat × Nat × Nat) := (⟨"MaskedCauses", "checkCriterion", "(I)V"⟩, prog_1_method_26_code, 1, (Option.none : Option Jvm.ClassFile.FieldType), [])
theorem d_MC_checkCriterion_0 : decode y_MC_checkCriterion.2.1 0 = .ok (.iload_n 0, 1) := by decide +kernel
theorem d_MC_checkCriterion_1 : decode y_MC_checkCriterion.2.1 1 = .ok (.ifCond .lt 8, 3) := by decide +kernel
theorem d_MC_checkCriterion_4 : decode y_MC_checkCriterion.2.1 4 = .ok (.iload_n 0, 1) := by decide +kernel
theorem d_MC_checkCriterion_5 : decode y_MC_checkCriterion.2.1 5 = .ok (.iconst 2, 1) := by decide +kernel
theorem d_MC_checkCriterion_6 : decode y_MC_checkCriterion.2.1 6 = .ok (.if_icmp .le 11, 3) := by decide +kernel
theorem d_MC_checkCriterion_9 : decode y_MC_checkCriterion.2.1 9 = .ok (.new 103, 3) := by decide +kernel
theorem d_MC_checkCriterion_12 : decode y_MC_checkCriterion.2.1 12 = .ok (.dup, 1) := by decide +kernel
theorem d_MC_checkCriterion_13 : decode y_MC_checkCriterion.2.1 13 = .ok (.invokespecial 105, 3) := by decide +kernel
theorem d_MC_checkCriterion_16 : decode y_MC_checkCriterion.2.1 16 = .ok (.athrow, 1) := by decide +kernel
theorem d_MC_checkCriterion_17 : decode y_MC_checkCriterion.2.1 17 = .ok (.return_, 1) := by decide +kernel
def y_MC_contains : MethodName × ByteArray × Nat × Option FieldType × List (Nat × Nat × Nat × Nat) := (⟨"MaskedCauses", "contains", "(JI)Z"⟩, prog_1_method_27_code, 3, (Option.some Jvm.ClassFile.FieldType.boolean), [])
theorem d_MC_contains_0 : decode y_MC_contains.2.1 0 = .ok (.lload_n 0, 1) := by decide +kernel
theorem d_MC_contains_1 : decode y_MC_contains.2.1 1 = .ok (.iload_n 2, 1) := by decide +kernel
theorem d_MC_contains_2 : decode y_MC_contains.2.1 2 = .ok (.lushr, 1) := by decide +kernel
theorem d_MC_contains_3 : decode y_MC_contains.2.1 3 = .ok (.lconst 1, 1) := by decide +kernel
theorem d_MC_contains_4 : decode y_MC_contains.2.1 4 = .ok (.land, 1) := by decide +kernel
theorem d_MC_contains_5 : decode y_MC_contains.2.1 5 = .ok (.lconst 0, 1) := by decide +kernel
theorem d_MC_contains_6 : decode y_MC_contains.2.1 6 = .ok (.lcmp, 1) := by decide +kernel
theorem d_MC_contains_7 : decode y_MC_contains.2.1 7 = .ok (.ifCond .eq 7, 3) := by decide +kernel
theorem d_MC_contains_10 : decode y_MC_contains.2.1 10 = .ok (.iconst 1, 1) := by decide +kernel
theorem d_MC_contains_11 : decode y_MC_contains.2.1 11 = .ok (.goto 4, 3) := by decide +kernel
theorem d_MC_contains_14 : decode y_MC_contains.2.1 14 = .ok (.iconst 0, 1) := by decide +kernel
theorem d_MC_contains_15 : decode y_MC_contains.2.1 15 = .ok (.ireturn, 1) := by decide +kernel
def y_MC_hasBit : MethodName × ByteArray × Nat × Option FieldType × List (Nat × Nat × Nat × Nat) := (⟨"MaskedCauses", "hasBit", "(II)Z"⟩, prog_1_method_28_code, 2, (Option.some Jvm.ClassFile.FieldType.boolean), [])
theorem d_MC_hasBit_0 : decode y_MC_hasBit.2.1 0 = .ok (.iload_n 0, 1) := by decide +kernel
theorem d_MC_hasBit_1 : decode y_MC_hasBit.2.1 1 = .ok (.iload_n 1, 1) := by decide +kernel
theorem d_MC_hasBit_2 : decode y_MC_hasBit.2.1 2 = .ok (.iushr, 1) := by decide +kernel
theorem d_MC_hasBit_3 : decode y_MC_hasBit.2.1 3 = .ok (.iconst 1, 1) := by decide +kernel
theorem d_MC_hasBit_4 : decode y_MC_hasBit.2.1 4 = .ok (.iand, 1) := by decide +kernel
theorem d_MC_hasBit_5 : decode y_MC_hasBit.2.1 5 = .ok (.ifCond .eq 7, 3) := by decide +kernel
theorem d_MC_hasBit_8 : decode y_MC_hasBit.2.1 8 = .ok (.iconst 1, 1) := by decide +kernel
theorem d_MC_hasBit_9 : decode y_MC_hasBit.2.1 9 = .ok (.goto 4, 3) := by decide +kernel
theorem d_MC_hasBit_12 : decode y_MC_hasBit.2.1 12 = .ok (.iconst 0, 1) := by decide +kernel
theorem d_MC_hasBit_13 : decode y_MC_hasBit.2.1 13 = .ok (.ireturn, 1) := by decide +kernel
def y_In_init : MethodName × ByteArray × Nat × Option FieldType × List (Nat × Nat × Nat × Nat) := (⟨"MaskedCauses$Inputs", "<init>", "()V"⟩, prog_5_method_1_code, 1, (Option.none : Option Jvm.ClassFile.FieldType), [])
theorem d_In_init_0 : decode y_In_init.2.1 0 = .ok (.aload_n 0, 1) := by decide +kernel
theorem d_In_init_1 : decode y_In_init.2.1 1 = .ok (.invokespecial 3, 3) := by decide +kernel
theorem d_In_init_4 : decode y_In_init.2.1 4 = .ok (.aload_n 0, 1) := by decide +kernel
theorem d_In_init_5 : decode y_In_init.2.1 5 = .ok (.iconst 3, 1) := by decide +kernel
theorem d_In_init_6 : decode y_In_init.2.1 6 = .ok (.newarray .int, 2) := by decide +kernel
theorem d_In_init_8 : decode y_In_init.2.1 8 = .ok (.putfield 9, 3) := by decide +kernel
theorem d_In_init_11 : decode y_In_init.2.1 11 = .ok (.aload_n 0, 1) := by decide +kernel
theorem d_In_init_12 : decode y_In_init.2.1 12 = .ok (.iconst 3, 1) := by decide +kernel
theorem d_In_init_13 : decode y_In_init.2.1 13 = .ok (.newarray .int, 2) := by decide +kernel
theorem d_In_init_15 : decode y_In_init.2.1 15 = .ok (.putfield 15, 3) := by decide +kernel
theorem d_In_init_18 : decode y_In_init.2.1 18 = .ok (.aload_n 0, 1) := by decide +kernel
theorem d_In_init_19 : decode y_In_init.2.1 19 = .ok (.iconst 0, 1) := by decide +kernel
theorem d_In_init_20 : decode y_In_init.2.1 20 = .ok (.putfield 18, 3) := by decide +kernel
theorem d_In_init_23 : decode y_In_init.2.1 23 = .ok (.return_, 1) := by decide +kernel
def y_In_isFull : MethodName × ByteArray × Nat × Option FieldType × List (Nat × Nat × Nat × Nat) := (⟨"MaskedCauses$Inputs", "isFull", "()Z"⟩, prog_5_method_2_code, 1, (Option.some Jvm.ClassFile.FieldType.boolean), [])
theorem d_In_isFull_0 : decode y_In_isFull.2.1 0 = .ok (.aload_n 0, 1) := by decide +kernel
theorem d_In_isFull_1 : decode y_In_isFull.2.1 1 = .ok (.getfield 18, 3) := by decide +kernel
theorem d_In_isFull_4 : decode y_In_isFull.2.1 4 = .ok (.iconst 3, 1) := by decide +kernel
theorem d_In_isFull_5 : decode y_In_isFull.2.1 5 = .ok (.if_icmp .ne 7, 3) := by decide +kernel
theorem d_In_isFull_8 : decode y_In_isFull.2.1 8 = .ok (.iconst 1, 1) := by decide +kernel
theorem d_In_isFull_9 : decode y_In_isFull.2.1 9 = .ok (.goto 4, 3) := by decide +kernel
theorem d_In_isFull_12 : decode y_In_isFull.2.1 12 = .ok (.iconst 0, 1) := by decide +kernel
theorem d_In_isFull_13 : decode y_In_isFull.2.1 13 = .ok (.ireturn, 1) := by decide +kernel
def y_In_has : MethodName × ByteArray × Nat × Option FieldType × List (Nat × Nat × Nat × Nat) := (⟨"MaskedCauses$Inputs", "has", "(I)Z"⟩, prog_5_method_3_code, 2, (Option.some Jvm.ClassFile.FieldType.boolean), [])
theorem d_In_has_0 : decode y_In_has.2.1 0 = .ok (.iload_n 1, 1) := by decide +kernel
theorem d_In_has_1 : decode y_In_has.2.1 1 = .ok (.ifCond .lt 15, 3) := by decide +kernel
theorem d_In_has_4 : decode y_In_has.2.1 4 = .ok (.iload_n 1, 1) := by decide +kernel
theorem d_In_has_5 : decode y_In_has.2.1 5 = .ok (.aload_n 0, 1) := by decide +kernel
theorem d_In_has_6 : decode y_In_has.2.1 6 = .ok (.getfield 18, 3) := by decide +kernel
theorem d_In_has_9 : decode y_In_has.2.1 9 = .ok (.if_icmp .ge 7, 3) := by decide +kernel
theorem d_In_has_12 : decode y_In_has.2.1 12 = .ok (.iconst 1, 1) := by decide +kernel
theorem d_In_has_13 : decode y_In_has.2.1 13 = .ok (.goto 4, 3) := by decide +kernel
theorem d_In_has_16 : decode y_In_has.2.1 16 = .ok (.iconst 0, 1) := by decide +kernel
theorem d_In_has_17 : decode y_In_has.2.1 17 = .ok (.ireturn, 1) := by decide +kernel
def y_In_add : MethodName × ByteArray × Nat × Option FieldType × List (Nat × Nat × Nat × Nat) := (⟨"MaskedCauses$Inputs", "add", "(II)I"⟩, prog_5_method_4_code, 3, (Option.some Jvm.ClassFile.FieldType.int), [])
theorem d_In_add_0 : decode y_In_add.2.1 0 = .ok (.aload_n 0, 1) := by decide +kernel
theorem d_In_add_1 : decode y_In_add.2.1 1 = .ok (.getfield 9, 3) := by decide +kernel
theorem d_In_add_4 : decode y_In_add.2.1 4 = .ok (.aload_n 0, 1) := by decide +kernel
theorem d_In_add_5 : decode y_In_add.2.1 5 = .ok (.getfield 18, 3) := by decide +kernel
theorem d_In_add_8 : decode y_In_add.2.1 8 = .ok (.iload_n 1, 1) := by decide +kernel
theorem d_In_add_9 : decode y_In_add.2.1 9 = .ok (.iastore, 1) := by decide +kernel
theorem d_In_add_10 : decode y_In_add.2.1 10 = .ok (.aload_n 0, 1) := by decide +kernel
theorem d_In_add_11 : decode y_In_add.2.1 11 = .ok (.getfield 15, 3) := by decide +kernel
theorem d_In_add_14 : decode y_In_add.2.1 14 = .ok (.aload_n 0, 1) := by decide +kernel
theorem d_In_add_15 : decode y_In_add.2.1 15 = .ok (.getfield 18, 3) := by decide +kernel
theorem d_In_add_18 : decode y_In_add.2.1 18 = .ok (.iload_n 2, 1) := by decide +kernel
theorem d_In_add_19 : decode y_In_add.2.1 19 = .ok (.iastore, 1) := by decide +kernel
theorem d_In_add_20 : decode y_In_add.2.1 20 = .ok (.aload_n 0, 1) := by decide +kernel
theorem d_In_add_21 : decode y_In_add.2.1 21 = .ok (.dup, 1) := by decide +kernel
theorem d_In_add_22 : decode y_In_add.2.1 22 = .ok (.getfield 18, 3) := by decide +kernel
theorem d_In_add_25 : decode y_In_add.2.1 25 = .ok (.iconst 1, 1) := by decide +kernel
theorem d_In_add_26 : decode y_In_add.2.1 26 = .ok (.iadd, 1) := by decide +kernel
theorem d_In_add_27 : decode y_In_add.2.1 27 = .ok (.putfield 18, 3) := by decide +kernel
theorem d_In_add_30 : decode y_In_add.2.1 30 = .ok (.aload_n 0, 1) := by decide +kernel
theorem d_In_add_31 : decode y_In_add.2.1 31 = .ok (.getfield 18, 3) := by decide +kernel
theorem d_In_add_34 : decode y_In_add.2.1 34 = .ok (.iconst 1, 1) := by decide +kernel
theorem d_In_add_35 : decode y_In_add.2.1 35 = .ok (.isub, 1) := by decide +kernel
theorem d_In_add_36 : decode y_In_add.2.1 36 = .ok (.ireturn, 1) := by decide +kernel
def y_In_lowOf : MethodName × ByteArray × Nat × Option FieldType × List (Nat × Nat × Nat × Nat) := (⟨"MaskedCauses$Inputs", "lowOf", "(I)I"⟩, prog_5_method_5_code, 2, (Option.some Jvm.ClassFile.FieldType.int), [])
theorem d_In_lowOf_0 : decode y_In_lowOf.2.1 0 = .ok (.aload_n 0, 1) := by decide +kernel
theorem d_In_lowOf_1 : decode y_In_lowOf.2.1 1 = .ok (.getfield 9, 3) := by decide +kernel
theorem d_In_lowOf_4 : decode y_In_lowOf.2.1 4 = .ok (.iload_n 1, 1) := by decide +kernel
theorem d_In_lowOf_5 : decode y_In_lowOf.2.1 5 = .ok (.iaload, 1) := by decide +kernel
theorem d_In_lowOf_6 : decode y_In_lowOf.2.1 6 = .ok (.ireturn, 1) := by decide +kernel
def y_In_highOf : MethodName × ByteArray × Nat × Option FieldType × List (Nat × Nat × Nat × Nat) := (⟨"MaskedCauses$Inputs", "highOf", "(I)I"⟩, prog_5_method_6_code, 2, (Option.some Jvm.ClassFile.FieldType.int), [])
theorem d_In_highOf_0 : decode y_In_highOf.2.1 0 = .ok (.aload_n 0, 1) := by decide +kernel
theorem d_In_highOf_1 : decode y_In_highOf.2.1 1 = .ok (.getfield 15, 3) := by decide +kernel
theorem d_In_highOf_4 : decode y_In_highOf.2.1 4 = .ok (.iload_n 1, 1) := by decide +kernel
theorem d_In_highOf_5 : decode y_In_highOf.2.1 5 = .ok (.iaload, 1) := by decide +kernel
theorem d_In_highOf_6 : decode y_In_highOf.2.1 6 = .ok (.ireturn, 1) := by decide +kernel
def y_In_fits : MethodName × ByteArray × Nat × Option FieldType × List (Nat × Nat × Nat × Nat) := (⟨"MaskedCauses$Inputs", "fits", "(II)Z"⟩, prog_5_method_7_code, 3, (Option.some Jvm.ClassFile.FieldType.boolean), [])
theorem d_In_fits_0 : decode y_In_fits.2.1 0 = .ok (.aload_n 0, 1) := by decide +kernel
theorem d_In_fits_1 : decode y_In_fits.2.1 1 = .ok (.iload_n 1, 1) := by decide +kernel
theorem d_In_fits_2 : decode y_In_fits.2.1 2 = .ok (.invokevirtual 22, 3) := by decide +kernel
theorem d_In_fits_5 : decode y_In_fits.2.1 5 = .ok (.ifCond .eq 23, 3) := by decide +kernel
theorem d_In_fits_8 : decode y_In_fits.2.1 8 = .ok (.iload_n 2, 1) := by decide +kernel
theorem d_In_fits_9 : decode y_In_fits.2.1 9 = .ok (.aload_n 0, 1) := by decide +kernel
theorem d_In_fits_10 : decode y_In_fits.2.1 10 = .ok (.getfield 9, 3) := by decide +kernel
theorem d_In_fits_13 : decode y_In_fits.2.1 13 = .ok (.iload_n 1, 1) := by decide +kernel
theorem d_In_fits_14 : decode y_In_fits.2.1 14 = .ok (.iaload, 1) := by decide +kernel
theorem d_In_fits_15 : decode y_In_fits.2.1 15 = .ok (.if_icmp .lt 17, 3) := by decide +kernel
theorem d_In_fits_18 : decode y_In_fits.2.1 18 = .ok (.iload_n 2, 1) := by decide +kernel
theorem d_In_fits_19 : decode y_In_fits.2.1 19 = .ok (.aload_n 0, 1) := by decide +kernel
theorem d_In_fits_20 : decode y_In_fits.2.1 20 = .ok (.getfield 15, 3) := by decide +kernel
theorem d_In_fits_23 : decode y_In_fits.2.1 23 = .ok (.iload_n 1, 1) := by decide +kernel
theorem d_In_fits_24 : decode y_In_fits.2.1 24 = .ok (.iaload, 1) := by decide +kernel
theorem d_In_fits_25 : decode y_In_fits.2.1 25 = .ok (.if_icmp .gt 7, 3) := by decide +kernel
theorem d_In_fits_28 : decode y_In_fits.2.1 28 = .ok (.iconst 1, 1) := by decide +kernel
theorem d_In_fits_29 : decode y_In_fits.2.1 29 = .ok (.goto 4, 3) := by decide +kernel
theorem d_In_fits_32 : decode y_In_fits.2.1 32 = .ok (.iconst 0, 1) := by decide +kernel
theorem d_In_fits_33 : decode y_In_fits.2.1 33 = .ok (.ireturn, 1) := by decide +kernel
def y_Co_init : MethodName × ByteArray × Nat × Option FieldType × List (Nat × Nat × Nat × Nat) := (⟨"MaskedCauses$Conditions", "<init>", "()V"⟩, prog_2_method_1_code, 1, (Option.none : Option Jvm.ClassFile.FieldType), [])
theorem d_Co_init_0 : decode y_Co_init.2.1 0 = .ok (.aload_n 0, 1) := by decide +kernel
theorem d_Co_init_1 : decode y_Co_init.2.1 1 = .ok (.invokespecial 3, 3) := by decide +kernel
theorem d_Co_init_4 : decode y_Co_init.2.1 4 = .ok (.aload_n 0, 1) := by decide +kernel
theorem d_Co_init_5 : decode y_Co_init.2.1 5 = .ok (.bipush 8, 2) := by decide +kernel
theorem d_Co_init_7 : decode y_Co_init.2.1 7 = .ok (.newarray .int, 2) := by decide +kernel
theorem d_Co_init_9 : decode y_Co_init.2.1 9 = .ok (.putfield 9, 3) := by decide +kernel
theorem d_Co_init_12 : decode y_Co_init.2.1 12 = .ok (.aload_n 0, 1) := by decide +kernel
theorem d_Co_init_13 : decode y_Co_init.2.1 13 = .ok (.bipush 8, 2) := by decide +kernel
theorem d_Co_init_15 : decode y_Co_init.2.1 15 = .ok (.newarray .int, 2) := by decide +kernel
theorem d_Co_init_17 : decode y_Co_init.2.1 17 = .ok (.putfield 15, 3) := by decide +kernel
theorem d_Co_init_20 : decode y_Co_init.2.1 20 = .ok (.aload_n 0, 1) := by decide +kernel
theorem d_Co_init_21 : decode y_Co_init.2.1 21 = .ok (.bipush 8, 2) := by decide +kernel
theorem d_Co_init_23 : decode y_Co_init.2.1 23 = .ok (.newarray .int, 2) := by decide +kernel
theorem d_Co_init_25 : decode y_Co_init.2.1 25 = .ok (.putfield 18, 3) := by decide +kernel
theorem d_Co_init_28 : decode y_Co_init.2.1 28 = .ok (.aload_n 0, 1) := by decide +kernel
theorem d_Co_init_29 : decode y_Co_init.2.1 29 = .ok (.bipush 8, 2) := by decide +kernel
theorem d_Co_init_31 : decode y_Co_init.2.1 31 = .ok (.newarray .int, 2) := by decide +kernel
theorem d_Co_init_33 : decode y_Co_init.2.1 33 = .ok (.putfield 21, 3) := by decide +kernel
theorem d_Co_init_36 : decode y_Co_init.2.1 36 = .ok (.aload_n 0, 1) := by decide +kernel
theorem d_Co_init_37 : decode y_Co_init.2.1 37 = .ok (.iconst 0, 1) := by decide +kernel
theorem d_Co_init_38 : decode y_Co_init.2.1 38 = .ok (.putfield 24, 3) := by decide +kernel
theorem d_Co_init_41 : decode y_Co_init.2.1 41 = .ok (.return_, 1) := by decide +kernel
def y_Co_isFull : MethodName × ByteArray × Nat × Option FieldType × List (Nat × Nat × Nat × Nat) := (⟨"MaskedCauses$Conditions", "isFull", "()Z"⟩, prog_2_method_2_code, 1, (Option.some Jvm.ClassFile.FieldType.boolean), [])
theorem d_Co_isFull_0 : decode y_Co_isFull.2.1 0 = .ok (.aload_n 0, 1) := by decide +kernel
theorem d_Co_isFull_1 : decode y_Co_isFull.2.1 1 = .ok (.getfield 24, 3) := by decide +kernel
theorem d_Co_isFull_4 : decode y_Co_isFull.2.1 4 = .ok (.bipush 8, 2) := by decide +kernel
theorem d_Co_isFull_6 : decode y_Co_isFull.2.1 6 = .ok (.if_icmp .ne 7, 3) := by decide +kernel
theorem d_Co_isFull_9 : decode y_Co_isFull.2.1 9 = .ok (.iconst 1, 1) := by decide +kernel
theorem d_Co_isFull_10 : decode y_Co_isFull.2.1 10 = .ok (.goto 4, 3) := by decide +kernel
theorem d_Co_isFull_13 : decode y_Co_isFull.2.1 13 = .ok (.iconst 0, 1) := by decide +kernel
theorem d_Co_isFull_14 : decode y_Co_isFull.2.1 14 = .ok (.ireturn, 1) := by decide +kernel
def y_Co_size : MethodName × ByteArray × Nat × Option FieldType × List (Nat × Nat × Nat × Nat) := (⟨"MaskedCauses$Conditions", "size", "()I"⟩, prog_2_method_3_code, 1, (Option.some Jvm.ClassFile.FieldType.int), [])
theorem d_Co_size_0 : decode y_Co_size.2.1 0 = .ok (.aload_n 0, 1) := by decide +kernel
theorem d_Co_size_1 : decode y_Co_size.2.1 1 = .ok (.getfield 24, 3) := by decide +kernel
theorem d_Co_size_4 : decode y_Co_size.2.1 4 = .ok (.ireturn, 1) := by decide +kernel
def y_Co_add : MethodName × ByteArray × Nat × Option FieldType × List (Nat × Nat × Nat × Nat) := (⟨"MaskedCauses$Conditions", "add", "(IIII)I"⟩, prog_2_method_4_code, 5, (Option.some Jvm.ClassFile.FieldType.int), [])
theorem d_Co_add_0 : decode y_Co_add.2.1 0 = .ok (.aload_n 0, 1) := by decide +kernel
theorem d_Co_add_1 : decode y_Co_add.2.1 1 = .ok (.getfield 9, 3) := by decide +kernel
theorem d_Co_add_4 : decode y_Co_add.2.1 4 = .ok (.aload_n 0, 1) := by decide +kernel
theorem d_Co_add_5 : decode y_Co_add.2.1 5 = .ok (.getfield 24, 3) := by decide +kernel
theorem d_Co_add_8 : decode y_Co_add.2.1 8 = .ok (.iload_n 1, 1) := by decide +kernel
theorem d_Co_add_9 : decode y_Co_add.2.1 9 = .ok (.iastore, 1) := by decide +kernel
theorem d_Co_add_10 : decode y_Co_add.2.1 10 = .ok (.aload_n 0, 1) := by decide +kernel
theorem d_Co_add_11 : decode y_Co_add.2.1 11 = .ok (.getfield 15, 3) := by decide +kernel
theorem d_Co_add_14 : decode y_Co_add.2.1 14 = .ok (.aload_n 0, 1) := by decide +kernel
theorem d_Co_add_15 : decode y_Co_add.2.1 15 = .ok (.getfield 24, 3) := by decide +kernel
theorem d_Co_add_18 : decode y_Co_add.2.1 18 = .ok (.iload_n 2, 1) := by decide +kernel
theorem d_Co_add_19 : decode y_Co_add.2.1 19 = .ok (.iastore, 1) := by decide +kernel
theorem d_Co_add_20 : decode y_Co_add.2.1 20 = .ok (.aload_n 0, 1) := by decide +kernel
theorem d_Co_add_21 : decode y_Co_add.2.1 21 = .ok (.getfield 18, 3) := by decide +kernel
theorem d_Co_add_24 : decode y_Co_add.2.1 24 = .ok (.aload_n 0, 1) := by decide +kernel
theorem d_Co_add_25 : decode y_Co_add.2.1 25 = .ok (.getfield 24, 3) := by decide +kernel
theorem d_Co_add_28 : decode y_Co_add.2.1 28 = .ok (.iload_n 3, 1) := by decide +kernel
theorem d_Co_add_29 : decode y_Co_add.2.1 29 = .ok (.iastore, 1) := by decide +kernel
theorem d_Co_add_30 : decode y_Co_add.2.1 30 = .ok (.aload_n 0, 1) := by decide +kernel
theorem d_Co_add_31 : decode y_Co_add.2.1 31 = .ok (.getfield 21, 3) := by decide +kernel
theorem d_Co_add_34 : decode y_Co_add.2.1 34 = .ok (.aload_n 0, 1) := by decide +kernel
theorem d_Co_add_35 : decode y_Co_add.2.1 35 = .ok (.getfield 24, 3) := by decide +kernel
theorem d_Co_add_38 : decode y_Co_add.2.1 38 = .ok (.iload 4, 2) := by decide +kernel
theorem d_Co_add_40 : decode y_Co_add.2.1 40 = .ok (.iastore, 1) := by decide +kernel
theorem d_Co_add_41 : decode y_Co_add.2.1 41 = .ok (.aload_n 0, 1) := by decide +kernel
theorem d_Co_add_42 : decode y_Co_add.2.1 42 = .ok (.dup, 1) := by decide +kernel
theorem d_Co_add_43 : decode y_Co_add.2.1 43 = .ok (.getfield 24, 3) := by decide +kernel
theorem d_Co_add_46 : decode y_Co_add.2.1 46 = .ok (.iconst 1, 1) := by decide +kernel
theorem d_Co_add_47 : decode y_Co_add.2.1 47 = .ok (.iadd, 1) := by decide +kernel
theorem d_Co_add_48 : decode y_Co_add.2.1 48 = .ok (.putfield 24, 3) := by decide +kernel
theorem d_Co_add_51 : decode y_Co_add.2.1 51 = .ok (.aload_n 0, 1) := by decide +kernel
theorem d_Co_add_52 : decode y_Co_add.2.1 52 = .ok (.getfield 24, 3) := by decide +kernel
theorem d_Co_add_55 : decode y_Co_add.2.1 55 = .ok (.iconst 1, 1) := by decide +kernel
theorem d_Co_add_56 : decode y_Co_add.2.1 56 = .ok (.isub, 1) := by decide +kernel
theorem d_Co_add_57 : decode y_Co_add.2.1 57 = .ok (.ireturn, 1) := by decide +kernel
def y_Co_firstOf : MethodName × ByteArray × Nat × Option FieldType × List (Nat × Nat × Nat × Nat) := (⟨"MaskedCauses$Conditions", "firstOf", "(I)I"⟩, prog_2_method_5_code, 2, (Option.some Jvm.ClassFile.FieldType.int), [])
theorem d_Co_firstOf_0 : decode y_Co_firstOf.2.1 0 = .ok (.aload_n 0, 1) := by decide +kernel
theorem d_Co_firstOf_1 : decode y_Co_firstOf.2.1 1 = .ok (.getfield 15, 3) := by decide +kernel
theorem d_Co_firstOf_4 : decode y_Co_firstOf.2.1 4 = .ok (.iload_n 1, 1) := by decide +kernel
theorem d_Co_firstOf_5 : decode y_Co_firstOf.2.1 5 = .ok (.iaload, 1) := by decide +kernel
theorem d_Co_firstOf_6 : decode y_Co_firstOf.2.1 6 = .ok (.ireturn, 1) := by decide +kernel
def y_Co_secondOf : MethodName × ByteArray × Nat × Option FieldType × List (Nat × Nat × Nat × Nat) := (⟨"MaskedCauses$Conditions", "secondOf", "(I)I"⟩, prog_2_method_6_code, 2, (Option.some Jvm.ClassFile.FieldType.int), [])
theorem d_Co_secondOf_0 : decode y_Co_secondOf.2.1 0 = .ok (.aload_n 0, 1) := by decide +kernel
theorem d_Co_secondOf_1 : decode y_Co_secondOf.2.1 1 = .ok (.getfield 18, 3) := by decide +kernel
theorem d_Co_secondOf_4 : decode y_Co_secondOf.2.1 4 = .ok (.iload_n 1, 1) := by decide +kernel
theorem d_Co_secondOf_5 : decode y_Co_secondOf.2.1 5 = .ok (.iaload, 1) := by decide +kernel
theorem d_Co_secondOf_6 : decode y_Co_secondOf.2.1 6 = .ok (.ireturn, 1) := by decide +kernel
def y_Co_inputsOf : MethodName × ByteArray × Nat × Option FieldType × List (Nat × Nat × Nat × Nat) := (⟨"MaskedCauses$Conditions", "inputsOf", "(I)I"⟩, prog_2_method_7_code, 3, (Option.some Jvm.ClassFile.FieldType.int), [])
theorem d_Co_inputsOf_0 : decode y_Co_inputsOf.2.1 0 = .ok (.aload_n 0, 1) := by decide +kernel
theorem d_Co_inputsOf_1 : decode y_Co_inputsOf.2.1 1 = .ok (.getfield 18, 3) := by decide +kernel
theorem d_Co_inputsOf_4 : decode y_Co_inputsOf.2.1 4 = .ok (.iload_n 1, 1) := by decide +kernel
theorem d_Co_inputsOf_5 : decode y_Co_inputsOf.2.1 5 = .ok (.iaload, 1) := by decide +kernel
theorem d_Co_inputsOf_6 : decode y_Co_inputsOf.2.1 6 = .ok (.iconst (-1), 1) := by decide +kernel
theorem d_Co_inputsOf_7 : decode y_Co_inputsOf.2.1 7 = .ok (.if_icmp .ne 7, 3) := by decide +kernel
theorem d_Co_inputsOf_10 : decode y_Co_inputsOf.2.1 10 = .ok (.iconst 0, 1) := by decide +kernel
theorem d_Co_inputsOf_11 : decode y_Co_inputsOf.2.1 11 = .ok (.goto 11, 3) := by decide +kernel
theorem d_Co_inputsOf_14 : decode y_Co_inputsOf.2.1 14 = .ok (.iconst 1, 1) := by decide +kernel
theorem d_Co_inputsOf_15 : decode y_Co_inputsOf.2.1 15 = .ok (.aload_n 0, 1) := by decide +kernel
theorem d_Co_inputsOf_16 : decode y_Co_inputsOf.2.1 16 = .ok (.getfield 18, 3) := by decide +kernel
theorem d_Co_inputsOf_19 : decode y_Co_inputsOf.2.1 19 = .ok (.iload_n 1, 1) := by decide +kernel
theorem d_Co_inputsOf_20 : decode y_Co_inputsOf.2.1 20 = .ok (.iaload, 1) := by decide +kernel
theorem d_Co_inputsOf_21 : decode y_Co_inputsOf.2.1 21 = .ok (.ishl, 1) := by decide +kernel
theorem d_Co_inputsOf_22 : decode y_Co_inputsOf.2.1 22 = .ok (.istore_n 2, 1) := by decide +kernel
theorem d_Co_inputsOf_23 : decode y_Co_inputsOf.2.1 23 = .ok (.iconst 1, 1) := by decide +kernel
theorem d_Co_inputsOf_24 : decode y_Co_inputsOf.2.1 24 = .ok (.aload_n 0, 1) := by decide +kernel
theorem d_Co_inputsOf_25 : decode y_Co_inputsOf.2.1 25 = .ok (.getfield 15, 3) := by decide +kernel
theorem d_Co_inputsOf_28 : decode y_Co_inputsOf.2.1 28 = .ok (.iload_n 1, 1) := by decide +kernel
theorem d_Co_inputsOf_29 : decode y_Co_inputsOf.2.1 29 = .ok (.iaload, 1) := by decide +kernel
theorem d_Co_inputsOf_30 : decode y_Co_inputsOf.2.1 30 = .ok (.ishl, 1) := by decide +kernel
theorem d_Co_inputsOf_31 : decode y_Co_inputsOf.2.1 31 = .ok (.iload_n 2, 1) := by decide +kernel
theorem d_Co_inputsOf_32 : decode y_Co_inputsOf.2.1 32 = .ok (.ior, 1) := by decide +kernel
theorem d_Co_inputsOf_33 : decode y_Co_inputsOf.2.1 33 = .ok (.ireturn, 1) := by decide +kernel
def y_Co_holds : MethodName × ByteArray × Nat × Option FieldType × List (Nat × Nat × Nat × Nat) := (⟨"MaskedCauses$Conditions", "holds", "(II)Z"⟩, prog_2_method_8_code, 4, (Option.some Jvm.ClassFile.FieldType.boolean), [])
theorem d_Co_holds_0 : decode y_Co_holds.2.1 0 = .ok (.aload_n 0, 1) := by decide +kernel
theorem d_Co_holds_1 : decode y_Co_holds.2.1 1 = .ok (.getfield 21, 3) := by decide +kernel
theorem d_Co_holds_4 : decode y_Co_holds.2.1 4 = .ok (.iload_n 1, 1) := by decide +kernel
theorem d_Co_holds_5 : decode y_Co_holds.2.1 5 = .ok (.iaload, 1) := by decide +kernel
theorem d_Co_holds_6 : decode y_Co_holds.2.1 6 = .ok (.istore_n 3, 1) := by decide +kernel
theorem d_Co_holds_7 : decode y_Co_holds.2.1 7 = .ok (.aload_n 0, 1) := by decide +kernel
theorem d_Co_holds_8 : decode y_Co_holds.2.1 8 = .ok (.getfield 9, 3) := by decide +kernel
theorem d_Co_holds_11 : decode y_Co_holds.2.1 11 = .ok (.iload_n 1, 1) := by decide +kernel
theorem d_Co_holds_12 : decode y_Co_holds.2.1 12 = .ok (.iaload, 1) := by decide +kernel
theorem d_Co_holds_13 : decode y_Co_holds.2.1 13 = .ok (.tableswitch 60 0 2 #[27, 38, 49], 27) := by decide +kernel
theorem d_Co_holds_40 : decode y_Co_holds.2.1 40 = .ok (.iload_n 2, 1) := by decide +kernel
theorem d_Co_holds_41 : decode y_Co_holds.2.1 41 = .ok (.iload_n 3, 1) := by decide +kernel
theorem d_Co_holds_42 : decode y_Co_holds.2.1 42 = .ok (.if_icmp .gt 7, 3) := by decide +kernel
theorem d_Co_holds_45 : decode y_Co_holds.2.1 45 = .ok (.iconst 1, 1) := by decide +kernel
theorem d_Co_holds_46 : decode y_Co_holds.2.1 46 = .ok (.goto 4, 3) := by decide +kernel
theorem d_Co_holds_49 : decode y_Co_holds.2.1 49 = .ok (.iconst 0, 1) := by decide +kernel
theorem d_Co_holds_50 : decode y_Co_holds.2.1 50 = .ok (.ireturn, 1) := by decide +kernel
theorem d_Co_holds_51 : decode y_Co_holds.2.1 51 = .ok (.iload_n 2, 1) := by decide +kernel
theorem d_Co_holds_52 : decode y_Co_holds.2.1 52 = .ok (.iload_n 3, 1) := by decide +kernel
theorem d_Co_holds_53 : decode y_Co_holds.2.1 53 = .ok (.if_icmp .ge 7, 3) := by decide +kernel
theorem d_Co_holds_56 : decode y_Co_holds.2.1 56 = .ok (.iconst 1, 1) := by decide +kernel
theorem d_Co_holds_57 : decode y_Co_holds.2.1 57 = .ok (.goto 4, 3) := by decide +kernel
theorem d_Co_holds_60 : decode y_Co_holds.2.1 60 = .ok (.iconst 0, 1) := by decide +kernel
theorem d_Co_holds_61 : decode y_Co_holds.2.1 61 = .ok (.ireturn, 1) := by decide +kernel
theorem d_Co_holds_62 : decode y_Co_holds.2.1 62 = .ok (.iload_n 2, 1) := by decide +kernel
theorem d_Co_holds_63 : decode y_Co_holds.2.1 63 = .ok (.iload_n 3, 1) := by decide +kernel
theorem d_Co_holds_64 : decode y_Co_holds.2.1 64 = .ok (.if_icmp .ne 7, 3) := by decide +kernel
theorem d_Co_holds_67 : decode y_Co_holds.2.1 67 = .ok (.iconst 1, 1) := by decide +kernel
theorem d_Co_holds_68 : decode y_Co_holds.2.1 68 = .ok (.goto 4, 3) := by decide +kernel
theorem d_Co_holds_71 : decode y_Co_holds.2.1 71 = .ok (.iconst 0, 1) := by decide +kernel
theorem d_Co_holds_72 : decode y_Co_holds.2.1 72 = .ok (.ireturn, 1) := by decide +kernel
theorem d_Co_holds_73 : decode y_Co_holds.2.1 73 = .ok (.iload_n 2, 1) := by decide +kernel
theorem d_Co_holds_74 : decode y_Co_holds.2.1 74 = .ok (.iload_n 3, 1) := by decide +kernel
theorem d_Co_holds_75 : decode y_Co_holds.2.1 75 = .ok (.if_icmp .eq 7, 3) := by decide +kernel
theorem d_Co_holds_78 : decode y_Co_holds.2.1 78 = .ok (.iconst 1, 1) := by decide +kernel
theorem d_Co_holds_79 : decode y_Co_holds.2.1 79 = .ok (.goto 4, 3) := by decide +kernel
theorem d_Co_holds_82 : decode y_Co_holds.2.1 82 = .ok (.iconst 0, 1) := by decide +kernel
theorem d_Co_holds_83 : decode y_Co_holds.2.1 83 = .ok (.ireturn, 1) := by decide +kernel
def y_Co_holdsFor : MethodName × ByteArray × Nat × Option FieldType × List (Nat × Nat × Nat × Nat) := (⟨"MaskedCauses$Conditions", "holdsFor", "(I[II)Z"⟩, prog_2_method_9_code, 5, (Option.some Jvm.ClassFile.FieldType.boolean), [])
theorem d_Co_holdsFor_0 : decode y_Co_holdsFor.2.1 0 = .ok (.aload_n 0, 1) := by decide +kernel
theorem d_Co_holdsFor_1 : decode y_Co_holdsFor.2.1 1 = .ok (.getfield 18, 3) := by decide +kernel
theorem d_Co_holdsFor_4 : decode y_Co_holdsFor.2.1 4 = .ok (.iload_n 1, 1) := by decide +kernel
theorem d_Co_holdsFor_5 : decode y_Co_holdsFor.2.1 5 = .ok (.iaload, 1) := by decide +kernel
theorem d_Co_holdsFor_6 : decode y_Co_holdsFor.2.1 6 = .ok (.iconst (-1), 1) := by decide +kernel
theorem d_Co_holdsFor_7 : decode y_Co_holdsFor.2.1 7 = .ok (.if_icmp .ne 7, 3) := by decide +kernel
theorem d_Co_holdsFor_10 : decode y_Co_holdsFor.2.1 10 = .ok (.iconst 0, 1) := by decide +kernel
theorem d_Co_holdsFor_11 : decode y_Co_holdsFor.2.1 11 = .ok (.goto 13, 3) := by decide +kernel
theorem d_Co_holdsFor_14 : decode y_Co_holdsFor.2.1 14 = .ok (.aload_n 2, 1) := by decide +kernel
theorem d_Co_holdsFor_15 : decode y_Co_holdsFor.2.1 15 = .ok (.iload_n 3, 1) := by decide +kernel
theorem d_Co_holdsFor_16 : decode y_Co_holdsFor.2.1 16 = .ok (.aload_n 0, 1) := by decide +kernel
theorem d_Co_holdsFor_17 : decode y_Co_holdsFor.2.1 17 = .ok (.getfield 18, 3) := by decide +kernel
theorem d_Co_holdsFor_20 : decode y_Co_holdsFor.2.1 20 = .ok (.iload_n 1, 1) := by decide +kernel
theorem d_Co_holdsFor_21 : decode y_Co_holdsFor.2.1 21 = .ok (.iaload, 1) := by decide +kernel
theorem d_Co_holdsFor_22 : decode y_Co_holdsFor.2.1 22 = .ok (.iadd, 1) := by decide +kernel
theorem d_Co_holdsFor_23 : decode y_Co_holdsFor.2.1 23 = .ok (.iaload, 1) := by decide +kernel
theorem d_Co_holdsFor_24 : decode y_Co_holdsFor.2.1 24 = .ok (.istore 4, 2) := by decide +kernel
theorem d_Co_holdsFor_26 : decode y_Co_holdsFor.2.1 26 = .ok (.aload_n 0, 1) := by decide +kernel
theorem d_Co_holdsFor_27 : decode y_Co_holdsFor.2.1 27 = .ok (.iload_n 1, 1) := by decide +kernel
theorem d_Co_holdsFor_28 : decode y_Co_holdsFor.2.1 28 = .ok (.aload_n 2, 1) := by decide +kernel
theorem d_Co_holdsFor_29 : decode y_Co_holdsFor.2.1 29 = .ok (.iload_n 3, 1) := by decide +kernel
theorem d_Co_holdsFor_30 : decode y_Co_holdsFor.2.1 30 = .ok (.aload_n 0, 1) := by decide +kernel
theorem d_Co_holdsFor_31 : decode y_Co_holdsFor.2.1 31 = .ok (.getfield 15, 3) := by decide +kernel
theorem d_Co_holdsFor_34 : decode y_Co_holdsFor.2.1 34 = .ok (.iload_n 1, 1) := by decide +kernel
theorem d_Co_holdsFor_35 : decode y_Co_holdsFor.2.1 35 = .ok (.iaload, 1) := by decide +kernel
theorem d_Co_holdsFor_36 : decode y_Co_holdsFor.2.1 36 = .ok (.iadd, 1) := by decide +kernel
theorem d_Co_holdsFor_37 : decode y_Co_holdsFor.2.1 37 = .ok (.iaload, 1) := by decide +kernel
theorem d_Co_holdsFor_38 : decode y_Co_holdsFor.2.1 38 = .ok (.iload 4, 2) := by decide +kernel
theorem d_Co_holdsFor_40 : decode y_Co_holdsFor.2.1 40 = .ok (.isub, 1) := by decide +kernel
theorem d_Co_holdsFor_41 : decode y_Co_holdsFor.2.1 41 = .ok (.invokevirtual 28, 3) := by decide +kernel
theorem d_Co_holdsFor_44 : decode y_Co_holdsFor.2.1 44 = .ok (.ireturn, 1) := by decide +kernel
def y_Li_init : MethodName × ByteArray × Nat × Option FieldType × List (Nat × Nat × Nat × Nat) := (⟨"MaskedCauses$Line", "<init>", "()V"⟩, prog_6_method_1_code, 1, (Option.none : Option Jvm.ClassFile.FieldType), [])
theorem d_Li_init_0 : decode y_Li_init.2.1 0 = .ok (.aload_n 0, 1) := by decide +kernel
theorem d_Li_init_1 : decode y_Li_init.2.1 1 = .ok (.invokespecial 3, 3) := by decide +kernel
theorem d_Li_init_4 : decode y_Li_init.2.1 4 = .ok (.aload_n 0, 1) := by decide +kernel
theorem d_Li_init_5 : decode y_Li_init.2.1 5 = .ok (.bipush 40, 2) := by decide +kernel
theorem d_Li_init_7 : decode y_Li_init.2.1 7 = .ok (.newarray .char, 2) := by decide +kernel
theorem d_Li_init_9 : decode y_Li_init.2.1 9 = .ok (.putfield 9, 3) := by decide +kernel
theorem d_Li_init_12 : decode y_Li_init.2.1 12 = .ok (.aload_n 0, 1) := by decide +kernel
theorem d_Li_init_13 : decode y_Li_init.2.1 13 = .ok (.iconst 0, 1) := by decide +kernel
theorem d_Li_init_14 : decode y_Li_init.2.1 14 = .ok (.putfield 15, 3) := by decide +kernel
theorem d_Li_init_17 : decode y_Li_init.2.1 17 = .ok (.return_, 1) := by decide +kernel
def y_Li_put : MethodName × ByteArray × Nat × Option FieldType × List (Nat × Nat × Nat × Nat) := (⟨"MaskedCauses$Line", "put", "(C)Z"⟩, prog_6_method_2_code, 2, (Option.some Jvm.ClassFile.FieldType.boolean), [])
theorem d_Li_put_0 : decode y_Li_put.2.1 0 = .ok (.aload_n 0, 1) := by decide +kernel
theorem d_Li_put_1 : decode y_Li_put.2.1 1 = .ok (.getfield 15, 3) := by decide +kernel
theorem d_Li_put_4 : decode y_Li_put.2.1 4 = .ok (.bipush 40, 2) := by decide +kernel
theorem d_Li_put_6 : decode y_Li_put.2.1 6 = .ok (.if_icmp .ne 5, 3) := by decide +kernel
theorem d_Li_put_9 : decode y_Li_put.2.1 9 = .ok (.iconst 0, 1) := by decide +kernel
theorem d_Li_put_10 : decode y_Li_put.2.1 10 = .ok (.ireturn, 1) := by decide +kernel
theorem d_Li_put_11 : decode y_Li_put.2.1 11 = .ok (.aload_n 0, 1) := by decide +kernel
theorem d_Li_put_12 : decode y_Li_put.2.1 12 = .ok (.getfield 9, 3) := by decide +kernel
theorem d_Li_put_15 : decode y_Li_put.2.1 15 = .ok (.aload_n 0, 1) := by decide +kernel
theorem d_Li_put_16 : decode y_Li_put.2.1 16 = .ok (.getfield 15, 3) := by decide +kernel
theorem d_Li_put_19 : decode y_Li_put.2.1 19 = .ok (.iload_n 1, 1) := by decide +kernel
theorem d_Li_put_20 : decode y_Li_put.2.1 20 = .ok (.castore, 1) := by decide +kernel
theorem d_Li_put_21 : decode y_Li_put.2.1 21 = .ok (.aload_n 0, 1) := by decide +kernel
theorem d_Li_put_22 : decode y_Li_put.2.1 22 = .ok (.dup, 1) := by decide +kernel
theorem d_Li_put_23 : decode y_Li_put.2.1 23 = .ok (.getfield 15, 3) := by decide +kernel
theorem d_Li_put_26 : decode y_Li_put.2.1 26 = .ok (.iconst 1, 1) := by decide +kernel
theorem d_Li_put_27 : decode y_Li_put.2.1 27 = .ok (.iadd, 1) := by decide +kernel
theorem d_Li_put_28 : decode y_Li_put.2.1 28 = .ok (.putfield 15, 3) := by decide +kernel
theorem d_Li_put_31 : decode y_Li_put.2.1 31 = .ok (.iconst 1, 1) := by decide +kernel
theorem d_Li_put_32 : decode y_Li_put.2.1 32 = .ok (.ireturn, 1) := by decide +kernel
def y_Li_clear : MethodName × ByteArray × Nat × Option FieldType × List (Nat × Nat × Nat × Nat) := (⟨"MaskedCauses$Line", "clear", "()I"⟩, prog_6_method_3_code, 2, (Option.some Jvm.ClassFile.FieldType.int), [])
theorem d_Li_clear_0 : decode y_Li_clear.2.1 0 = .ok (.aload_n 0, 1) := by decide +kernel
theorem d_Li_clear_1 : decode y_Li_clear.2.1 1 = .ok (.getfield 15, 3) := by decide +kernel
theorem d_Li_clear_4 : decode y_Li_clear.2.1 4 = .ok (.istore_n 1, 1) := by decide +kernel
theorem d_Li_clear_5 : decode y_Li_clear.2.1 5 = .ok (.aload_n 0, 1) := by decide +kernel
theorem d_Li_clear_6 : decode y_Li_clear.2.1 6 = .ok (.iconst 0, 1) := by decide +kernel
theorem d_Li_clear_7 : decode y_Li_clear.2.1 7 = .ok (.putfield 15, 3) := by decide +kernel
theorem d_Li_clear_10 : decode y_Li_clear.2.1 10 = .ok (.iload_n 1, 1) := by decide +kernel
theorem d_Li_clear_11 : decode y_Li_clear.2.1 11 = .ok (.ireturn, 1) := by decide +kernel
def y_Li_size : MethodName × ByteArray × Nat × Option FieldType × List (Nat × Nat × Nat × Nat) := (⟨"MaskedCauses$Line", "size", "()I"⟩, prog_6_method_4_code, 1, (Option.some Jvm.ClassFile.FieldType.int), [])
theorem d_Li_size_0 : decode y_Li_size.2.1 0 = .ok (.aload_n 0, 1) := by decide +kernel
theorem d_Li_size_1 : decode y_Li_size.2.1 1 = .ok (.getfield 15, 3) := by decide +kernel
theorem d_Li_size_4 : decode y_Li_size.2.1 4 = .ok (.ireturn, 1) := by decide +kernel
def y_Li_at : MethodName × ByteArray × Nat × Option FieldType × List (Nat × Nat × Nat × Nat) := (⟨"MaskedCauses$Line", "at", "(I)C"⟩, prog_6_method_5_code, 2, (Option.some Jvm.ClassFile.FieldType.char), [])
theorem d_Li_at_0 : decode y_Li_at.2.1 0 = .ok (.iload_n 1, 1) := by decide +kernel
theorem d_Li_at_1 : decode y_Li_at.2.1 1 = .ok (.ifCond .lt 20, 3) := by decide +kernel
theorem d_Li_at_4 : decode y_Li_at.2.1 4 = .ok (.iload_n 1, 1) := by decide +kernel
theorem d_Li_at_5 : decode y_Li_at.2.1 5 = .ok (.aload_n 0, 1) := by decide +kernel
theorem d_Li_at_6 : decode y_Li_at.2.1 6 = .ok (.getfield 15, 3) := by decide +kernel
theorem d_Li_at_9 : decode y_Li_at.2.1 9 = .ok (.if_icmp .ge 12, 3) := by decide +kernel
theorem d_Li_at_12 : decode y_Li_at.2.1 12 = .ok (.aload_n 0, 1) := by decide +kernel
theorem d_Li_at_13 : decode y_Li_at.2.1 13 = .ok (.getfield 9, 3) := by decide +kernel
theorem d_Li_at_16 : decode y_Li_at.2.1 16 = .ok (.iload_n 1, 1) := by decide +kernel
theorem d_Li_at_17 : decode y_Li_at.2.1 17 = .ok (.caload, 1) := by decide +kernel
theorem d_Li_at_18 : decode y_Li_at.2.1 18 = .ok (.goto 5, 3) := by decide +kernel
theorem d_Li_at_21 : decode y_Li_at.2.1 21 = .ok (.bipush 32, 2) := by decide +kernel
theorem d_Li_at_23 : decode y_Li_at.2.1 23 = .ok (.ireturn, 1) := by decide +kernel
end
