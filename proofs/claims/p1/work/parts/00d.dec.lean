/-! methods and their instructions -/
section
def y_Wa_init : MethodName × ByteArray × Nat × Option FieldType × List (Nat × Nat × Nat × Nat) := (⟨"MaskedCauses$Walk", "<init>", "(LMaskedCauses$Inputs;LMaskedCauses$Conditions;)V"⟩, prog_11_method_1_code, 3, (Option.none : Option Jvm.ClassFile.FieldType), [])
theorem d_Wa_init_0 : decode y_Wa_init.2.1 0 = .ok (.aload_n 0, 1) := by decide +kernel
theorem d_Wa_init_1 : decode y_Wa_init.2.1 1 = .ok (.invokespecial 3, 3) := by decide +kernel
theorem d_Wa_init_4 : decode y_Wa_init.2.1 4 = .ok (.aload_n 0, 1) := by decide +kernel
theorem d_Wa_init_5 : decode y_Wa_init.2.1 5 = .ok (.bipush 6, 2) := by decide +kernel
theorem d_Wa_init_7 : decode y_Wa_init.2.1 7 = .ok (.bipush 81, 2) := by decide +kernel
theorem d_Wa_init_9 : decode y_Wa_init.2.1 9 = .ok (.multianewarray 11 2, 4) := by decide +kernel
theorem d_Wa_init_13 : decode y_Wa_init.2.1 13 = .ok (.putfield 13, 3) := by decide +kernel
theorem d_Wa_init_16 : decode y_Wa_init.2.1 16 = .ok (.aload_n 0, 1) := by decide +kernel
theorem d_Wa_init_17 : decode y_Wa_init.2.1 17 = .ok (.aload_n 1, 1) := by decide +kernel
theorem d_Wa_init_18 : decode y_Wa_init.2.1 18 = .ok (.putfield 16, 3) := by decide +kernel
theorem d_Wa_init_21 : decode y_Wa_init.2.1 21 = .ok (.aload_n 0, 1) := by decide +kernel
theorem d_Wa_init_22 : decode y_Wa_init.2.1 22 = .ok (.aload_n 2, 1) := by decide +kernel
theorem d_Wa_init_23 : decode y_Wa_init.2.1 23 = .ok (.putfield 20, 3) := by decide +kernel
theorem d_Wa_init_26 : decode y_Wa_init.2.1 26 = .ok (.return_, 1) := by decide +kernel
def y_Wa_findWords : MethodName × ByteArray × Nat × Option FieldType × List (Nat × Nat × Nat × Nat) := (⟨"MaskedCauses$Walk", "findWords", "(LMaskedCauses$Decision;)V"⟩, prog_11_method_2_code, 8, (Option.none : Option Jvm.ClassFile.FieldType), [])
theorem d_Wa_findWords_0 : decode y_Wa_findWords.2.1 0 = .ok (.aload_n 0, 1) := by decide +kernel
theorem d_Wa_findWords_1 : decode y_Wa_findWords.2.1 1 = .ok (.aload_n 1, 1) := by decide +kernel
theorem d_Wa_findWords_2 : decode y_Wa_findWords.2.1 2 = .ok (.invokevirtual 24, 3) := by decide +kernel
theorem d_Wa_findWords_5 : decode y_Wa_findWords.2.1 5 = .ok (.aload_n 0, 1) := by decide +kernel
theorem d_Wa_findWords_6 : decode y_Wa_findWords.2.1 6 = .ok (.getfield 16, 3) := by decide +kernel
theorem d_Wa_findWords_9 : decode y_Wa_findWords.2.1 9 = .ok (.iconst 0, 1) := by decide +kernel
theorem d_Wa_findWords_10 : decode y_Wa_findWords.2.1 10 = .ok (.invokevirtual 28, 3) := by decide +kernel
theorem d_Wa_findWords_13 : decode y_Wa_findWords.2.1 13 = .ok (.istore_n 2, 1) := by decide +kernel
theorem d_Wa_findWords_14 : decode y_Wa_findWords.2.1 14 = .ok (.iload_n 2, 1) := by decide +kernel
theorem d_Wa_findWords_15 : decode y_Wa_findWords.2.1 15 = .ok (.aload_n 0, 1) := by decide +kernel
theorem d_Wa_findWords_16 : decode y_Wa_findWords.2.1 16 = .ok (.getfield 16, 3) := by decide +kernel
theorem d_Wa_findWords_19 : decode y_Wa_findWords.2.1 19 = .ok (.iconst 0, 1) := by decide +kernel
theorem d_Wa_findWords_20 : decode y_Wa_findWords.2.1 20 = .ok (.invokevirtual 34, 3) := by decide +kernel
theorem d_Wa_findWords_23 : decode y_Wa_findWords.2.1 23 = .ok (.if_icmp .gt 145, 3) := by decide +kernel
theorem d_Wa_findWords_26 : decode y_Wa_findWords.2.1 26 = .ok (.aload_n 0, 1) := by decide +kernel
theorem d_Wa_findWords_27 : decode y_Wa_findWords.2.1 27 = .ok (.iconst 0, 1) := by decide +kernel
theorem d_Wa_findWords_28 : decode y_Wa_findWords.2.1 28 = .ok (.iconst 3, 1) := by decide +kernel
theorem d_Wa_findWords_29 : decode y_Wa_findWords.2.1 29 = .ok (.iload_n 2, 1) := by decide +kernel
theorem d_Wa_findWords_30 : decode y_Wa_findWords.2.1 30 = .ok (.invokevirtual 37, 3) := by decide +kernel
theorem d_Wa_findWords_33 : decode y_Wa_findWords.2.1 33 = .ok (.istore_n 3, 1) := by decide +kernel
theorem d_Wa_findWords_34 : decode y_Wa_findWords.2.1 34 = .ok (.aload_n 0, 1) := by decide +kernel
theorem d_Wa_findWords_35 : decode y_Wa_findWords.2.1 35 = .ok (.getfield 16, 3) := by decide +kernel
theorem d_Wa_findWords_38 : decode y_Wa_findWords.2.1 38 = .ok (.iconst 1, 1) := by decide +kernel
theorem d_Wa_findWords_39 : decode y_Wa_findWords.2.1 39 = .ok (.invokevirtual 28, 3) := by decide +kernel
theorem d_Wa_findWords_42 : decode y_Wa_findWords.2.1 42 = .ok (.istore 4, 2) := by decide +kernel
theorem d_Wa_findWords_44 : decode y_Wa_findWords.2.1 44 = .ok (.iload 4, 2) := by decide +kernel
theorem d_Wa_findWords_46 : decode y_Wa_findWords.2.1 46 = .ok (.aload_n 0, 1) := by decide +kernel
theorem d_Wa_findWords_47 : decode y_Wa_findWords.2.1 47 = .ok (.getfield 16, 3) := by decide +kernel
theorem d_Wa_findWords_50 : decode y_Wa_findWords.2.1 50 = .ok (.iconst 1, 1) := by decide +kernel
theorem d_Wa_findWords_51 : decode y_Wa_findWords.2.1 51 = .ok (.invokevirtual 34, 3) := by decide +kernel
theorem d_Wa_findWords_54 : decode y_Wa_findWords.2.1 54 = .ok (.if_icmp .gt 108, 3) := by decide +kernel
theorem d_Wa_findWords_57 : decode y_Wa_findWords.2.1 57 = .ok (.iload_n 3, 1) := by decide +kernel
theorem d_Wa_findWords_58 : decode y_Wa_findWords.2.1 58 = .ok (.aload_n 0, 1) := by decide +kernel
theorem d_Wa_findWords_59 : decode y_Wa_findWords.2.1 59 = .ok (.iconst 1, 1) := by decide +kernel
theorem d_Wa_findWords_60 : decode y_Wa_findWords.2.1 60 = .ok (.iconst 3, 1) := by decide +kernel
theorem d_Wa_findWords_61 : decode y_Wa_findWords.2.1 61 = .ok (.iload 4, 2) := by decide +kernel
theorem d_Wa_findWords_63 : decode y_Wa_findWords.2.1 63 = .ok (.invokevirtual 37, 3) := by decide +kernel
theorem d_Wa_findWords_66 : decode y_Wa_findWords.2.1 66 = .ok (.ior, 1) := by decide +kernel
theorem d_Wa_findWords_67 : decode y_Wa_findWords.2.1 67 = .ok (.aload_n 0, 1) := by decide +kernel
theorem d_Wa_findWords_68 : decode y_Wa_findWords.2.1 68 = .ok (.iconst 0, 1) := by decide +kernel
theorem d_Wa_findWords_69 : decode y_Wa_findWords.2.1 69 = .ok (.iconst 1, 1) := by decide +kernel
theorem d_Wa_findWords_70 : decode y_Wa_findWords.2.1 70 = .ok (.iload_n 2, 1) := by decide +kernel
theorem d_Wa_findWords_71 : decode y_Wa_findWords.2.1 71 = .ok (.iload 4, 2) := by decide +kernel
theorem d_Wa_findWords_73 : decode y_Wa_findWords.2.1 73 = .ok (.isub, 1) := by decide +kernel
theorem d_Wa_findWords_74 : decode y_Wa_findWords.2.1 74 = .ok (.invokevirtual 37, 3) := by decide +kernel
theorem d_Wa_findWords_77 : decode y_Wa_findWords.2.1 77 = .ok (.ior, 1) := by decide +kernel
theorem d_Wa_findWords_78 : decode y_Wa_findWords.2.1 78 = .ok (.istore 5, 2) := by decide +kernel
theorem d_Wa_findWords_80 : decode y_Wa_findWords.2.1 80 = .ok (.aload_n 0, 1) := by decide +kernel
theorem d_Wa_findWords_81 : decode y_Wa_findWords.2.1 81 = .ok (.getfield 16, 3) := by decide +kernel
theorem d_Wa_findWords_84 : decode y_Wa_findWords.2.1 84 = .ok (.iconst 2, 1) := by decide +kernel
theorem d_Wa_findWords_85 : decode y_Wa_findWords.2.1 85 = .ok (.invokevirtual 28, 3) := by decide +kernel
theorem d_Wa_findWords_88 : decode y_Wa_findWords.2.1 88 = .ok (.istore 6, 2) := by decide +kernel
theorem d_Wa_findWords_90 : decode y_Wa_findWords.2.1 90 = .ok (.iload 6, 2) := by decide +kernel
theorem d_Wa_findWords_92 : decode y_Wa_findWords.2.1 92 = .ok (.aload_n 0, 1) := by decide +kernel
theorem d_Wa_findWords_93 : decode y_Wa_findWords.2.1 93 = .ok (.getfield 16, 3) := by decide +kernel
theorem d_Wa_findWords_96 : decode y_Wa_findWords.2.1 96 = .ok (.iconst 2, 1) := by decide +kernel
theorem d_Wa_findWords_97 : decode y_Wa_findWords.2.1 97 = .ok (.invokevirtual 34, 3) := by decide +kernel
theorem d_Wa_findWords_100 : decode y_Wa_findWords.2.1 100 = .ok (.if_icmp .gt 56, 3) := by decide +kernel
theorem d_Wa_findWords_103 : decode y_Wa_findWords.2.1 103 = .ok (.aload_n 0, 1) := by decide +kernel
theorem d_Wa_findWords_104 : decode y_Wa_findWords.2.1 104 = .ok (.iconst 2, 1) := by decide +kernel
theorem d_Wa_findWords_105 : decode y_Wa_findWords.2.1 105 = .ok (.iconst 3, 1) := by decide +kernel
theorem d_Wa_findWords_106 : decode y_Wa_findWords.2.1 106 = .ok (.iload 6, 2) := by decide +kernel
theorem d_Wa_findWords_108 : decode y_Wa_findWords.2.1 108 = .ok (.invokevirtual 37, 3) := by decide +kernel
theorem d_Wa_findWords_111 : decode y_Wa_findWords.2.1 111 = .ok (.aload_n 0, 1) := by decide +kernel
theorem d_Wa_findWords_112 : decode y_Wa_findWords.2.1 112 = .ok (.iconst 0, 1) := by decide +kernel
theorem d_Wa_findWords_113 : decode y_Wa_findWords.2.1 113 = .ok (.iconst 2, 1) := by decide +kernel
theorem d_Wa_findWords_114 : decode y_Wa_findWords.2.1 114 = .ok (.iload_n 2, 1) := by decide +kernel
theorem d_Wa_findWords_115 : decode y_Wa_findWords.2.1 115 = .ok (.iload 6, 2) := by decide +kernel
theorem d_Wa_findWords_117 : decode y_Wa_findWords.2.1 117 = .ok (.isub, 1) := by decide +kernel
theorem d_Wa_findWords_118 : decode y_Wa_findWords.2.1 118 = .ok (.invokevirtual 37, 3) := by decide +kernel
theorem d_Wa_findWords_121 : decode y_Wa_findWords.2.1 121 = .ok (.ior, 1) := by decide +kernel
theorem d_Wa_findWords_122 : decode y_Wa_findWords.2.1 122 = .ok (.aload_n 0, 1) := by decide +kernel
theorem d_Wa_findWords_123 : decode y_Wa_findWords.2.1 123 = .ok (.iconst 1, 1) := by decide +kernel
theorem d_Wa_findWords_124 : decode y_Wa_findWords.2.1 124 = .ok (.iconst 2, 1) := by decide +kernel
theorem d_Wa_findWords_125 : decode y_Wa_findWords.2.1 125 = .ok (.iload 4, 2) := by decide +kernel
theorem d_Wa_findWords_127 : decode y_Wa_findWords.2.1 127 = .ok (.iload 6, 2) := by decide +kernel
theorem d_Wa_findWords_129 : decode y_Wa_findWords.2.1 129 = .ok (.isub, 1) := by decide +kernel
theorem d_Wa_findWords_130 : decode y_Wa_findWords.2.1 130 = .ok (.invokevirtual 37, 3) := by decide +kernel
theorem d_Wa_findWords_133 : decode y_Wa_findWords.2.1 133 = .ok (.ior, 1) := by decide +kernel
theorem d_Wa_findWords_134 : decode y_Wa_findWords.2.1 134 = .ok (.istore 7, 2) := by decide +kernel
theorem d_Wa_findWords_136 : decode y_Wa_findWords.2.1 136 = .ok (.aload_n 1, 1) := by decide +kernel
theorem d_Wa_findWords_137 : decode y_Wa_findWords.2.1 137 = .ok (.iload 5, 2) := by decide +kernel
theorem d_Wa_findWords_139 : decode y_Wa_findWords.2.1 139 = .ok (.iload 7, 2) := by decide +kernel
theorem d_Wa_findWords_141 : decode y_Wa_findWords.2.1 141 = .ok (.ior, 1) := by decide +kernel
theorem d_Wa_findWords_142 : decode y_Wa_findWords.2.1 142 = .ok (.iload_n 2, 1) := by decide +kernel
theorem d_Wa_findWords_143 : decode y_Wa_findWords.2.1 143 = .ok (.iload 4, 2) := by decide +kernel
theorem d_Wa_findWords_145 : decode y_Wa_findWords.2.1 145 = .ok (.iload 6, 2) := by decide +kernel
theorem d_Wa_findWords_147 : decode y_Wa_findWords.2.1 147 = .ok (.invokevirtual 41, 3) := by decide +kernel
theorem d_Wa_findWords_150 : decode y_Wa_findWords.2.1 150 = .ok (.iinc 6 1, 3) := by decide +kernel
theorem d_Wa_findWords_153 : decode y_Wa_findWords.2.1 153 = .ok (.goto (-63), 3) := by decide +kernel
theorem d_Wa_findWords_156 : decode y_Wa_findWords.2.1 156 = .ok (.iinc 4 1, 3) := by decide +kernel
theorem d_Wa_findWords_159 : decode y_Wa_findWords.2.1 159 = .ok (.goto (-115), 3) := by decide +kernel
theorem d_Wa_findWords_162 : decode y_Wa_findWords.2.1 162 = .ok (.iinc 2 1, 3) := by decide +kernel
theorem d_Wa_findWords_165 : decode y_Wa_findWords.2.1 165 = .ok (.goto (-151), 3) := by decide +kernel
theorem d_Wa_findWords_168 : decode y_Wa_findWords.2.1 168 = .ok (.return_, 1) := by decide +kernel
def y_Wa_fillBits : MethodName × ByteArray × Nat × Option FieldType × List (Nat × Nat × Nat × Nat) := (⟨"MaskedCauses$Walk", "fillBits", "(LMaskedCauses$Decision;)V"⟩, prog_11_method_3_code, 4, (Option.none : Option Jvm.ClassFile.FieldType), [])
theorem d_Wa_fillBits_0 : decode y_Wa_fillBits.2.1 0 = .ok (.iconst 0, 1) := by decide +kernel
theorem d_Wa_fillBits_1 : decode y_Wa_fillBits.2.1 1 = .ok (.istore_n 2, 1) := by decide +kernel
theorem d_Wa_fillBits_2 : decode y_Wa_fillBits.2.1 2 = .ok (.iload_n 2, 1) := by decide +kernel
theorem d_Wa_fillBits_3 : decode y_Wa_fillBits.2.1 3 = .ok (.aload_n 0, 1) := by decide +kernel
theorem d_Wa_fillBits_4 : decode y_Wa_fillBits.2.1 4 = .ok (.getfield 13, 3) := by decide +kernel
theorem d_Wa_fillBits_7 : decode y_Wa_fillBits.2.1 7 = .ok (.arraylength, 1) := by decide +kernel
theorem d_Wa_fillBits_8 : decode y_Wa_fillBits.2.1 8 = .ok (.if_icmp .ge 37, 3) := by decide +kernel
theorem d_Wa_fillBits_11 : decode y_Wa_fillBits.2.1 11 = .ok (.iconst 0, 1) := by decide +kernel
theorem d_Wa_fillBits_12 : decode y_Wa_fillBits.2.1 12 = .ok (.istore_n 3, 1) := by decide +kernel
theorem d_Wa_fillBits_13 : decode y_Wa_fillBits.2.1 13 = .ok (.iload_n 3, 1) := by decide +kernel
theorem d_Wa_fillBits_14 : decode y_Wa_fillBits.2.1 14 = .ok (.aload_n 0, 1) := by decide +kernel
theorem d_Wa_fillBits_15 : decode y_Wa_fillBits.2.1 15 = .ok (.getfield 13, 3) := by decide +kernel
theorem d_Wa_fillBits_18 : decode y_Wa_fillBits.2.1 18 = .ok (.iload_n 2, 1) := by decide +kernel
theorem d_Wa_fillBits_19 : decode y_Wa_fillBits.2.1 19 = .ok (.aaload, 1) := by decide +kernel
theorem d_Wa_fillBits_20 : decode y_Wa_fillBits.2.1 20 = .ok (.arraylength, 1) := by decide +kernel
theorem d_Wa_fillBits_21 : decode y_Wa_fillBits.2.1 21 = .ok (.if_icmp .ge 18, 3) := by decide +kernel
theorem d_Wa_fillBits_24 : decode y_Wa_fillBits.2.1 24 = .ok (.aload_n 0, 1) := by decide +kernel
theorem d_Wa_fillBits_25 : decode y_Wa_fillBits.2.1 25 = .ok (.getfield 13, 3) := by decide +kernel
theorem d_Wa_fillBits_28 : decode y_Wa_fillBits.2.1 28 = .ok (.iload_n 2, 1) := by decide +kernel
theorem d_Wa_fillBits_29 : decode y_Wa_fillBits.2.1 29 = .ok (.aaload, 1) := by decide +kernel
theorem d_Wa_fillBits_30 : decode y_Wa_fillBits.2.1 30 = .ok (.iload_n 3, 1) := by decide +kernel
theorem d_Wa_fillBits_31 : decode y_Wa_fillBits.2.1 31 = .ok (.iconst 0, 1) := by decide +kernel
theorem d_Wa_fillBits_32 : decode y_Wa_fillBits.2.1 32 = .ok (.iastore, 1) := by decide +kernel
theorem d_Wa_fillBits_33 : decode y_Wa_fillBits.2.1 33 = .ok (.iinc 3 1, 3) := by decide +kernel
theorem d_Wa_fillBits_36 : decode y_Wa_fillBits.2.1 36 = .ok (.goto (-23), 3) := by decide +kernel
theorem d_Wa_fillBits_39 : decode y_Wa_fillBits.2.1 39 = .ok (.iinc 2 1, 3) := by decide +kernel
theorem d_Wa_fillBits_42 : decode y_Wa_fillBits.2.1 42 = .ok (.goto (-40), 3) := by decide +kernel
theorem d_Wa_fillBits_45 : decode y_Wa_fillBits.2.1 45 = .ok (.iconst 0, 1) := by decide +kernel
theorem d_Wa_fillBits_46 : decode y_Wa_fillBits.2.1 46 = .ok (.istore_n 2, 1) := by decide +kernel
theorem d_Wa_fillBits_47 : decode y_Wa_fillBits.2.1 47 = .ok (.iload_n 2, 1) := by decide +kernel
theorem d_Wa_fillBits_48 : decode y_Wa_fillBits.2.1 48 = .ok (.aload_n 1, 1) := by decide +kernel
theorem d_Wa_fillBits_49 : decode y_Wa_fillBits.2.1 49 = .ok (.invokevirtual 47, 3) := by decide +kernel
theorem d_Wa_fillBits_52 : decode y_Wa_fillBits.2.1 52 = .ok (.if_icmp .ge 21, 3) := by decide +kernel
theorem d_Wa_fillBits_55 : decode y_Wa_fillBits.2.1 55 = .ok (.aload_n 0, 1) := by decide +kernel
theorem d_Wa_fillBits_56 : decode y_Wa_fillBits.2.1 56 = .ok (.aload_n 1, 1) := by decide +kernel
theorem d_Wa_fillBits_57 : decode y_Wa_fillBits.2.1 57 = .ok (.iload_n 2, 1) := by decide +kernel
theorem d_Wa_fillBits_58 : decode y_Wa_fillBits.2.1 58 = .ok (.invokevirtual 51, 3) := by decide +kernel
theorem d_Wa_fillBits_61 : decode y_Wa_fillBits.2.1 61 = .ok (.iconst 1, 1) := by decide +kernel
theorem d_Wa_fillBits_62 : decode y_Wa_fillBits.2.1 62 = .ok (.iload_n 2, 1) := by decide +kernel
theorem d_Wa_fillBits_63 : decode y_Wa_fillBits.2.1 63 = .ok (.ishl, 1) := by decide +kernel
theorem d_Wa_fillBits_64 : decode y_Wa_fillBits.2.1 64 = .ok (.invokevirtual 54, 3) := by decide +kernel
theorem d_Wa_fillBits_67 : decode y_Wa_fillBits.2.1 67 = .ok (.iinc 2 1, 3) := by decide +kernel
theorem d_Wa_fillBits_70 : decode y_Wa_fillBits.2.1 70 = .ok (.goto (-23), 3) := by decide +kernel
theorem d_Wa_fillBits_73 : decode y_Wa_fillBits.2.1 73 = .ok (.return_, 1) := by decide +kernel
def y_Wa_enter : MethodName × ByteArray × Nat × Option FieldType × List (Nat × Nat × Nat × Nat) := (⟨"MaskedCauses$Walk", "enter", "(II)V"⟩, prog_11_method_4_code, 8, (Option.none : Option Jvm.ClassFile.FieldType), [])
theorem d_Wa_enter_0 : decode y_Wa_enter.2.1 0 = .ok (.aload_n 0, 1) := by decide +kernel
theorem d_Wa_enter_1 : decode y_Wa_enter.2.1 1 = .ok (.getfield 20, 3) := by decide +kernel
theorem d_Wa_enter_4 : decode y_Wa_enter.2.1 4 = .ok (.iload_n 1, 1) := by decide +kernel
theorem d_Wa_enter_5 : decode y_Wa_enter.2.1 5 = .ok (.invokevirtual 58, 3) := by decide +kernel
theorem d_Wa_enter_8 : decode y_Wa_enter.2.1 8 = .ok (.istore_n 3, 1) := by decide +kernel
theorem d_Wa_enter_9 : decode y_Wa_enter.2.1 9 = .ok (.aload_n 0, 1) := by decide +kernel
theorem d_Wa_enter_10 : decode y_Wa_enter.2.1 10 = .ok (.getfield 20, 3) := by decide +kernel
theorem d_Wa_enter_13 : decode y_Wa_enter.2.1 13 = .ok (.iload_n 1, 1) := by decide +kernel
theorem d_Wa_enter_14 : decode y_Wa_enter.2.1 14 = .ok (.invokevirtual 63, 3) := by decide +kernel
theorem d_Wa_enter_17 : decode y_Wa_enter.2.1 17 = .ok (.iconst (-1), 1) := by decide +kernel
theorem d_Wa_enter_18 : decode y_Wa_enter.2.1 18 = .ok (.if_icmp .ne 7, 3) := by decide +kernel
theorem d_Wa_enter_21 : decode y_Wa_enter.2.1 21 = .ok (.iconst 3, 1) := by decide +kernel
theorem d_Wa_enter_22 : decode y_Wa_enter.2.1 22 = .ok (.goto 11, 3) := by decide +kernel
theorem d_Wa_enter_25 : decode y_Wa_enter.2.1 25 = .ok (.aload_n 0, 1) := by decide +kernel
theorem d_Wa_enter_26 : decode y_Wa_enter.2.1 26 = .ok (.getfield 20, 3) := by decide +kernel
theorem d_Wa_enter_29 : decode y_Wa_enter.2.1 29 = .ok (.iload_n 1, 1) := by decide +kernel
theorem d_Wa_enter_30 : decode y_Wa_enter.2.1 30 = .ok (.invokevirtual 63, 3) := by decide +kernel
theorem d_Wa_enter_33 : decode y_Wa_enter.2.1 33 = .ok (.istore 4, 2) := by decide +kernel
theorem d_Wa_enter_35 : decode y_Wa_enter.2.1 35 = .ok (.iload 4, 2) := by decide +kernel
theorem d_Wa_enter_37 : decode y_Wa_enter.2.1 37 = .ok (.iload_n 3, 1) := by decide +kernel
theorem d_Wa_enter_38 : decode y_Wa_enter.2.1 38 = .ok (.if_icmp .ge 7, 3) := by decide +kernel
theorem d_Wa_enter_41 : decode y_Wa_enter.2.1 41 = .ok (.iconst 1, 1) := by decide +kernel
theorem d_Wa_enter_42 : decode y_Wa_enter.2.1 42 = .ok (.goto 4, 3) := by decide +kernel
theorem d_Wa_enter_45 : decode y_Wa_enter.2.1 45 = .ok (.iconst 0, 1) := by decide +kernel
theorem d_Wa_enter_46 : decode y_Wa_enter.2.1 46 = .ok (.istore 5, 2) := by decide +kernel
theorem d_Wa_enter_48 : decode y_Wa_enter.2.1 48 = .ok (.iload 5, 2) := by decide +kernel
theorem d_Wa_enter_50 : decode y_Wa_enter.2.1 50 = .ok (.ifCond .eq 12, 3) := by decide +kernel
theorem d_Wa_enter_53 : decode y_Wa_enter.2.1 53 = .ok (.iload 4, 2) := by decide +kernel
theorem d_Wa_enter_55 : decode y_Wa_enter.2.1 55 = .ok (.iload_n 3, 1) := by decide +kernel
theorem d_Wa_enter_56 : decode y_Wa_enter.2.1 56 = .ok (.invokestatic 66, 3) := by decide +kernel
theorem d_Wa_enter_59 : decode y_Wa_enter.2.1 59 = .ok (.goto 9, 3) := by decide +kernel
theorem d_Wa_enter_62 : decode y_Wa_enter.2.1 62 = .ok (.iload_n 3, 1) := by decide +kernel
theorem d_Wa_enter_63 : decode y_Wa_enter.2.1 63 = .ok (.iload 4, 2) := by decide +kernel
theorem d_Wa_enter_65 : decode y_Wa_enter.2.1 65 = .ok (.invokestatic 66, 3) := by decide +kernel
theorem d_Wa_enter_68 : decode y_Wa_enter.2.1 68 = .ok (.istore 6, 2) := by decide +kernel
theorem d_Wa_enter_70 : decode y_Wa_enter.2.1 70 = .ok (.bipush (-40), 2) := by decide +kernel
theorem d_Wa_enter_72 : decode y_Wa_enter.2.1 72 = .ok (.istore 7, 2) := by decide +kernel
theorem d_Wa_enter_74 : decode y_Wa_enter.2.1 74 = .ok (.iload 7, 2) := by decide +kernel
theorem d_Wa_enter_76 : decode y_Wa_enter.2.1 76 = .ok (.bipush 40, 2) := by decide +kernel
theorem d_Wa_enter_78 : decode y_Wa_enter.2.1 78 = .ok (.if_icmp .gt 50, 3) := by decide +kernel
theorem d_Wa_enter_81 : decode y_Wa_enter.2.1 81 = .ok (.aload_n 0, 1) := by decide +kernel
theorem d_Wa_enter_82 : decode y_Wa_enter.2.1 82 = .ok (.getfield 20, 3) := by decide +kernel
theorem d_Wa_enter_85 : decode y_Wa_enter.2.1 85 = .ok (.iload_n 1, 1) := by decide +kernel
theorem d_Wa_enter_86 : decode y_Wa_enter.2.1 86 = .ok (.iload 7, 2) := by decide +kernel
theorem d_Wa_enter_88 : decode y_Wa_enter.2.1 88 = .ok (.invokevirtual 70, 3) := by decide +kernel
theorem d_Wa_enter_91 : decode y_Wa_enter.2.1 91 = .ok (.ifCond .eq 31, 3) := by decide +kernel
theorem d_Wa_enter_94 : decode y_Wa_enter.2.1 94 = .ok (.aload_n 0, 1) := by decide +kernel
theorem d_Wa_enter_95 : decode y_Wa_enter.2.1 95 = .ok (.getfield 13, 3) := by decide +kernel
theorem d_Wa_enter_98 : decode y_Wa_enter.2.1 98 = .ok (.iload 6, 2) := by decide +kernel
theorem d_Wa_enter_100 : decode y_Wa_enter.2.1 100 = .ok (.aaload, 1) := by decide +kernel
theorem d_Wa_enter_101 : decode y_Wa_enter.2.1 101 = .ok (.bipush 40, 2) := by decide +kernel
theorem d_Wa_enter_103 : decode y_Wa_enter.2.1 103 = .ok (.iload 5, 2) := by decide +kernel
theorem d_Wa_enter_105 : decode y_Wa_enter.2.1 105 = .ok (.ifCond .eq 9, 3) := by decide +kernel
theorem d_Wa_enter_108 : decode y_Wa_enter.2.1 108 = .ok (.iload 7, 2) := by decide +kernel
theorem d_Wa_enter_110 : decode y_Wa_enter.2.1 110 = .ok (.ineg, 1) := by decide +kernel
theorem d_Wa_enter_111 : decode y_Wa_enter.2.1 111 = .ok (.goto 5, 3) := by decide +kernel
theorem d_Wa_enter_114 : decode y_Wa_enter.2.1 114 = .ok (.iload 7, 2) := by decide +kernel
theorem d_Wa_enter_116 : decode y_Wa_enter.2.1 116 = .ok (.iadd, 1) := by decide +kernel
theorem d_Wa_enter_117 : decode y_Wa_enter.2.1 117 = .ok (.dup2, 1) := by decide +kernel
theorem d_Wa_enter_118 : decode y_Wa_enter.2.1 118 = .ok (.iaload, 1) := by decide +kernel
theorem d_Wa_enter_119 : decode y_Wa_enter.2.1 119 = .ok (.iload_n 2, 1) := by decide +kernel
theorem d_Wa_enter_120 : decode y_Wa_enter.2.1 120 = .ok (.ior, 1) := by decide +kernel
theorem d_Wa_enter_121 : decode y_Wa_enter.2.1 121 = .ok (.iastore, 1) := by decide +kernel
theorem d_Wa_enter_122 : decode y_Wa_enter.2.1 122 = .ok (.iinc 7 1, 3) := by decide +kernel
theorem d_Wa_enter_125 : decode y_Wa_enter.2.1 125 = .ok (.goto (-51), 3) := by decide +kernel
theorem d_Wa_enter_128 : decode y_Wa_enter.2.1 128 = .ok (.return_, 1) := by decide +kernel
def y_Wa_bitsFor : MethodName × ByteArray × Nat × Option FieldType × List (Nat × Nat × Nat × Nat) := (⟨"MaskedCauses$Walk", "bitsFor", "(III)I"⟩, prog_11_method_5_code, 4, (Option.some Jvm.ClassFile.FieldType.int), [])
theorem d_Wa_bitsFor_0 : decode y_Wa_bitsFor.2.1 0 = .ok (.aload_n 0, 1) := by decide +kernel
theorem d_Wa_bitsFor_1 : decode y_Wa_bitsFor.2.1 1 = .ok (.getfield 13, 3) := by decide +kernel
theorem d_Wa_bitsFor_4 : decode y_Wa_bitsFor.2.1 4 = .ok (.iload_n 1, 1) := by decide +kernel
theorem d_Wa_bitsFor_5 : decode y_Wa_bitsFor.2.1 5 = .ok (.iload_n 2, 1) := by decide +kernel
theorem d_Wa_bitsFor_6 : decode y_Wa_bitsFor.2.1 6 = .ok (.invokestatic 66, 3) := by decide +kernel
theorem d_Wa_bitsFor_9 : decode y_Wa_bitsFor.2.1 9 = .ok (.aaload, 1) := by decide +kernel
theorem d_Wa_bitsFor_10 : decode y_Wa_bitsFor.2.1 10 = .ok (.bipush 40, 2) := by decide +kernel
theorem d_Wa_bitsFor_12 : decode y_Wa_bitsFor.2.1 12 = .ok (.iload_n 3, 1) := by decide +kernel
theorem d_Wa_bitsFor_13 : decode y_Wa_bitsFor.2.1 13 = .ok (.iadd, 1) := by decide +kernel
theorem d_Wa_bitsFor_14 : decode y_Wa_bitsFor.2.1 14 = .ok (.iaload, 1) := by decide +kernel
theorem d_Wa_bitsFor_15 : decode y_Wa_bitsFor.2.1 15 = .ok (.ireturn, 1) := by decide +kernel
def y_Wa_rowOf : MethodName × ByteArray × Nat × Option FieldType × List (Nat × Nat × Nat × Nat) := (⟨"MaskedCauses$Walk", "rowOf", "(II)I"⟩, prog_11_method_6_code, 2, (Option.some Jvm.ClassFile.FieldType.int), [])
theorem d_Wa_rowOf_0 : decode y_Wa_rowOf.2.1 0 = .ok (.iload_n 1, 1) := by decide +kernel
theorem d_Wa_rowOf_1 : decode y_Wa_rowOf.2.1 1 = .ok (.iload_n 1, 1) := by decide +kernel
theorem d_Wa_rowOf_2 : decode y_Wa_rowOf.2.1 2 = .ok (.iconst 1, 1) := by decide +kernel
theorem d_Wa_rowOf_3 : decode y_Wa_rowOf.2.1 3 = .ok (.isub, 1) := by decide +kernel
theorem d_Wa_rowOf_4 : decode y_Wa_rowOf.2.1 4 = .ok (.imul, 1) := by decide +kernel
theorem d_Wa_rowOf_5 : decode y_Wa_rowOf.2.1 5 = .ok (.iconst 2, 1) := by decide +kernel
theorem d_Wa_rowOf_6 : decode y_Wa_rowOf.2.1 6 = .ok (.idiv, 1) := by decide +kernel
theorem d_Wa_rowOf_7 : decode y_Wa_rowOf.2.1 7 = .ok (.iload_n 0, 1) := by decide +kernel
theorem d_Wa_rowOf_8 : decode y_Wa_rowOf.2.1 8 = .ok (.iadd, 1) := by decide +kernel
theorem d_Wa_rowOf_9 : decode y_Wa_rowOf.2.1 9 = .ok (.ireturn, 1) := by decide +kernel
def y_Su_init : MethodName × ByteArray × Nat × Option FieldType × List (Nat × Nat × Nat × Nat) := (⟨"MaskedCauses$Suite", "<init>", "()V"⟩, prog_9_method_1_code, 1, (Option.none : Option Jvm.ClassFile.FieldType), [])
theorem d_Su_init_0 : decode y_Su_init.2.1 0 = .ok (.aload_n 0, 1) := by decide +kernel
theorem d_Su_init_1 : decode y_Su_init.2.1 1 = .ok (.invokespecial 3, 3) := by decide +kernel
theorem d_Su_init_4 : decode y_Su_init.2.1 4 = .ok (.aload_n 0, 1) := by decide +kernel
theorem d_Su_init_5 : decode y_Su_init.2.1 5 = .ok (.bipush 12, 2) := by decide +kernel
theorem d_Su_init_7 : decode y_Su_init.2.1 7 = .ok (.newarray .int, 2) := by decide +kernel
theorem d_Su_init_9 : decode y_Su_init.2.1 9 = .ok (.putfield 9, 3) := by decide +kernel
theorem d_Su_init_12 : decode y_Su_init.2.1 12 = .ok (.aload_n 0, 1) := by decide +kernel
theorem d_Su_init_13 : decode y_Su_init.2.1 13 = .ok (.iconst 0, 1) := by decide +kernel
theorem d_Su_init_14 : decode y_Su_init.2.1 14 = .ok (.putfield 15, 3) := by decide +kernel
theorem d_Su_init_17 : decode y_Su_init.2.1 17 = .ok (.aload_n 0, 1) := by decide +kernel
theorem d_Su_init_18 : decode y_Su_init.2.1 18 = .ok (.lconst 0, 1) := by decide +kernel
theorem d_Su_init_19 : decode y_Su_init.2.1 19 = .ok (.putfield 19, 3) := by decide +kernel
theorem d_Su_init_22 : decode y_Su_init.2.1 22 = .ok (.return_, 1) := by decide +kernel
def y_Su_fill : MethodName × ByteArray × Nat × Option FieldType × List (Nat × Nat × Nat × Nat) := (⟨"MaskedCauses$Suite", "fill", "(LMaskedCauses$Decision;I)I"⟩, prog_9_method_2_code, 5, (Option.some Jvm.ClassFile.FieldType.int), [])
theorem d_Su_fill_0 : decode y_Su_fill.2.1 0 = .ok (.aload_n 0, 1) := by decide +kernel
theorem d_Su_fill_1 : decode y_Su_fill.2.1 1 = .ok (.iconst 0, 1) := by decide +kernel
theorem d_Su_fill_2 : decode y_Su_fill.2.1 2 = .ok (.putfield 15, 3) := by decide +kernel
theorem d_Su_fill_5 : decode y_Su_fill.2.1 5 = .ok (.aload_n 0, 1) := by decide +kernel
theorem d_Su_fill_6 : decode y_Su_fill.2.1 6 = .ok (.lconst 0, 1) := by decide +kernel
theorem d_Su_fill_7 : decode y_Su_fill.2.1 7 = .ok (.putfield 19, 3) := by decide +kernel
theorem d_Su_fill_10 : decode y_Su_fill.2.1 10 = .ok (.iconst 0, 1) := by decide +kernel
theorem d_Su_fill_11 : decode y_Su_fill.2.1 11 = .ok (.istore_n 3, 1) := by decide +kernel
theorem d_Su_fill_12 : decode y_Su_fill.2.1 12 = .ok (.iload_n 3, 1) := by decide +kernel
theorem d_Su_fill_13 : decode y_Su_fill.2.1 13 = .ok (.aload_n 1, 1) := by decide +kernel
theorem d_Su_fill_14 : decode y_Su_fill.2.1 14 = .ok (.invokevirtual 23, 3) := by decide +kernel
theorem d_Su_fill_17 : decode y_Su_fill.2.1 17 = .ok (.if_icmp .ge 54, 3) := by decide +kernel
theorem d_Su_fill_20 : decode y_Su_fill.2.1 20 = .ok (.aload_n 1, 1) := by decide +kernel
theorem d_Su_fill_21 : decode y_Su_fill.2.1 21 = .ok (.iload_n 3, 1) := by decide +kernel
theorem d_Su_fill_22 : decode y_Su_fill.2.1 22 = .ok (.iload_n 2, 1) := by decide +kernel
theorem d_Su_fill_23 : decode y_Su_fill.2.1 23 = .ok (.invokevirtual 29, 3) := by decide +kernel
theorem d_Su_fill_26 : decode y_Su_fill.2.1 26 = .ok (.istore 4, 2) := by decide +kernel
theorem d_Su_fill_28 : decode y_Su_fill.2.1 28 = .ok (.iload 4, 2) := by decide +kernel
theorem d_Su_fill_30 : decode y_Su_fill.2.1 30 = .ok (.iconst (-1), 1) := by decide +kernel
theorem d_Su_fill_31 : decode y_Su_fill.2.1 31 = .ok (.if_icmp .eq 34, 3) := by decide +kernel
theorem d_Su_fill_34 : decode y_Su_fill.2.1 34 = .ok (.aload_n 1, 1) := by decide +kernel
theorem d_Su_fill_35 : decode y_Su_fill.2.1 35 = .ok (.aload_n 0, 1) := by decide +kernel
theorem d_Su_fill_36 : decode y_Su_fill.2.1 36 = .ok (.getfield 19, 3) := by decide +kernel
theorem d_Su_fill_39 : decode y_Su_fill.2.1 39 = .ok (.iload_n 3, 1) := by decide +kernel
theorem d_Su_fill_40 : decode y_Su_fill.2.1 40 = .ok (.iload_n 2, 1) := by decide +kernel
theorem d_Su_fill_41 : decode y_Su_fill.2.1 41 = .ok (.invokevirtual 33, 3) := by decide +kernel
theorem d_Su_fill_44 : decode y_Su_fill.2.1 44 = .ok (.ifCond .ne 21, 3) := by decide +kernel
theorem d_Su_fill_47 : decode y_Su_fill.2.1 47 = .ok (.aload_n 0, 1) := by decide +kernel
theorem d_Su_fill_48 : decode y_Su_fill.2.1 48 = .ok (.iload 4, 2) := by decide +kernel
theorem d_Su_fill_50 : decode y_Su_fill.2.1 50 = .ok (.bipush 100, 2) := by decide +kernel
theorem d_Su_fill_52 : decode y_Su_fill.2.1 52 = .ok (.idiv, 1) := by decide +kernel
theorem d_Su_fill_53 : decode y_Su_fill.2.1 53 = .ok (.invokevirtual 37, 3) := by decide +kernel
theorem d_Su_fill_56 : decode y_Su_fill.2.1 56 = .ok (.aload_n 0, 1) := by decide +kernel
theorem d_Su_fill_57 : decode y_Su_fill.2.1 57 = .ok (.iload 4, 2) := by decide +kernel
theorem d_Su_fill_59 : decode y_Su_fill.2.1 59 = .ok (.bipush 100, 2) := by decide +kernel
theorem d_Su_fill_61 : decode y_Su_fill.2.1 61 = .ok (.irem, 1) := by decide +kernel
theorem d_Su_fill_62 : decode y_Su_fill.2.1 62 = .ok (.invokevirtual 37, 3) := by decide +kernel
theorem d_Su_fill_65 : decode y_Su_fill.2.1 65 = .ok (.iinc 3 1, 3) := by decide +kernel
theorem d_Su_fill_68 : decode y_Su_fill.2.1 68 = .ok (.goto (-56), 3) := by decide +kernel
theorem d_Su_fill_71 : decode y_Su_fill.2.1 71 = .ok (.aload_n 0, 1) := by decide +kernel
theorem d_Su_fill_72 : decode y_Su_fill.2.1 72 = .ok (.getfield 15, 3) := by decide +kernel
theorem d_Su_fill_75 : decode y_Su_fill.2.1 75 = .ok (.ireturn, 1) := by decide +kernel
def y_Su_add : MethodName × ByteArray × Nat × Option FieldType × List (Nat × Nat × Nat × Nat) := (⟨"MaskedCauses$Suite", "add", "(I)V"⟩, prog_9_method_3_code, 2, (Option.none : Option Jvm.ClassFile.FieldType), [])
theorem d_Su_add_0 : decode y_Su_add.2.1 0 = .ok (.aload_n 0, 1) := by decide +kernel
theorem d_Su_add_1 : decode y_Su_add.2.1 1 = .ok (.getfield 19, 3) := by decide +kernel
theorem d_Su_add_4 : decode y_Su_add.2.1 4 = .ok (.iload_n 1, 1) := by decide +kernel
theorem d_Su_add_5 : decode y_Su_add.2.1 5 = .ok (.invokestatic 41, 3) := by decide +kernel
theorem d_Su_add_8 : decode y_Su_add.2.1 8 = .ok (.ifCond .ne 47, 3) := by decide +kernel
theorem d_Su_add_11 : decode y_Su_add.2.1 11 = .ok (.aload_n 0, 1) := by decide +kernel
theorem d_Su_add_12 : decode y_Su_add.2.1 12 = .ok (.getfield 15, 3) := by decide +kernel
theorem d_Su_add_15 : decode y_Su_add.2.1 15 = .ok (.aload_n 0, 1) := by decide +kernel
theorem d_Su_add_16 : decode y_Su_add.2.1 16 = .ok (.getfield 9, 3) := by decide +kernel
theorem d_Su_add_19 : decode y_Su_add.2.1 19 = .ok (.arraylength, 1) := by decide +kernel
theorem d_Su_add_20 : decode y_Su_add.2.1 20 = .ok (.if_icmp .ge 35, 3) := by decide +kernel
theorem d_Su_add_23 : decode y_Su_add.2.1 23 = .ok (.aload_n 0, 1) := by decide +kernel
theorem d_Su_add_24 : decode y_Su_add.2.1 24 = .ok (.getfield 9, 3) := by decide +kernel
theorem d_Su_add_27 : decode y_Su_add.2.1 27 = .ok (.aload_n 0, 1) := by decide +kernel
theorem d_Su_add_28 : decode y_Su_add.2.1 28 = .ok (.getfield 15, 3) := by decide +kernel
theorem d_Su_add_31 : decode y_Su_add.2.1 31 = .ok (.iload_n 1, 1) := by decide +kernel
theorem d_Su_add_32 : decode y_Su_add.2.1 32 = .ok (.iastore, 1) := by decide +kernel
theorem d_Su_add_33 : decode y_Su_add.2.1 33 = .ok (.aload_n 0, 1) := by decide +kernel
theorem d_Su_add_34 : decode y_Su_add.2.1 34 = .ok (.dup, 1) := by decide +kernel
theorem d_Su_add_35 : decode y_Su_add.2.1 35 = .ok (.getfield 15, 3) := by decide +kernel
theorem d_Su_add_38 : decode y_Su_add.2.1 38 = .ok (.iconst 1, 1) := by decide +kernel
theorem d_Su_add_39 : decode y_Su_add.2.1 39 = .ok (.iadd, 1) := by decide +kernel
theorem d_Su_add_40 : decode y_Su_add.2.1 40 = .ok (.putfield 15, 3) := by decide +kernel
theorem d_Su_add_43 : decode y_Su_add.2.1 43 = .ok (.aload_n 0, 1) := by decide +kernel
theorem d_Su_add_44 : decode y_Su_add.2.1 44 = .ok (.dup, 1) := by decide +kernel
theorem d_Su_add_45 : decode y_Su_add.2.1 45 = .ok (.getfield 19, 3) := by decide +kernel
theorem d_Su_add_48 : decode y_Su_add.2.1 48 = .ok (.lconst 1, 1) := by decide +kernel
theorem d_Su_add_49 : decode y_Su_add.2.1 49 = .ok (.iload_n 1, 1) := by decide +kernel
theorem d_Su_add_50 : decode y_Su_add.2.1 50 = .ok (.lshl, 1) := by decide +kernel
theorem d_Su_add_51 : decode y_Su_add.2.1 51 = .ok (.lor, 1) := by decide +kernel
theorem d_Su_add_52 : decode y_Su_add.2.1 52 = .ok (.putfield 19, 3) := by decide +kernel
theorem d_Su_add_55 : decode y_Su_add.2.1 55 = .ok (.return_, 1) := by decide +kernel
def y_Su_wordAt : MethodName × ByteArray × Nat × Option FieldType × List (Nat × Nat × Nat × Nat) := (⟨"MaskedCauses$Suite", "wordAt", "(I)I"⟩, prog_9_method_4_code, 2, (Option.some Jvm.ClassFile.FieldType.int), [])
theorem d_Su_wordAt_0 : decode y_Su_wordAt.2.1 0 = .ok (.iload_n 1, 1) := by decide +kernel
theorem d_Su_wordAt_1 : decode y_Su_wordAt.2.1 1 = .ok (.ifCond .lt 20, 3) := by decide +kernel
theorem d_Su_wordAt_4 : decode y_Su_wordAt.2.1 4 = .ok (.iload_n 1, 1) := by decide +kernel
theorem d_Su_wordAt_5 : decode y_Su_wordAt.2.1 5 = .ok (.aload_n 0, 1) := by decide +kernel
theorem d_Su_wordAt_6 : decode y_Su_wordAt.2.1 6 = .ok (.getfield 15, 3) := by decide +kernel
theorem d_Su_wordAt_9 : decode y_Su_wordAt.2.1 9 = .ok (.if_icmp .ge 12, 3) := by decide +kernel
theorem d_Su_wordAt_12 : decode y_Su_wordAt.2.1 12 = .ok (.aload_n 0, 1) := by decide +kernel
theorem d_Su_wordAt_13 : decode y_Su_wordAt.2.1 13 = .ok (.getfield 9, 3) := by decide +kernel
theorem d_Su_wordAt_16 : decode y_Su_wordAt.2.1 16 = .ok (.iload_n 1, 1) := by decide +kernel
theorem d_Su_wordAt_17 : decode y_Su_wordAt.2.1 17 = .ok (.iaload, 1) := by decide +kernel
theorem d_Su_wordAt_18 : decode y_Su_wordAt.2.1 18 = .ok (.goto 4, 3) := by decide +kernel
theorem d_Su_wordAt_21 : decode y_Su_wordAt.2.1 21 = .ok (.iconst (-1), 1) := by decide +kernel
theorem d_Su_wordAt_22 : decode y_Su_wordAt.2.1 22 = .ok (.ireturn, 1) := by decide +kernel
def y_Fe_init : MethodName × ByteArray × Nat × Option FieldType × List (Nat × Nat × Nat × Nat) := (⟨"MaskedCauses$Fewest", "<init>", "()V"⟩, prog_4_method_1_code, 1, (Option.none : Option Jvm.ClassFile.FieldType), [])
theorem d_Fe_init_0 : decode y_Fe_init.2.1 0 = .ok (.aload_n 0, 1) := by decide +kernel
theorem d_Fe_init_1 : decode y_Fe_init.2.1 1 = .ok (.invokespecial 3, 3) := by decide +kernel
theorem d_Fe_init_4 : decode y_Fe_init.2.1 4 = .ok (.aload_n 0, 1) := by decide +kernel
theorem d_Fe_init_5 : decode y_Fe_init.2.1 5 = .ok (.bipush 64, 2) := by decide +kernel
theorem d_Fe_init_7 : decode y_Fe_init.2.1 7 = .ok (.newarray .long, 2) := by decide +kernel
theorem d_Fe_init_9 : decode y_Fe_init.2.1 9 = .ok (.putfield 9, 3) := by decide +kernel
theorem d_Fe_init_12 : decode y_Fe_init.2.1 12 = .ok (.aload_n 0, 1) := by decide +kernel
theorem d_Fe_init_13 : decode y_Fe_init.2.1 13 = .ok (.iconst 0, 1) := by decide +kernel
theorem d_Fe_init_14 : decode y_Fe_init.2.1 14 = .ok (.putfield 15, 3) := by decide +kernel
theorem d_Fe_init_17 : decode y_Fe_init.2.1 17 = .ok (.aload_n 0, 1) := by decide +kernel
theorem d_Fe_init_18 : decode y_Fe_init.2.1 18 = .ok (.iconst 0, 1) := by decide +kernel
theorem d_Fe_init_19 : decode y_Fe_init.2.1 19 = .ok (.putfield 19, 3) := by decide +kernel
theorem d_Fe_init_22 : decode y_Fe_init.2.1 22 = .ok (.aload_n 0, 1) := by decide +kernel
theorem d_Fe_init_23 : decode y_Fe_init.2.1 23 = .ok (.lconst 0, 1) := by decide +kernel
theorem d_Fe_init_24 : decode y_Fe_init.2.1 24 = .ok (.putfield 22, 3) := by decide +kernel
theorem d_Fe_init_27 : decode y_Fe_init.2.1 27 = .ok (.aload_n 0, 1) := by decide +kernel
theorem d_Fe_init_28 : decode y_Fe_init.2.1 28 = .ok (.iconst 0, 1) := by decide +kernel
theorem d_Fe_init_29 : decode y_Fe_init.2.1 29 = .ok (.putfield 26, 3) := by decide +kernel
theorem d_Fe_init_32 : decode y_Fe_init.2.1 32 = .ok (.return_, 1) := by decide +kernel
def y_Fe_count : MethodName × ByteArray × Nat × Option FieldType × List (Nat × Nat × Nat × Nat) := (⟨"MaskedCauses$Fewest", "count", "(LMaskedCauses$Decision;I)I"⟩, prog_4_method_2_code, 4, (Option.some Jvm.ClassFile.FieldType.int), [])
theorem d_Fe_count_0 : decode y_Fe_count.2.1 0 = .ok (.aload_n 0, 1) := by decide +kernel
theorem d_Fe_count_1 : decode y_Fe_count.2.1 1 = .ok (.aload_n 1, 1) := by decide +kernel
theorem d_Fe_count_2 : decode y_Fe_count.2.1 2 = .ok (.invokevirtual 29, 3) := by decide +kernel
theorem d_Fe_count_5 : decode y_Fe_count.2.1 5 = .ok (.iconst 4, 1) := by decide +kernel
theorem d_Fe_count_6 : decode y_Fe_count.2.1 6 = .ok (.invokestatic 35, 3) := by decide +kernel
theorem d_Fe_count_9 : decode y_Fe_count.2.1 9 = .ok (.putfield 15, 3) := by decide +kernel
theorem d_Fe_count_12 : decode y_Fe_count.2.1 12 = .ok (.aload_n 0, 1) := by decide +kernel
theorem d_Fe_count_13 : decode y_Fe_count.2.1 13 = .ok (.iconst 1, 1) := by decide +kernel
theorem d_Fe_count_14 : decode y_Fe_count.2.1 14 = .ok (.aload_n 0, 1) := by decide +kernel
theorem d_Fe_count_15 : decode y_Fe_count.2.1 15 = .ok (.getfield 15, 3) := by decide +kernel
theorem d_Fe_count_18 : decode y_Fe_count.2.1 18 = .ok (.ishl, 1) := by decide +kernel
theorem d_Fe_count_19 : decode y_Fe_count.2.1 19 = .ok (.putfield 19, 3) := by decide +kernel
theorem d_Fe_count_22 : decode y_Fe_count.2.1 22 = .ok (.aload_n 0, 1) := by decide +kernel
theorem d_Fe_count_23 : decode y_Fe_count.2.1 23 = .ok (.aload_n 1, 1) := by decide +kernel
theorem d_Fe_count_24 : decode y_Fe_count.2.1 24 = .ok (.invokevirtual 41, 3) := by decide +kernel
theorem d_Fe_count_27 : decode y_Fe_count.2.1 27 = .ok (.putfield 22, 3) := by decide +kernel
theorem d_Fe_count_30 : decode y_Fe_count.2.1 30 = .ok (.aload_n 0, 1) := by decide +kernel
theorem d_Fe_count_31 : decode y_Fe_count.2.1 31 = .ok (.iconst 0, 1) := by decide +kernel
theorem d_Fe_count_32 : decode y_Fe_count.2.1 32 = .ok (.putfield 26, 3) := by decide +kernel
theorem d_Fe_count_35 : decode y_Fe_count.2.1 35 = .ok (.iconst 0, 1) := by decide +kernel
theorem d_Fe_count_36 : decode y_Fe_count.2.1 36 = .ok (.istore_n 3, 1) := by decide +kernel
theorem d_Fe_count_37 : decode y_Fe_count.2.1 37 = .ok (.iload_n 3, 1) := by decide +kernel
theorem d_Fe_count_38 : decode y_Fe_count.2.1 38 = .ok (.aload_n 0, 1) := by decide +kernel
theorem d_Fe_count_39 : decode y_Fe_count.2.1 39 = .ok (.getfield 15, 3) := by decide +kernel
theorem d_Fe_count_42 : decode y_Fe_count.2.1 42 = .ok (.if_icmp .ge 16, 3) := by decide +kernel
theorem d_Fe_count_45 : decode y_Fe_count.2.1 45 = .ok (.aload_n 0, 1) := by decide +kernel
theorem d_Fe_count_46 : decode y_Fe_count.2.1 46 = .ok (.aload_n 1, 1) := by decide +kernel
theorem d_Fe_count_47 : decode y_Fe_count.2.1 47 = .ok (.iload_n 3, 1) := by decide +kernel
theorem d_Fe_count_48 : decode y_Fe_count.2.1 48 = .ok (.iload_n 2, 1) := by decide +kernel
theorem d_Fe_count_49 : decode y_Fe_count.2.1 49 = .ok (.invokevirtual 44, 3) := by decide +kernel
theorem d_Fe_count_52 : decode y_Fe_count.2.1 52 = .ok (.iinc 3 1, 3) := by decide +kernel
theorem d_Fe_count_55 : decode y_Fe_count.2.1 55 = .ok (.goto (-18), 3) := by decide +kernel
theorem d_Fe_count_58 : decode y_Fe_count.2.1 58 = .ok (.iconst 0, 1) := by decide +kernel
theorem d_Fe_count_59 : decode y_Fe_count.2.1 59 = .ok (.istore_n 3, 1) := by decide +kernel
theorem d_Fe_count_60 : decode y_Fe_count.2.1 60 = .ok (.iload_n 3, 1) := by decide +kernel
theorem d_Fe_count_61 : decode y_Fe_count.2.1 61 = .ok (.aload_n 0, 1) := by decide +kernel
theorem d_Fe_count_62 : decode y_Fe_count.2.1 62 = .ok (.getfield 19, 3) := by decide +kernel
theorem d_Fe_count_65 : decode y_Fe_count.2.1 65 = .ok (.if_icmp .ge 21, 3) := by decide +kernel
theorem d_Fe_count_68 : decode y_Fe_count.2.1 68 = .ok (.aload_n 0, 1) := by decide +kernel
theorem d_Fe_count_69 : decode y_Fe_count.2.1 69 = .ok (.lconst 0, 1) := by decide +kernel
theorem d_Fe_count_70 : decode y_Fe_count.2.1 70 = .ok (.iconst 0, 1) := by decide +kernel
theorem d_Fe_count_71 : decode y_Fe_count.2.1 71 = .ok (.iload_n 3, 1) := by decide +kernel
theorem d_Fe_count_72 : decode y_Fe_count.2.1 72 = .ok (.invokevirtual 48, 3) := by decide +kernel
theorem d_Fe_count_75 : decode y_Fe_count.2.1 75 = .ok (.ifCond .eq 5, 3) := by decide +kernel
theorem d_Fe_count_78 : decode y_Fe_count.2.1 78 = .ok (.iload_n 3, 1) := by decide +kernel
theorem d_Fe_count_79 : decode y_Fe_count.2.1 79 = .ok (.ireturn, 1) := by decide +kernel
theorem d_Fe_count_80 : decode y_Fe_count.2.1 80 = .ok (.iinc 3 1, 3) := by decide +kernel
theorem d_Fe_count_83 : decode y_Fe_count.2.1 83 = .ok (.goto (-23), 3) := by decide +kernel
theorem d_Fe_count_86 : decode y_Fe_count.2.1 86 = .ok (.aload_n 0, 1) := by decide +kernel
theorem d_Fe_count_87 : decode y_Fe_count.2.1 87 = .ok (.getfield 19, 3) := by decide +kernel
theorem d_Fe_count_90 : decode y_Fe_count.2.1 90 = .ok (.ireturn, 1) := by decide +kernel
def y_Fe_findPartners : MethodName × ByteArray × Nat × Option FieldType × List (Nat × Nat × Nat × Nat) := (⟨"MaskedCauses$Fewest", "findPartners", "(LMaskedCauses$Decision;II)V"⟩, prog_4_method_3_code, 7, (Option.none : Option Jvm.ClassFile.FieldType), [])
theorem d_Fe_findPartners_0 : decode y_Fe_findPartners.2.1 0 = .ok (.iconst 0, 1) := by decide +kernel
theorem d_Fe_findPartners_1 : decode y_Fe_findPartners.2.1 1 = .ok (.istore 4, 2) := by decide +kernel
theorem d_Fe_findPartners_3 : decode y_Fe_findPartners.2.1 3 = .ok (.iload 4, 2) := by decide +kernel
theorem d_Fe_findPartners_5 : decode y_Fe_findPartners.2.1 5 = .ok (.aload_n 0, 1) := by decide +kernel
theorem d_Fe_findPartners_6 : decode y_Fe_findPartners.2.1 6 = .ok (.getfield 19, 3) := by decide +kernel
theorem d_Fe_findPartners_9 : decode y_Fe_findPartners.2.1 9 = .ok (.if_icmp .ge 52, 3) := by decide +kernel
theorem d_Fe_findPartners_12 : decode y_Fe_findPartners.2.1 12 = .ok (.aload_n 1, 1) := by decide +kernel
theorem d_Fe_findPartners_13 : decode y_Fe_findPartners.2.1 13 = .ok (.iload 4, 2) := by decide +kernel
theorem d_Fe_findPartners_15 : decode y_Fe_findPartners.2.1 15 = .ok (.iload_n 2, 1) := by decide +kernel
theorem d_Fe_findPartners_16 : decode y_Fe_findPartners.2.1 16 = .ok (.iload_n 3, 1) := by decide +kernel
theorem d_Fe_findPartners_17 : decode y_Fe_findPartners.2.1 17 = .ok (.invokevirtual 52, 3) := by decide +kernel
theorem d_Fe_findPartners_20 : decode y_Fe_findPartners.2.1 20 = .ok (.lstore 5, 2) := by decide +kernel
theorem d_Fe_findPartners_22 : decode y_Fe_findPartners.2.1 22 = .ok (.aload_n 0, 1) := by decide +kernel
theorem d_Fe_findPartners_23 : decode y_Fe_findPartners.2.1 23 = .ok (.getfield 9, 3) := by decide +kernel
theorem d_Fe_findPartners_26 : decode y_Fe_findPartners.2.1 26 = .ok (.iload_n 2, 1) := by decide +kernel
theorem d_Fe_findPartners_27 : decode y_Fe_findPartners.2.1 27 = .ok (.bipush 16, 2) := by decide +kernel
theorem d_Fe_findPartners_29 : decode y_Fe_findPartners.2.1 29 = .ok (.imul, 1) := by decide +kernel
theorem d_Fe_findPartners_30 : decode y_Fe_findPartners.2.1 30 = .ok (.iload 4, 2) := by decide +kernel
theorem d_Fe_findPartners_32 : decode y_Fe_findPartners.2.1 32 = .ok (.iadd, 1) := by decide +kernel
theorem d_Fe_findPartners_33 : decode y_Fe_findPartners.2.1 33 = .ok (.lload 5, 2) := by decide +kernel
theorem d_Fe_findPartners_35 : decode y_Fe_findPartners.2.1 35 = .ok (.lastore, 1) := by decide +kernel
theorem d_Fe_findPartners_36 : decode y_Fe_findPartners.2.1 36 = .ok (.lload 5, 2) := by decide +kernel
theorem d_Fe_findPartners_38 : decode y_Fe_findPartners.2.1 38 = .ok (.lconst 0, 1) := by decide +kernel
theorem d_Fe_findPartners_39 : decode y_Fe_findPartners.2.1 39 = .ok (.lcmp, 1) := by decide +kernel
theorem d_Fe_findPartners_40 : decode y_Fe_findPartners.2.1 40 = .ok (.ifCond .eq 15, 3) := by decide +kernel
theorem d_Fe_findPartners_43 : decode y_Fe_findPartners.2.1 43 = .ok (.aload_n 0, 1) := by decide +kernel
theorem d_Fe_findPartners_44 : decode y_Fe_findPartners.2.1 44 = .ok (.dup, 1) := by decide +kernel
theorem d_Fe_findPartners_45 : decode y_Fe_findPartners.2.1 45 = .ok (.getfield 26, 3) := by decide +kernel
theorem d_Fe_findPartners_48 : decode y_Fe_findPartners.2.1 48 = .ok (.iconst 1, 1) := by decide +kernel
theorem d_Fe_findPartners_49 : decode y_Fe_findPartners.2.1 49 = .ok (.iload_n 2, 1) := by decide +kernel
theorem d_Fe_findPartners_50 : decode y_Fe_findPartners.2.1 50 = .ok (.ishl, 1) := by decide +kernel
theorem d_Fe_findPartners_51 : decode y_Fe_findPartners.2.1 51 = .ok (.ior, 1) := by decide +kernel
theorem d_Fe_findPartners_52 : decode y_Fe_findPartners.2.1 52 = .ok (.putfield 26, 3) := by decide +kernel
theorem d_Fe_findPartners_55 : decode y_Fe_findPartners.2.1 55 = .ok (.iinc 4 1, 3) := by decide +kernel
theorem d_Fe_findPartners_58 : decode y_Fe_findPartners.2.1 58 = .ok (.goto (-55), 3) := by decide +kernel
theorem d_Fe_findPartners_61 : decode y_Fe_findPartners.2.1 61 = .ok (.return_, 1) := by decide +kernel
def y_Fe_isEnough : MethodName × ByteArray × Nat × Option FieldType × List (Nat × Nat × Nat × Nat) := (⟨"MaskedCauses$Fewest", "isEnough", "(JII)Z"⟩, prog_4_method_4_code, 6, (Option.some Jvm.ClassFile.FieldType.boolean), [])
theorem d_Fe_isEnough_0 : decode y_Fe_isEnough.2.1 0 = .ok (.iload 4, 2) := by decide +kernel
theorem d_Fe_isEnough_2 : decode y_Fe_isEnough.2.1 2 = .ok (.ifCond .ne 9, 3) := by decide +kernel
theorem d_Fe_isEnough_5 : decode y_Fe_isEnough.2.1 5 = .ok (.aload_n 0, 1) := by decide +kernel
theorem d_Fe_isEnough_6 : decode y_Fe_isEnough.2.1 6 = .ok (.lload_n 1, 1) := by decide +kernel
theorem d_Fe_isEnough_7 : decode y_Fe_isEnough.2.1 7 = .ok (.invokevirtual 56, 3) := by decide +kernel
theorem d_Fe_isEnough_10 : decode y_Fe_isEnough.2.1 10 = .ok (.ireturn, 1) := by decide +kernel
theorem d_Fe_isEnough_11 : decode y_Fe_isEnough.2.1 11 = .ok (.iload_n 3, 1) := by decide +kernel
theorem d_Fe_isEnough_12 : decode y_Fe_isEnough.2.1 12 = .ok (.istore 5, 2) := by decide +kernel
theorem d_Fe_isEnough_14 : decode y_Fe_isEnough.2.1 14 = .ok (.iload 5, 2) := by decide +kernel
theorem d_Fe_isEnough_16 : decode y_Fe_isEnough.2.1 16 = .ok (.aload_n 0, 1) := by decide +kernel
theorem d_Fe_isEnough_17 : decode y_Fe_isEnough.2.1 17 = .ok (.getfield 19, 3) := by decide +kernel
theorem d_Fe_isEnough_20 : decode y_Fe_isEnough.2.1 20 = .ok (.if_icmp .ge 44, 3) := by decide +kernel
theorem d_Fe_isEnough_23 : decode y_Fe_isEnough.2.1 23 = .ok (.aload_n 0, 1) := by decide +kernel
theorem d_Fe_isEnough_24 : decode y_Fe_isEnough.2.1 24 = .ok (.getfield 22, 3) := by decide +kernel
theorem d_Fe_isEnough_27 : decode y_Fe_isEnough.2.1 27 = .ok (.iload 5, 2) := by decide +kernel
theorem d_Fe_isEnough_29 : decode y_Fe_isEnough.2.1 29 = .ok (.invokestatic 60, 3) := by decide +kernel
theorem d_Fe_isEnough_32 : decode y_Fe_isEnough.2.1 32 = .ok (.ifCond .eq 26, 3) := by decide +kernel
theorem d_Fe_isEnough_35 : decode y_Fe_isEnough.2.1 35 = .ok (.aload_n 0, 1) := by decide +kernel
theorem d_Fe_isEnough_36 : decode y_Fe_isEnough.2.1 36 = .ok (.lload_n 1, 1) := by decide +kernel
theorem d_Fe_isEnough_37 : decode y_Fe_isEnough.2.1 37 = .ok (.lconst 1, 1) := by decide +kernel
theorem d_Fe_isEnough_38 : decode y_Fe_isEnough.2.1 38 = .ok (.iload 5, 2) := by decide +kernel
theorem d_Fe_isEnough_40 : decode y_Fe_isEnough.2.1 40 = .ok (.lshl, 1) := by decide +kernel
theorem d_Fe_isEnough_41 : decode y_Fe_isEnough.2.1 41 = .ok (.lor, 1) := by decide +kernel
theorem d_Fe_isEnough_42 : decode y_Fe_isEnough.2.1 42 = .ok (.iload 5, 2) := by decide +kernel
theorem d_Fe_isEnough_44 : decode y_Fe_isEnough.2.1 44 = .ok (.iconst 1, 1) := by decide +kernel
theorem d_Fe_isEnough_45 : decode y_Fe_isEnough.2.1 45 = .ok (.iadd, 1) := by decide +kernel
theorem d_Fe_isEnough_46 : decode y_Fe_isEnough.2.1 46 = .ok (.iload 4, 2) := by decide +kernel
theorem d_Fe_isEnough_48 : decode y_Fe_isEnough.2.1 48 = .ok (.iconst 1, 1) := by decide +kernel
theorem d_Fe_isEnough_49 : decode y_Fe_isEnough.2.1 49 = .ok (.isub, 1) := by decide +kernel
theorem d_Fe_isEnough_50 : decode y_Fe_isEnough.2.1 50 = .ok (.invokevirtual 48, 3) := by decide +kernel
theorem d_Fe_isEnough_53 : decode y_Fe_isEnough.2.1 53 = .ok (.ifCond .eq 5, 3) := by decide +kernel
theorem d_Fe_isEnough_56 : decode y_Fe_isEnough.2.1 56 = .ok (.iconst 1, 1) := by decide +kernel
theorem d_Fe_isEnough_57 : decode y_Fe_isEnough.2.1 57 = .ok (.ireturn, 1) := by decide +kernel
theorem d_Fe_isEnough_58 : decode y_Fe_isEnough.2.1 58 = .ok (.iinc 5 1, 3) := by decide +kernel
theorem d_Fe_isEnough_61 : decode y_Fe_isEnough.2.1 61 = .ok (.goto (-47), 3) := by decide +kernel
theorem d_Fe_isEnough_64 : decode y_Fe_isEnough.2.1 64 = .ok (.iconst 0, 1) := by decide +kernel
theorem d_Fe_isEnough_65 : decode y_Fe_isEnough.2.1 65 = .ok (.ireturn, 1) := by decide +kernel
def y_Fe_showsAll : MethodName × ByteArray × Nat × Option FieldType × List (Nat × Nat × Nat × Nat) := (⟨"MaskedCauses$Fewest", "showsAll", "(J)Z"⟩, prog_4_method_5_code, 4, (Option.some Jvm.ClassFile.FieldType.boolean), [])
theorem d_Fe_showsAll_0 : decode y_Fe_showsAll.2.1 0 = .ok (.iconst 0, 1) := by decide +kernel
theorem d_Fe_showsAll_1 : decode y_Fe_showsAll.2.1 1 = .ok (.istore_n 3, 1) := by decide +kernel
theorem d_Fe_showsAll_2 : decode y_Fe_showsAll.2.1 2 = .ok (.iload_n 3, 1) := by decide +kernel
theorem d_Fe_showsAll_3 : decode y_Fe_showsAll.2.1 3 = .ok (.aload_n 0, 1) := by decide +kernel
theorem d_Fe_showsAll_4 : decode y_Fe_showsAll.2.1 4 = .ok (.getfield 15, 3) := by decide +kernel
theorem d_Fe_showsAll_7 : decode y_Fe_showsAll.2.1 7 = .ok (.if_icmp .ge 31, 3) := by decide +kernel
theorem d_Fe_showsAll_10 : decode y_Fe_showsAll.2.1 10 = .ok (.aload_n 0, 1) := by decide +kernel
theorem d_Fe_showsAll_11 : decode y_Fe_showsAll.2.1 11 = .ok (.getfield 26, 3) := by decide +kernel
theorem d_Fe_showsAll_14 : decode y_Fe_showsAll.2.1 14 = .ok (.iload_n 3, 1) := by decide +kernel
theorem d_Fe_showsAll_15 : decode y_Fe_showsAll.2.1 15 = .ok (.invokestatic 64, 3) := by decide +kernel
theorem d_Fe_showsAll_18 : decode y_Fe_showsAll.2.1 18 = .ok (.ifCond .eq 14, 3) := by decide +kernel
theorem d_Fe_showsAll_21 : decode y_Fe_showsAll.2.1 21 = .ok (.aload_n 0, 1) := by decide +kernel
theorem d_Fe_showsAll_22 : decode y_Fe_showsAll.2.1 22 = .ok (.lload_n 1, 1) := by decide +kernel
theorem d_Fe_showsAll_23 : decode y_Fe_showsAll.2.1 23 = .ok (.iload_n 3, 1) := by decide +kernel
theorem d_Fe_showsAll_24 : decode y_Fe_showsAll.2.1 24 = .ok (.invokevirtual 68, 3) := by decide +kernel
theorem d_Fe_showsAll_27 : decode y_Fe_showsAll.2.1 27 = .ok (.ifCond .ne 5, 3) := by decide +kernel
theorem d_Fe_showsAll_30 : decode y_Fe_showsAll.2.1 30 = .ok (.iconst 0, 1) := by decide +kernel
theorem d_Fe_showsAll_31 : decode y_Fe_showsAll.2.1 31 = .ok (.ireturn, 1) := by decide +kernel
theorem d_Fe_showsAll_32 : decode y_Fe_showsAll.2.1 32 = .ok (.iinc 3 1, 3) := by decide +kernel
theorem d_Fe_showsAll_35 : decode y_Fe_showsAll.2.1 35 = .ok (.goto (-33), 3) := by decide +kernel
theorem d_Fe_showsAll_38 : decode y_Fe_showsAll.2.1 38 = .ok (.iconst 1, 1) := by decide +kernel
theorem d_Fe_showsAll_39 : decode y_Fe_showsAll.2.1 39 = .ok (.ireturn, 1) := by decide +kernel
def y_Fe_showsOne : MethodName × ByteArray × Nat × Option FieldType × List (Nat × Nat × Nat × Nat) := (⟨"MaskedCauses$Fewest", "showsOne", "(JI)Z"⟩, prog_4_method_6_code, 7, (Option.some Jvm.ClassFile.FieldType.boolean), [])
theorem d_Fe_showsOne_0 : decode y_Fe_showsOne.2.1 0 = .ok (.iconst 0, 1) := by decide +kernel
theorem d_Fe_showsOne_1 : decode y_Fe_showsOne.2.1 1 = .ok (.istore 4, 2) := by decide +kernel
theorem d_Fe_showsOne_3 : decode y_Fe_showsOne.2.1 3 = .ok (.iload 4, 2) := by decide +kernel
theorem d_Fe_showsOne_5 : decode y_Fe_showsOne.2.1 5 = .ok (.aload_n 0, 1) := by decide +kernel
theorem d_Fe_showsOne_6 : decode y_Fe_showsOne.2.1 6 = .ok (.getfield 19, 3) := by decide +kernel
theorem d_Fe_showsOne_9 : decode y_Fe_showsOne.2.1 9 = .ok (.if_icmp .ge 43, 3) := by decide +kernel
theorem d_Fe_showsOne_12 : decode y_Fe_showsOne.2.1 12 = .ok (.aload_n 0, 1) := by decide +kernel
theorem d_Fe_showsOne_13 : decode y_Fe_showsOne.2.1 13 = .ok (.getfield 9, 3) := by decide +kernel
theorem d_Fe_showsOne_16 : decode y_Fe_showsOne.2.1 16 = .ok (.iload_n 3, 1) := by decide +kernel
theorem d_Fe_showsOne_17 : decode y_Fe_showsOne.2.1 17 = .ok (.bipush 16, 2) := by decide +kernel
theorem d_Fe_showsOne_19 : decode y_Fe_showsOne.2.1 19 = .ok (.imul, 1) := by decide +kernel
theorem d_Fe_showsOne_20 : decode y_Fe_showsOne.2.1 20 = .ok (.iload 4, 2) := by decide +kernel
theorem d_Fe_showsOne_22 : decode y_Fe_showsOne.2.1 22 = .ok (.iadd, 1) := by decide +kernel
theorem d_Fe_showsOne_23 : decode y_Fe_showsOne.2.1 23 = .ok (.laload, 1) := by decide +kernel
theorem d_Fe_showsOne_24 : decode y_Fe_showsOne.2.1 24 = .ok (.lstore 5, 2) := by decide +kernel
theorem d_Fe_showsOne_26 : decode y_Fe_showsOne.2.1 26 = .ok (.lload_n 1, 1) := by decide +kernel
theorem d_Fe_showsOne_27 : decode y_Fe_showsOne.2.1 27 = .ok (.iload 4, 2) := by decide +kernel
theorem d_Fe_showsOne_29 : decode y_Fe_showsOne.2.1 29 = .ok (.invokestatic 60, 3) := by decide +kernel
theorem d_Fe_showsOne_32 : decode y_Fe_showsOne.2.1 32 = .ok (.ifCond .eq 14, 3) := by decide +kernel
theorem d_Fe_showsOne_35 : decode y_Fe_showsOne.2.1 35 = .ok (.lload 5, 2) := by decide +kernel
theorem d_Fe_showsOne_37 : decode y_Fe_showsOne.2.1 37 = .ok (.lload_n 1, 1) := by decide +kernel
theorem d_Fe_showsOne_38 : decode y_Fe_showsOne.2.1 38 = .ok (.land, 1) := by decide +kernel
theorem d_Fe_showsOne_39 : decode y_Fe_showsOne.2.1 39 = .ok (.lconst 0, 1) := by decide +kernel
theorem d_Fe_showsOne_40 : decode y_Fe_showsOne.2.1 40 = .ok (.lcmp, 1) := by decide +kernel
theorem d_Fe_showsOne_41 : decode y_Fe_showsOne.2.1 41 = .ok (.ifCond .eq 5, 3) := by decide +kernel
theorem d_Fe_showsOne_44 : decode y_Fe_showsOne.2.1 44 = .ok (.iconst 1, 1) := by decide +kernel
theorem d_Fe_showsOne_45 : decode y_Fe_showsOne.2.1 45 = .ok (.ireturn, 1) := by decide +kernel
theorem d_Fe_showsOne_46 : decode y_Fe_showsOne.2.1 46 = .ok (.iinc 4 1, 3) := by decide +kernel
theorem d_Fe_showsOne_49 : decode y_Fe_showsOne.2.1 49 = .ok (.goto (-46), 3) := by decide +kernel
theorem d_Fe_showsOne_52 : decode y_Fe_showsOne.2.1 52 = .ok (.iconst 0, 1) := by decide +kernel
theorem d_Fe_showsOne_53 : decode y_Fe_showsOne.2.1 53 = .ok (.ireturn, 1) := by decide +kernel
def y_Rc_init : MethodName × ByteArray × Nat × Option FieldType × List (Nat × Nat × Nat × Nat) := (⟨"MaskedCauses$Records", "<init>", "()V"⟩, prog_8_method_1_code, 1, (Option.none : Option Jvm.ClassFile.FieldType), [])
theorem d_Rc_init_0 : decode y_Rc_init.2.1 0 = .ok (.aload_n 0, 1) := by decide +kernel
theorem d_Rc_init_1 : decode y_Rc_init.2.1 1 = .ok (.invokespecial 3, 3) := by decide +kernel
theorem d_Rc_init_4 : decode y_Rc_init.2.1 4 = .ok (.aload_n 0, 1) := by decide +kernel
theorem d_Rc_init_5 : decode y_Rc_init.2.1 5 = .ok (.bipush 36, 2) := by decide +kernel
theorem d_Rc_init_7 : decode y_Rc_init.2.1 7 = .ok (.newarray .int, 2) := by decide +kernel
theorem d_Rc_init_9 : decode y_Rc_init.2.1 9 = .ok (.putfield 9, 3) := by decide +kernel
theorem d_Rc_init_12 : decode y_Rc_init.2.1 12 = .ok (.aload_n 0, 1) := by decide +kernel
theorem d_Rc_init_13 : decode y_Rc_init.2.1 13 = .ok (.iconst 0, 1) := by decide +kernel
theorem d_Rc_init_14 : decode y_Rc_init.2.1 14 = .ok (.putfield 15, 3) := by decide +kernel
theorem d_Rc_init_17 : decode y_Rc_init.2.1 17 = .ok (.return_, 1) := by decide +kernel
def y_Rc_isFull : MethodName × ByteArray × Nat × Option FieldType × List (Nat × Nat × Nat × Nat) := (⟨"MaskedCauses$Records", "isFull", "()Z"⟩, prog_8_method_2_code, 1, (Option.some Jvm.ClassFile.FieldType.boolean), [])
theorem d_Rc_isFull_0 : decode y_Rc_isFull.2.1 0 = .ok (.aload_n 0, 1) := by decide +kernel
theorem d_Rc_isFull_1 : decode y_Rc_isFull.2.1 1 = .ok (.getfield 15, 3) := by decide +kernel
theorem d_Rc_isFull_4 : decode y_Rc_isFull.2.1 4 = .ok (.bipush 12, 2) := by decide +kernel
theorem d_Rc_isFull_6 : decode y_Rc_isFull.2.1 6 = .ok (.if_icmp .ne 7, 3) := by decide +kernel
theorem d_Rc_isFull_9 : decode y_Rc_isFull.2.1 9 = .ok (.iconst 1, 1) := by decide +kernel
theorem d_Rc_isFull_10 : decode y_Rc_isFull.2.1 10 = .ok (.goto 4, 3) := by decide +kernel
theorem d_Rc_isFull_13 : decode y_Rc_isFull.2.1 13 = .ok (.iconst 0, 1) := by decide +kernel
theorem d_Rc_isFull_14 : decode y_Rc_isFull.2.1 14 = .ok (.ireturn, 1) := by decide +kernel
def y_Rc_add : MethodName × ByteArray × Nat × Option FieldType × List (Nat × Nat × Nat × Nat) := (⟨"MaskedCauses$Records", "add", "(III)I"⟩, prog_8_method_3_code, 5, (Option.some Jvm.ClassFile.FieldType.int), [])
theorem d_Rc_add_0 : decode y_Rc_add.2.1 0 = .ok (.aload_n 0, 1) := by decide +kernel
theorem d_Rc_add_1 : decode y_Rc_add.2.1 1 = .ok (.getfield 15, 3) := by decide +kernel
theorem d_Rc_add_4 : decode y_Rc_add.2.1 4 = .ok (.iconst 3, 1) := by decide +kernel
theorem d_Rc_add_5 : decode y_Rc_add.2.1 5 = .ok (.imul, 1) := by decide +kernel
theorem d_Rc_add_6 : decode y_Rc_add.2.1 6 = .ok (.istore 4, 2) := by decide +kernel
theorem d_Rc_add_8 : decode y_Rc_add.2.1 8 = .ok (.aload_n 0, 1) := by decide +kernel
theorem d_Rc_add_9 : decode y_Rc_add.2.1 9 = .ok (.getfield 9, 3) := by decide +kernel
theorem d_Rc_add_12 : decode y_Rc_add.2.1 12 = .ok (.iload 4, 2) := by decide +kernel
theorem d_Rc_add_14 : decode y_Rc_add.2.1 14 = .ok (.iload_n 1, 1) := by decide +kernel
theorem d_Rc_add_15 : decode y_Rc_add.2.1 15 = .ok (.iastore, 1) := by decide +kernel
theorem d_Rc_add_16 : decode y_Rc_add.2.1 16 = .ok (.aload_n 0, 1) := by decide +kernel
theorem d_Rc_add_17 : decode y_Rc_add.2.1 17 = .ok (.getfield 9, 3) := by decide +kernel
theorem d_Rc_add_20 : decode y_Rc_add.2.1 20 = .ok (.iload 4, 2) := by decide +kernel
theorem d_Rc_add_22 : decode y_Rc_add.2.1 22 = .ok (.iconst 1, 1) := by decide +kernel
theorem d_Rc_add_23 : decode y_Rc_add.2.1 23 = .ok (.iadd, 1) := by decide +kernel
theorem d_Rc_add_24 : decode y_Rc_add.2.1 24 = .ok (.iload_n 2, 1) := by decide +kernel
theorem d_Rc_add_25 : decode y_Rc_add.2.1 25 = .ok (.iastore, 1) := by decide +kernel
theorem d_Rc_add_26 : decode y_Rc_add.2.1 26 = .ok (.aload_n 0, 1) := by decide +kernel
theorem d_Rc_add_27 : decode y_Rc_add.2.1 27 = .ok (.getfield 9, 3) := by decide +kernel
theorem d_Rc_add_30 : decode y_Rc_add.2.1 30 = .ok (.iload 4, 2) := by decide +kernel
theorem d_Rc_add_32 : decode y_Rc_add.2.1 32 = .ok (.iconst 2, 1) := by decide +kernel
theorem d_Rc_add_33 : decode y_Rc_add.2.1 33 = .ok (.iadd, 1) := by decide +kernel
theorem d_Rc_add_34 : decode y_Rc_add.2.1 34 = .ok (.iload_n 3, 1) := by decide +kernel
theorem d_Rc_add_35 : decode y_Rc_add.2.1 35 = .ok (.iastore, 1) := by decide +kernel
theorem d_Rc_add_36 : decode y_Rc_add.2.1 36 = .ok (.aload_n 0, 1) := by decide +kernel
theorem d_Rc_add_37 : decode y_Rc_add.2.1 37 = .ok (.dup, 1) := by decide +kernel
theorem d_Rc_add_38 : decode y_Rc_add.2.1 38 = .ok (.getfield 15, 3) := by decide +kernel
theorem d_Rc_add_41 : decode y_Rc_add.2.1 41 = .ok (.iconst 1, 1) := by decide +kernel
theorem d_Rc_add_42 : decode y_Rc_add.2.1 42 = .ok (.iadd, 1) := by decide +kernel
theorem d_Rc_add_43 : decode y_Rc_add.2.1 43 = .ok (.putfield 15, 3) := by decide +kernel
theorem d_Rc_add_46 : decode y_Rc_add.2.1 46 = .ok (.aload_n 0, 1) := by decide +kernel
theorem d_Rc_add_47 : decode y_Rc_add.2.1 47 = .ok (.getfield 15, 3) := by decide +kernel
theorem d_Rc_add_50 : decode y_Rc_add.2.1 50 = .ok (.ireturn, 1) := by decide +kernel
def y_Rc_clear : MethodName × ByteArray × Nat × Option FieldType × List (Nat × Nat × Nat × Nat) := (⟨"MaskedCauses$Records", "clear", "()I"⟩, prog_8_method_4_code, 2, (Option.some Jvm.ClassFile.FieldType.int), [])
theorem d_Rc_clear_0 : decode y_Rc_clear.2.1 0 = .ok (.aload_n 0, 1) := by decide +kernel
theorem d_Rc_clear_1 : decode y_Rc_clear.2.1 1 = .ok (.getfield 15, 3) := by decide +kernel
theorem d_Rc_clear_4 : decode y_Rc_clear.2.1 4 = .ok (.istore_n 1, 1) := by decide +kernel
theorem d_Rc_clear_5 : decode y_Rc_clear.2.1 5 = .ok (.aload_n 0, 1) := by decide +kernel
theorem d_Rc_clear_6 : decode y_Rc_clear.2.1 6 = .ok (.iconst 0, 1) := by decide +kernel
theorem d_Rc_clear_7 : decode y_Rc_clear.2.1 7 = .ok (.putfield 15, 3) := by decide +kernel
theorem d_Rc_clear_10 : decode y_Rc_clear.2.1 10 = .ok (.iload_n 1, 1) := by decide +kernel
theorem d_Rc_clear_11 : decode y_Rc_clear.2.1 11 = .ok (.ireturn, 1) := by decide +kernel
def y_Rc_wordsOf : MethodName × ByteArray × Nat × Option FieldType × List (Nat × Nat × Nat × Nat) := (⟨"MaskedCauses$Records", "wordsOf", "(LMaskedCauses$Decision;)J"⟩, prog_8_method_5_code, 5, (Option.some Jvm.ClassFile.FieldType.long), [])
theorem d_Rc_wordsOf_0 : decode y_Rc_wordsOf.2.1 0 = .ok (.lconst 0, 1) := by decide +kernel
theorem d_Rc_wordsOf_1 : decode y_Rc_wordsOf.2.1 1 = .ok (.lstore_n 2, 1) := by decide +kernel
theorem d_Rc_wordsOf_2 : decode y_Rc_wordsOf.2.1 2 = .ok (.iconst 0, 1) := by decide +kernel
theorem d_Rc_wordsOf_3 : decode y_Rc_wordsOf.2.1 3 = .ok (.istore 4, 2) := by decide +kernel
theorem d_Rc_wordsOf_5 : decode y_Rc_wordsOf.2.1 5 = .ok (.iload 4, 2) := by decide +kernel
theorem d_Rc_wordsOf_7 : decode y_Rc_wordsOf.2.1 7 = .ok (.aload_n 0, 1) := by decide +kernel
theorem d_Rc_wordsOf_8 : decode y_Rc_wordsOf.2.1 8 = .ok (.getfield 15, 3) := by decide +kernel
theorem d_Rc_wordsOf_11 : decode y_Rc_wordsOf.2.1 11 = .ok (.if_icmp .ge 26, 3) := by decide +kernel
theorem d_Rc_wordsOf_14 : decode y_Rc_wordsOf.2.1 14 = .ok (.lload_n 2, 1) := by decide +kernel
theorem d_Rc_wordsOf_15 : decode y_Rc_wordsOf.2.1 15 = .ok (.lconst 1, 1) := by decide +kernel
theorem d_Rc_wordsOf_16 : decode y_Rc_wordsOf.2.1 16 = .ok (.aload_n 1, 1) := by decide +kernel
theorem d_Rc_wordsOf_17 : decode y_Rc_wordsOf.2.1 17 = .ok (.aload_n 0, 1) := by decide +kernel
theorem d_Rc_wordsOf_18 : decode y_Rc_wordsOf.2.1 18 = .ok (.getfield 9, 3) := by decide +kernel
theorem d_Rc_wordsOf_21 : decode y_Rc_wordsOf.2.1 21 = .ok (.iload 4, 2) := by decide +kernel
theorem d_Rc_wordsOf_23 : decode y_Rc_wordsOf.2.1 23 = .ok (.iconst 3, 1) := by decide +kernel
theorem d_Rc_wordsOf_24 : decode y_Rc_wordsOf.2.1 24 = .ok (.imul, 1) := by decide +kernel
theorem d_Rc_wordsOf_25 : decode y_Rc_wordsOf.2.1 25 = .ok (.invokevirtual 19, 3) := by decide +kernel
theorem d_Rc_wordsOf_28 : decode y_Rc_wordsOf.2.1 28 = .ok (.lshl, 1) := by decide +kernel
theorem d_Rc_wordsOf_29 : decode y_Rc_wordsOf.2.1 29 = .ok (.lor, 1) := by decide +kernel
theorem d_Rc_wordsOf_30 : decode y_Rc_wordsOf.2.1 30 = .ok (.lstore_n 2, 1) := by decide +kernel
theorem d_Rc_wordsOf_31 : decode y_Rc_wordsOf.2.1 31 = .ok (.iinc 4 1, 3) := by decide +kernel
theorem d_Rc_wordsOf_34 : decode y_Rc_wordsOf.2.1 34 = .ok (.goto (-29), 3) := by decide +kernel
theorem d_Rc_wordsOf_37 : decode y_Rc_wordsOf.2.1 37 = .ok (.lload_n 2, 1) := by decide +kernel
theorem d_Rc_wordsOf_38 : decode y_Rc_wordsOf.2.1 38 = .ok (.lreturn, 1) := by decide +kernel
end
