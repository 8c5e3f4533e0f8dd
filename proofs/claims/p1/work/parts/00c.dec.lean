/-! methods and their instructions -/
section
def y_Tr_init : MethodName × ByteArray × Nat × Option FieldType × List (Nat × Nat × Nat × Nat) := (⟨"MaskedCauses$Tree", "<init>", "()V"⟩, prog_10_method_1_code, 1, (Option.none : Option Jvm.ClassFile.FieldType), [])
theorem d_Tr_init_0 : decode y_Tr_init.2.1 0 = .ok (.aload_n 0, 1) := by decide +kernel
theorem d_Tr_init_1 : decode y_Tr_init.2.1 1 = .ok (.invokespecial 3, 3) := by decide +kernel
theorem d_Tr_init_4 : decode y_Tr_init.2.1 4 = .ok (.aload_n 0, 1) := by decide +kernel
theorem d_Tr_init_5 : decode y_Tr_init.2.1 5 = .ok (.bipush 40, 2) := by decide +kernel
theorem d_Tr_init_7 : decode y_Tr_init.2.1 7 = .ok (.newarray .int, 2) := by decide +kernel
theorem d_Tr_init_9 : decode y_Tr_init.2.1 9 = .ok (.putfield 9, 3) := by decide +kernel
theorem d_Tr_init_12 : decode y_Tr_init.2.1 12 = .ok (.aload_n 0, 1) := by decide +kernel
theorem d_Tr_init_13 : decode y_Tr_init.2.1 13 = .ok (.bipush 40, 2) := by decide +kernel
theorem d_Tr_init_15 : decode y_Tr_init.2.1 15 = .ok (.newarray .int, 2) := by decide +kernel
theorem d_Tr_init_17 : decode y_Tr_init.2.1 17 = .ok (.putfield 15, 3) := by decide +kernel
theorem d_Tr_init_20 : decode y_Tr_init.2.1 20 = .ok (.aload_n 0, 1) := by decide +kernel
theorem d_Tr_init_21 : decode y_Tr_init.2.1 21 = .ok (.bipush 40, 2) := by decide +kernel
theorem d_Tr_init_23 : decode y_Tr_init.2.1 23 = .ok (.newarray .int, 2) := by decide +kernel
theorem d_Tr_init_25 : decode y_Tr_init.2.1 25 = .ok (.putfield 18, 3) := by decide +kernel
theorem d_Tr_init_28 : decode y_Tr_init.2.1 28 = .ok (.aload_n 0, 1) := by decide +kernel
theorem d_Tr_init_29 : decode y_Tr_init.2.1 29 = .ok (.bipush 40, 2) := by decide +kernel
theorem d_Tr_init_31 : decode y_Tr_init.2.1 31 = .ok (.newarray .long, 2) := by decide +kernel
theorem d_Tr_init_33 : decode y_Tr_init.2.1 33 = .ok (.putfield 21, 3) := by decide +kernel
theorem d_Tr_init_36 : decode y_Tr_init.2.1 36 = .ok (.aload_n 0, 1) := by decide +kernel
theorem d_Tr_init_37 : decode y_Tr_init.2.1 37 = .ok (.bipush 40, 2) := by decide +kernel
theorem d_Tr_init_39 : decode y_Tr_init.2.1 39 = .ok (.newarray .long, 2) := by decide +kernel
theorem d_Tr_init_41 : decode y_Tr_init.2.1 41 = .ok (.putfield 25, 3) := by decide +kernel
theorem d_Tr_init_44 : decode y_Tr_init.2.1 44 = .ok (.aload_n 0, 1) := by decide +kernel
theorem d_Tr_init_45 : decode y_Tr_init.2.1 45 = .ok (.iconst 0, 1) := by decide +kernel
theorem d_Tr_init_46 : decode y_Tr_init.2.1 46 = .ok (.putfield 28, 3) := by decide +kernel
theorem d_Tr_init_49 : decode y_Tr_init.2.1 49 = .ok (.aload_n 0, 1) := by decide +kernel
theorem d_Tr_init_50 : decode y_Tr_init.2.1 50 = .ok (.iconst 0, 1) := by decide +kernel
theorem d_Tr_init_51 : decode y_Tr_init.2.1 51 = .ok (.putfield 32, 3) := by decide +kernel
theorem d_Tr_init_54 : decode y_Tr_init.2.1 54 = .ok (.return_, 1) := by decide +kernel
def y_Tr_clear : MethodName × ByteArray × Nat × Option FieldType × List (Nat × Nat × Nat × Nat) := (⟨"MaskedCauses$Tree", "clear", "()V"⟩, prog_10_method_2_code, 1, (Option.none : Option Jvm.ClassFile.FieldType), [])
theorem d_Tr_clear_0 : decode y_Tr_clear.2.1 0 = .ok (.aload_n 0, 1) := by decide +kernel
theorem d_Tr_clear_1 : decode y_Tr_clear.2.1 1 = .ok (.iconst 0, 1) := by decide +kernel
theorem d_Tr_clear_2 : decode y_Tr_clear.2.1 2 = .ok (.putfield 28, 3) := by decide +kernel
theorem d_Tr_clear_5 : decode y_Tr_clear.2.1 5 = .ok (.aload_n 0, 1) := by decide +kernel
theorem d_Tr_clear_6 : decode y_Tr_clear.2.1 6 = .ok (.iconst 0, 1) := by decide +kernel
theorem d_Tr_clear_7 : decode y_Tr_clear.2.1 7 = .ok (.putfield 32, 3) := by decide +kernel
theorem d_Tr_clear_10 : decode y_Tr_clear.2.1 10 = .ok (.return_, 1) := by decide +kernel
def y_Tr_letters : MethodName × ByteArray × Nat × Option FieldType × List (Nat × Nat × Nat × Nat) := (⟨"MaskedCauses$Tree", "letters", "()I"⟩, prog_10_method_3_code, 1, (Option.some Jvm.ClassFile.FieldType.int), [])
theorem d_Tr_letters_0 : decode y_Tr_letters.2.1 0 = .ok (.aload_n 0, 1) := by decide +kernel
theorem d_Tr_letters_1 : decode y_Tr_letters.2.1 1 = .ok (.getfield 32, 3) := by decide +kernel
theorem d_Tr_letters_4 : decode y_Tr_letters.2.1 4 = .ok (.ireturn, 1) := by decide +kernel
def y_Tr_addLeaf : MethodName × ByteArray × Nat × Option FieldType × List (Nat × Nat × Nat × Nat) := (⟨"MaskedCauses$Tree", "addLeaf", "(I)I"⟩, prog_10_method_4_code, 2, (Option.some Jvm.ClassFile.FieldType.int), [])
theorem d_Tr_addLeaf_0 : decode y_Tr_addLeaf.2.1 0 = .ok (.aload_n 0, 1) := by decide +kernel
theorem d_Tr_addLeaf_1 : decode y_Tr_addLeaf.2.1 1 = .ok (.dup, 1) := by decide +kernel
theorem d_Tr_addLeaf_2 : decode y_Tr_addLeaf.2.1 2 = .ok (.getfield 32, 3) := by decide +kernel
theorem d_Tr_addLeaf_5 : decode y_Tr_addLeaf.2.1 5 = .ok (.iconst 1, 1) := by decide +kernel
theorem d_Tr_addLeaf_6 : decode y_Tr_addLeaf.2.1 6 = .ok (.iload_n 1, 1) := by decide +kernel
theorem d_Tr_addLeaf_7 : decode y_Tr_addLeaf.2.1 7 = .ok (.ishl, 1) := by decide +kernel
theorem d_Tr_addLeaf_8 : decode y_Tr_addLeaf.2.1 8 = .ok (.ior, 1) := by decide +kernel
theorem d_Tr_addLeaf_9 : decode y_Tr_addLeaf.2.1 9 = .ok (.putfield 32, 3) := by decide +kernel
theorem d_Tr_addLeaf_12 : decode y_Tr_addLeaf.2.1 12 = .ok (.aload_n 0, 1) := by decide +kernel
theorem d_Tr_addLeaf_13 : decode y_Tr_addLeaf.2.1 13 = .ok (.iconst 4, 1) := by decide +kernel
theorem d_Tr_addLeaf_14 : decode y_Tr_addLeaf.2.1 14 = .ok (.iload_n 1, 1) := by decide +kernel
theorem d_Tr_addLeaf_15 : decode y_Tr_addLeaf.2.1 15 = .ok (.iconst (-1), 1) := by decide +kernel
theorem d_Tr_addLeaf_16 : decode y_Tr_addLeaf.2.1 16 = .ok (.invokevirtual 35, 3) := by decide +kernel
theorem d_Tr_addLeaf_19 : decode y_Tr_addLeaf.2.1 19 = .ok (.ireturn, 1) := by decide +kernel
def y_Tr_add : MethodName × ByteArray × Nat × Option FieldType × List (Nat × Nat × Nat × Nat) := (⟨"MaskedCauses$Tree", "add", "(III)I"⟩, prog_10_method_5_code, 4, (Option.some Jvm.ClassFile.FieldType.int), [])
theorem d_Tr_add_0 : decode y_Tr_add.2.1 0 = .ok (.aload_n 0, 1) := by decide +kernel
theorem d_Tr_add_1 : decode y_Tr_add.2.1 1 = .ok (.getfield 28, 3) := by decide +kernel
theorem d_Tr_add_4 : decode y_Tr_add.2.1 4 = .ok (.bipush 40, 2) := by decide +kernel
theorem d_Tr_add_6 : decode y_Tr_add.2.1 6 = .ok (.if_icmp .ne 5, 3) := by decide +kernel
theorem d_Tr_add_9 : decode y_Tr_add.2.1 9 = .ok (.iconst (-1), 1) := by decide +kernel
theorem d_Tr_add_10 : decode y_Tr_add.2.1 10 = .ok (.ireturn, 1) := by decide +kernel
theorem d_Tr_add_11 : decode y_Tr_add.2.1 11 = .ok (.aload_n 0, 1) := by decide +kernel
theorem d_Tr_add_12 : decode y_Tr_add.2.1 12 = .ok (.getfield 9, 3) := by decide +kernel
theorem d_Tr_add_15 : decode y_Tr_add.2.1 15 = .ok (.aload_n 0, 1) := by decide +kernel
theorem d_Tr_add_16 : decode y_Tr_add.2.1 16 = .ok (.getfield 28, 3) := by decide +kernel
theorem d_Tr_add_19 : decode y_Tr_add.2.1 19 = .ok (.iload_n 1, 1) := by decide +kernel
theorem d_Tr_add_20 : decode y_Tr_add.2.1 20 = .ok (.iastore, 1) := by decide +kernel
theorem d_Tr_add_21 : decode y_Tr_add.2.1 21 = .ok (.aload_n 0, 1) := by decide +kernel
theorem d_Tr_add_22 : decode y_Tr_add.2.1 22 = .ok (.getfield 15, 3) := by decide +kernel
theorem d_Tr_add_25 : decode y_Tr_add.2.1 25 = .ok (.aload_n 0, 1) := by decide +kernel
theorem d_Tr_add_26 : decode y_Tr_add.2.1 26 = .ok (.getfield 28, 3) := by decide +kernel
theorem d_Tr_add_29 : decode y_Tr_add.2.1 29 = .ok (.iload_n 2, 1) := by decide +kernel
theorem d_Tr_add_30 : decode y_Tr_add.2.1 30 = .ok (.iastore, 1) := by decide +kernel
theorem d_Tr_add_31 : decode y_Tr_add.2.1 31 = .ok (.aload_n 0, 1) := by decide +kernel
theorem d_Tr_add_32 : decode y_Tr_add.2.1 32 = .ok (.getfield 18, 3) := by decide +kernel
theorem d_Tr_add_35 : decode y_Tr_add.2.1 35 = .ok (.aload_n 0, 1) := by decide +kernel
theorem d_Tr_add_36 : decode y_Tr_add.2.1 36 = .ok (.getfield 28, 3) := by decide +kernel
theorem d_Tr_add_39 : decode y_Tr_add.2.1 39 = .ok (.iload_n 3, 1) := by decide +kernel
theorem d_Tr_add_40 : decode y_Tr_add.2.1 40 = .ok (.iastore, 1) := by decide +kernel
theorem d_Tr_add_41 : decode y_Tr_add.2.1 41 = .ok (.aload_n 0, 1) := by decide +kernel
theorem d_Tr_add_42 : decode y_Tr_add.2.1 42 = .ok (.dup, 1) := by decide +kernel
theorem d_Tr_add_43 : decode y_Tr_add.2.1 43 = .ok (.getfield 28, 3) := by decide +kernel
theorem d_Tr_add_46 : decode y_Tr_add.2.1 46 = .ok (.iconst 1, 1) := by decide +kernel
theorem d_Tr_add_47 : decode y_Tr_add.2.1 47 = .ok (.iadd, 1) := by decide +kernel
theorem d_Tr_add_48 : decode y_Tr_add.2.1 48 = .ok (.putfield 28, 3) := by decide +kernel
theorem d_Tr_add_51 : decode y_Tr_add.2.1 51 = .ok (.aload_n 0, 1) := by decide +kernel
theorem d_Tr_add_52 : decode y_Tr_add.2.1 52 = .ok (.getfield 28, 3) := by decide +kernel
theorem d_Tr_add_55 : decode y_Tr_add.2.1 55 = .ok (.iconst 1, 1) := by decide +kernel
theorem d_Tr_add_56 : decode y_Tr_add.2.1 56 = .ok (.isub, 1) := by decide +kernel
theorem d_Tr_add_57 : decode y_Tr_add.2.1 57 = .ok (.ireturn, 1) := by decide +kernel
def y_Tr_findTruths : MethodName × ByteArray × Nat × Option FieldType × List (Nat × Nat × Nat × Nat) := (⟨"MaskedCauses$Tree", "findTruths", "()J"⟩, prog_10_method_6_code, 2, (Option.some Jvm.ClassFile.FieldType.long), [])
theorem d_Tr_findTruths_0 : decode y_Tr_findTruths.2.1 0 = .ok (.iconst 0, 1) := by decide +kernel
theorem d_Tr_findTruths_1 : decode y_Tr_findTruths.2.1 1 = .ok (.istore_n 1, 1) := by decide +kernel
theorem d_Tr_findTruths_2 : decode y_Tr_findTruths.2.1 2 = .ok (.iload_n 1, 1) := by decide +kernel
theorem d_Tr_findTruths_3 : decode y_Tr_findTruths.2.1 3 = .ok (.aload_n 0, 1) := by decide +kernel
theorem d_Tr_findTruths_4 : decode y_Tr_findTruths.2.1 4 = .ok (.getfield 28, 3) := by decide +kernel
theorem d_Tr_findTruths_7 : decode y_Tr_findTruths.2.1 7 = .ok (.if_icmp .ge 20, 3) := by decide +kernel
theorem d_Tr_findTruths_10 : decode y_Tr_findTruths.2.1 10 = .ok (.aload_n 0, 1) := by decide +kernel
theorem d_Tr_findTruths_11 : decode y_Tr_findTruths.2.1 11 = .ok (.getfield 21, 3) := by decide +kernel
theorem d_Tr_findTruths_14 : decode y_Tr_findTruths.2.1 14 = .ok (.iload_n 1, 1) := by decide +kernel
theorem d_Tr_findTruths_15 : decode y_Tr_findTruths.2.1 15 = .ok (.aload_n 0, 1) := by decide +kernel
theorem d_Tr_findTruths_16 : decode y_Tr_findTruths.2.1 16 = .ok (.iload_n 1, 1) := by decide +kernel
theorem d_Tr_findTruths_17 : decode y_Tr_findTruths.2.1 17 = .ok (.invokevirtual 39, 3) := by decide +kernel
theorem d_Tr_findTruths_20 : decode y_Tr_findTruths.2.1 20 = .ok (.lastore, 1) := by decide +kernel
theorem d_Tr_findTruths_21 : decode y_Tr_findTruths.2.1 21 = .ok (.iinc 1 1, 3) := by decide +kernel
theorem d_Tr_findTruths_24 : decode y_Tr_findTruths.2.1 24 = .ok (.goto (-22), 3) := by decide +kernel
theorem d_Tr_findTruths_27 : decode y_Tr_findTruths.2.1 27 = .ok (.aload_n 0, 1) := by decide +kernel
theorem d_Tr_findTruths_28 : decode y_Tr_findTruths.2.1 28 = .ok (.getfield 28, 3) := by decide +kernel
theorem d_Tr_findTruths_31 : decode y_Tr_findTruths.2.1 31 = .ok (.ifCond .ne 7, 3) := by decide +kernel
theorem d_Tr_findTruths_34 : decode y_Tr_findTruths.2.1 34 = .ok (.lconst 0, 1) := by decide +kernel
theorem d_Tr_findTruths_35 : decode y_Tr_findTruths.2.1 35 = .ok (.goto 14, 3) := by decide +kernel
theorem d_Tr_findTruths_38 : decode y_Tr_findTruths.2.1 38 = .ok (.aload_n 0, 1) := by decide +kernel
theorem d_Tr_findTruths_39 : decode y_Tr_findTruths.2.1 39 = .ok (.getfield 21, 3) := by decide +kernel
theorem d_Tr_findTruths_42 : decode y_Tr_findTruths.2.1 42 = .ok (.aload_n 0, 1) := by decide +kernel
theorem d_Tr_findTruths_43 : decode y_Tr_findTruths.2.1 43 = .ok (.getfield 28, 3) := by decide +kernel
theorem d_Tr_findTruths_46 : decode y_Tr_findTruths.2.1 46 = .ok (.iconst 1, 1) := by decide +kernel
theorem d_Tr_findTruths_47 : decode y_Tr_findTruths.2.1 47 = .ok (.isub, 1) := by decide +kernel
theorem d_Tr_findTruths_48 : decode y_Tr_findTruths.2.1 48 = .ok (.laload, 1) := by decide +kernel
theorem d_Tr_findTruths_49 : decode y_Tr_findTruths.2.1 49 = .ok (.lreturn, 1) := by decide +kernel
def y_Tr_truthOf : MethodName × ByteArray × Nat × Option FieldType × List (Nat × Nat × Nat × Nat) := (⟨"MaskedCauses$Tree", "truthOf", "(I)J"⟩, prog_10_method_7_code, 4, (Option.some Jvm.ClassFile.FieldType.long), [])
theorem d_Tr_truthOf_0 : decode y_Tr_truthOf.2.1 0 = .ok (.aload_n 0, 1) := by decide +kernel
theorem d_Tr_truthOf_1 : decode y_Tr_truthOf.2.1 1 = .ok (.getfield 9, 3) := by decide +kernel
theorem d_Tr_truthOf_4 : decode y_Tr_truthOf.2.1 4 = .ok (.iload_n 1, 1) := by decide +kernel
theorem d_Tr_truthOf_5 : decode y_Tr_truthOf.2.1 5 = .ok (.iaload, 1) := by decide +kernel
theorem d_Tr_truthOf_6 : decode y_Tr_truthOf.2.1 6 = .ok (.iconst 4, 1) := by decide +kernel
theorem d_Tr_truthOf_7 : decode y_Tr_truthOf.2.1 7 = .ok (.if_icmp .ne 18, 3) := by decide +kernel
theorem d_Tr_truthOf_10 : decode y_Tr_truthOf.2.1 10 = .ok (.getstatic 43, 3) := by decide +kernel
theorem d_Tr_truthOf_13 : decode y_Tr_truthOf.2.1 13 = .ok (.aload_n 0, 1) := by decide +kernel
theorem d_Tr_truthOf_14 : decode y_Tr_truthOf.2.1 14 = .ok (.aload_n 0, 1) := by decide +kernel
theorem d_Tr_truthOf_15 : decode y_Tr_truthOf.2.1 15 = .ok (.getfield 15, 3) := by decide +kernel
theorem d_Tr_truthOf_18 : decode y_Tr_truthOf.2.1 18 = .ok (.iload_n 1, 1) := by decide +kernel
theorem d_Tr_truthOf_19 : decode y_Tr_truthOf.2.1 19 = .ok (.iaload, 1) := by decide +kernel
theorem d_Tr_truthOf_20 : decode y_Tr_truthOf.2.1 20 = .ok (.invokevirtual 46, 3) := by decide +kernel
theorem d_Tr_truthOf_23 : decode y_Tr_truthOf.2.1 23 = .ok (.laload, 1) := by decide +kernel
theorem d_Tr_truthOf_24 : decode y_Tr_truthOf.2.1 24 = .ok (.lreturn, 1) := by decide +kernel
theorem d_Tr_truthOf_25 : decode y_Tr_truthOf.2.1 25 = .ok (.aload_n 0, 1) := by decide +kernel
theorem d_Tr_truthOf_26 : decode y_Tr_truthOf.2.1 26 = .ok (.getfield 21, 3) := by decide +kernel
theorem d_Tr_truthOf_29 : decode y_Tr_truthOf.2.1 29 = .ok (.aload_n 0, 1) := by decide +kernel
theorem d_Tr_truthOf_30 : decode y_Tr_truthOf.2.1 30 = .ok (.getfield 15, 3) := by decide +kernel
theorem d_Tr_truthOf_33 : decode y_Tr_truthOf.2.1 33 = .ok (.iload_n 1, 1) := by decide +kernel
theorem d_Tr_truthOf_34 : decode y_Tr_truthOf.2.1 34 = .ok (.iaload, 1) := by decide +kernel
theorem d_Tr_truthOf_35 : decode y_Tr_truthOf.2.1 35 = .ok (.laload, 1) := by decide +kernel
theorem d_Tr_truthOf_36 : decode y_Tr_truthOf.2.1 36 = .ok (.lstore_n 2, 1) := by decide +kernel
theorem d_Tr_truthOf_37 : decode y_Tr_truthOf.2.1 37 = .ok (.aload_n 0, 1) := by decide +kernel
theorem d_Tr_truthOf_38 : decode y_Tr_truthOf.2.1 38 = .ok (.getfield 9, 3) := by decide +kernel
theorem d_Tr_truthOf_41 : decode y_Tr_truthOf.2.1 41 = .ok (.iload_n 1, 1) := by decide +kernel
theorem d_Tr_truthOf_42 : decode y_Tr_truthOf.2.1 42 = .ok (.iaload, 1) := by decide +kernel
theorem d_Tr_truthOf_43 : decode y_Tr_truthOf.2.1 43 = .ok (.tableswitch 59 1 3 #[45, 31, 25], 25) := by decide +kernel
theorem d_Tr_truthOf_68 : decode y_Tr_truthOf.2.1 68 = .ok (.lload_n 2, 1) := by decide +kernel
theorem d_Tr_truthOf_69 : decode y_Tr_truthOf.2.1 69 = .ok (.ldc2_w 50, 3) := by decide +kernel
theorem d_Tr_truthOf_72 : decode y_Tr_truthOf.2.1 72 = .ok (.lxor, 1) := by decide +kernel
theorem d_Tr_truthOf_73 : decode y_Tr_truthOf.2.1 73 = .ok (.lreturn, 1) := by decide +kernel
theorem d_Tr_truthOf_74 : decode y_Tr_truthOf.2.1 74 = .ok (.lload_n 2, 1) := by decide +kernel
theorem d_Tr_truthOf_75 : decode y_Tr_truthOf.2.1 75 = .ok (.aload_n 0, 1) := by decide +kernel
theorem d_Tr_truthOf_76 : decode y_Tr_truthOf.2.1 76 = .ok (.getfield 21, 3) := by decide +kernel
theorem d_Tr_truthOf_79 : decode y_Tr_truthOf.2.1 79 = .ok (.aload_n 0, 1) := by decide +kernel
theorem d_Tr_truthOf_80 : decode y_Tr_truthOf.2.1 80 = .ok (.getfield 18, 3) := by decide +kernel
theorem d_Tr_truthOf_83 : decode y_Tr_truthOf.2.1 83 = .ok (.iload_n 1, 1) := by decide +kernel
theorem d_Tr_truthOf_84 : decode y_Tr_truthOf.2.1 84 = .ok (.iaload, 1) := by decide +kernel
theorem d_Tr_truthOf_85 : decode y_Tr_truthOf.2.1 85 = .ok (.laload, 1) := by decide +kernel
theorem d_Tr_truthOf_86 : decode y_Tr_truthOf.2.1 86 = .ok (.land, 1) := by decide +kernel
theorem d_Tr_truthOf_87 : decode y_Tr_truthOf.2.1 87 = .ok (.lreturn, 1) := by decide +kernel
theorem d_Tr_truthOf_88 : decode y_Tr_truthOf.2.1 88 = .ok (.lload_n 2, 1) := by decide +kernel
theorem d_Tr_truthOf_89 : decode y_Tr_truthOf.2.1 89 = .ok (.aload_n 0, 1) := by decide +kernel
theorem d_Tr_truthOf_90 : decode y_Tr_truthOf.2.1 90 = .ok (.getfield 21, 3) := by decide +kernel
theorem d_Tr_truthOf_93 : decode y_Tr_truthOf.2.1 93 = .ok (.aload_n 0, 1) := by decide +kernel
theorem d_Tr_truthOf_94 : decode y_Tr_truthOf.2.1 94 = .ok (.getfield 18, 3) := by decide +kernel
theorem d_Tr_truthOf_97 : decode y_Tr_truthOf.2.1 97 = .ok (.iload_n 1, 1) := by decide +kernel
theorem d_Tr_truthOf_98 : decode y_Tr_truthOf.2.1 98 = .ok (.iaload, 1) := by decide +kernel
theorem d_Tr_truthOf_99 : decode y_Tr_truthOf.2.1 99 = .ok (.laload, 1) := by decide +kernel
theorem d_Tr_truthOf_100 : decode y_Tr_truthOf.2.1 100 = .ok (.lxor, 1) := by decide +kernel
theorem d_Tr_truthOf_101 : decode y_Tr_truthOf.2.1 101 = .ok (.lreturn, 1) := by decide +kernel
theorem d_Tr_truthOf_102 : decode y_Tr_truthOf.2.1 102 = .ok (.lload_n 2, 1) := by decide +kernel
theorem d_Tr_truthOf_103 : decode y_Tr_truthOf.2.1 103 = .ok (.aload_n 0, 1) := by decide +kernel
theorem d_Tr_truthOf_104 : decode y_Tr_truthOf.2.1 104 = .ok (.getfield 21, 3) := by decide +kernel
theorem d_Tr_truthOf_107 : decode y_Tr_truthOf.2.1 107 = .ok (.aload_n 0, 1) := by decide +kernel
theorem d_Tr_truthOf_108 : decode y_Tr_truthOf.2.1 108 = .ok (.getfield 18, 3) := by decide +kernel
theorem d_Tr_truthOf_111 : decode y_Tr_truthOf.2.1 111 = .ok (.iload_n 1, 1) := by decide +kernel
theorem d_Tr_truthOf_112 : decode y_Tr_truthOf.2.1 112 = .ok (.iaload, 1) := by decide +kernel
theorem d_Tr_truthOf_113 : decode y_Tr_truthOf.2.1 113 = .ok (.laload, 1) := by decide +kernel
theorem d_Tr_truthOf_114 : decode y_Tr_truthOf.2.1 114 = .ok (.lor, 1) := by decide +kernel
theorem d_Tr_truthOf_115 : decode y_Tr_truthOf.2.1 115 = .ok (.lreturn, 1) := by decide +kernel
def y_Tr_numberOf : MethodName × ByteArray × Nat × Option FieldType × List (Nat × Nat × Nat × Nat) := (⟨"MaskedCauses$Tree", "numberOf", "(I)I"⟩, prog_10_method_8_code, 2, (Option.some Jvm.ClassFile.FieldType.int), [])
theorem d_Tr_numberOf_0 : decode y_Tr_numberOf.2.1 0 = .ok (.aload_n 0, 1) := by decide +kernel
theorem d_Tr_numberOf_1 : decode y_Tr_numberOf.2.1 1 = .ok (.getfield 32, 3) := by decide +kernel
theorem d_Tr_numberOf_4 : decode y_Tr_numberOf.2.1 4 = .ok (.iconst 1, 1) := by decide +kernel
theorem d_Tr_numberOf_5 : decode y_Tr_numberOf.2.1 5 = .ok (.iload_n 1, 1) := by decide +kernel
theorem d_Tr_numberOf_6 : decode y_Tr_numberOf.2.1 6 = .ok (.ishl, 1) := by decide +kernel
theorem d_Tr_numberOf_7 : decode y_Tr_numberOf.2.1 7 = .ok (.iconst 1, 1) := by decide +kernel
theorem d_Tr_numberOf_8 : decode y_Tr_numberOf.2.1 8 = .ok (.isub, 1) := by decide +kernel
theorem d_Tr_numberOf_9 : decode y_Tr_numberOf.2.1 9 = .ok (.iand, 1) := by decide +kernel
theorem d_Tr_numberOf_10 : decode y_Tr_numberOf.2.1 10 = .ok (.invokestatic 52, 3) := by decide +kernel
theorem d_Tr_numberOf_13 : decode y_Tr_numberOf.2.1 13 = .ok (.ireturn, 1) := by decide +kernel
def y_Tr_findReached : MethodName × ByteArray × Nat × Option FieldType × List (Nat × Nat × Nat × Nat) := (⟨"MaskedCauses$Tree", "findReached", "(Z[J)V"⟩, prog_10_method_9_code, 4, (Option.none : Option Jvm.ClassFile.FieldType), [])
theorem d_Tr_findReached_0 : decode y_Tr_findReached.2.1 0 = .ok (.aload_n 0, 1) := by decide +kernel
theorem d_Tr_findReached_1 : decode y_Tr_findReached.2.1 1 = .ok (.getfield 28, 3) := by decide +kernel
theorem d_Tr_findReached_4 : decode y_Tr_findReached.2.1 4 = .ok (.iconst 1, 1) := by decide +kernel
theorem d_Tr_findReached_5 : decode y_Tr_findReached.2.1 5 = .ok (.isub, 1) := by decide +kernel
theorem d_Tr_findReached_6 : decode y_Tr_findReached.2.1 6 = .ok (.istore_n 3, 1) := by decide +kernel
theorem d_Tr_findReached_7 : decode y_Tr_findReached.2.1 7 = .ok (.iload_n 3, 1) := by decide +kernel
theorem d_Tr_findReached_8 : decode y_Tr_findReached.2.1 8 = .ok (.ifCond .lt 68, 3) := by decide +kernel
theorem d_Tr_findReached_11 : decode y_Tr_findReached.2.1 11 = .ok (.iload_n 3, 1) := by decide +kernel
theorem d_Tr_findReached_12 : decode y_Tr_findReached.2.1 12 = .ok (.aload_n 0, 1) := by decide +kernel
theorem d_Tr_findReached_13 : decode y_Tr_findReached.2.1 13 = .ok (.getfield 28, 3) := by decide +kernel
theorem d_Tr_findReached_16 : decode y_Tr_findReached.2.1 16 = .ok (.iconst 1, 1) := by decide +kernel
theorem d_Tr_findReached_17 : decode y_Tr_findReached.2.1 17 = .ok (.isub, 1) := by decide +kernel
theorem d_Tr_findReached_18 : decode y_Tr_findReached.2.1 18 = .ok (.if_icmp .ne 12, 3) := by decide +kernel
theorem d_Tr_findReached_21 : decode y_Tr_findReached.2.1 21 = .ok (.aload_n 0, 1) := by decide +kernel
theorem d_Tr_findReached_22 : decode y_Tr_findReached.2.1 22 = .ok (.getfield 25, 3) := by decide +kernel
theorem d_Tr_findReached_25 : decode y_Tr_findReached.2.1 25 = .ok (.iload_n 3, 1) := by decide +kernel
theorem d_Tr_findReached_26 : decode y_Tr_findReached.2.1 26 = .ok (.ldc2_w 50, 3) := by decide +kernel
theorem d_Tr_findReached_29 : decode y_Tr_findReached.2.1 29 = .ok (.lastore, 1) := by decide +kernel
theorem d_Tr_findReached_30 : decode y_Tr_findReached.2.1 30 = .ok (.aload_n 0, 1) := by decide +kernel
theorem d_Tr_findReached_31 : decode y_Tr_findReached.2.1 31 = .ok (.getfield 9, 3) := by decide +kernel
theorem d_Tr_findReached_34 : decode y_Tr_findReached.2.1 34 = .ok (.iload_n 3, 1) := by decide +kernel
theorem d_Tr_findReached_35 : decode y_Tr_findReached.2.1 35 = .ok (.iaload, 1) := by decide +kernel
theorem d_Tr_findReached_36 : decode y_Tr_findReached.2.1 36 = .ok (.iconst 4, 1) := by decide +kernel
theorem d_Tr_findReached_37 : decode y_Tr_findReached.2.1 37 = .ok (.if_icmp .ne 27, 3) := by decide +kernel
theorem d_Tr_findReached_40 : decode y_Tr_findReached.2.1 40 = .ok (.aload_n 2, 1) := by decide +kernel
theorem d_Tr_findReached_41 : decode y_Tr_findReached.2.1 41 = .ok (.aload_n 0, 1) := by decide +kernel
theorem d_Tr_findReached_42 : decode y_Tr_findReached.2.1 42 = .ok (.aload_n 0, 1) := by decide +kernel
theorem d_Tr_findReached_43 : decode y_Tr_findReached.2.1 43 = .ok (.getfield 15, 3) := by decide +kernel
theorem d_Tr_findReached_46 : decode y_Tr_findReached.2.1 46 = .ok (.iload_n 3, 1) := by decide +kernel
theorem d_Tr_findReached_47 : decode y_Tr_findReached.2.1 47 = .ok (.iaload, 1) := by decide +kernel
theorem d_Tr_findReached_48 : decode y_Tr_findReached.2.1 48 = .ok (.invokevirtual 46, 3) := by decide +kernel
theorem d_Tr_findReached_51 : decode y_Tr_findReached.2.1 51 = .ok (.dup2, 1) := by decide +kernel
theorem d_Tr_findReached_52 : decode y_Tr_findReached.2.1 52 = .ok (.laload, 1) := by decide +kernel
theorem d_Tr_findReached_53 : decode y_Tr_findReached.2.1 53 = .ok (.aload_n 0, 1) := by decide +kernel
theorem d_Tr_findReached_54 : decode y_Tr_findReached.2.1 54 = .ok (.getfield 25, 3) := by decide +kernel
theorem d_Tr_findReached_57 : decode y_Tr_findReached.2.1 57 = .ok (.iload_n 3, 1) := by decide +kernel
theorem d_Tr_findReached_58 : decode y_Tr_findReached.2.1 58 = .ok (.laload, 1) := by decide +kernel
theorem d_Tr_findReached_59 : decode y_Tr_findReached.2.1 59 = .ok (.lor, 1) := by decide +kernel
theorem d_Tr_findReached_60 : decode y_Tr_findReached.2.1 60 = .ok (.lastore, 1) := by decide +kernel
theorem d_Tr_findReached_61 : decode y_Tr_findReached.2.1 61 = .ok (.goto 9, 3) := by decide +kernel
theorem d_Tr_findReached_64 : decode y_Tr_findReached.2.1 64 = .ok (.aload_n 0, 1) := by decide +kernel
theorem d_Tr_findReached_65 : decode y_Tr_findReached.2.1 65 = .ok (.iload_n 3, 1) := by decide +kernel
theorem d_Tr_findReached_66 : decode y_Tr_findReached.2.1 66 = .ok (.iload_n 1, 1) := by decide +kernel
theorem d_Tr_findReached_67 : decode y_Tr_findReached.2.1 67 = .ok (.invokevirtual 57, 3) := by decide +kernel
theorem d_Tr_findReached_70 : decode y_Tr_findReached.2.1 70 = .ok (.iinc 3 (-1), 3) := by decide +kernel
theorem d_Tr_findReached_73 : decode y_Tr_findReached.2.1 73 = .ok (.goto (-66), 3) := by decide +kernel
theorem d_Tr_findReached_76 : decode y_Tr_findReached.2.1 76 = .ok (.return_, 1) := by decide +kernel
def y_Tr_reachParts : MethodName × ByteArray × Nat × Option FieldType × List (Nat × Nat × Nat × Nat) := (⟨"MaskedCauses$Tree", "reachParts", "(IZ)V"⟩, prog_10_method_10_code, 5, (Option.none : Option Jvm.ClassFile.FieldType), [])
theorem d_Tr_reachParts_0 : decode y_Tr_reachParts.2.1 0 = .ok (.aload_n 0, 1) := by decide +kernel
theorem d_Tr_reachParts_1 : decode y_Tr_reachParts.2.1 1 = .ok (.getfield 25, 3) := by decide +kernel
theorem d_Tr_reachParts_4 : decode y_Tr_reachParts.2.1 4 = .ok (.aload_n 0, 1) := by decide +kernel
theorem d_Tr_reachParts_5 : decode y_Tr_reachParts.2.1 5 = .ok (.getfield 15, 3) := by decide +kernel
theorem d_Tr_reachParts_8 : decode y_Tr_reachParts.2.1 8 = .ok (.iload_n 1, 1) := by decide +kernel
theorem d_Tr_reachParts_9 : decode y_Tr_reachParts.2.1 9 = .ok (.iaload, 1) := by decide +kernel
theorem d_Tr_reachParts_10 : decode y_Tr_reachParts.2.1 10 = .ok (.aload_n 0, 1) := by decide +kernel
theorem d_Tr_reachParts_11 : decode y_Tr_reachParts.2.1 11 = .ok (.getfield 25, 3) := by decide +kernel
theorem d_Tr_reachParts_14 : decode y_Tr_reachParts.2.1 14 = .ok (.iload_n 1, 1) := by decide +kernel
theorem d_Tr_reachParts_15 : decode y_Tr_reachParts.2.1 15 = .ok (.laload, 1) := by decide +kernel
theorem d_Tr_reachParts_16 : decode y_Tr_reachParts.2.1 16 = .ok (.lastore, 1) := by decide +kernel
theorem d_Tr_reachParts_17 : decode y_Tr_reachParts.2.1 17 = .ok (.aload_n 0, 1) := by decide +kernel
theorem d_Tr_reachParts_18 : decode y_Tr_reachParts.2.1 18 = .ok (.getfield 9, 3) := by decide +kernel
theorem d_Tr_reachParts_21 : decode y_Tr_reachParts.2.1 21 = .ok (.iload_n 1, 1) := by decide +kernel
theorem d_Tr_reachParts_22 : decode y_Tr_reachParts.2.1 22 = .ok (.iaload, 1) := by decide +kernel
theorem d_Tr_reachParts_23 : decode y_Tr_reachParts.2.1 23 = .ok (.iconst 3, 1) := by decide +kernel
theorem d_Tr_reachParts_24 : decode y_Tr_reachParts.2.1 24 = .ok (.if_icmp .eq 38, 3) := by decide +kernel
theorem d_Tr_reachParts_27 : decode y_Tr_reachParts.2.1 27 = .ok (.iload_n 2, 1) := by decide +kernel
theorem d_Tr_reachParts_28 : decode y_Tr_reachParts.2.1 28 = .ok (.ifCond .eq 11, 3) := by decide +kernel
theorem d_Tr_reachParts_31 : decode y_Tr_reachParts.2.1 31 = .ok (.aload_n 0, 1) := by decide +kernel
theorem d_Tr_reachParts_32 : decode y_Tr_reachParts.2.1 32 = .ok (.iload_n 1, 1) := by decide +kernel
theorem d_Tr_reachParts_33 : decode y_Tr_reachParts.2.1 33 = .ok (.invokevirtual 61, 3) := by decide +kernel
theorem d_Tr_reachParts_36 : decode y_Tr_reachParts.2.1 36 = .ok (.goto 6, 3) := by decide +kernel
theorem d_Tr_reachParts_39 : decode y_Tr_reachParts.2.1 39 = .ok (.ldc2_w 50, 3) := by decide +kernel
theorem d_Tr_reachParts_42 : decode y_Tr_reachParts.2.1 42 = .ok (.lstore_n 3, 1) := by decide +kernel
theorem d_Tr_reachParts_43 : decode y_Tr_reachParts.2.1 43 = .ok (.aload_n 0, 1) := by decide +kernel
theorem d_Tr_reachParts_44 : decode y_Tr_reachParts.2.1 44 = .ok (.getfield 25, 3) := by decide +kernel
theorem d_Tr_reachParts_47 : decode y_Tr_reachParts.2.1 47 = .ok (.aload_n 0, 1) := by decide +kernel
theorem d_Tr_reachParts_48 : decode y_Tr_reachParts.2.1 48 = .ok (.getfield 18, 3) := by decide +kernel
theorem d_Tr_reachParts_51 : decode y_Tr_reachParts.2.1 51 = .ok (.iload_n 1, 1) := by decide +kernel
theorem d_Tr_reachParts_52 : decode y_Tr_reachParts.2.1 52 = .ok (.iaload, 1) := by decide +kernel
theorem d_Tr_reachParts_53 : decode y_Tr_reachParts.2.1 53 = .ok (.aload_n 0, 1) := by decide +kernel
theorem d_Tr_reachParts_54 : decode y_Tr_reachParts.2.1 54 = .ok (.getfield 25, 3) := by decide +kernel
theorem d_Tr_reachParts_57 : decode y_Tr_reachParts.2.1 57 = .ok (.iload_n 1, 1) := by decide +kernel
theorem d_Tr_reachParts_58 : decode y_Tr_reachParts.2.1 58 = .ok (.laload, 1) := by decide +kernel
theorem d_Tr_reachParts_59 : decode y_Tr_reachParts.2.1 59 = .ok (.lload_n 3, 1) := by decide +kernel
theorem d_Tr_reachParts_60 : decode y_Tr_reachParts.2.1 60 = .ok (.land, 1) := by decide +kernel
theorem d_Tr_reachParts_61 : decode y_Tr_reachParts.2.1 61 = .ok (.lastore, 1) := by decide +kernel
theorem d_Tr_reachParts_62 : decode y_Tr_reachParts.2.1 62 = .ok (.return_, 1) := by decide +kernel
def y_Tr_undecided : MethodName × ByteArray × Nat × Option FieldType × List (Nat × Nat × Nat × Nat) := (⟨"MaskedCauses$Tree", "undecided", "(I)J"⟩, prog_10_method_11_code, 4, (Option.some Jvm.ClassFile.FieldType.long), [])
theorem d_Tr_undecided_0 : decode y_Tr_undecided.2.1 0 = .ok (.aload_n 0, 1) := by decide +kernel
theorem d_Tr_undecided_1 : decode y_Tr_undecided.2.1 1 = .ok (.getfield 21, 3) := by decide +kernel
theorem d_Tr_undecided_4 : decode y_Tr_undecided.2.1 4 = .ok (.aload_n 0, 1) := by decide +kernel
theorem d_Tr_undecided_5 : decode y_Tr_undecided.2.1 5 = .ok (.getfield 15, 3) := by decide +kernel
theorem d_Tr_undecided_8 : decode y_Tr_undecided.2.1 8 = .ok (.iload_n 1, 1) := by decide +kernel
theorem d_Tr_undecided_9 : decode y_Tr_undecided.2.1 9 = .ok (.iaload, 1) := by decide +kernel
theorem d_Tr_undecided_10 : decode y_Tr_undecided.2.1 10 = .ok (.laload, 1) := by decide +kernel
theorem d_Tr_undecided_11 : decode y_Tr_undecided.2.1 11 = .ok (.lstore_n 2, 1) := by decide +kernel
theorem d_Tr_undecided_12 : decode y_Tr_undecided.2.1 12 = .ok (.aload_n 0, 1) := by decide +kernel
theorem d_Tr_undecided_13 : decode y_Tr_undecided.2.1 13 = .ok (.getfield 9, 3) := by decide +kernel
theorem d_Tr_undecided_16 : decode y_Tr_undecided.2.1 16 = .ok (.iload_n 1, 1) := by decide +kernel
theorem d_Tr_undecided_17 : decode y_Tr_undecided.2.1 17 = .ok (.iaload, 1) := by decide +kernel
theorem d_Tr_undecided_18 : decode y_Tr_undecided.2.1 18 = .ok (.lookupswitch 34 #[(0, 28), (2, 26)], 26) := by decide +kernel
theorem d_Tr_undecided_44 : decode y_Tr_undecided.2.1 44 = .ok (.lload_n 2, 1) := by decide +kernel
theorem d_Tr_undecided_45 : decode y_Tr_undecided.2.1 45 = .ok (.lreturn, 1) := by decide +kernel
theorem d_Tr_undecided_46 : decode y_Tr_undecided.2.1 46 = .ok (.lload_n 2, 1) := by decide +kernel
theorem d_Tr_undecided_47 : decode y_Tr_undecided.2.1 47 = .ok (.ldc2_w 50, 3) := by decide +kernel
theorem d_Tr_undecided_50 : decode y_Tr_undecided.2.1 50 = .ok (.lxor, 1) := by decide +kernel
theorem d_Tr_undecided_51 : decode y_Tr_undecided.2.1 51 = .ok (.lreturn, 1) := by decide +kernel
theorem d_Tr_undecided_52 : decode y_Tr_undecided.2.1 52 = .ok (.ldc2_w 50, 3) := by decide +kernel
theorem d_Tr_undecided_55 : decode y_Tr_undecided.2.1 55 = .ok (.lreturn, 1) := by decide +kernel
def y_Tr_writeOn : MethodName × ByteArray × Nat × Option FieldType × List (Nat × Nat × Nat × Nat) := (⟨"MaskedCauses$Tree", "writeOn", "(LMaskedCauses$Line;)V"⟩, prog_10_method_12_code, 2, (Option.none : Option Jvm.ClassFile.FieldType), [])
theorem d_Tr_writeOn_0 : decode y_Tr_writeOn.2.1 0 = .ok (.aload_n 1, 1) := by decide +kernel
theorem d_Tr_writeOn_1 : decode y_Tr_writeOn.2.1 1 = .ok (.invokevirtual 64, 3) := by decide +kernel
theorem d_Tr_writeOn_4 : decode y_Tr_writeOn.2.1 4 = .ok (.pop, 1) := by decide +kernel
theorem d_Tr_writeOn_5 : decode y_Tr_writeOn.2.1 5 = .ok (.aload_n 0, 1) := by decide +kernel
theorem d_Tr_writeOn_6 : decode y_Tr_writeOn.2.1 6 = .ok (.getfield 28, 3) := by decide +kernel
theorem d_Tr_writeOn_9 : decode y_Tr_writeOn.2.1 9 = .ok (.ifCond .le 17, 3) := by decide +kernel
theorem d_Tr_writeOn_12 : decode y_Tr_writeOn.2.1 12 = .ok (.aload_n 0, 1) := by decide +kernel
theorem d_Tr_writeOn_13 : decode y_Tr_writeOn.2.1 13 = .ok (.aload_n 0, 1) := by decide +kernel
theorem d_Tr_writeOn_14 : decode y_Tr_writeOn.2.1 14 = .ok (.getfield 28, 3) := by decide +kernel
theorem d_Tr_writeOn_17 : decode y_Tr_writeOn.2.1 17 = .ok (.iconst 1, 1) := by decide +kernel
theorem d_Tr_writeOn_18 : decode y_Tr_writeOn.2.1 18 = .ok (.isub, 1) := by decide +kernel
theorem d_Tr_writeOn_19 : decode y_Tr_writeOn.2.1 19 = .ok (.iconst 0, 1) := by decide +kernel
theorem d_Tr_writeOn_20 : decode y_Tr_writeOn.2.1 20 = .ok (.aload_n 1, 1) := by decide +kernel
theorem d_Tr_writeOn_21 : decode y_Tr_writeOn.2.1 21 = .ok (.bipush 40, 2) := by decide +kernel
theorem d_Tr_writeOn_23 : decode y_Tr_writeOn.2.1 23 = .ok (.invokevirtual 70, 3) := by decide +kernel
theorem d_Tr_writeOn_26 : decode y_Tr_writeOn.2.1 26 = .ok (.return_, 1) := by decide +kernel
def y_Tr_write : MethodName × ByteArray × Nat × Option FieldType × List (Nat × Nat × Nat × Nat) := (⟨"MaskedCauses$Tree", "write", "(IILMaskedCauses$Line;I)V"⟩, prog_10_method_13_code, 7, (Option.none : Option Jvm.ClassFile.FieldType), [])
theorem d_Tr_write_0 : decode y_Tr_write.2.1 0 = .ok (.iload 4, 2) := by decide +kernel
theorem d_Tr_write_2 : decode y_Tr_write.2.1 2 = .ok (.ifCond .ne 4, 3) := by decide +kernel
theorem d_Tr_write_5 : decode y_Tr_write.2.1 5 = .ok (.return_, 1) := by decide +kernel
theorem d_Tr_write_6 : decode y_Tr_write.2.1 6 = .ok (.aload_n 0, 1) := by decide +kernel
theorem d_Tr_write_7 : decode y_Tr_write.2.1 7 = .ok (.getfield 9, 3) := by decide +kernel
theorem d_Tr_write_10 : decode y_Tr_write.2.1 10 = .ok (.iload_n 1, 1) := by decide +kernel
theorem d_Tr_write_11 : decode y_Tr_write.2.1 11 = .ok (.iaload, 1) := by decide +kernel
theorem d_Tr_write_12 : decode y_Tr_write.2.1 12 = .ok (.istore 5, 2) := by decide +kernel
theorem d_Tr_write_14 : decode y_Tr_write.2.1 14 = .ok (.iload 5, 2) := by decide +kernel
theorem d_Tr_write_16 : decode y_Tr_write.2.1 16 = .ok (.iload_n 2, 1) := by decide +kernel
theorem d_Tr_write_17 : decode y_Tr_write.2.1 17 = .ok (.if_icmp .ge 7, 3) := by decide +kernel
theorem d_Tr_write_20 : decode y_Tr_write.2.1 20 = .ok (.iconst 1, 1) := by decide +kernel
theorem d_Tr_write_21 : decode y_Tr_write.2.1 21 = .ok (.goto 4, 3) := by decide +kernel
theorem d_Tr_write_24 : decode y_Tr_write.2.1 24 = .ok (.iconst 0, 1) := by decide +kernel
theorem d_Tr_write_25 : decode y_Tr_write.2.1 25 = .ok (.istore 6, 2) := by decide +kernel
theorem d_Tr_write_27 : decode y_Tr_write.2.1 27 = .ok (.iload 6, 2) := by decide +kernel
theorem d_Tr_write_29 : decode y_Tr_write.2.1 29 = .ok (.ifCond .eq 10, 3) := by decide +kernel
theorem d_Tr_write_32 : decode y_Tr_write.2.1 32 = .ok (.aload_n 3, 1) := by decide +kernel
theorem d_Tr_write_33 : decode y_Tr_write.2.1 33 = .ok (.bipush 40, 2) := by decide +kernel
theorem d_Tr_write_35 : decode y_Tr_write.2.1 35 = .ok (.invokevirtual 74, 3) := by decide +kernel
theorem d_Tr_write_38 : decode y_Tr_write.2.1 38 = .ok (.pop, 1) := by decide +kernel
theorem d_Tr_write_39 : decode y_Tr_write.2.1 39 = .ok (.iload 5, 2) := by decide +kernel
theorem d_Tr_write_41 : decode y_Tr_write.2.1 41 = .ok (.iconst 4, 1) := by decide +kernel
theorem d_Tr_write_42 : decode y_Tr_write.2.1 42 = .ok (.if_icmp .ne 21, 3) := by decide +kernel
theorem d_Tr_write_45 : decode y_Tr_write.2.1 45 = .ok (.aload_n 3, 1) := by decide +kernel
theorem d_Tr_write_46 : decode y_Tr_write.2.1 46 = .ok (.bipush 65, 2) := by decide +kernel
theorem d_Tr_write_48 : decode y_Tr_write.2.1 48 = .ok (.aload_n 0, 1) := by decide +kernel
theorem d_Tr_write_49 : decode y_Tr_write.2.1 49 = .ok (.getfield 15, 3) := by decide +kernel
theorem d_Tr_write_52 : decode y_Tr_write.2.1 52 = .ok (.iload_n 1, 1) := by decide +kernel
theorem d_Tr_write_53 : decode y_Tr_write.2.1 53 = .ok (.iaload, 1) := by decide +kernel
theorem d_Tr_write_54 : decode y_Tr_write.2.1 54 = .ok (.iadd, 1) := by decide +kernel
theorem d_Tr_write_55 : decode y_Tr_write.2.1 55 = .ok (.i2c, 1) := by decide +kernel
theorem d_Tr_write_56 : decode y_Tr_write.2.1 56 = .ok (.invokevirtual 74, 3) := by decide +kernel
theorem d_Tr_write_59 : decode y_Tr_write.2.1 59 = .ok (.pop, 1) := by decide +kernel
theorem d_Tr_write_60 : decode y_Tr_write.2.1 60 = .ok (.goto 86, 3) := by decide +kernel
theorem d_Tr_write_63 : decode y_Tr_write.2.1 63 = .ok (.iload 5, 2) := by decide +kernel
theorem d_Tr_write_65 : decode y_Tr_write.2.1 65 = .ok (.iconst 3, 1) := by decide +kernel
theorem d_Tr_write_66 : decode y_Tr_write.2.1 66 = .ok (.if_icmp .ne 34, 3) := by decide +kernel
theorem d_Tr_write_69 : decode y_Tr_write.2.1 69 = .ok (.aload_n 3, 1) := by decide +kernel
theorem d_Tr_write_70 : decode y_Tr_write.2.1 70 = .ok (.ldc 78, 2) := by decide +kernel
theorem d_Tr_write_72 : decode y_Tr_write.2.1 72 = .ok (.iconst 3, 1) := by decide +kernel
theorem d_Tr_write_73 : decode y_Tr_write.2.1 73 = .ok (.invokevirtual 80, 3) := by decide +kernel
theorem d_Tr_write_76 : decode y_Tr_write.2.1 76 = .ok (.invokevirtual 74, 3) := by decide +kernel
theorem d_Tr_write_79 : decode y_Tr_write.2.1 79 = .ok (.pop, 1) := by decide +kernel
theorem d_Tr_write_80 : decode y_Tr_write.2.1 80 = .ok (.aload_n 0, 1) := by decide +kernel
theorem d_Tr_write_81 : decode y_Tr_write.2.1 81 = .ok (.aload_n 0, 1) := by decide +kernel
theorem d_Tr_write_82 : decode y_Tr_write.2.1 82 = .ok (.getfield 15, 3) := by decide +kernel
theorem d_Tr_write_85 : decode y_Tr_write.2.1 85 = .ok (.iload_n 1, 1) := by decide +kernel
theorem d_Tr_write_86 : decode y_Tr_write.2.1 86 = .ok (.iaload, 1) := by decide +kernel
theorem d_Tr_write_87 : decode y_Tr_write.2.1 87 = .ok (.iload 5, 2) := by decide +kernel
theorem d_Tr_write_89 : decode y_Tr_write.2.1 89 = .ok (.aload_n 3, 1) := by decide +kernel
theorem d_Tr_write_90 : decode y_Tr_write.2.1 90 = .ok (.iload 4, 2) := by decide +kernel
theorem d_Tr_write_92 : decode y_Tr_write.2.1 92 = .ok (.iconst 1, 1) := by decide +kernel
theorem d_Tr_write_93 : decode y_Tr_write.2.1 93 = .ok (.isub, 1) := by decide +kernel
theorem d_Tr_write_94 : decode y_Tr_write.2.1 94 = .ok (.invokevirtual 70, 3) := by decide +kernel
theorem d_Tr_write_97 : decode y_Tr_write.2.1 97 = .ok (.goto 49, 3) := by decide +kernel
theorem d_Tr_write_100 : decode y_Tr_write.2.1 100 = .ok (.aload_n 0, 1) := by decide +kernel
theorem d_Tr_write_101 : decode y_Tr_write.2.1 101 = .ok (.aload_n 0, 1) := by decide +kernel
theorem d_Tr_write_102 : decode y_Tr_write.2.1 102 = .ok (.getfield 15, 3) := by decide +kernel
theorem d_Tr_write_105 : decode y_Tr_write.2.1 105 = .ok (.iload_n 1, 1) := by decide +kernel
theorem d_Tr_write_106 : decode y_Tr_write.2.1 106 = .ok (.iaload, 1) := by decide +kernel
theorem d_Tr_write_107 : decode y_Tr_write.2.1 107 = .ok (.iload 5, 2) := by decide +kernel
theorem d_Tr_write_109 : decode y_Tr_write.2.1 109 = .ok (.aload_n 3, 1) := by decide +kernel
theorem d_Tr_write_110 : decode y_Tr_write.2.1 110 = .ok (.iload 4, 2) := by decide +kernel
theorem d_Tr_write_112 : decode y_Tr_write.2.1 112 = .ok (.iconst 1, 1) := by decide +kernel
theorem d_Tr_write_113 : decode y_Tr_write.2.1 113 = .ok (.isub, 1) := by decide +kernel
theorem d_Tr_write_114 : decode y_Tr_write.2.1 114 = .ok (.invokevirtual 70, 3) := by decide +kernel
theorem d_Tr_write_117 : decode y_Tr_write.2.1 117 = .ok (.aload_n 3, 1) := by decide +kernel
theorem d_Tr_write_118 : decode y_Tr_write.2.1 118 = .ok (.ldc 78, 2) := by decide +kernel
theorem d_Tr_write_120 : decode y_Tr_write.2.1 120 = .ok (.iload 5, 2) := by decide +kernel
theorem d_Tr_write_122 : decode y_Tr_write.2.1 122 = .ok (.invokevirtual 80, 3) := by decide +kernel
theorem d_Tr_write_125 : decode y_Tr_write.2.1 125 = .ok (.invokevirtual 74, 3) := by decide +kernel
theorem d_Tr_write_128 : decode y_Tr_write.2.1 128 = .ok (.pop, 1) := by decide +kernel
theorem d_Tr_write_129 : decode y_Tr_write.2.1 129 = .ok (.aload_n 0, 1) := by decide +kernel
theorem d_Tr_write_130 : decode y_Tr_write.2.1 130 = .ok (.aload_n 0, 1) := by decide +kernel
theorem d_Tr_write_131 : decode y_Tr_write.2.1 131 = .ok (.getfield 18, 3) := by decide +kernel
theorem d_Tr_write_134 : decode y_Tr_write.2.1 134 = .ok (.iload_n 1, 1) := by decide +kernel
theorem d_Tr_write_135 : decode y_Tr_write.2.1 135 = .ok (.iaload, 1) := by decide +kernel
theorem d_Tr_write_136 : decode y_Tr_write.2.1 136 = .ok (.iload 5, 2) := by decide +kernel
theorem d_Tr_write_138 : decode y_Tr_write.2.1 138 = .ok (.aload_n 3, 1) := by decide +kernel
theorem d_Tr_write_139 : decode y_Tr_write.2.1 139 = .ok (.iload 4, 2) := by decide +kernel
theorem d_Tr_write_141 : decode y_Tr_write.2.1 141 = .ok (.iconst 1, 1) := by decide +kernel
theorem d_Tr_write_142 : decode y_Tr_write.2.1 142 = .ok (.isub, 1) := by decide +kernel
theorem d_Tr_write_143 : decode y_Tr_write.2.1 143 = .ok (.invokevirtual 70, 3) := by decide +kernel
theorem d_Tr_write_146 : decode y_Tr_write.2.1 146 = .ok (.iload 6, 2) := by decide +kernel
theorem d_Tr_write_148 : decode y_Tr_write.2.1 148 = .ok (.ifCond .eq 10, 3) := by decide +kernel
theorem d_Tr_write_151 : decode y_Tr_write.2.1 151 = .ok (.aload_n 3, 1) := by decide +kernel
theorem d_Tr_write_152 : decode y_Tr_write.2.1 152 = .ok (.bipush 41, 2) := by decide +kernel
theorem d_Tr_write_154 : decode y_Tr_write.2.1 154 = .ok (.invokevirtual 74, 3) := by decide +kernel
theorem d_Tr_write_157 : decode y_Tr_write.2.1 157 = .ok (.pop, 1) := by decide +kernel
theorem d_Tr_write_158 : decode y_Tr_write.2.1 158 = .ok (.return_, 1) := by decide +kernel
def y_Re_init : MethodName × ByteArray × Nat × Option FieldType × List (Nat × Nat × Nat × Nat) := (⟨"MaskedCauses$Reader", "<init>", "(LMaskedCauses$Line;LMaskedCauses$Tree;)V"⟩, prog_7_method_1_code, 3, (Option.none : Option Jvm.ClassFile.FieldType), [])
theorem d_Re_init_0 : decode y_Re_init.2.1 0 = .ok (.aload_n 0, 1) := by decide +kernel
theorem d_Re_init_1 : decode y_Re_init.2.1 1 = .ok (.invokespecial 3, 3) := by decide +kernel
theorem d_Re_init_4 : decode y_Re_init.2.1 4 = .ok (.aload_n 0, 1) := by decide +kernel
theorem d_Re_init_5 : decode y_Re_init.2.1 5 = .ok (.iconst 0, 1) := by decide +kernel
theorem d_Re_init_6 : decode y_Re_init.2.1 6 = .ok (.putfield 9, 3) := by decide +kernel
theorem d_Re_init_9 : decode y_Re_init.2.1 9 = .ok (.aload_n 0, 1) := by decide +kernel
theorem d_Re_init_10 : decode y_Re_init.2.1 10 = .ok (.iconst 0, 1) := by decide +kernel
theorem d_Re_init_11 : decode y_Re_init.2.1 11 = .ok (.putfield 15, 3) := by decide +kernel
theorem d_Re_init_14 : decode y_Re_init.2.1 14 = .ok (.aload_n 0, 1) := by decide +kernel
theorem d_Re_init_15 : decode y_Re_init.2.1 15 = .ok (.iconst (-1), 1) := by decide +kernel
theorem d_Re_init_16 : decode y_Re_init.2.1 16 = .ok (.putfield 18, 3) := by decide +kernel
theorem d_Re_init_19 : decode y_Re_init.2.1 19 = .ok (.aload_n 0, 1) := by decide +kernel
theorem d_Re_init_20 : decode y_Re_init.2.1 20 = .ok (.aload_n 1, 1) := by decide +kernel
theorem d_Re_init_21 : decode y_Re_init.2.1 21 = .ok (.putfield 21, 3) := by decide +kernel
theorem d_Re_init_24 : decode y_Re_init.2.1 24 = .ok (.aload_n 0, 1) := by decide +kernel
theorem d_Re_init_25 : decode y_Re_init.2.1 25 = .ok (.aload_n 2, 1) := by decide +kernel
theorem d_Re_init_26 : decode y_Re_init.2.1 26 = .ok (.putfield 25, 3) := by decide +kernel
theorem d_Re_init_29 : decode y_Re_init.2.1 29 = .ok (.return_, 1) := by decide +kernel
def y_Re_read : MethodName × ByteArray × Nat × Option FieldType × List (Nat × Nat × Nat × Nat) := (⟨"MaskedCauses$Reader", "read", "(I)I"⟩, prog_7_method_2_code, 2, (Option.some Jvm.ClassFile.FieldType.int), [])
theorem d_Re_read_0 : decode y_Re_read.2.1 0 = .ok (.aload_n 0, 1) := by decide +kernel
theorem d_Re_read_1 : decode y_Re_read.2.1 1 = .ok (.iload_n 1, 1) := by decide +kernel
theorem d_Re_read_2 : decode y_Re_read.2.1 2 = .ok (.putfield 9, 3) := by decide +kernel
theorem d_Re_read_5 : decode y_Re_read.2.1 5 = .ok (.aload_n 0, 1) := by decide +kernel
theorem d_Re_read_6 : decode y_Re_read.2.1 6 = .ok (.iconst 0, 1) := by decide +kernel
theorem d_Re_read_7 : decode y_Re_read.2.1 7 = .ok (.putfield 15, 3) := by decide +kernel
theorem d_Re_read_10 : decode y_Re_read.2.1 10 = .ok (.aload_n 0, 1) := by decide +kernel
theorem d_Re_read_11 : decode y_Re_read.2.1 11 = .ok (.iconst (-1), 1) := by decide +kernel
theorem d_Re_read_12 : decode y_Re_read.2.1 12 = .ok (.putfield 18, 3) := by decide +kernel
theorem d_Re_read_15 : decode y_Re_read.2.1 15 = .ok (.aload_n 0, 1) := by decide +kernel
theorem d_Re_read_16 : decode y_Re_read.2.1 16 = .ok (.getfield 25, 3) := by decide +kernel
theorem d_Re_read_19 : decode y_Re_read.2.1 19 = .ok (.invokevirtual 29, 3) := by decide +kernel
theorem d_Re_read_22 : decode y_Re_read.2.1 22 = .ok (.aload_n 0, 1) := by decide +kernel
theorem d_Re_read_23 : decode y_Re_read.2.1 23 = .ok (.iconst 0, 1) := by decide +kernel
theorem d_Re_read_24 : decode y_Re_read.2.1 24 = .ok (.iconst 1, 1) := by decide +kernel
theorem d_Re_read_25 : decode y_Re_read.2.1 25 = .ok (.invokevirtual 34, 3) := by decide +kernel
theorem d_Re_read_28 : decode y_Re_read.2.1 28 = .ok (.pop, 1) := by decide +kernel
theorem d_Re_read_29 : decode y_Re_read.2.1 29 = .ok (.aload_n 0, 1) := by decide +kernel
theorem d_Re_read_30 : decode y_Re_read.2.1 30 = .ok (.getfield 18, 3) := by decide +kernel
theorem d_Re_read_33 : decode y_Re_read.2.1 33 = .ok (.iconst (-1), 1) := by decide +kernel
theorem d_Re_read_34 : decode y_Re_read.2.1 34 = .ok (.if_icmp .ne 25, 3) := by decide +kernel
theorem d_Re_read_37 : decode y_Re_read.2.1 37 = .ok (.aload_n 0, 1) := by decide +kernel
theorem d_Re_read_38 : decode y_Re_read.2.1 38 = .ok (.getfield 15, 3) := by decide +kernel
theorem d_Re_read_41 : decode y_Re_read.2.1 41 = .ok (.aload_n 0, 1) := by decide +kernel
theorem d_Re_read_42 : decode y_Re_read.2.1 42 = .ok (.getfield 21, 3) := by decide +kernel
theorem d_Re_read_45 : decode y_Re_read.2.1 45 = .ok (.invokevirtual 38, 3) := by decide +kernel
theorem d_Re_read_48 : decode y_Re_read.2.1 48 = .ok (.if_icmp .ge 11, 3) := by decide +kernel
theorem d_Re_read_51 : decode y_Re_read.2.1 51 = .ok (.aload_n 0, 1) := by decide +kernel
theorem d_Re_read_52 : decode y_Re_read.2.1 52 = .ok (.aload_n 0, 1) := by decide +kernel
theorem d_Re_read_53 : decode y_Re_read.2.1 53 = .ok (.getfield 15, 3) := by decide +kernel
theorem d_Re_read_56 : decode y_Re_read.2.1 56 = .ok (.putfield 18, 3) := by decide +kernel
theorem d_Re_read_59 : decode y_Re_read.2.1 59 = .ok (.aload_n 0, 1) := by decide +kernel
theorem d_Re_read_60 : decode y_Re_read.2.1 60 = .ok (.getfield 18, 3) := by decide +kernel
theorem d_Re_read_63 : decode y_Re_read.2.1 63 = .ok (.ireturn, 1) := by decide +kernel
def y_Re_readJoined : MethodName × ByteArray × Nat × Option FieldType × List (Nat × Nat × Nat × Nat) := (⟨"MaskedCauses$Reader", "readJoined", "(II)I"⟩, prog_7_method_3_code, 5, (Option.some Jvm.ClassFile.FieldType.int), [])
theorem d_Re_readJoined_0 : decode y_Re_readJoined.2.1 0 = .ok (.iload_n 1, 1) := by decide +kernel
theorem d_Re_readJoined_1 : decode y_Re_readJoined.2.1 1 = .ok (.iconst 3, 1) := by decide +kernel
theorem d_Re_readJoined_2 : decode y_Re_readJoined.2.1 2 = .ok (.if_icmp .ne 9, 3) := by decide +kernel
theorem d_Re_readJoined_5 : decode y_Re_readJoined.2.1 5 = .ok (.aload_n 0, 1) := by decide +kernel
theorem d_Re_readJoined_6 : decode y_Re_readJoined.2.1 6 = .ok (.iload_n 2, 1) := by decide +kernel
theorem d_Re_readJoined_7 : decode y_Re_readJoined.2.1 7 = .ok (.invokevirtual 44, 3) := by decide +kernel
theorem d_Re_readJoined_10 : decode y_Re_readJoined.2.1 10 = .ok (.ireturn, 1) := by decide +kernel
theorem d_Re_readJoined_11 : decode y_Re_readJoined.2.1 11 = .ok (.aload_n 0, 1) := by decide +kernel
theorem d_Re_readJoined_12 : decode y_Re_readJoined.2.1 12 = .ok (.iload_n 1, 1) := by decide +kernel
theorem d_Re_readJoined_13 : decode y_Re_readJoined.2.1 13 = .ok (.iconst 1, 1) := by decide +kernel
theorem d_Re_readJoined_14 : decode y_Re_readJoined.2.1 14 = .ok (.iadd, 1) := by decide +kernel
theorem d_Re_readJoined_15 : decode y_Re_readJoined.2.1 15 = .ok (.iload_n 2, 1) := by decide +kernel
theorem d_Re_readJoined_16 : decode y_Re_readJoined.2.1 16 = .ok (.invokevirtual 34, 3) := by decide +kernel
theorem d_Re_readJoined_19 : decode y_Re_readJoined.2.1 19 = .ok (.istore_n 3, 1) := by decide +kernel
theorem d_Re_readJoined_20 : decode y_Re_readJoined.2.1 20 = .ok (.aload_n 0, 1) := by decide +kernel
theorem d_Re_readJoined_21 : decode y_Re_readJoined.2.1 21 = .ok (.getfield 18, 3) := by decide +kernel
theorem d_Re_readJoined_24 : decode y_Re_readJoined.2.1 24 = .ok (.iconst (-1), 1) := by decide +kernel
theorem d_Re_readJoined_25 : decode y_Re_readJoined.2.1 25 = .ok (.if_icmp .ne 72, 3) := by decide +kernel
theorem d_Re_readJoined_28 : decode y_Re_readJoined.2.1 28 = .ok (.aload_n 0, 1) := by decide +kernel
theorem d_Re_readJoined_29 : decode y_Re_readJoined.2.1 29 = .ok (.getfield 15, 3) := by decide +kernel
theorem d_Re_readJoined_32 : decode y_Re_readJoined.2.1 32 = .ok (.aload_n 0, 1) := by decide +kernel
theorem d_Re_readJoined_33 : decode y_Re_readJoined.2.1 33 = .ok (.getfield 21, 3) := by decide +kernel
theorem d_Re_readJoined_36 : decode y_Re_readJoined.2.1 36 = .ok (.invokevirtual 38, 3) := by decide +kernel
theorem d_Re_readJoined_39 : decode y_Re_readJoined.2.1 39 = .ok (.if_icmp .ge 58, 3) := by decide +kernel
theorem d_Re_readJoined_42 : decode y_Re_readJoined.2.1 42 = .ok (.aload_n 0, 1) := by decide +kernel
theorem d_Re_readJoined_43 : decode y_Re_readJoined.2.1 43 = .ok (.getfield 21, 3) := by decide +kernel
theorem d_Re_readJoined_46 : decode y_Re_readJoined.2.1 46 = .ok (.aload_n 0, 1) := by decide +kernel
theorem d_Re_readJoined_47 : decode y_Re_readJoined.2.1 47 = .ok (.getfield 15, 3) := by decide +kernel
theorem d_Re_readJoined_50 : decode y_Re_readJoined.2.1 50 = .ok (.invokevirtual 48, 3) := by decide +kernel
theorem d_Re_readJoined_53 : decode y_Re_readJoined.2.1 53 = .ok (.ldc 52, 2) := by decide +kernel
theorem d_Re_readJoined_55 : decode y_Re_readJoined.2.1 55 = .ok (.iload_n 1, 1) := by decide +kernel
theorem d_Re_readJoined_56 : decode y_Re_readJoined.2.1 56 = .ok (.invokevirtual 54, 3) := by decide +kernel
theorem d_Re_readJoined_59 : decode y_Re_readJoined.2.1 59 = .ok (.if_icmp .ne 38, 3) := by decide +kernel
theorem d_Re_readJoined_62 : decode y_Re_readJoined.2.1 62 = .ok (.aload_n 0, 1) := by decide +kernel
theorem d_Re_readJoined_63 : decode y_Re_readJoined.2.1 63 = .ok (.dup, 1) := by decide +kernel
theorem d_Re_readJoined_64 : decode y_Re_readJoined.2.1 64 = .ok (.getfield 15, 3) := by decide +kernel
theorem d_Re_readJoined_67 : decode y_Re_readJoined.2.1 67 = .ok (.iconst 1, 1) := by decide +kernel
theorem d_Re_readJoined_68 : decode y_Re_readJoined.2.1 68 = .ok (.iadd, 1) := by decide +kernel
theorem d_Re_readJoined_69 : decode y_Re_readJoined.2.1 69 = .ok (.putfield 15, 3) := by decide +kernel
theorem d_Re_readJoined_72 : decode y_Re_readJoined.2.1 72 = .ok (.aload_n 0, 1) := by decide +kernel
theorem d_Re_readJoined_73 : decode y_Re_readJoined.2.1 73 = .ok (.iload_n 1, 1) := by decide +kernel
theorem d_Re_readJoined_74 : decode y_Re_readJoined.2.1 74 = .ok (.iconst 1, 1) := by decide +kernel
theorem d_Re_readJoined_75 : decode y_Re_readJoined.2.1 75 = .ok (.iadd, 1) := by decide +kernel
theorem d_Re_readJoined_76 : decode y_Re_readJoined.2.1 76 = .ok (.iload_n 2, 1) := by decide +kernel
theorem d_Re_readJoined_77 : decode y_Re_readJoined.2.1 77 = .ok (.invokevirtual 34, 3) := by decide +kernel
theorem d_Re_readJoined_80 : decode y_Re_readJoined.2.1 80 = .ok (.istore 4, 2) := by decide +kernel
theorem d_Re_readJoined_82 : decode y_Re_readJoined.2.1 82 = .ok (.aload_n 0, 1) := by decide +kernel
theorem d_Re_readJoined_83 : decode y_Re_readJoined.2.1 83 = .ok (.getfield 25, 3) := by decide +kernel
theorem d_Re_readJoined_86 : decode y_Re_readJoined.2.1 86 = .ok (.iload_n 1, 1) := by decide +kernel
theorem d_Re_readJoined_87 : decode y_Re_readJoined.2.1 87 = .ok (.iload_n 3, 1) := by decide +kernel
theorem d_Re_readJoined_88 : decode y_Re_readJoined.2.1 88 = .ok (.iload 4, 2) := by decide +kernel
theorem d_Re_readJoined_90 : decode y_Re_readJoined.2.1 90 = .ok (.invokevirtual 59, 3) := by decide +kernel
theorem d_Re_readJoined_93 : decode y_Re_readJoined.2.1 93 = .ok (.istore_n 3, 1) := by decide +kernel
theorem d_Re_readJoined_94 : decode y_Re_readJoined.2.1 94 = .ok (.goto (-74), 3) := by decide +kernel
theorem d_Re_readJoined_97 : decode y_Re_readJoined.2.1 97 = .ok (.iload_n 3, 1) := by decide +kernel
theorem d_Re_readJoined_98 : decode y_Re_readJoined.2.1 98 = .ok (.ireturn, 1) := by decide +kernel
def y_Re_readOne : MethodName × ByteArray × Nat × Option FieldType × List (Nat × Nat × Nat × Nat) := (⟨"MaskedCauses$Reader", "readOne", "(I)I"⟩, prog_7_method_4_code, 5, (Option.some Jvm.ClassFile.FieldType.int), [])
theorem d_Re_readOne_0 : decode y_Re_readOne.2.1 0 = .ok (.iconst 0, 1) := by decide +kernel
theorem d_Re_readOne_1 : decode y_Re_readOne.2.1 1 = .ok (.istore_n 2, 1) := by decide +kernel
theorem d_Re_readOne_2 : decode y_Re_readOne.2.1 2 = .ok (.aload_n 0, 1) := by decide +kernel
theorem d_Re_readOne_3 : decode y_Re_readOne.2.1 3 = .ok (.getfield 15, 3) := by decide +kernel
theorem d_Re_readOne_6 : decode y_Re_readOne.2.1 6 = .ok (.aload_n 0, 1) := by decide +kernel
theorem d_Re_readOne_7 : decode y_Re_readOne.2.1 7 = .ok (.getfield 21, 3) := by decide +kernel
theorem d_Re_readOne_10 : decode y_Re_readOne.2.1 10 = .ok (.invokevirtual 38, 3) := by decide +kernel
theorem d_Re_readOne_13 : decode y_Re_readOne.2.1 13 = .ok (.if_icmp .ge 39, 3) := by decide +kernel
theorem d_Re_readOne_16 : decode y_Re_readOne.2.1 16 = .ok (.aload_n 0, 1) := by decide +kernel
theorem d_Re_readOne_17 : decode y_Re_readOne.2.1 17 = .ok (.getfield 21, 3) := by decide +kernel
theorem d_Re_readOne_20 : decode y_Re_readOne.2.1 20 = .ok (.aload_n 0, 1) := by decide +kernel
theorem d_Re_readOne_21 : decode y_Re_readOne.2.1 21 = .ok (.getfield 15, 3) := by decide +kernel
theorem d_Re_readOne_24 : decode y_Re_readOne.2.1 24 = .ok (.invokevirtual 48, 3) := by decide +kernel
theorem d_Re_readOne_27 : decode y_Re_readOne.2.1 27 = .ok (.ldc 52, 2) := by decide +kernel
theorem d_Re_readOne_29 : decode y_Re_readOne.2.1 29 = .ok (.iconst 3, 1) := by decide +kernel
theorem d_Re_readOne_30 : decode y_Re_readOne.2.1 30 = .ok (.invokevirtual 54, 3) := by decide +kernel
theorem d_Re_readOne_33 : decode y_Re_readOne.2.1 33 = .ok (.if_icmp .ne 19, 3) := by decide +kernel
theorem d_Re_readOne_36 : decode y_Re_readOne.2.1 36 = .ok (.aload_n 0, 1) := by decide +kernel
theorem d_Re_readOne_37 : decode y_Re_readOne.2.1 37 = .ok (.dup, 1) := by decide +kernel
theorem d_Re_readOne_38 : decode y_Re_readOne.2.1 38 = .ok (.getfield 15, 3) := by decide +kernel
theorem d_Re_readOne_41 : decode y_Re_readOne.2.1 41 = .ok (.iconst 1, 1) := by decide +kernel
theorem d_Re_readOne_42 : decode y_Re_readOne.2.1 42 = .ok (.iadd, 1) := by decide +kernel
theorem d_Re_readOne_43 : decode y_Re_readOne.2.1 43 = .ok (.putfield 15, 3) := by decide +kernel
theorem d_Re_readOne_46 : decode y_Re_readOne.2.1 46 = .ok (.iinc 2 1, 3) := by decide +kernel
theorem d_Re_readOne_49 : decode y_Re_readOne.2.1 49 = .ok (.goto (-47), 3) := by decide +kernel
theorem d_Re_readOne_52 : decode y_Re_readOne.2.1 52 = .ok (.aload_n 0, 1) := by decide +kernel
theorem d_Re_readOne_53 : decode y_Re_readOne.2.1 53 = .ok (.getfield 21, 3) := by decide +kernel
theorem d_Re_readOne_56 : decode y_Re_readOne.2.1 56 = .ok (.aload_n 0, 1) := by decide +kernel
theorem d_Re_readOne_57 : decode y_Re_readOne.2.1 57 = .ok (.getfield 15, 3) := by decide +kernel
theorem d_Re_readOne_60 : decode y_Re_readOne.2.1 60 = .ok (.invokevirtual 48, 3) := by decide +kernel
theorem d_Re_readOne_63 : decode y_Re_readOne.2.1 63 = .ok (.bipush 40, 2) := by decide +kernel
theorem d_Re_readOne_65 : decode y_Re_readOne.2.1 65 = .ok (.if_icmp .ne 11, 3) := by decide +kernel
theorem d_Re_readOne_68 : decode y_Re_readOne.2.1 68 = .ok (.aload_n 0, 1) := by decide +kernel
theorem d_Re_readOne_69 : decode y_Re_readOne.2.1 69 = .ok (.iload_n 1, 1) := by decide +kernel
theorem d_Re_readOne_70 : decode y_Re_readOne.2.1 70 = .ok (.invokevirtual 63, 3) := by decide +kernel
theorem d_Re_readOne_73 : decode y_Re_readOne.2.1 73 = .ok (.goto 7, 3) := by decide +kernel
theorem d_Re_readOne_76 : decode y_Re_readOne.2.1 76 = .ok (.aload_n 0, 1) := by decide +kernel
theorem d_Re_readOne_77 : decode y_Re_readOne.2.1 77 = .ok (.invokevirtual 66, 3) := by decide +kernel
theorem d_Re_readOne_80 : decode y_Re_readOne.2.1 80 = .ok (.istore_n 3, 1) := by decide +kernel
theorem d_Re_readOne_81 : decode y_Re_readOne.2.1 81 = .ok (.iconst 0, 1) := by decide +kernel
theorem d_Re_readOne_82 : decode y_Re_readOne.2.1 82 = .ok (.istore 4, 2) := by decide +kernel
theorem d_Re_readOne_84 : decode y_Re_readOne.2.1 84 = .ok (.iload 4, 2) := by decide +kernel
theorem d_Re_readOne_86 : decode y_Re_readOne.2.1 86 = .ok (.iload_n 2, 1) := by decide +kernel
theorem d_Re_readOne_87 : decode y_Re_readOne.2.1 87 = .ok (.if_icmp .ge 20, 3) := by decide +kernel
theorem d_Re_readOne_90 : decode y_Re_readOne.2.1 90 = .ok (.aload_n 0, 1) := by decide +kernel
theorem d_Re_readOne_91 : decode y_Re_readOne.2.1 91 = .ok (.getfield 25, 3) := by decide +kernel
theorem d_Re_readOne_94 : decode y_Re_readOne.2.1 94 = .ok (.iconst 3, 1) := by decide +kernel
theorem d_Re_readOne_95 : decode y_Re_readOne.2.1 95 = .ok (.iload_n 3, 1) := by decide +kernel
theorem d_Re_readOne_96 : decode y_Re_readOne.2.1 96 = .ok (.iconst (-1), 1) := by decide +kernel
theorem d_Re_readOne_97 : decode y_Re_readOne.2.1 97 = .ok (.invokevirtual 59, 3) := by decide +kernel
theorem d_Re_readOne_100 : decode y_Re_readOne.2.1 100 = .ok (.istore_n 3, 1) := by decide +kernel
theorem d_Re_readOne_101 : decode y_Re_readOne.2.1 101 = .ok (.iinc 4 1, 3) := by decide +kernel
theorem d_Re_readOne_104 : decode y_Re_readOne.2.1 104 = .ok (.goto (-20), 3) := by decide +kernel
theorem d_Re_readOne_107 : decode y_Re_readOne.2.1 107 = .ok (.iload_n 3, 1) := by decide +kernel
theorem d_Re_readOne_108 : decode y_Re_readOne.2.1 108 = .ok (.ireturn, 1) := by decide +kernel
def y_Re_readInner : MethodName × ByteArray × Nat × Option FieldType × List (Nat × Nat × Nat × Nat) := (⟨"MaskedCauses$Reader", "readInner", "(I)I"⟩, prog_7_method_5_code, 3, (Option.some Jvm.ClassFile.FieldType.int), [])
theorem d_Re_readInner_0 : decode y_Re_readInner.2.1 0 = .ok (.iload_n 1, 1) := by decide +kernel
theorem d_Re_readInner_1 : decode y_Re_readInner.2.1 1 = .ok (.bipush 6, 2) := by decide +kernel
theorem d_Re_readInner_3 : decode y_Re_readInner.2.1 3 = .ok (.if_icmp .ne 13, 3) := by decide +kernel
theorem d_Re_readInner_6 : decode y_Re_readInner.2.1 6 = .ok (.aload_n 0, 1) := by decide +kernel
theorem d_Re_readInner_7 : decode y_Re_readInner.2.1 7 = .ok (.aload_n 0, 1) := by decide +kernel
theorem d_Re_readInner_8 : decode y_Re_readInner.2.1 8 = .ok (.getfield 15, 3) := by decide +kernel
theorem d_Re_readInner_11 : decode y_Re_readInner.2.1 11 = .ok (.putfield 18, 3) := by decide +kernel
theorem d_Re_readInner_14 : decode y_Re_readInner.2.1 14 = .ok (.iconst (-1), 1) := by decide +kernel
theorem d_Re_readInner_15 : decode y_Re_readInner.2.1 15 = .ok (.ireturn, 1) := by decide +kernel
theorem d_Re_readInner_16 : decode y_Re_readInner.2.1 16 = .ok (.aload_n 0, 1) := by decide +kernel
theorem d_Re_readInner_17 : decode y_Re_readInner.2.1 17 = .ok (.dup, 1) := by decide +kernel
theorem d_Re_readInner_18 : decode y_Re_readInner.2.1 18 = .ok (.getfield 15, 3) := by decide +kernel
theorem d_Re_readInner_21 : decode y_Re_readInner.2.1 21 = .ok (.iconst 1, 1) := by decide +kernel
theorem d_Re_readInner_22 : decode y_Re_readInner.2.1 22 = .ok (.iadd, 1) := by decide +kernel
theorem d_Re_readInner_23 : decode y_Re_readInner.2.1 23 = .ok (.putfield 15, 3) := by decide +kernel
theorem d_Re_readInner_26 : decode y_Re_readInner.2.1 26 = .ok (.aload_n 0, 1) := by decide +kernel
theorem d_Re_readInner_27 : decode y_Re_readInner.2.1 27 = .ok (.iconst 0, 1) := by decide +kernel
theorem d_Re_readInner_28 : decode y_Re_readInner.2.1 28 = .ok (.iload_n 1, 1) := by decide +kernel
theorem d_Re_readInner_29 : decode y_Re_readInner.2.1 29 = .ok (.iconst 1, 1) := by decide +kernel
theorem d_Re_readInner_30 : decode y_Re_readInner.2.1 30 = .ok (.iadd, 1) := by decide +kernel
theorem d_Re_readInner_31 : decode y_Re_readInner.2.1 31 = .ok (.invokevirtual 34, 3) := by decide +kernel
theorem d_Re_readInner_34 : decode y_Re_readInner.2.1 34 = .ok (.istore_n 2, 1) := by decide +kernel
theorem d_Re_readInner_35 : decode y_Re_readInner.2.1 35 = .ok (.aload_n 0, 1) := by decide +kernel
theorem d_Re_readInner_36 : decode y_Re_readInner.2.1 36 = .ok (.getfield 18, 3) := by decide +kernel
theorem d_Re_readInner_39 : decode y_Re_readInner.2.1 39 = .ok (.iconst (-1), 1) := by decide +kernel
theorem d_Re_readInner_40 : decode y_Re_readInner.2.1 40 = .ok (.if_icmp .ne 27, 3) := by decide +kernel
theorem d_Re_readInner_43 : decode y_Re_readInner.2.1 43 = .ok (.aload_n 0, 1) := by decide +kernel
theorem d_Re_readInner_44 : decode y_Re_readInner.2.1 44 = .ok (.getfield 21, 3) := by decide +kernel
theorem d_Re_readInner_47 : decode y_Re_readInner.2.1 47 = .ok (.aload_n 0, 1) := by decide +kernel
theorem d_Re_readInner_48 : decode y_Re_readInner.2.1 48 = .ok (.getfield 15, 3) := by decide +kernel
theorem d_Re_readInner_51 : decode y_Re_readInner.2.1 51 = .ok (.invokevirtual 48, 3) := by decide +kernel
theorem d_Re_readInner_54 : decode y_Re_readInner.2.1 54 = .ok (.bipush 41, 2) := by decide +kernel
theorem d_Re_readInner_56 : decode y_Re_readInner.2.1 56 = .ok (.if_icmp .eq 11, 3) := by decide +kernel
theorem d_Re_readInner_59 : decode y_Re_readInner.2.1 59 = .ok (.aload_n 0, 1) := by decide +kernel
theorem d_Re_readInner_60 : decode y_Re_readInner.2.1 60 = .ok (.aload_n 0, 1) := by decide +kernel
theorem d_Re_readInner_61 : decode y_Re_readInner.2.1 61 = .ok (.getfield 15, 3) := by decide +kernel
theorem d_Re_readInner_64 : decode y_Re_readInner.2.1 64 = .ok (.putfield 18, 3) := by decide +kernel
theorem d_Re_readInner_67 : decode y_Re_readInner.2.1 67 = .ok (.aload_n 0, 1) := by decide +kernel
theorem d_Re_readInner_68 : decode y_Re_readInner.2.1 68 = .ok (.dup, 1) := by decide +kernel
theorem d_Re_readInner_69 : decode y_Re_readInner.2.1 69 = .ok (.getfield 15, 3) := by decide +kernel
theorem d_Re_readInner_72 : decode y_Re_readInner.2.1 72 = .ok (.iconst 1, 1) := by decide +kernel
theorem d_Re_readInner_73 : decode y_Re_readInner.2.1 73 = .ok (.iadd, 1) := by decide +kernel
theorem d_Re_readInner_74 : decode y_Re_readInner.2.1 74 = .ok (.putfield 15, 3) := by decide +kernel
theorem d_Re_readInner_77 : decode y_Re_readInner.2.1 77 = .ok (.iload_n 2, 1) := by decide +kernel
theorem d_Re_readInner_78 : decode y_Re_readInner.2.1 78 = .ok (.ireturn, 1) := by decide +kernel
def y_Re_readLetter : MethodName × ByteArray × Nat × Option FieldType × List (Nat × Nat × Nat × Nat) := (⟨"MaskedCauses$Reader", "readLetter", "()I"⟩, prog_7_method_6_code, 2, (Option.some Jvm.ClassFile.FieldType.int), [])
theorem d_Re_readLetter_0 : decode y_Re_readLetter.2.1 0 = .ok (.aload_n 0, 1) := by decide +kernel
theorem d_Re_readLetter_1 : decode y_Re_readLetter.2.1 1 = .ok (.getfield 21, 3) := by decide +kernel
theorem d_Re_readLetter_4 : decode y_Re_readLetter.2.1 4 = .ok (.aload_n 0, 1) := by decide +kernel
theorem d_Re_readLetter_5 : decode y_Re_readLetter.2.1 5 = .ok (.getfield 15, 3) := by decide +kernel
theorem d_Re_readLetter_8 : decode y_Re_readLetter.2.1 8 = .ok (.invokevirtual 48, 3) := by decide +kernel
theorem d_Re_readLetter_11 : decode y_Re_readLetter.2.1 11 = .ok (.bipush 65, 2) := by decide +kernel
theorem d_Re_readLetter_13 : decode y_Re_readLetter.2.1 13 = .ok (.isub, 1) := by decide +kernel
theorem d_Re_readLetter_14 : decode y_Re_readLetter.2.1 14 = .ok (.istore_n 1, 1) := by decide +kernel
theorem d_Re_readLetter_15 : decode y_Re_readLetter.2.1 15 = .ok (.iload_n 1, 1) := by decide +kernel
theorem d_Re_readLetter_16 : decode y_Re_readLetter.2.1 16 = .ok (.ifCond .lt 19, 3) := by decide +kernel
theorem d_Re_readLetter_19 : decode y_Re_readLetter.2.1 19 = .ok (.iload_n 1, 1) := by decide +kernel
theorem d_Re_readLetter_20 : decode y_Re_readLetter.2.1 20 = .ok (.aload_n 0, 1) := by decide +kernel
theorem d_Re_readLetter_21 : decode y_Re_readLetter.2.1 21 = .ok (.getfield 9, 3) := by decide +kernel
theorem d_Re_readLetter_24 : decode y_Re_readLetter.2.1 24 = .ok (.if_icmp .ge 11, 3) := by decide +kernel
theorem d_Re_readLetter_27 : decode y_Re_readLetter.2.1 27 = .ok (.aload_n 0, 1) := by decide +kernel
theorem d_Re_readLetter_28 : decode y_Re_readLetter.2.1 28 = .ok (.iload_n 1, 1) := by decide +kernel
theorem d_Re_readLetter_29 : decode y_Re_readLetter.2.1 29 = .ok (.invokevirtual 69, 3) := by decide +kernel
theorem d_Re_readLetter_32 : decode y_Re_readLetter.2.1 32 = .ok (.ifCond .eq 13, 3) := by decide +kernel
theorem d_Re_readLetter_35 : decode y_Re_readLetter.2.1 35 = .ok (.aload_n 0, 1) := by decide +kernel
theorem d_Re_readLetter_36 : decode y_Re_readLetter.2.1 36 = .ok (.aload_n 0, 1) := by decide +kernel
theorem d_Re_readLetter_37 : decode y_Re_readLetter.2.1 37 = .ok (.getfield 15, 3) := by decide +kernel
theorem d_Re_readLetter_40 : decode y_Re_readLetter.2.1 40 = .ok (.putfield 18, 3) := by decide +kernel
theorem d_Re_readLetter_43 : decode y_Re_readLetter.2.1 43 = .ok (.iconst (-1), 1) := by decide +kernel
theorem d_Re_readLetter_44 : decode y_Re_readLetter.2.1 44 = .ok (.ireturn, 1) := by decide +kernel
theorem d_Re_readLetter_45 : decode y_Re_readLetter.2.1 45 = .ok (.aload_n 0, 1) := by decide +kernel
theorem d_Re_readLetter_46 : decode y_Re_readLetter.2.1 46 = .ok (.dup, 1) := by decide +kernel
theorem d_Re_readLetter_47 : decode y_Re_readLetter.2.1 47 = .ok (.getfield 15, 3) := by decide +kernel
theorem d_Re_readLetter_50 : decode y_Re_readLetter.2.1 50 = .ok (.iconst 1, 1) := by decide +kernel
theorem d_Re_readLetter_51 : decode y_Re_readLetter.2.1 51 = .ok (.iadd, 1) := by decide +kernel
theorem d_Re_readLetter_52 : decode y_Re_readLetter.2.1 52 = .ok (.putfield 15, 3) := by decide +kernel
theorem d_Re_readLetter_55 : decode y_Re_readLetter.2.1 55 = .ok (.aload_n 0, 1) := by decide +kernel
theorem d_Re_readLetter_56 : decode y_Re_readLetter.2.1 56 = .ok (.getfield 25, 3) := by decide +kernel
theorem d_Re_readLetter_59 : decode y_Re_readLetter.2.1 59 = .ok (.iload_n 1, 1) := by decide +kernel
theorem d_Re_readLetter_60 : decode y_Re_readLetter.2.1 60 = .ok (.invokevirtual 73, 3) := by decide +kernel
theorem d_Re_readLetter_63 : decode y_Re_readLetter.2.1 63 = .ok (.ireturn, 1) := by decide +kernel
def y_Re_isOneTooMany : MethodName × ByteArray × Nat × Option FieldType × List (Nat × Nat × Nat × Nat) := (⟨"MaskedCauses$Reader", "isOneTooMany", "(I)Z"⟩, prog_7_method_7_code, 2, (Option.some Jvm.ClassFile.FieldType.boolean), [])
theorem d_Re_isOneTooMany_0 : decode y_Re_isOneTooMany.2.1 0 = .ok (.aload_n 0, 1) := by decide +kernel
theorem d_Re_isOneTooMany_1 : decode y_Re_isOneTooMany.2.1 1 = .ok (.getfield 25, 3) := by decide +kernel
theorem d_Re_isOneTooMany_4 : decode y_Re_isOneTooMany.2.1 4 = .ok (.invokevirtual 76, 3) := by decide +kernel
theorem d_Re_isOneTooMany_7 : decode y_Re_isOneTooMany.2.1 7 = .ok (.iconst 1, 1) := by decide +kernel
theorem d_Re_isOneTooMany_8 : decode y_Re_isOneTooMany.2.1 8 = .ok (.iload_n 1, 1) := by decide +kernel
theorem d_Re_isOneTooMany_9 : decode y_Re_isOneTooMany.2.1 9 = .ok (.ishl, 1) := by decide +kernel
theorem d_Re_isOneTooMany_10 : decode y_Re_isOneTooMany.2.1 10 = .ok (.ior, 1) := by decide +kernel
theorem d_Re_isOneTooMany_11 : decode y_Re_isOneTooMany.2.1 11 = .ok (.invokestatic 79, 3) := by decide +kernel
theorem d_Re_isOneTooMany_14 : decode y_Re_isOneTooMany.2.1 14 = .ok (.bipush 6, 2) := by decide +kernel
theorem d_Re_isOneTooMany_16 : decode y_Re_isOneTooMany.2.1 16 = .ok (.if_icmp .le 7, 3) := by decide +kernel
theorem d_Re_isOneTooMany_19 : decode y_Re_isOneTooMany.2.1 19 = .ok (.iconst 1, 1) := by decide +kernel
theorem d_Re_isOneTooMany_20 : decode y_Re_isOneTooMany.2.1 20 = .ok (.goto 4, 3) := by decide +kernel
theorem d_Re_isOneTooMany_23 : decode y_Re_isOneTooMany.2.1 23 = .ok (.iconst 0, 1) := by decide +kernel
theorem d_Re_isOneTooMany_24 : decode y_Re_isOneTooMany.2.1 24 = .ok (.ireturn, 1) := by decide +kernel
def y_De_init : MethodName × ByteArray × Nat × Option FieldType × List (Nat × Nat × Nat × Nat) := (⟨"MaskedCauses$Decision", "<init>", "(LMaskedCauses$Conditions;)V"⟩, prog_3_method_1_code, 2, (Option.none : Option Jvm.ClassFile.FieldType), [])
theorem d_De_init_0 : decode y_De_init.2.1 0 = .ok (.aload_n 0, 1) := by decide +kernel
theorem d_De_init_1 : decode y_De_init.2.1 1 = .ok (.invokespecial 3, 3) := by decide +kernel
theorem d_De_init_4 : decode y_De_init.2.1 4 = .ok (.aload_n 0, 1) := by decide +kernel
theorem d_De_init_5 : decode y_De_init.2.1 5 = .ok (.new 9, 3) := by decide +kernel
theorem d_De_init_8 : decode y_De_init.2.1 8 = .ok (.dup, 1) := by decide +kernel
theorem d_De_init_9 : decode y_De_init.2.1 9 = .ok (.invokespecial 11, 3) := by decide +kernel
theorem d_De_init_12 : decode y_De_init.2.1 12 = .ok (.putfield 12, 3) := by decide +kernel
theorem d_De_init_15 : decode y_De_init.2.1 15 = .ok (.aload_n 0, 1) := by decide +kernel
theorem d_De_init_16 : decode y_De_init.2.1 16 = .ok (.bipush 6, 2) := by decide +kernel
theorem d_De_init_18 : decode y_De_init.2.1 18 = .ok (.newarray .int, 2) := by decide +kernel
theorem d_De_init_20 : decode y_De_init.2.1 20 = .ok (.putfield 18, 3) := by decide +kernel
theorem d_De_init_23 : decode y_De_init.2.1 23 = .ok (.aload_n 0, 1) := by decide +kernel
theorem d_De_init_24 : decode y_De_init.2.1 24 = .ok (.bipush 6, 2) := by decide +kernel
theorem d_De_init_26 : decode y_De_init.2.1 26 = .ok (.newarray .int, 2) := by decide +kernel
theorem d_De_init_28 : decode y_De_init.2.1 28 = .ok (.putfield 22, 3) := by decide +kernel
theorem d_De_init_31 : decode y_De_init.2.1 31 = .ok (.aload_n 0, 1) := by decide +kernel
theorem d_De_init_32 : decode y_De_init.2.1 32 = .ok (.bipush 6, 2) := by decide +kernel
theorem d_De_init_34 : decode y_De_init.2.1 34 = .ok (.newarray .long, 2) := by decide +kernel
theorem d_De_init_36 : decode y_De_init.2.1 36 = .ok (.putfield 25, 3) := by decide +kernel
theorem d_De_init_39 : decode y_De_init.2.1 39 = .ok (.aload_n 0, 1) := by decide +kernel
theorem d_De_init_40 : decode y_De_init.2.1 40 = .ok (.bipush 6, 2) := by decide +kernel
theorem d_De_init_42 : decode y_De_init.2.1 42 = .ok (.newarray .long, 2) := by decide +kernel
theorem d_De_init_44 : decode y_De_init.2.1 44 = .ok (.putfield 29, 3) := by decide +kernel
theorem d_De_init_47 : decode y_De_init.2.1 47 = .ok (.aload_n 0, 1) := by decide +kernel
theorem d_De_init_48 : decode y_De_init.2.1 48 = .ok (.sipush 192, 3) := by decide +kernel
theorem d_De_init_51 : decode y_De_init.2.1 51 = .ok (.newarray .int, 2) := by decide +kernel
theorem d_De_init_53 : decode y_De_init.2.1 53 = .ok (.putfield 32, 3) := by decide +kernel
theorem d_De_init_56 : decode y_De_init.2.1 56 = .ok (.aload_n 0, 1) := by decide +kernel
theorem d_De_init_57 : decode y_De_init.2.1 57 = .ok (.iconst 0, 1) := by decide +kernel
theorem d_De_init_58 : decode y_De_init.2.1 58 = .ok (.putfield 35, 3) := by decide +kernel
theorem d_De_init_61 : decode y_De_init.2.1 61 = .ok (.aload_n 0, 1) := by decide +kernel
theorem d_De_init_62 : decode y_De_init.2.1 62 = .ok (.lconst 0, 1) := by decide +kernel
theorem d_De_init_63 : decode y_De_init.2.1 63 = .ok (.putfield 39, 3) := by decide +kernel
theorem d_De_init_66 : decode y_De_init.2.1 66 = .ok (.aload_n 0, 1) := by decide +kernel
theorem d_De_init_67 : decode y_De_init.2.1 67 = .ok (.lconst 0, 1) := by decide +kernel
theorem d_De_init_68 : decode y_De_init.2.1 68 = .ok (.putfield 43, 3) := by decide +kernel
theorem d_De_init_71 : decode y_De_init.2.1 71 = .ok (.aload_n 0, 1) := by decide +kernel
theorem d_De_init_72 : decode y_De_init.2.1 72 = .ok (.aload_n 1, 1) := by decide +kernel
theorem d_De_init_73 : decode y_De_init.2.1 73 = .ok (.putfield 46, 3) := by decide +kernel
theorem d_De_init_76 : decode y_De_init.2.1 76 = .ok (.return_, 1) := by decide +kernel
def y_De_take : MethodName × ByteArray × Nat × Option FieldType × List (Nat × Nat × Nat × Nat) := (⟨"MaskedCauses$Decision", "take", "(LMaskedCauses$Tree;Z)V"⟩, prog_3_method_2_code, 4, (Option.none : Option Jvm.ClassFile.FieldType), [])
theorem d_De_take_0 : decode y_De_take.2.1 0 = .ok (.aload_n 0, 1) := by decide +kernel
theorem d_De_take_1 : decode y_De_take.2.1 1 = .ok (.aload_n 1, 1) := by decide +kernel
theorem d_De_take_2 : decode y_De_take.2.1 2 = .ok (.invokevirtual 50, 3) := by decide +kernel
theorem d_De_take_5 : decode y_De_take.2.1 5 = .ok (.invokevirtual 55, 3) := by decide +kernel
theorem d_De_take_8 : decode y_De_take.2.1 8 = .ok (.aload_n 1, 1) := by decide +kernel
theorem d_De_take_9 : decode y_De_take.2.1 9 = .ok (.aload_n 0, 1) := by decide +kernel
theorem d_De_take_10 : decode y_De_take.2.1 10 = .ok (.getfield 12, 3) := by decide +kernel
theorem d_De_take_13 : decode y_De_take.2.1 13 = .ok (.invokevirtual 59, 3) := by decide +kernel
theorem d_De_take_16 : decode y_De_take.2.1 16 = .ok (.aload_n 0, 1) := by decide +kernel
theorem d_De_take_17 : decode y_De_take.2.1 17 = .ok (.aload_n 1, 1) := by decide +kernel
theorem d_De_take_18 : decode y_De_take.2.1 18 = .ok (.invokevirtual 63, 3) := by decide +kernel
theorem d_De_take_21 : decode y_De_take.2.1 21 = .ok (.putfield 39, 3) := by decide +kernel
theorem d_De_take_24 : decode y_De_take.2.1 24 = .ok (.aload_n 1, 1) := by decide +kernel
theorem d_De_take_25 : decode y_De_take.2.1 25 = .ok (.iload_n 2, 1) := by decide +kernel
theorem d_De_take_26 : decode y_De_take.2.1 26 = .ok (.aload_n 0, 1) := by decide +kernel
theorem d_De_take_27 : decode y_De_take.2.1 27 = .ok (.getfield 25, 3) := by decide +kernel
theorem d_De_take_30 : decode y_De_take.2.1 30 = .ok (.invokevirtual 67, 3) := by decide +kernel
theorem d_De_take_33 : decode y_De_take.2.1 33 = .ok (.iconst 0, 1) := by decide +kernel
theorem d_De_take_34 : decode y_De_take.2.1 34 = .ok (.istore_n 3, 1) := by decide +kernel
theorem d_De_take_35 : decode y_De_take.2.1 35 = .ok (.iload_n 3, 1) := by decide +kernel
theorem d_De_take_36 : decode y_De_take.2.1 36 = .ok (.aload_n 0, 1) := by decide +kernel
theorem d_De_take_37 : decode y_De_take.2.1 37 = .ok (.getfield 35, 3) := by decide +kernel
theorem d_De_take_40 : decode y_De_take.2.1 40 = .ok (.if_icmp .ge 39, 3) := by decide +kernel
theorem d_De_take_43 : decode y_De_take.2.1 43 = .ok (.aload_n 0, 1) := by decide +kernel
theorem d_De_take_44 : decode y_De_take.2.1 44 = .ok (.getfield 29, 3) := by decide +kernel
theorem d_De_take_47 : decode y_De_take.2.1 47 = .ok (.iload_n 3, 1) := by decide +kernel
theorem d_De_take_48 : decode y_De_take.2.1 48 = .ok (.aload_n 0, 1) := by decide +kernel
theorem d_De_take_49 : decode y_De_take.2.1 49 = .ok (.getfield 39, 3) := by decide +kernel
theorem d_De_take_52 : decode y_De_take.2.1 52 = .ok (.aload_n 0, 1) := by decide +kernel
theorem d_De_take_53 : decode y_De_take.2.1 53 = .ok (.getfield 39, 3) := by decide +kernel
theorem d_De_take_56 : decode y_De_take.2.1 56 = .ok (.iload_n 3, 1) := by decide +kernel
theorem d_De_take_57 : decode y_De_take.2.1 57 = .ok (.invokestatic 71, 3) := by decide +kernel
theorem d_De_take_60 : decode y_De_take.2.1 60 = .ok (.lxor, 1) := by decide +kernel
theorem d_De_take_61 : decode y_De_take.2.1 61 = .ok (.lastore, 1) := by decide +kernel
theorem d_De_take_62 : decode y_De_take.2.1 62 = .ok (.aload_n 0, 1) := by decide +kernel
theorem d_De_take_63 : decode y_De_take.2.1 63 = .ok (.getfield 22, 3) := by decide +kernel
theorem d_De_take_66 : decode y_De_take.2.1 66 = .ok (.iload_n 3, 1) := by decide +kernel
theorem d_De_take_67 : decode y_De_take.2.1 67 = .ok (.aload_n 0, 1) := by decide +kernel
theorem d_De_take_68 : decode y_De_take.2.1 68 = .ok (.iload_n 3, 1) := by decide +kernel
theorem d_De_take_69 : decode y_De_take.2.1 69 = .ok (.invokevirtual 75, 3) := by decide +kernel
theorem d_De_take_72 : decode y_De_take.2.1 72 = .ok (.iastore, 1) := by decide +kernel
theorem d_De_take_73 : decode y_De_take.2.1 73 = .ok (.iinc 3 1, 3) := by decide +kernel
theorem d_De_take_76 : decode y_De_take.2.1 76 = .ok (.goto (-41), 3) := by decide +kernel
theorem d_De_take_79 : decode y_De_take.2.1 79 = .ok (.return_, 1) := by decide +kernel
def y_De_takeLetters : MethodName × ByteArray × Nat × Option FieldType × List (Nat × Nat × Nat × Nat) := (⟨"MaskedCauses$Decision", "takeLetters", "(I)V"⟩, prog_3_method_3_code, 3, (Option.none : Option Jvm.ClassFile.FieldType), [])
theorem d_De_takeLetters_0 : decode y_De_takeLetters.2.1 0 = .ok (.iconst 0, 1) := by decide +kernel
theorem d_De_takeLetters_1 : decode y_De_takeLetters.2.1 1 = .ok (.istore_n 2, 1) := by decide +kernel
theorem d_De_takeLetters_2 : decode y_De_takeLetters.2.1 2 = .ok (.iload_n 2, 1) := by decide +kernel
theorem d_De_takeLetters_3 : decode y_De_takeLetters.2.1 3 = .ok (.bipush 8, 2) := by decide +kernel
theorem d_De_takeLetters_5 : decode y_De_takeLetters.2.1 5 = .ok (.if_icmp .ge 46, 3) := by decide +kernel
theorem d_De_takeLetters_8 : decode y_De_takeLetters.2.1 8 = .ok (.iload_n 1, 1) := by decide +kernel
theorem d_De_takeLetters_9 : decode y_De_takeLetters.2.1 9 = .ok (.iload_n 2, 1) := by decide +kernel
theorem d_De_takeLetters_10 : decode y_De_takeLetters.2.1 10 = .ok (.invokestatic 79, 3) := by decide +kernel
theorem d_De_takeLetters_13 : decode y_De_takeLetters.2.1 13 = .ok (.ifCond .eq 32, 3) := by decide +kernel
theorem d_De_takeLetters_16 : decode y_De_takeLetters.2.1 16 = .ok (.aload_n 0, 1) := by decide +kernel
theorem d_De_takeLetters_17 : decode y_De_takeLetters.2.1 17 = .ok (.getfield 35, 3) := by decide +kernel
theorem d_De_takeLetters_20 : decode y_De_takeLetters.2.1 20 = .ok (.bipush 6, 2) := by decide +kernel
theorem d_De_takeLetters_22 : decode y_De_takeLetters.2.1 22 = .ok (.if_icmp .ge 23, 3) := by decide +kernel
theorem d_De_takeLetters_25 : decode y_De_takeLetters.2.1 25 = .ok (.aload_n 0, 1) := by decide +kernel
theorem d_De_takeLetters_26 : decode y_De_takeLetters.2.1 26 = .ok (.getfield 18, 3) := by decide +kernel
theorem d_De_takeLetters_29 : decode y_De_takeLetters.2.1 29 = .ok (.aload_n 0, 1) := by decide +kernel
theorem d_De_takeLetters_30 : decode y_De_takeLetters.2.1 30 = .ok (.getfield 35, 3) := by decide +kernel
theorem d_De_takeLetters_33 : decode y_De_takeLetters.2.1 33 = .ok (.iload_n 2, 1) := by decide +kernel
theorem d_De_takeLetters_34 : decode y_De_takeLetters.2.1 34 = .ok (.iastore, 1) := by decide +kernel
theorem d_De_takeLetters_35 : decode y_De_takeLetters.2.1 35 = .ok (.aload_n 0, 1) := by decide +kernel
theorem d_De_takeLetters_36 : decode y_De_takeLetters.2.1 36 = .ok (.dup, 1) := by decide +kernel
theorem d_De_takeLetters_37 : decode y_De_takeLetters.2.1 37 = .ok (.getfield 35, 3) := by decide +kernel
theorem d_De_takeLetters_40 : decode y_De_takeLetters.2.1 40 = .ok (.iconst 1, 1) := by decide +kernel
theorem d_De_takeLetters_41 : decode y_De_takeLetters.2.1 41 = .ok (.iadd, 1) := by decide +kernel
theorem d_De_takeLetters_42 : decode y_De_takeLetters.2.1 42 = .ok (.putfield 35, 3) := by decide +kernel
theorem d_De_takeLetters_45 : decode y_De_takeLetters.2.1 45 = .ok (.iinc 2 1, 3) := by decide +kernel
theorem d_De_takeLetters_48 : decode y_De_takeLetters.2.1 48 = .ok (.goto (-46), 3) := by decide +kernel
theorem d_De_takeLetters_51 : decode y_De_takeLetters.2.1 51 = .ok (.return_, 1) := by decide +kernel
def y_De_turned : MethodName × ByteArray × Nat × Option FieldType × List (Nat × Nat × Nat × Nat) := (⟨"MaskedCauses$Decision", "turned", "(JI)J"⟩, prog_3_method_4_code, 6, (Option.some Jvm.ClassFile.FieldType.long), [])
theorem d_De_turned_0 : decode y_De_turned.2.1 0 = .ok (.getstatic 83, 3) := by decide +kernel
theorem d_De_turned_3 : decode y_De_turned.2.1 3 = .ok (.iload_n 2, 1) := by decide +kernel
theorem d_De_turned_4 : decode y_De_turned.2.1 4 = .ok (.laload, 1) := by decide +kernel
theorem d_De_turned_5 : decode y_De_turned.2.1 5 = .ok (.lstore_n 3, 1) := by decide +kernel
theorem d_De_turned_6 : decode y_De_turned.2.1 6 = .ok (.iconst 1, 1) := by decide +kernel
theorem d_De_turned_7 : decode y_De_turned.2.1 7 = .ok (.iload_n 2, 1) := by decide +kernel
theorem d_De_turned_8 : decode y_De_turned.2.1 8 = .ok (.ishl, 1) := by decide +kernel
theorem d_De_turned_9 : decode y_De_turned.2.1 9 = .ok (.istore 5, 2) := by decide +kernel
theorem d_De_turned_11 : decode y_De_turned.2.1 11 = .ok (.lload_n 0, 1) := by decide +kernel
theorem d_De_turned_12 : decode y_De_turned.2.1 12 = .ok (.lload_n 3, 1) := by decide +kernel
theorem d_De_turned_13 : decode y_De_turned.2.1 13 = .ok (.land, 1) := by decide +kernel
theorem d_De_turned_14 : decode y_De_turned.2.1 14 = .ok (.iload 5, 2) := by decide +kernel
theorem d_De_turned_16 : decode y_De_turned.2.1 16 = .ok (.lushr, 1) := by decide +kernel
theorem d_De_turned_17 : decode y_De_turned.2.1 17 = .ok (.lload_n 0, 1) := by decide +kernel
theorem d_De_turned_18 : decode y_De_turned.2.1 18 = .ok (.lload_n 3, 1) := by decide +kernel
theorem d_De_turned_19 : decode y_De_turned.2.1 19 = .ok (.ldc2_w 86, 3) := by decide +kernel
theorem d_De_turned_22 : decode y_De_turned.2.1 22 = .ok (.lxor, 1) := by decide +kernel
theorem d_De_turned_23 : decode y_De_turned.2.1 23 = .ok (.land, 1) := by decide +kernel
theorem d_De_turned_24 : decode y_De_turned.2.1 24 = .ok (.iload 5, 2) := by decide +kernel
theorem d_De_turned_26 : decode y_De_turned.2.1 26 = .ok (.lshl, 1) := by decide +kernel
theorem d_De_turned_27 : decode y_De_turned.2.1 27 = .ok (.lor, 1) := by decide +kernel
theorem d_De_turned_28 : decode y_De_turned.2.1 28 = .ok (.lreturn, 1) := by decide +kernel
def y_De_strangersOf : MethodName × ByteArray × Nat × Option FieldType × List (Nat × Nat × Nat × Nat) := (⟨"MaskedCauses$Decision", "strangersOf", "(I)I"⟩, prog_3_method_5_code, 5, (Option.some Jvm.ClassFile.FieldType.int), [])
theorem d_De_strangersOf_0 : decode y_De_strangersOf.2.1 0 = .ok (.aload_n 0, 1) := by decide +kernel
theorem d_De_strangersOf_1 : decode y_De_strangersOf.2.1 1 = .ok (.getfield 46, 3) := by decide +kernel
theorem d_De_strangersOf_4 : decode y_De_strangersOf.2.1 4 = .ok (.aload_n 0, 1) := by decide +kernel
theorem d_De_strangersOf_5 : decode y_De_strangersOf.2.1 5 = .ok (.getfield 18, 3) := by decide +kernel
theorem d_De_strangersOf_8 : decode y_De_strangersOf.2.1 8 = .ok (.iload_n 1, 1) := by decide +kernel
theorem d_De_strangersOf_9 : decode y_De_strangersOf.2.1 9 = .ok (.iaload, 1) := by decide +kernel
theorem d_De_strangersOf_10 : decode y_De_strangersOf.2.1 10 = .ok (.invokevirtual 88, 3) := by decide +kernel
theorem d_De_strangersOf_13 : decode y_De_strangersOf.2.1 13 = .ok (.istore_n 2, 1) := by decide +kernel
theorem d_De_strangersOf_14 : decode y_De_strangersOf.2.1 14 = .ok (.iconst 0, 1) := by decide +kernel
theorem d_De_strangersOf_15 : decode y_De_strangersOf.2.1 15 = .ok (.istore_n 3, 1) := by decide +kernel
theorem d_De_strangersOf_16 : decode y_De_strangersOf.2.1 16 = .ok (.iconst 0, 1) := by decide +kernel
theorem d_De_strangersOf_17 : decode y_De_strangersOf.2.1 17 = .ok (.istore 4, 2) := by decide +kernel
theorem d_De_strangersOf_19 : decode y_De_strangersOf.2.1 19 = .ok (.iload 4, 2) := by decide +kernel
theorem d_De_strangersOf_21 : decode y_De_strangersOf.2.1 21 = .ok (.aload_n 0, 1) := by decide +kernel
theorem d_De_strangersOf_22 : decode y_De_strangersOf.2.1 22 = .ok (.getfield 35, 3) := by decide +kernel
theorem d_De_strangersOf_25 : decode y_De_strangersOf.2.1 25 = .ok (.if_icmp .ge 35, 3) := by decide +kernel
theorem d_De_strangersOf_28 : decode y_De_strangersOf.2.1 28 = .ok (.aload_n 0, 1) := by decide +kernel
theorem d_De_strangersOf_29 : decode y_De_strangersOf.2.1 29 = .ok (.getfield 46, 3) := by decide +kernel
theorem d_De_strangersOf_32 : decode y_De_strangersOf.2.1 32 = .ok (.aload_n 0, 1) := by decide +kernel
theorem d_De_strangersOf_33 : decode y_De_strangersOf.2.1 33 = .ok (.getfield 18, 3) := by decide +kernel
theorem d_De_strangersOf_36 : decode y_De_strangersOf.2.1 36 = .ok (.iload 4, 2) := by decide +kernel
theorem d_De_strangersOf_38 : decode y_De_strangersOf.2.1 38 = .ok (.iaload, 1) := by decide +kernel
theorem d_De_strangersOf_39 : decode y_De_strangersOf.2.1 39 = .ok (.invokevirtual 88, 3) := by decide +kernel
theorem d_De_strangersOf_42 : decode y_De_strangersOf.2.1 42 = .ok (.iload_n 2, 1) := by decide +kernel
theorem d_De_strangersOf_43 : decode y_De_strangersOf.2.1 43 = .ok (.iand, 1) := by decide +kernel
theorem d_De_strangersOf_44 : decode y_De_strangersOf.2.1 44 = .ok (.ifCond .ne 10, 3) := by decide +kernel
theorem d_De_strangersOf_47 : decode y_De_strangersOf.2.1 47 = .ok (.iload_n 3, 1) := by decide +kernel
theorem d_De_strangersOf_48 : decode y_De_strangersOf.2.1 48 = .ok (.iconst 1, 1) := by decide +kernel
theorem d_De_strangersOf_49 : decode y_De_strangersOf.2.1 49 = .ok (.iload 4, 2) := by decide +kernel
theorem d_De_strangersOf_51 : decode y_De_strangersOf.2.1 51 = .ok (.ishl, 1) := by decide +kernel
theorem d_De_strangersOf_52 : decode y_De_strangersOf.2.1 52 = .ok (.ior, 1) := by decide +kernel
theorem d_De_strangersOf_53 : decode y_De_strangersOf.2.1 53 = .ok (.istore_n 3, 1) := by decide +kernel
theorem d_De_strangersOf_54 : decode y_De_strangersOf.2.1 54 = .ok (.iinc 4 1, 3) := by decide +kernel
theorem d_De_strangersOf_57 : decode y_De_strangersOf.2.1 57 = .ok (.goto (-38), 3) := by decide +kernel
theorem d_De_strangersOf_60 : decode y_De_strangersOf.2.1 60 = .ok (.iload_n 3, 1) := by decide +kernel
theorem d_De_strangersOf_61 : decode y_De_strangersOf.2.1 61 = .ok (.ireturn, 1) := by decide +kernel
def y_De_size : MethodName × ByteArray × Nat × Option FieldType × List (Nat × Nat × Nat × Nat) := (⟨"MaskedCauses$Decision", "size", "()I"⟩, prog_3_method_6_code, 1, (Option.some Jvm.ClassFile.FieldType.int), [])
theorem d_De_size_0 : decode y_De_size.2.1 0 = .ok (.aload_n 0, 1) := by decide +kernel
theorem d_De_size_1 : decode y_De_size.2.1 1 = .ok (.getfield 35, 3) := by decide +kernel
theorem d_De_size_4 : decode y_De_size.2.1 4 = .ok (.ireturn, 1) := by decide +kernel
def y_De_wordCount : MethodName × ByteArray × Nat × Option FieldType × List (Nat × Nat × Nat × Nat) := (⟨"MaskedCauses$Decision", "wordCount", "()I"⟩, prog_3_method_7_code, 1, (Option.some Jvm.ClassFile.FieldType.int), [])
theorem d_De_wordCount_0 : decode y_De_wordCount.2.1 0 = .ok (.iconst 1, 1) := by decide +kernel
theorem d_De_wordCount_1 : decode y_De_wordCount.2.1 1 = .ok (.aload_n 0, 1) := by decide +kernel
theorem d_De_wordCount_2 : decode y_De_wordCount.2.1 2 = .ok (.getfield 35, 3) := by decide +kernel
theorem d_De_wordCount_5 : decode y_De_wordCount.2.1 5 = .ok (.ishl, 1) := by decide +kernel
theorem d_De_wordCount_6 : decode y_De_wordCount.2.1 6 = .ok (.ireturn, 1) := by decide +kernel
def y_De_letterOf : MethodName × ByteArray × Nat × Option FieldType × List (Nat × Nat × Nat × Nat) := (⟨"MaskedCauses$Decision", "letterOf", "(I)I"⟩, prog_3_method_8_code, 2, (Option.some Jvm.ClassFile.FieldType.int), [])
theorem d_De_letterOf_0 : decode y_De_letterOf.2.1 0 = .ok (.aload_n 0, 1) := by decide +kernel
theorem d_De_letterOf_1 : decode y_De_letterOf.2.1 1 = .ok (.getfield 18, 3) := by decide +kernel
theorem d_De_letterOf_4 : decode y_De_letterOf.2.1 4 = .ok (.iload_n 1, 1) := by decide +kernel
theorem d_De_letterOf_5 : decode y_De_letterOf.2.1 5 = .ok (.iaload, 1) := by decide +kernel
theorem d_De_letterOf_6 : decode y_De_letterOf.2.1 6 = .ok (.ireturn, 1) := by decide +kernel
def y_De_shown : MethodName × ByteArray × Nat × Option FieldType × List (Nat × Nat × Nat × Nat) := (⟨"MaskedCauses$Decision", "shown", "()LMaskedCauses$Line;"⟩, prog_3_method_9_code, 1, (Option.some (Jvm.ClassFile.FieldType.object "MaskedCauses$Line")), [])
theorem d_De_shown_0 : decode y_De_shown.2.1 0 = .ok (.aload_n 0, 1) := by decide +kernel
theorem d_De_shown_1 : decode y_De_shown.2.1 1 = .ok (.getfield 12, 3) := by decide +kernel
theorem d_De_shown_4 : decode y_De_shown.2.1 4 = .ok (.areturn, 1) := by decide +kernel
def y_De_trueWords : MethodName × ByteArray × Nat × Option FieldType × List (Nat × Nat × Nat × Nat) := (⟨"MaskedCauses$Decision", "trueWords", "()J"⟩, prog_3_method_10_code, 1, (Option.some Jvm.ClassFile.FieldType.long), [])
theorem d_De_trueWords_0 : decode y_De_trueWords.2.1 0 = .ok (.aload_n 0, 1) := by decide +kernel
theorem d_De_trueWords_1 : decode y_De_trueWords.2.1 1 = .ok (.getfield 39, 3) := by decide +kernel
theorem d_De_trueWords_4 : decode y_De_trueWords.2.1 4 = .ok (.lreturn, 1) := by decide +kernel
def y_De_feasibleWords : MethodName × ByteArray × Nat × Option FieldType × List (Nat × Nat × Nat × Nat) := (⟨"MaskedCauses$Decision", "feasibleWords", "()J"⟩, prog_3_method_11_code, 1, (Option.some Jvm.ClassFile.FieldType.long), [])
theorem d_De_feasibleWords_0 : decode y_De_feasibleWords.2.1 0 = .ok (.aload_n 0, 1) := by decide +kernel
theorem d_De_feasibleWords_1 : decode y_De_feasibleWords.2.1 1 = .ok (.getfield 43, 3) := by decide +kernel
theorem d_De_feasibleWords_4 : decode y_De_feasibleWords.2.1 4 = .ok (.lreturn, 1) := by decide +kernel
def y_De_evaluatingWords : MethodName × ByteArray × Nat × Option FieldType × List (Nat × Nat × Nat × Nat) := (⟨"MaskedCauses$Decision", "evaluatingWords", "(I)J"⟩, prog_3_method_12_code, 2, (Option.some Jvm.ClassFile.FieldType.long), [])
theorem d_De_evaluatingWords_0 : decode y_De_evaluatingWords.2.1 0 = .ok (.aload_n 0, 1) := by decide +kernel
theorem d_De_evaluatingWords_1 : decode y_De_evaluatingWords.2.1 1 = .ok (.getfield 25, 3) := by decide +kernel
theorem d_De_evaluatingWords_4 : decode y_De_evaluatingWords.2.1 4 = .ok (.iload_n 1, 1) := by decide +kernel
theorem d_De_evaluatingWords_5 : decode y_De_evaluatingWords.2.1 5 = .ok (.laload, 1) := by decide +kernel
theorem d_De_evaluatingWords_6 : decode y_De_evaluatingWords.2.1 6 = .ok (.lreturn, 1) := by decide +kernel
def y_De_valueFor : MethodName × ByteArray × Nat × Option FieldType × List (Nat × Nat × Nat × Nat) := (⟨"MaskedCauses$Decision", "valueFor", "(II)I"⟩, prog_3_method_13_code, 3, (Option.some Jvm.ClassFile.FieldType.int), [])
theorem d_De_valueFor_0 : decode y_De_valueFor.2.1 0 = .ok (.aload_n 0, 1) := by decide +kernel
theorem d_De_valueFor_1 : decode y_De_valueFor.2.1 1 = .ok (.getfield 32, 3) := by decide +kernel
theorem d_De_valueFor_4 : decode y_De_valueFor.2.1 4 = .ok (.iload_n 1, 1) := by decide +kernel
theorem d_De_valueFor_5 : decode y_De_valueFor.2.1 5 = .ok (.iconst 3, 1) := by decide +kernel
theorem d_De_valueFor_6 : decode y_De_valueFor.2.1 6 = .ok (.imul, 1) := by decide +kernel
theorem d_De_valueFor_7 : decode y_De_valueFor.2.1 7 = .ok (.iload_n 2, 1) := by decide +kernel
theorem d_De_valueFor_8 : decode y_De_valueFor.2.1 8 = .ok (.iadd, 1) := by decide +kernel
theorem d_De_valueFor_9 : decode y_De_valueFor.2.1 9 = .ok (.iaload, 1) := by decide +kernel
theorem d_De_valueFor_10 : decode y_De_valueFor.2.1 10 = .ok (.ireturn, 1) := by decide +kernel
def y_De_meet : MethodName × ByteArray × Nat × Option FieldType × List (Nat × Nat × Nat × Nat) := (⟨"MaskedCauses$Decision", "meet", "(IIII)V"⟩, prog_3_method_14_code, 6, (Option.none : Option Jvm.ClassFile.FieldType), [])
theorem d_De_meet_0 : decode y_De_meet.2.1 0 = .ok (.aload_n 0, 1) := by decide +kernel
theorem d_De_meet_1 : decode y_De_meet.2.1 1 = .ok (.getfield 43, 3) := by decide +kernel
theorem d_De_meet_4 : decode y_De_meet.2.1 4 = .ok (.iload_n 1, 1) := by decide +kernel
theorem d_De_meet_5 : decode y_De_meet.2.1 5 = .ok (.invokestatic 93, 3) := by decide +kernel
theorem d_De_meet_8 : decode y_De_meet.2.1 8 = .ok (.ifCond .ne 49, 3) := by decide +kernel
theorem d_De_meet_11 : decode y_De_meet.2.1 11 = .ok (.aload_n 0, 1) := by decide +kernel
theorem d_De_meet_12 : decode y_De_meet.2.1 12 = .ok (.dup, 1) := by decide +kernel
theorem d_De_meet_13 : decode y_De_meet.2.1 13 = .ok (.getfield 43, 3) := by decide +kernel
theorem d_De_meet_16 : decode y_De_meet.2.1 16 = .ok (.lconst 1, 1) := by decide +kernel
theorem d_De_meet_17 : decode y_De_meet.2.1 17 = .ok (.iload_n 1, 1) := by decide +kernel
theorem d_De_meet_18 : decode y_De_meet.2.1 18 = .ok (.lshl, 1) := by decide +kernel
theorem d_De_meet_19 : decode y_De_meet.2.1 19 = .ok (.lor, 1) := by decide +kernel
theorem d_De_meet_20 : decode y_De_meet.2.1 20 = .ok (.putfield 43, 3) := by decide +kernel
theorem d_De_meet_23 : decode y_De_meet.2.1 23 = .ok (.iload_n 1, 1) := by decide +kernel
theorem d_De_meet_24 : decode y_De_meet.2.1 24 = .ok (.iconst 3, 1) := by decide +kernel
theorem d_De_meet_25 : decode y_De_meet.2.1 25 = .ok (.imul, 1) := by decide +kernel
theorem d_De_meet_26 : decode y_De_meet.2.1 26 = .ok (.istore 5, 2) := by decide +kernel
theorem d_De_meet_28 : decode y_De_meet.2.1 28 = .ok (.aload_n 0, 1) := by decide +kernel
theorem d_De_meet_29 : decode y_De_meet.2.1 29 = .ok (.getfield 32, 3) := by decide +kernel
theorem d_De_meet_32 : decode y_De_meet.2.1 32 = .ok (.iload 5, 2) := by decide +kernel
theorem d_De_meet_34 : decode y_De_meet.2.1 34 = .ok (.iload_n 2, 1) := by decide +kernel
theorem d_De_meet_35 : decode y_De_meet.2.1 35 = .ok (.iastore, 1) := by decide +kernel
theorem d_De_meet_36 : decode y_De_meet.2.1 36 = .ok (.aload_n 0, 1) := by decide +kernel
theorem d_De_meet_37 : decode y_De_meet.2.1 37 = .ok (.getfield 32, 3) := by decide +kernel
theorem d_De_meet_40 : decode y_De_meet.2.1 40 = .ok (.iload 5, 2) := by decide +kernel
theorem d_De_meet_42 : decode y_De_meet.2.1 42 = .ok (.iconst 1, 1) := by decide +kernel
theorem d_De_meet_43 : decode y_De_meet.2.1 43 = .ok (.iadd, 1) := by decide +kernel
theorem d_De_meet_44 : decode y_De_meet.2.1 44 = .ok (.iload_n 3, 1) := by decide +kernel
theorem d_De_meet_45 : decode y_De_meet.2.1 45 = .ok (.iastore, 1) := by decide +kernel
theorem d_De_meet_46 : decode y_De_meet.2.1 46 = .ok (.aload_n 0, 1) := by decide +kernel
theorem d_De_meet_47 : decode y_De_meet.2.1 47 = .ok (.getfield 32, 3) := by decide +kernel
theorem d_De_meet_50 : decode y_De_meet.2.1 50 = .ok (.iload 5, 2) := by decide +kernel
theorem d_De_meet_52 : decode y_De_meet.2.1 52 = .ok (.iconst 2, 1) := by decide +kernel
theorem d_De_meet_53 : decode y_De_meet.2.1 53 = .ok (.iadd, 1) := by decide +kernel
theorem d_De_meet_54 : decode y_De_meet.2.1 54 = .ok (.iload 4, 2) := by decide +kernel
theorem d_De_meet_56 : decode y_De_meet.2.1 56 = .ok (.iastore, 1) := by decide +kernel
theorem d_De_meet_57 : decode y_De_meet.2.1 57 = .ok (.return_, 1) := by decide +kernel
def y_De_wordFor : MethodName × ByteArray × Nat × Option FieldType × List (Nat × Nat × Nat × Nat) := (⟨"MaskedCauses$Decision", "wordFor", "([II)I"⟩, prog_3_method_15_code, 5, (Option.some Jvm.ClassFile.FieldType.int), [])
theorem d_De_wordFor_0 : decode y_De_wordFor.2.1 0 = .ok (.iconst 0, 1) := by decide +kernel
theorem d_De_wordFor_1 : decode y_De_wordFor.2.1 1 = .ok (.istore_n 3, 1) := by decide +kernel
theorem d_De_wordFor_2 : decode y_De_wordFor.2.1 2 = .ok (.iconst 0, 1) := by decide +kernel
theorem d_De_wordFor_3 : decode y_De_wordFor.2.1 3 = .ok (.istore 4, 2) := by decide +kernel
theorem d_De_wordFor_5 : decode y_De_wordFor.2.1 5 = .ok (.iload 4, 2) := by decide +kernel
theorem d_De_wordFor_7 : decode y_De_wordFor.2.1 7 = .ok (.aload_n 0, 1) := by decide +kernel
theorem d_De_wordFor_8 : decode y_De_wordFor.2.1 8 = .ok (.getfield 35, 3) := by decide +kernel
theorem d_De_wordFor_11 : decode y_De_wordFor.2.1 11 = .ok (.if_icmp .ge 35, 3) := by decide +kernel
theorem d_De_wordFor_14 : decode y_De_wordFor.2.1 14 = .ok (.aload_n 0, 1) := by decide +kernel
theorem d_De_wordFor_15 : decode y_De_wordFor.2.1 15 = .ok (.getfield 46, 3) := by decide +kernel
theorem d_De_wordFor_18 : decode y_De_wordFor.2.1 18 = .ok (.aload_n 0, 1) := by decide +kernel
theorem d_De_wordFor_19 : decode y_De_wordFor.2.1 19 = .ok (.getfield 18, 3) := by decide +kernel
theorem d_De_wordFor_22 : decode y_De_wordFor.2.1 22 = .ok (.iload 4, 2) := by decide +kernel
theorem d_De_wordFor_24 : decode y_De_wordFor.2.1 24 = .ok (.iaload, 1) := by decide +kernel
theorem d_De_wordFor_25 : decode y_De_wordFor.2.1 25 = .ok (.aload_n 1, 1) := by decide +kernel
theorem d_De_wordFor_26 : decode y_De_wordFor.2.1 26 = .ok (.iload_n 2, 1) := by decide +kernel
theorem d_De_wordFor_27 : decode y_De_wordFor.2.1 27 = .ok (.invokevirtual 97, 3) := by decide +kernel
theorem d_De_wordFor_30 : decode y_De_wordFor.2.1 30 = .ok (.ifCond .eq 10, 3) := by decide +kernel
theorem d_De_wordFor_33 : decode y_De_wordFor.2.1 33 = .ok (.iload_n 3, 1) := by decide +kernel
theorem d_De_wordFor_34 : decode y_De_wordFor.2.1 34 = .ok (.iconst 1, 1) := by decide +kernel
theorem d_De_wordFor_35 : decode y_De_wordFor.2.1 35 = .ok (.iload 4, 2) := by decide +kernel
theorem d_De_wordFor_37 : decode y_De_wordFor.2.1 37 = .ok (.ishl, 1) := by decide +kernel
theorem d_De_wordFor_38 : decode y_De_wordFor.2.1 38 = .ok (.ior, 1) := by decide +kernel
theorem d_De_wordFor_39 : decode y_De_wordFor.2.1 39 = .ok (.istore_n 3, 1) := by decide +kernel
theorem d_De_wordFor_40 : decode y_De_wordFor.2.1 40 = .ok (.iinc 4 1, 3) := by decide +kernel
theorem d_De_wordFor_43 : decode y_De_wordFor.2.1 43 = .ok (.goto (-38), 3) := by decide +kernel
theorem d_De_wordFor_46 : decode y_De_wordFor.2.1 46 = .ok (.iload_n 3, 1) := by decide +kernel
theorem d_De_wordFor_47 : decode y_De_wordFor.2.1 47 = .ok (.ireturn, 1) := by decide +kernel
def y_De_pairFor : MethodName × ByteArray × Nat × Option FieldType × List (Nat × Nat × Nat × Nat) := (⟨"MaskedCauses$Decision", "pairFor", "(II)I"⟩, prog_3_method_16_code, 3, (Option.some Jvm.ClassFile.FieldType.int), [])
theorem d_De_pairFor_0 : decode y_De_pairFor.2.1 0 = .ok (.aload_n 0, 1) := by decide +kernel
theorem d_De_pairFor_1 : decode y_De_pairFor.2.1 1 = .ok (.aload_n 0, 1) := by decide +kernel
theorem d_De_pairFor_2 : decode y_De_pairFor.2.1 2 = .ok (.getfield 43, 3) := by decide +kernel
theorem d_De_pairFor_5 : decode y_De_pairFor.2.1 5 = .ok (.iload_n 1, 1) := by decide +kernel
theorem d_De_pairFor_6 : decode y_De_pairFor.2.1 6 = .ok (.iload_n 2, 1) := by decide +kernel
theorem d_De_pairFor_7 : decode y_De_pairFor.2.1 7 = .ok (.invokevirtual 101, 3) := by decide +kernel
theorem d_De_pairFor_10 : decode y_De_pairFor.2.1 10 = .ok (.ireturn, 1) := by decide +kernel
def y_De_isSolved : MethodName × ByteArray × Nat × Option FieldType × List (Nat × Nat × Nat × Nat) := (⟨"MaskedCauses$Decision", "isSolved", "(II)Z"⟩, prog_3_method_17_code, 3, (Option.some Jvm.ClassFile.FieldType.boolean), [])
theorem d_De_isSolved_0 : decode y_De_isSolved.2.1 0 = .ok (.aload_n 0, 1) := by decide +kernel
theorem d_De_isSolved_1 : decode y_De_isSolved.2.1 1 = .ok (.iload_n 1, 1) := by decide +kernel
theorem d_De_isSolved_2 : decode y_De_isSolved.2.1 2 = .ok (.iload_n 2, 1) := by decide +kernel
theorem d_De_isSolved_3 : decode y_De_isSolved.2.1 3 = .ok (.invokevirtual 105, 3) := by decide +kernel
theorem d_De_isSolved_6 : decode y_De_isSolved.2.1 6 = .ok (.iconst (-1), 1) := by decide +kernel
theorem d_De_isSolved_7 : decode y_De_isSolved.2.1 7 = .ok (.if_icmp .eq 7, 3) := by decide +kernel
theorem d_De_isSolved_10 : decode y_De_isSolved.2.1 10 = .ok (.iconst 1, 1) := by decide +kernel
theorem d_De_isSolved_11 : decode y_De_isSolved.2.1 11 = .ok (.goto 4, 3) := by decide +kernel
theorem d_De_isSolved_14 : decode y_De_isSolved.2.1 14 = .ok (.iconst 0, 1) := by decide +kernel
theorem d_De_isSolved_15 : decode y_De_isSolved.2.1 15 = .ok (.ireturn, 1) := by decide +kernel
def y_De_isShownWithin : MethodName × ByteArray × Nat × Option FieldType × List (Nat × Nat × Nat × Nat) := (⟨"MaskedCauses$Decision", "isShownWithin", "(JII)Z"⟩, prog_3_method_18_code, 5, (Option.some Jvm.ClassFile.FieldType.boolean), [])
theorem d_De_isShownWithin_0 : decode y_De_isShownWithin.2.1 0 = .ok (.aload_n 0, 1) := by decide +kernel
theorem d_De_isShownWithin_1 : decode y_De_isShownWithin.2.1 1 = .ok (.lload_n 1, 1) := by decide +kernel
theorem d_De_isShownWithin_2 : decode y_De_isShownWithin.2.1 2 = .ok (.iload_n 3, 1) := by decide +kernel
theorem d_De_isShownWithin_3 : decode y_De_isShownWithin.2.1 3 = .ok (.iload 4, 2) := by decide +kernel
theorem d_De_isShownWithin_5 : decode y_De_isShownWithin.2.1 5 = .ok (.invokevirtual 101, 3) := by decide +kernel
theorem d_De_isShownWithin_8 : decode y_De_isShownWithin.2.1 8 = .ok (.iconst (-1), 1) := by decide +kernel
theorem d_De_isShownWithin_9 : decode y_De_isShownWithin.2.1 9 = .ok (.if_icmp .eq 7, 3) := by decide +kernel
theorem d_De_isShownWithin_12 : decode y_De_isShownWithin.2.1 12 = .ok (.iconst 1, 1) := by decide +kernel
theorem d_De_isShownWithin_13 : decode y_De_isShownWithin.2.1 13 = .ok (.goto 4, 3) := by decide +kernel
theorem d_De_isShownWithin_16 : decode y_De_isShownWithin.2.1 16 = .ok (.iconst 0, 1) := by decide +kernel
theorem d_De_isShownWithin_17 : decode y_De_isShownWithin.2.1 17 = .ok (.ireturn, 1) := by decide +kernel
def y_De_pairWithin : MethodName × ByteArray × Nat × Option FieldType × List (Nat × Nat × Nat × Nat) := (⟨"MaskedCauses$Decision", "pairWithin", "(JII)I"⟩, prog_3_method_19_code, 9, (Option.some Jvm.ClassFile.FieldType.int), [])
theorem d_De_pairWithin_0 : decode y_De_pairWithin.2.1 0 = .ok (.iconst 0, 1) := by decide +kernel
theorem d_De_pairWithin_1 : decode y_De_pairWithin.2.1 1 = .ok (.istore 5, 2) := by decide +kernel
theorem d_De_pairWithin_3 : decode y_De_pairWithin.2.1 3 = .ok (.iload 5, 2) := by decide +kernel
theorem d_De_pairWithin_5 : decode y_De_pairWithin.2.1 5 = .ok (.aload_n 0, 1) := by decide +kernel
theorem d_De_pairWithin_6 : decode y_De_pairWithin.2.1 6 = .ok (.invokevirtual 109, 3) := by decide +kernel
theorem d_De_pairWithin_9 : decode y_De_pairWithin.2.1 9 = .ok (.if_icmp .ge 78, 3) := by decide +kernel
theorem d_De_pairWithin_12 : decode y_De_pairWithin.2.1 12 = .ok (.lload_n 1, 1) := by decide +kernel
theorem d_De_pairWithin_13 : decode y_De_pairWithin.2.1 13 = .ok (.iload 5, 2) := by decide +kernel
theorem d_De_pairWithin_15 : decode y_De_pairWithin.2.1 15 = .ok (.invokestatic 93, 3) := by decide +kernel
theorem d_De_pairWithin_18 : decode y_De_pairWithin.2.1 18 = .ok (.ifCond .eq 63, 3) := by decide +kernel
theorem d_De_pairWithin_21 : decode y_De_pairWithin.2.1 21 = .ok (.lload_n 1, 1) := by decide +kernel
theorem d_De_pairWithin_22 : decode y_De_pairWithin.2.1 22 = .ok (.aload_n 0, 1) := by decide +kernel
theorem d_De_pairWithin_23 : decode y_De_pairWithin.2.1 23 = .ok (.iload 5, 2) := by decide +kernel
theorem d_De_pairWithin_25 : decode y_De_pairWithin.2.1 25 = .ok (.iload_n 3, 1) := by decide +kernel
theorem d_De_pairWithin_26 : decode y_De_pairWithin.2.1 26 = .ok (.iload 4, 2) := by decide +kernel
theorem d_De_pairWithin_28 : decode y_De_pairWithin.2.1 28 = .ok (.invokevirtual 112, 3) := by decide +kernel
theorem d_De_pairWithin_31 : decode y_De_pairWithin.2.1 31 = .ok (.land, 1) := by decide +kernel
theorem d_De_pairWithin_32 : decode y_De_pairWithin.2.1 32 = .ok (.lstore 6, 2) := by decide +kernel
theorem d_De_pairWithin_34 : decode y_De_pairWithin.2.1 34 = .ok (.iload 5, 2) := by decide +kernel
theorem d_De_pairWithin_36 : decode y_De_pairWithin.2.1 36 = .ok (.iconst 1, 1) := by decide +kernel
theorem d_De_pairWithin_37 : decode y_De_pairWithin.2.1 37 = .ok (.iadd, 1) := by decide +kernel
theorem d_De_pairWithin_38 : decode y_De_pairWithin.2.1 38 = .ok (.istore 8, 2) := by decide +kernel
theorem d_De_pairWithin_40 : decode y_De_pairWithin.2.1 40 = .ok (.lload 6, 2) := by decide +kernel
theorem d_De_pairWithin_42 : decode y_De_pairWithin.2.1 42 = .ok (.lconst 0, 1) := by decide +kernel
theorem d_De_pairWithin_43 : decode y_De_pairWithin.2.1 43 = .ok (.lcmp, 1) := by decide +kernel
theorem d_De_pairWithin_44 : decode y_De_pairWithin.2.1 44 = .ok (.ifCond .eq 37, 3) := by decide +kernel
theorem d_De_pairWithin_47 : decode y_De_pairWithin.2.1 47 = .ok (.iload 8, 2) := by decide +kernel
theorem d_De_pairWithin_49 : decode y_De_pairWithin.2.1 49 = .ok (.aload_n 0, 1) := by decide +kernel
theorem d_De_pairWithin_50 : decode y_De_pairWithin.2.1 50 = .ok (.invokevirtual 109, 3) := by decide +kernel
theorem d_De_pairWithin_53 : decode y_De_pairWithin.2.1 53 = .ok (.if_icmp .ge 28, 3) := by decide +kernel
theorem d_De_pairWithin_56 : decode y_De_pairWithin.2.1 56 = .ok (.lload 6, 2) := by decide +kernel
theorem d_De_pairWithin_58 : decode y_De_pairWithin.2.1 58 = .ok (.iload 8, 2) := by decide +kernel
theorem d_De_pairWithin_60 : decode y_De_pairWithin.2.1 60 = .ok (.invokestatic 93, 3) := by decide +kernel
theorem d_De_pairWithin_63 : decode y_De_pairWithin.2.1 63 = .ok (.ifCond .eq 12, 3) := by decide +kernel
theorem d_De_pairWithin_66 : decode y_De_pairWithin.2.1 66 = .ok (.bipush 100, 2) := by decide +kernel
theorem d_De_pairWithin_68 : decode y_De_pairWithin.2.1 68 = .ok (.iload 5, 2) := by decide +kernel
theorem d_De_pairWithin_70 : decode y_De_pairWithin.2.1 70 = .ok (.imul, 1) := by decide +kernel
theorem d_De_pairWithin_71 : decode y_De_pairWithin.2.1 71 = .ok (.iload 8, 2) := by decide +kernel
theorem d_De_pairWithin_73 : decode y_De_pairWithin.2.1 73 = .ok (.iadd, 1) := by decide +kernel
theorem d_De_pairWithin_74 : decode y_De_pairWithin.2.1 74 = .ok (.ireturn, 1) := by decide +kernel
theorem d_De_pairWithin_75 : decode y_De_pairWithin.2.1 75 = .ok (.iinc 8 1, 3) := by decide +kernel
theorem d_De_pairWithin_78 : decode y_De_pairWithin.2.1 78 = .ok (.goto (-38), 3) := by decide +kernel
theorem d_De_pairWithin_81 : decode y_De_pairWithin.2.1 81 = .ok (.iinc 5 1, 3) := by decide +kernel
theorem d_De_pairWithin_84 : decode y_De_pairWithin.2.1 84 = .ok (.goto (-81), 3) := by decide +kernel
theorem d_De_pairWithin_87 : decode y_De_pairWithin.2.1 87 = .ok (.iconst (-1), 1) := by decide +kernel
theorem d_De_pairWithin_88 : decode y_De_pairWithin.2.1 88 = .ok (.ireturn, 1) := by decide +kernel
def y_De_partnersOf : MethodName × ByteArray × Nat × Option FieldType × List (Nat × Nat × Nat × Nat) := (⟨"MaskedCauses$Decision", "partnersOf", "(III)J"⟩, prog_3_method_20_code, 10, (Option.some Jvm.ClassFile.FieldType.long), [])
theorem d_De_partnersOf_0 : decode y_De_partnersOf.2.1 0 = .ok (.aload_n 0, 1) := by decide +kernel
theorem d_De_partnersOf_1 : decode y_De_partnersOf.2.1 1 = .ok (.getfield 43, 3) := by decide +kernel
theorem d_De_partnersOf_4 : decode y_De_partnersOf.2.1 4 = .ok (.aload_n 0, 1) := by decide +kernel
theorem d_De_partnersOf_5 : decode y_De_partnersOf.2.1 5 = .ok (.getfield 25, 3) := by decide +kernel
theorem d_De_partnersOf_8 : decode y_De_partnersOf.2.1 8 = .ok (.iload_n 2, 1) := by decide +kernel
theorem d_De_partnersOf_9 : decode y_De_partnersOf.2.1 9 = .ok (.laload, 1) := by decide +kernel
theorem d_De_partnersOf_10 : decode y_De_partnersOf.2.1 10 = .ok (.land, 1) := by decide +kernel
theorem d_De_partnersOf_11 : decode y_De_partnersOf.2.1 11 = .ok (.lstore 4, 2) := by decide +kernel
theorem d_De_partnersOf_13 : decode y_De_partnersOf.2.1 13 = .ok (.iload_n 3, 1) := by decide +kernel
theorem d_De_partnersOf_14 : decode y_De_partnersOf.2.1 14 = .ok (.ifCond .eq 14, 3) := by decide +kernel
theorem d_De_partnersOf_17 : decode y_De_partnersOf.2.1 17 = .ok (.lload 4, 2) := by decide +kernel
theorem d_De_partnersOf_19 : decode y_De_partnersOf.2.1 19 = .ok (.aload_n 0, 1) := by decide +kernel
theorem d_De_partnersOf_20 : decode y_De_partnersOf.2.1 20 = .ok (.getfield 29, 3) := by decide +kernel
theorem d_De_partnersOf_23 : decode y_De_partnersOf.2.1 23 = .ok (.iload_n 2, 1) := by decide +kernel
theorem d_De_partnersOf_24 : decode y_De_partnersOf.2.1 24 = .ok (.laload, 1) := by decide +kernel
theorem d_De_partnersOf_25 : decode y_De_partnersOf.2.1 25 = .ok (.land, 1) := by decide +kernel
theorem d_De_partnersOf_26 : decode y_De_partnersOf.2.1 26 = .ok (.lstore 4, 2) := by decide +kernel
theorem d_De_partnersOf_28 : decode y_De_partnersOf.2.1 28 = .ok (.lload 4, 2) := by decide +kernel
theorem d_De_partnersOf_30 : decode y_De_partnersOf.2.1 30 = .ok (.iload_n 1, 1) := by decide +kernel
theorem d_De_partnersOf_31 : decode y_De_partnersOf.2.1 31 = .ok (.invokestatic 93, 3) := by decide +kernel
theorem d_De_partnersOf_34 : decode y_De_partnersOf.2.1 34 = .ok (.ifCond .ne 5, 3) := by decide +kernel
theorem d_De_partnersOf_37 : decode y_De_partnersOf.2.1 37 = .ok (.lconst 0, 1) := by decide +kernel
theorem d_De_partnersOf_38 : decode y_De_partnersOf.2.1 38 = .ok (.lreturn, 1) := by decide +kernel
theorem d_De_partnersOf_39 : decode y_De_partnersOf.2.1 39 = .ok (.lload 4, 2) := by decide +kernel
theorem d_De_partnersOf_41 : decode y_De_partnersOf.2.1 41 = .ok (.getstatic 83, 3) := by decide +kernel
theorem d_De_partnersOf_44 : decode y_De_partnersOf.2.1 44 = .ok (.iload_n 2, 1) := by decide +kernel
theorem d_De_partnersOf_45 : decode y_De_partnersOf.2.1 45 = .ok (.laload, 1) := by decide +kernel
theorem d_De_partnersOf_46 : decode y_De_partnersOf.2.1 46 = .ok (.iload_n 1, 1) := by decide +kernel
theorem d_De_partnersOf_47 : decode y_De_partnersOf.2.1 47 = .ok (.invokestatic 116, 3) := by decide +kernel
theorem d_De_partnersOf_50 : decode y_De_partnersOf.2.1 50 = .ok (.ldc2_w 86, 3) := by decide +kernel
theorem d_De_partnersOf_53 : decode y_De_partnersOf.2.1 53 = .ok (.lxor, 1) := by decide +kernel
theorem d_De_partnersOf_54 : decode y_De_partnersOf.2.1 54 = .ok (.land, 1) := by decide +kernel
theorem d_De_partnersOf_55 : decode y_De_partnersOf.2.1 55 = .ok (.aload_n 0, 1) := by decide +kernel
theorem d_De_partnersOf_56 : decode y_De_partnersOf.2.1 56 = .ok (.getfield 39, 3) := by decide +kernel
theorem d_De_partnersOf_59 : decode y_De_partnersOf.2.1 59 = .ok (.iload_n 1, 1) := by decide +kernel
theorem d_De_partnersOf_60 : decode y_De_partnersOf.2.1 60 = .ok (.invokestatic 116, 3) := by decide +kernel
theorem d_De_partnersOf_63 : decode y_De_partnersOf.2.1 63 = .ok (.ldc2_w 86, 3) := by decide +kernel
theorem d_De_partnersOf_66 : decode y_De_partnersOf.2.1 66 = .ok (.lxor, 1) := by decide +kernel
theorem d_De_partnersOf_67 : decode y_De_partnersOf.2.1 67 = .ok (.land, 1) := by decide +kernel
theorem d_De_partnersOf_68 : decode y_De_partnersOf.2.1 68 = .ok (.lstore 6, 2) := by decide +kernel
theorem d_De_partnersOf_70 : decode y_De_partnersOf.2.1 70 = .ok (.aload_n 0, 1) := by decide +kernel
theorem d_De_partnersOf_71 : decode y_De_partnersOf.2.1 71 = .ok (.iload_n 2, 1) := by decide +kernel
theorem d_De_partnersOf_72 : decode y_De_partnersOf.2.1 72 = .ok (.iload_n 3, 1) := by decide +kernel
theorem d_De_partnersOf_73 : decode y_De_partnersOf.2.1 73 = .ok (.invokevirtual 119, 3) := by decide +kernel
theorem d_De_partnersOf_76 : decode y_De_partnersOf.2.1 76 = .ok (.istore 8, 2) := by decide +kernel
theorem d_De_partnersOf_78 : decode y_De_partnersOf.2.1 78 = .ok (.iconst 0, 1) := by decide +kernel
theorem d_De_partnersOf_79 : decode y_De_partnersOf.2.1 79 = .ok (.istore 9, 2) := by decide +kernel
theorem d_De_partnersOf_81 : decode y_De_partnersOf.2.1 81 = .ok (.iload 9, 2) := by decide +kernel
theorem d_De_partnersOf_83 : decode y_De_partnersOf.2.1 83 = .ok (.aload_n 0, 1) := by decide +kernel
theorem d_De_partnersOf_84 : decode y_De_partnersOf.2.1 84 = .ok (.getfield 35, 3) := by decide +kernel
theorem d_De_partnersOf_87 : decode y_De_partnersOf.2.1 87 = .ok (.if_icmp .ge 60, 3) := by decide +kernel
theorem d_De_partnersOf_90 : decode y_De_partnersOf.2.1 90 = .ok (.iload 8, 2) := by decide +kernel
theorem d_De_partnersOf_92 : decode y_De_partnersOf.2.1 92 = .ok (.iload 9, 2) := by decide +kernel
theorem d_De_partnersOf_94 : decode y_De_partnersOf.2.1 94 = .ok (.invokestatic 79, 3) := by decide +kernel
theorem d_De_partnersOf_97 : decode y_De_partnersOf.2.1 97 = .ok (.ifCond .eq 44, 3) := by decide +kernel
theorem d_De_partnersOf_100 : decode y_De_partnersOf.2.1 100 = .ok (.aload_n 0, 1) := by decide +kernel
theorem d_De_partnersOf_101 : decode y_De_partnersOf.2.1 101 = .ok (.getfield 25, 3) := by decide +kernel
theorem d_De_partnersOf_104 : decode y_De_partnersOf.2.1 104 = .ok (.iload 9, 2) := by decide +kernel
theorem d_De_partnersOf_106 : decode y_De_partnersOf.2.1 106 = .ok (.laload, 1) := by decide +kernel
theorem d_De_partnersOf_107 : decode y_De_partnersOf.2.1 107 = .ok (.iload_n 1, 1) := by decide +kernel
theorem d_De_partnersOf_108 : decode y_De_partnersOf.2.1 108 = .ok (.invokestatic 93, 3) := by decide +kernel
theorem d_De_partnersOf_111 : decode y_De_partnersOf.2.1 111 = .ok (.ifCond .eq 30, 3) := by decide +kernel
theorem d_De_partnersOf_114 : decode y_De_partnersOf.2.1 114 = .ok (.lload 6, 2) := by decide +kernel
theorem d_De_partnersOf_116 : decode y_De_partnersOf.2.1 116 = .ok (.aload_n 0, 1) := by decide +kernel
theorem d_De_partnersOf_117 : decode y_De_partnersOf.2.1 117 = .ok (.getfield 25, 3) := by decide +kernel
theorem d_De_partnersOf_120 : decode y_De_partnersOf.2.1 120 = .ok (.iload 9, 2) := by decide +kernel
theorem d_De_partnersOf_122 : decode y_De_partnersOf.2.1 122 = .ok (.laload, 1) := by decide +kernel
theorem d_De_partnersOf_123 : decode y_De_partnersOf.2.1 123 = .ok (.ldc2_w 86, 3) := by decide +kernel
theorem d_De_partnersOf_126 : decode y_De_partnersOf.2.1 126 = .ok (.lxor, 1) := by decide +kernel
theorem d_De_partnersOf_127 : decode y_De_partnersOf.2.1 127 = .ok (.getstatic 83, 3) := by decide +kernel
theorem d_De_partnersOf_130 : decode y_De_partnersOf.2.1 130 = .ok (.iload 9, 2) := by decide +kernel
theorem d_De_partnersOf_132 : decode y_De_partnersOf.2.1 132 = .ok (.laload, 1) := by decide +kernel
theorem d_De_partnersOf_133 : decode y_De_partnersOf.2.1 133 = .ok (.iload_n 1, 1) := by decide +kernel
theorem d_De_partnersOf_134 : decode y_De_partnersOf.2.1 134 = .ok (.invokestatic 116, 3) := by decide +kernel
theorem d_De_partnersOf_137 : decode y_De_partnersOf.2.1 137 = .ok (.lor, 1) := by decide +kernel
theorem d_De_partnersOf_138 : decode y_De_partnersOf.2.1 138 = .ok (.land, 1) := by decide +kernel
theorem d_De_partnersOf_139 : decode y_De_partnersOf.2.1 139 = .ok (.lstore 6, 2) := by decide +kernel
theorem d_De_partnersOf_141 : decode y_De_partnersOf.2.1 141 = .ok (.iinc 9 1, 3) := by decide +kernel
theorem d_De_partnersOf_144 : decode y_De_partnersOf.2.1 144 = .ok (.goto (-63), 3) := by decide +kernel
theorem d_De_partnersOf_147 : decode y_De_partnersOf.2.1 147 = .ok (.lload 6, 2) := by decide +kernel
theorem d_De_partnersOf_149 : decode y_De_partnersOf.2.1 149 = .ok (.lreturn, 1) := by decide +kernel
def y_De_likeWord : MethodName × ByteArray × Nat × Option FieldType × List (Nat × Nat × Nat × Nat) := (⟨"MaskedCauses$Decision", "likeWord", "(JI)J"⟩, prog_3_method_21_code, 3, (Option.some Jvm.ClassFile.FieldType.long), [])
theorem d_De_likeWord_0 : decode y_De_likeWord.2.1 0 = .ok (.lload_n 0, 1) := by decide +kernel
theorem d_De_likeWord_1 : decode y_De_likeWord.2.1 1 = .ok (.iload_n 2, 1) := by decide +kernel
theorem d_De_likeWord_2 : decode y_De_likeWord.2.1 2 = .ok (.invokestatic 93, 3) := by decide +kernel
theorem d_De_likeWord_5 : decode y_De_likeWord.2.1 5 = .ok (.ifCond .eq 7, 3) := by decide +kernel
theorem d_De_likeWord_8 : decode y_De_likeWord.2.1 8 = .ok (.lload_n 0, 1) := by decide +kernel
theorem d_De_likeWord_9 : decode y_De_likeWord.2.1 9 = .ok (.goto 8, 3) := by decide +kernel
theorem d_De_likeWord_12 : decode y_De_likeWord.2.1 12 = .ok (.lload_n 0, 1) := by decide +kernel
theorem d_De_likeWord_13 : decode y_De_likeWord.2.1 13 = .ok (.ldc2_w 86, 3) := by decide +kernel
theorem d_De_likeWord_16 : decode y_De_likeWord.2.1 16 = .ok (.lxor, 1) := by decide +kernel
theorem d_De_likeWord_17 : decode y_De_likeWord.2.1 17 = .ok (.lreturn, 1) := by decide +kernel
def y_De_heldFor : MethodName × ByteArray × Nat × Option FieldType × List (Nat × Nat × Nat × Nat) := (⟨"MaskedCauses$Decision", "heldFor", "(II)I"⟩, prog_3_method_22_code, 3, (Option.some Jvm.ClassFile.FieldType.int), [])
theorem d_De_heldFor_0 : decode y_De_heldFor.2.1 0 = .ok (.iload_n 2, 1) := by decide +kernel
theorem d_De_heldFor_1 : decode y_De_heldFor.2.1 1 = .ok (.lookupswitch 35 #[(0, 27), (1, 33)], 27) := by decide +kernel
theorem d_De_heldFor_28 : decode y_De_heldFor.2.1 28 = .ok (.iconst 1, 1) := by decide +kernel
theorem d_De_heldFor_29 : decode y_De_heldFor.2.1 29 = .ok (.iload_n 1, 1) := by decide +kernel
theorem d_De_heldFor_30 : decode y_De_heldFor.2.1 30 = .ok (.ishl, 1) := by decide +kernel
theorem d_De_heldFor_31 : decode y_De_heldFor.2.1 31 = .ok (.iconst (-1), 1) := by decide +kernel
theorem d_De_heldFor_32 : decode y_De_heldFor.2.1 32 = .ok (.ixor, 1) := by decide +kernel
theorem d_De_heldFor_33 : decode y_De_heldFor.2.1 33 = .ok (.ireturn, 1) := by decide +kernel
theorem d_De_heldFor_34 : decode y_De_heldFor.2.1 34 = .ok (.iconst 0, 1) := by decide +kernel
theorem d_De_heldFor_35 : decode y_De_heldFor.2.1 35 = .ok (.ireturn, 1) := by decide +kernel
theorem d_De_heldFor_36 : decode y_De_heldFor.2.1 36 = .ok (.aload_n 0, 1) := by decide +kernel
theorem d_De_heldFor_37 : decode y_De_heldFor.2.1 37 = .ok (.getfield 22, 3) := by decide +kernel
theorem d_De_heldFor_40 : decode y_De_heldFor.2.1 40 = .ok (.iload_n 1, 1) := by decide +kernel
theorem d_De_heldFor_41 : decode y_De_heldFor.2.1 41 = .ok (.iaload, 1) := by decide +kernel
theorem d_De_heldFor_42 : decode y_De_heldFor.2.1 42 = .ok (.ireturn, 1) := by decide +kernel
end
