/-! the tables' words by their places, the classes, the shapes of the cells -/
section
def TB : List Cond := lw_tbl.filter goodWord
theorem tb_good : ∀ w ∈ TB, goodWord w = true := fun w h => (List.mem_filter.mp h).2
theorem tb_of {w : Cond} (h : w ∈ tables_1) (g : goodWord w = true) : w ∈ TB := List.mem_filter.mpr ⟨List.mem_append_right _ h, g⟩
theorem tb_sel {w : Cond} (h : w ∈ k2_sels lw_privs) (g : goodWord w = true) : w ∈ TB := List.mem_filter.mpr ⟨List.mem_append_left _ h, g⟩
theorem tb_1 (i : Nat) {w : Cond} (hi : tables_1_1[i]? = some w) (g : goodWord w = true) : w ∈ TB := tb_of (have h := List.mem_of_getElem? hi; List.mem_append_left _ h) g
theorem tm_1 (i : Nat) {w : Cond} (hi : tables_1_1[i]? = some w) : w ∈ tables_1 := (have h := List.mem_of_getElem? hi; List.mem_append_left _ h)
theorem tb_2 (i : Nat) {w : Cond} (hi : tables_1_2[i]? = some w) (g : goodWord w = true) : w ∈ TB := tb_of (have h := List.mem_of_getElem? hi; List.mem_append_right _ (List.mem_append_left _ h)) g
theorem tm_2 (i : Nat) {w : Cond} (hi : tables_1_2[i]? = some w) : w ∈ tables_1 := (have h := List.mem_of_getElem? hi; List.mem_append_right _ (List.mem_append_left _ h))
theorem tb_3 (i : Nat) {w : Cond} (hi : tables_1_3[i]? = some w) (g : goodWord w = true) : w ∈ TB := tb_of (have h := List.mem_of_getElem? hi; List.mem_append_right _ (List.mem_append_right _ (List.mem_append_left _ h))) g
theorem tm_3 (i : Nat) {w : Cond} (hi : tables_1_3[i]? = some w) : w ∈ tables_1 := (have h := List.mem_of_getElem? hi; List.mem_append_right _ (List.mem_append_right _ (List.mem_append_left _ h)))
theorem tb_4 (i : Nat) {w : Cond} (hi : tables_1_4[i]? = some w) (g : goodWord w = true) : w ∈ TB := tb_of (have h := List.mem_of_getElem? hi; List.mem_append_right _ (List.mem_append_right _ (List.mem_append_right _ (List.mem_append_left _ h)))) g
theorem tm_4 (i : Nat) {w : Cond} (hi : tables_1_4[i]? = some w) : w ∈ tables_1 := (have h := List.mem_of_getElem? hi; List.mem_append_right _ (List.mem_append_right _ (List.mem_append_right _ (List.mem_append_left _ h))))
theorem tb_5 (i : Nat) {w : Cond} (hi : tables_1_5[i]? = some w) (g : goodWord w = true) : w ∈ TB := tb_of (have h := List.mem_of_getElem? hi; List.mem_append_right _ (List.mem_append_right _ (List.mem_append_right _ (List.mem_append_right _ (List.mem_append_left _ h))))) g
theorem tm_5 (i : Nat) {w : Cond} (hi : tables_1_5[i]? = some w) : w ∈ tables_1 := (have h := List.mem_of_getElem? hi; List.mem_append_right _ (List.mem_append_right _ (List.mem_append_right _ (List.mem_append_right _ (List.mem_append_left _ h)))))
theorem tb_6 (i : Nat) {w : Cond} (hi : tables_1_6[i]? = some w) (g : goodWord w = true) : w ∈ TB := tb_of (have h := List.mem_of_getElem? hi; List.mem_append_right _ (List.mem_append_right _ (List.mem_append_right _ (List.mem_append_right _ (List.mem_append_right _ (h)))))) g
theorem tm_6 (i : Nat) {w : Cond} (hi : tables_1_6[i]? = some w) : w ∈ tables_1 := (have h := List.mem_of_getElem? hi; List.mem_append_right _ (List.mem_append_right _ (List.mem_append_right _ (List.mem_append_right _ (List.mem_append_right _ (h))))))
def NWm : List (String × Nat × MethodName × String) := [("MaskedCauses", 9, ⟨"MaskedCauses$Inputs", "<init>", "()V"⟩, "MaskedCauses"), ("MaskedCauses", 18, ⟨"MaskedCauses$Conditions", "<init>", "()V"⟩, "MaskedCauses"), ("MaskedCauses", 25, ⟨"MaskedCauses$Line", "<init>", "()V"⟩, "MaskedCauses"), ("MaskedCauses", 32, ⟨"MaskedCauses$Tree", "<init>", "()V"⟩, "MaskedCauses"), ("MaskedCauses$Decision", 11, ⟨"MaskedCauses$Line", "<init>", "()V"⟩, "MaskedCauses"), ("MaskedCauses", 66, ⟨"MaskedCauses$Suite", "<init>", "()V"⟩, "MaskedCauses"), ("MaskedCauses", 73, ⟨"MaskedCauses$Fewest", "<init>", "()V"⟩, "MaskedCauses"), ("MaskedCauses", 80, ⟨"MaskedCauses$Records", "<init>", "()V"⟩, "MaskedCauses"), ("MaskedCauses$Decision", 79, ⟨"MaskedCauses", "hasBit", "(II)Z"⟩, "MaskedCauses"), ("MaskedCauses$Decision", 93, ⟨"MaskedCauses", "contains", "(JI)Z"⟩, "MaskedCauses"), ("MaskedCauses$Suite", 41, ⟨"MaskedCauses", "contains", "(JI)Z"⟩, "MaskedCauses"), ("MaskedCauses$Fewest", 64, ⟨"MaskedCauses", "hasBit", "(II)Z"⟩, "MaskedCauses"), ("MaskedCauses$Fewest", 60, ⟨"MaskedCauses", "contains", "(JI)Z"⟩, "MaskedCauses")]
def NWf : List (String × Nat × String × String × String × String) := [("MaskedCauses$Tree", 43, "MaskedCauses", "TRUE_WORDS", "[J", "MaskedCauses"), ("MaskedCauses$Decision", 83, "MaskedCauses", "TRUE_WORDS", "[J", "MaskedCauses")]
def NWd : List MethodName := [⟨"java/lang/RuntimeException", "<init>", "()V"⟩, ⟨"java/lang/Exception", "<init>", "()V"⟩, ⟨"java/lang/Throwable", "<init>", "()V"⟩]
def NW : List Cond := NWm.map (fun q => .methodLinkNest q.1 q.2.1 q.2.2.1 q.2.2.2) ++ (NWf.map (fun q => .fieldLinkNest q.1 q.2.1 q.2.2.1 q.2.2.2.1 q.2.2.2.2.1 q.2.2.2.2.2) ++ NWd.map (fun q => .declares q))
theorem nw_step {s U : State} (h : ∀ w ∈ NW, va_Nw w s) (hW : s.WarmedH U.vm) : ∀ w ∈ NW, va_Nw w U := by
  intro w hw
  have h1 := h w hw
  rcases List.mem_append.mp hw with hw | hw
  · obtain ⟨q, -, rfl⟩ := List.mem_map.mp hw
    exact va_Nw.warmM hW h1
  · rcases List.mem_append.mp hw with hw | hw
    · obtain ⟨q, -, rfl⟩ := List.mem_map.mp hw
      exact va_Nw.warmF hW h1
    · obtain ⟨q, -, rfl⟩ := List.mem_map.mp hw
      exact va_Nw.warmD hW h1
theorem nw_in : ∀ w ∈ NW, w ∈ tables_1 := List.forall_mem_append.mpr ⟨List.forall_mem_cons.mpr ⟨tm_1 36 rfl, List.forall_mem_cons.mpr ⟨tm_1 53 rfl, List.forall_mem_cons.mpr ⟨tm_1 75 rfl, List.forall_mem_cons.mpr ⟨tm_1 89 rfl, List.forall_mem_cons.mpr ⟨tm_1 164 rfl, List.forall_mem_cons.mpr ⟨tm_1 198 rfl, List.forall_mem_cons.mpr ⟨tm_1 214 rfl, List.forall_mem_cons.mpr ⟨tm_1 236 rfl, List.forall_mem_cons.mpr ⟨tm_3 92 rfl, List.forall_mem_cons.mpr ⟨tm_3 199 rfl, List.forall_mem_cons.mpr ⟨tm_4 99 rfl, List.forall_mem_cons.mpr ⟨tm_4 129 rfl, List.forall_mem_cons.mpr ⟨tm_4 134 rfl, fun _ h => absurd h List.not_mem_nil⟩⟩⟩⟩⟩⟩⟩⟩⟩⟩⟩⟩⟩, List.forall_mem_append.mpr ⟨List.forall_mem_cons.mpr ⟨tm_3 115 rfl, List.forall_mem_cons.mpr ⟨tm_3 138 rfl, fun _ h => absurd h List.not_mem_nil⟩⟩, List.forall_mem_cons.mpr ⟨tm_2 112 rfl, List.forall_mem_cons.mpr ⟨tm_2 114 rfl, List.forall_mem_cons.mpr ⟨tm_2 116 rfl, fun _ h => absurd h List.not_mem_nil⟩⟩⟩⟩⟩
theorem nw_ot : ∀ w ∈ NW, w.onTables = true := by
  intro w hw
  rcases List.mem_append.mp hw with hw | hw
  · obtain ⟨q, -, rfl⟩ := List.mem_map.mp hw; rfl
  · rcases List.mem_append.mp hw with hw | hw <;> (obtain ⟨q, -, rfl⟩ := List.mem_map.mp hw; rfl)
def T_MC : u_T := fun k => match k with
  | 0 => ("MaskedCauses", "inputs", "LMaskedCauses$Inputs;", true)
  | 1 => ("MaskedCauses", "conditions", "LMaskedCauses$Conditions;", true)
  | 2 => ("MaskedCauses", "text", "LMaskedCauses$Line;", true)
  | 3 => ("MaskedCauses", "tree", "LMaskedCauses$Tree;", true)
  | 4 => ("MaskedCauses", "reader", "LMaskedCauses$Reader;", true)
  | 5 => ("MaskedCauses", "walk", "LMaskedCauses$Walk;", true)
  | 6 => ("MaskedCauses", "decisions", "[LMaskedCauses$Decision;", true)
  | 7 => ("MaskedCauses", "suite", "LMaskedCauses$Suite;", true)
  | 8 => ("MaskedCauses", "fewest", "LMaskedCauses$Fewest;", true)
  | 9 => ("MaskedCauses", "records", "LMaskedCauses$Records;", true)
  | 10 => ("MaskedCauses", "decisionCount", "I", false)
  | _ => ("MaskedCauses", "page", "LMaskedCauses$Line;", false)
def ty_MC : Nat → FieldType := fun k => match k with
  | 0 => .object "MaskedCauses$Inputs"
  | 1 => .object "MaskedCauses$Conditions"
  | 2 => .object "MaskedCauses$Line"
  | 3 => .object "MaskedCauses$Tree"
  | 4 => .object "MaskedCauses$Reader"
  | 5 => .object "MaskedCauses$Walk"
  | 6 => .array (.object "MaskedCauses$Decision")
  | 7 => .object "MaskedCauses$Suite"
  | 8 => .object "MaskedCauses$Fewest"
  | 9 => .object "MaskedCauses$Records"
  | 10 => .int
  | _ => .object "MaskedCauses$Line"
theorem tyo_MC : ∀ k, k < 12 → parseFieldDescriptor (T_MC k).2.2.1 = some (ty_MC k) := by decide +kernel
theorem nmo_MC : ∀ a, a < 12 → ∀ b, b < 12 → a ≠ b → (T_MC a).2.1 ≠ (T_MC b).2.1 := by decide +kernel
theorem ino_MC : ∀ w ∈ u_ws "MaskedCauses" T_MC 12, w ∈ TB := List.forall_mem_cons.mpr ⟨tb_2 19 rfl rfl, List.forall_mem_cons.mpr ⟨tb_2 21 rfl rfl, List.forall_mem_cons.mpr ⟨tb_2 23 rfl rfl, List.forall_mem_cons.mpr ⟨tb_2 25 rfl rfl, List.forall_mem_cons.mpr ⟨tb_2 27 rfl rfl, List.forall_mem_cons.mpr ⟨tb_2 29 rfl rfl, List.forall_mem_cons.mpr ⟨tb_2 31 rfl rfl, List.forall_mem_cons.mpr ⟨tb_2 33 rfl rfl, List.forall_mem_cons.mpr ⟨tb_2 35 rfl rfl, List.forall_mem_cons.mpr ⟨tb_2 37 rfl rfl, List.forall_mem_cons.mpr ⟨tb_2 39 rfl rfl, List.forall_mem_cons.mpr ⟨tb_2 41 rfl rfl, fun _ h => absurd h List.not_mem_nil⟩⟩⟩⟩⟩⟩⟩⟩⟩⟩⟩⟩
def T_In : u_T := fun k => match k with
  | 0 => ("MaskedCauses$Inputs", "low", "[I", true)
  | 1 => ("MaskedCauses$Inputs", "high", "[I", true)
  | _ => ("MaskedCauses$Inputs", "count", "I", false)
def ty_In : Nat → FieldType := fun k => match k with
  | 0 => .array .int
  | 1 => .array .int
  | _ => .int
theorem tyo_In : ∀ k, k < 3 → parseFieldDescriptor (T_In k).2.2.1 = some (ty_In k) := by decide +kernel
theorem nmo_In : ∀ a, a < 3 → ∀ b, b < 3 → a ≠ b → (T_In a).2.1 ≠ (T_In b).2.1 := by decide +kernel
theorem ino_In : ∀ w ∈ u_ws "MaskedCauses$Inputs" T_In 3, w ∈ TB := List.forall_mem_cons.mpr ⟨tb_1 43 rfl rfl, List.forall_mem_cons.mpr ⟨tb_1 45 rfl rfl, List.forall_mem_cons.mpr ⟨tb_1 47 rfl rfl, fun _ h => absurd h List.not_mem_nil⟩⟩⟩
def T_Co : u_T := fun k => match k with
  | 0 => ("MaskedCauses$Conditions", "kinds", "[I", true)
  | 1 => ("MaskedCauses$Conditions", "firsts", "[I", true)
  | 2 => ("MaskedCauses$Conditions", "seconds", "[I", true)
  | 3 => ("MaskedCauses$Conditions", "limits", "[I", true)
  | _ => ("MaskedCauses$Conditions", "count", "I", false)
def ty_Co : Nat → FieldType := fun k => match k with
  | 0 => .array .int
  | 1 => .array .int
  | 2 => .array .int
  | 3 => .array .int
  | _ => .int
theorem tyo_Co : ∀ k, k < 5 → parseFieldDescriptor (T_Co k).2.2.1 = some (ty_Co k) := by decide +kernel
theorem nmo_Co : ∀ a, a < 5 → ∀ b, b < 5 → a ≠ b → (T_Co a).2.1 ≠ (T_Co b).2.1 := by decide +kernel
theorem ino_Co : ∀ w ∈ u_ws "MaskedCauses$Conditions" T_Co 5, w ∈ TB := List.forall_mem_cons.mpr ⟨tb_1 62 rfl rfl, List.forall_mem_cons.mpr ⟨tb_1 64 rfl rfl, List.forall_mem_cons.mpr ⟨tb_1 66 rfl rfl, List.forall_mem_cons.mpr ⟨tb_1 68 rfl rfl, List.forall_mem_cons.mpr ⟨tb_1 70 rfl rfl, fun _ h => absurd h List.not_mem_nil⟩⟩⟩⟩⟩
def T_Li : u_T := fun k => match k with
  | 0 => ("MaskedCauses$Line", "characters", "[C", true)
  | _ => ("MaskedCauses$Line", "count", "I", false)
def ty_Li : Nat → FieldType := fun k => match k with
  | 0 => .array .char
  | _ => .int
theorem tyo_Li : ∀ k, k < 2 → parseFieldDescriptor (T_Li k).2.2.1 = some (ty_Li k) := by decide +kernel
theorem nmo_Li : ∀ a, a < 2 → ∀ b, b < 2 → a ≠ b → (T_Li a).2.1 ≠ (T_Li b).2.1 := by decide +kernel
theorem ino_Li : ∀ w ∈ u_ws "MaskedCauses$Line" T_Li 2, w ∈ TB := List.forall_mem_cons.mpr ⟨tb_1 81 rfl rfl, List.forall_mem_cons.mpr ⟨tb_1 83 rfl rfl, fun _ h => absurd h List.not_mem_nil⟩⟩
def T_Tr : u_T := fun k => match k with
  | 0 => ("MaskedCauses$Tree", "joints", "[I", true)
  | 1 => ("MaskedCauses$Tree", "lefts", "[I", true)
  | 2 => ("MaskedCauses$Tree", "rights", "[I", true)
  | 3 => ("MaskedCauses$Tree", "truths", "[J", true)
  | 4 => ("MaskedCauses$Tree", "reached", "[J", true)
  | 5 => ("MaskedCauses$Tree", "count", "I", false)
  | _ => ("MaskedCauses$Tree", "letters", "I", false)
def ty_Tr : Nat → FieldType := fun k => match k with
  | 0 => .array .int
  | 1 => .array .int
  | 2 => .array .int
  | 3 => .array .long
  | 4 => .array .long
  | 5 => .int
  | _ => .int
theorem tyo_Tr : ∀ k, k < 7 → parseFieldDescriptor (T_Tr k).2.2.1 = some (ty_Tr k) := by decide +kernel
theorem nmo_Tr : ∀ a, a < 7 → ∀ b, b < 7 → a ≠ b → (T_Tr a).2.1 ≠ (T_Tr b).2.1 := by decide +kernel
theorem ino_Tr : ∀ w ∈ u_ws "MaskedCauses$Tree" T_Tr 7, w ∈ TB := List.forall_mem_cons.mpr ⟨tb_1 100 rfl rfl, List.forall_mem_cons.mpr ⟨tb_1 102 rfl rfl, List.forall_mem_cons.mpr ⟨tb_1 104 rfl rfl, List.forall_mem_cons.mpr ⟨tb_1 106 rfl rfl, List.forall_mem_cons.mpr ⟨tb_1 108 rfl rfl, List.forall_mem_cons.mpr ⟨tb_1 110 rfl rfl, List.forall_mem_cons.mpr ⟨tb_1 112 rfl rfl, fun _ h => absurd h List.not_mem_nil⟩⟩⟩⟩⟩⟩⟩
def T_Re : u_T := fun k => match k with
  | 0 => ("MaskedCauses$Reader", "text", "LMaskedCauses$Line;", true)
  | 1 => ("MaskedCauses$Reader", "tree", "LMaskedCauses$Tree;", true)
  | 2 => ("MaskedCauses$Reader", "known", "I", false)
  | 3 => ("MaskedCauses$Reader", "place", "I", false)
  | _ => ("MaskedCauses$Reader", "fault", "I", false)
def ty_Re : Nat → FieldType := fun k => match k with
  | 0 => .object "MaskedCauses$Line"
  | 1 => .object "MaskedCauses$Tree"
  | 2 => .int
  | 3 => .int
  | _ => .int
theorem tyo_Re : ∀ k, k < 5 → parseFieldDescriptor (T_Re k).2.2.1 = some (ty_Re k) := by decide +kernel
theorem nmo_Re : ∀ a, a < 5 → ∀ b, b < 5 → a ≠ b → (T_Re a).2.1 ≠ (T_Re b).2.1 := by decide +kernel
theorem ino_Re : ∀ w ∈ u_ws "MaskedCauses$Reader" T_Re 5, w ∈ TB := List.forall_mem_cons.mpr ⟨tb_1 127 rfl rfl, List.forall_mem_cons.mpr ⟨tb_1 129 rfl rfl, List.forall_mem_cons.mpr ⟨tb_1 131 rfl rfl, List.forall_mem_cons.mpr ⟨tb_1 133 rfl rfl, List.forall_mem_cons.mpr ⟨tb_1 135 rfl rfl, fun _ h => absurd h List.not_mem_nil⟩⟩⟩⟩⟩
def T_De : u_T := fun k => match k with
  | 0 => ("MaskedCauses$Decision", "conditions", "LMaskedCauses$Conditions;", true)
  | 1 => ("MaskedCauses$Decision", "shown", "LMaskedCauses$Line;", true)
  | 2 => ("MaskedCauses$Decision", "letters", "[I", true)
  | 3 => ("MaskedCauses$Decision", "strangers", "[I", true)
  | 4 => ("MaskedCauses$Decision", "evaluating", "[J", true)
  | 5 => ("MaskedCauses$Decision", "decisive", "[J", true)
  | 6 => ("MaskedCauses$Decision", "vectors", "[I", true)
  | 7 => ("MaskedCauses$Decision", "count", "I", false)
  | 8 => ("MaskedCauses$Decision", "trueWords", "J", false)
  | _ => ("MaskedCauses$Decision", "feasibleWords", "J", false)
def ty_De : Nat → FieldType := fun k => match k with
  | 0 => .object "MaskedCauses$Conditions"
  | 1 => .object "MaskedCauses$Line"
  | 2 => .array .int
  | 3 => .array .int
  | 4 => .array .long
  | 5 => .array .long
  | 6 => .array .int
  | 7 => .int
  | 8 => .long
  | _ => .long
theorem tyo_De : ∀ k, k < 10 → parseFieldDescriptor (T_De k).2.2.1 = some (ty_De k) := by decide +kernel
theorem nmo_De : ∀ a, a < 10 → ∀ b, b < 10 → a ≠ b → (T_De a).2.1 ≠ (T_De b).2.1 := by decide +kernel
theorem ino_De : ∀ w ∈ u_ws "MaskedCauses$Decision" T_De 10, w ∈ TB := List.forall_mem_cons.mpr ⟨tb_1 175 rfl rfl, List.forall_mem_cons.mpr ⟨tb_1 177 rfl rfl, List.forall_mem_cons.mpr ⟨tb_1 179 rfl rfl, List.forall_mem_cons.mpr ⟨tb_1 181 rfl rfl, List.forall_mem_cons.mpr ⟨tb_1 183 rfl rfl, List.forall_mem_cons.mpr ⟨tb_1 185 rfl rfl, List.forall_mem_cons.mpr ⟨tb_1 187 rfl rfl, List.forall_mem_cons.mpr ⟨tb_1 189 rfl rfl, List.forall_mem_cons.mpr ⟨tb_1 191 rfl rfl, List.forall_mem_cons.mpr ⟨tb_1 193 rfl rfl, fun _ h => absurd h List.not_mem_nil⟩⟩⟩⟩⟩⟩⟩⟩⟩⟩
def T_Wa : u_T := fun k => match k with
  | 0 => ("MaskedCauses$Walk", "inputs", "LMaskedCauses$Inputs;", true)
  | 1 => ("MaskedCauses$Walk", "conditions", "LMaskedCauses$Conditions;", true)
  | _ => ("MaskedCauses$Walk", "bits", "[[I", true)
def ty_Wa : Nat → FieldType := fun k => match k with
  | 0 => .object "MaskedCauses$Inputs"
  | 1 => .object "MaskedCauses$Conditions"
  | _ => .array (.array .int)
theorem tyo_Wa : ∀ k, k < 3 → parseFieldDescriptor (T_Wa k).2.2.1 = some (ty_Wa k) := by decide +kernel
theorem nmo_Wa : ∀ a, a < 3 → ∀ b, b < 3 → a ≠ b → (T_Wa a).2.1 ≠ (T_Wa b).2.1 := by decide +kernel
theorem ino_Wa : ∀ w ∈ u_ws "MaskedCauses$Walk" T_Wa 3, w ∈ TB := List.forall_mem_cons.mpr ⟨tb_1 149 rfl rfl, List.forall_mem_cons.mpr ⟨tb_1 151 rfl rfl, List.forall_mem_cons.mpr ⟨tb_1 153 rfl rfl, fun _ h => absurd h List.not_mem_nil⟩⟩⟩
def T_Su : u_T := fun k => match k with
  | 0 => ("MaskedCauses$Suite", "words", "[I", true)
  | 1 => ("MaskedCauses$Suite", "count", "I", false)
  | _ => ("MaskedCauses$Suite", "set", "J", false)
def ty_Su : Nat → FieldType := fun k => match k with
  | 0 => .array .int
  | 1 => .int
  | _ => .long
theorem tyo_Su : ∀ k, k < 3 → parseFieldDescriptor (T_Su k).2.2.1 = some (ty_Su k) := by decide +kernel
theorem nmo_Su : ∀ a, a < 3 → ∀ b, b < 3 → a ≠ b → (T_Su a).2.1 ≠ (T_Su b).2.1 := by decide +kernel
theorem ino_Su : ∀ w ∈ u_ws "MaskedCauses$Suite" T_Su 3, w ∈ TB := List.forall_mem_cons.mpr ⟨tb_1 205 rfl rfl, List.forall_mem_cons.mpr ⟨tb_1 207 rfl rfl, List.forall_mem_cons.mpr ⟨tb_1 209 rfl rfl, fun _ h => absurd h List.not_mem_nil⟩⟩⟩
def T_Fe : u_T := fun k => match k with
  | 0 => ("MaskedCauses$Fewest", "partners", "[J", true)
  | 1 => ("MaskedCauses$Fewest", "conditionCount", "I", false)
  | 2 => ("MaskedCauses$Fewest", "wordCount", "I", false)
  | 3 => ("MaskedCauses$Fewest", "feasibleWords", "J", false)
  | _ => ("MaskedCauses$Fewest", "solved", "I", false)
def ty_Fe : Nat → FieldType := fun k => match k with
  | 0 => .array .long
  | 1 => .int
  | 2 => .int
  | 3 => .long
  | _ => .int
theorem tyo_Fe : ∀ k, k < 5 → parseFieldDescriptor (T_Fe k).2.2.1 = some (ty_Fe k) := by decide +kernel
theorem nmo_Fe : ∀ a, a < 5 → ∀ b, b < 5 → a ≠ b → (T_Fe a).2.1 ≠ (T_Fe b).2.1 := by decide +kernel
theorem ino_Fe : ∀ w ∈ u_ws "MaskedCauses$Fewest" T_Fe 5, w ∈ TB := List.forall_mem_cons.mpr ⟨tb_1 223 rfl rfl, List.forall_mem_cons.mpr ⟨tb_1 225 rfl rfl, List.forall_mem_cons.mpr ⟨tb_1 227 rfl rfl, List.forall_mem_cons.mpr ⟨tb_1 229 rfl rfl, List.forall_mem_cons.mpr ⟨tb_1 231 rfl rfl, fun _ h => absurd h List.not_mem_nil⟩⟩⟩⟩⟩
def T_Rc : u_T := fun k => match k with
  | 0 => ("MaskedCauses$Records", "row", "[I", true)
  | _ => ("MaskedCauses$Records", "count", "I", false)
def ty_Rc : Nat → FieldType := fun k => match k with
  | 0 => .array .int
  | _ => .int
theorem tyo_Rc : ∀ k, k < 2 → parseFieldDescriptor (T_Rc k).2.2.1 = some (ty_Rc k) := by decide +kernel
theorem nmo_Rc : ∀ a, a < 2 → ∀ b, b < 2 → a ≠ b → (T_Rc a).2.1 ≠ (T_Rc b).2.1 := by decide +kernel
theorem ino_Rc : ∀ w ∈ u_ws "MaskedCauses$Records" T_Rc 2, w ∈ TB := List.forall_mem_cons.mpr ⟨tb_2 2 rfl rfl, List.forall_mem_cons.mpr ⟨tb_2 4 rfl rfl, fun _ h => absurd h List.not_mem_nil⟩⟩
def T_Mo : u_T := fun k => match k with
  | 0 => ("MaskedCausesModel", "fault", "I", false)
  | 1 => ("MaskedCausesModel", "inputs", "I", false)
  | 2 => ("MaskedCausesModel", "low", "[I", true)
  | 3 => ("MaskedCausesModel", "high", "[I", true)
  | 4 => ("MaskedCausesModel", "made", "I", false)
  | 5 => ("MaskedCausesModel", "kind", "[I", true)
  | 6 => ("MaskedCausesModel", "one", "[I", true)
  | 7 => ("MaskedCausesModel", "two", "[I", true)
  | 8 => ("MaskedCausesModel", "bound", "[I", true)
  | 9 => ("MaskedCausesModel", "typed", "I", false)
  | 10 => ("MaskedCausesModel", "text", "[I", true)
  | 11 => ("MaskedCausesModel", "decisions", "I", false)
  | 12 => ("MaskedCausesModel", "signs", "[I", true)
  | 13 => ("MaskedCausesModel", "length", "[I", true)
  | 14 => ("MaskedCausesModel", "isShort", "[Z", true)
  | 15 => ("MaskedCausesModel", "many", "[I", true)
  | 16 => ("MaskedCausesModel", "uses", "[I", true)
  | 17 => ("MaskedCausesModel", "can", "[Z", true)
  | 18 => ("MaskedCausesModel", "vectors", "[I", true)
  | 19 => ("MaskedCausesModel", "comes", "[Z", true)
  | 20 => ("MaskedCausesModel", "sees", "[I", true)
  | 21 => ("MaskedCausesModel", "or", "[Z", true)
  | 22 => ("MaskedCausesModel", "xor", "[Z", true)
  | 23 => ("MaskedCausesModel", "and", "[Z", true)
  | 24 => ("MaskedCausesModel", "not", "[Z", true)
  | 25 => ("MaskedCausesModel", "live", "[Z", true)
  | 26 => ("MaskedCausesModel", "deep", "I", false)
  | 27 => ("MaskedCausesModel", "seen", "I", false)
  | 28 => ("MaskedCausesModel", "suiteSize", "I", false)
  | 29 => ("MaskedCausesModel", "suite", "[I", true)
  | 30 => ("MaskedCausesModel", "partners", "[I", true)
  | 31 => ("MaskedCausesModel", "kept", "I", false)
  | 32 => ("MaskedCausesModel", "records", "[I", true)
  | 33 => ("MaskedCausesModel", "written", "I", false)
  | _ => ("MaskedCausesModel", "page", "[I", true)
def ty_Mo : Nat → FieldType := fun k => match k with
  | 0 => .int
  | 1 => .int
  | 2 => .array .int
  | 3 => .array .int
  | 4 => .int
  | 5 => .array .int
  | 6 => .array .int
  | 7 => .array .int
  | 8 => .array .int
  | 9 => .int
  | 10 => .array .int
  | 11 => .int
  | 12 => .array .int
  | 13 => .array .int
  | 14 => .array .boolean
  | 15 => .array .int
  | 16 => .array .int
  | 17 => .array .boolean
  | 18 => .array .int
  | 19 => .array .boolean
  | 20 => .array .int
  | 21 => .array .boolean
  | 22 => .array .boolean
  | 23 => .array .boolean
  | 24 => .array .boolean
  | 25 => .array .boolean
  | 26 => .int
  | 27 => .int
  | 28 => .int
  | 29 => .array .int
  | 30 => .array .int
  | 31 => .int
  | 32 => .array .int
  | 33 => .int
  | _ => .array .int
theorem tyo_Mo : ∀ k, k < 35 → parseFieldDescriptor (T_Mo k).2.2.1 = some (ty_Mo k) := by decide +kernel
theorem nmo_Mo : ∀ a, a < 35 → ∀ b, b < 35 → a ≠ b → (T_Mo a).2.1 ≠ (T_Mo b).2.1 := by decide +kernel
theorem ino_Mo : ∀ w ∈ u_ws "MaskedCausesModel" T_Mo 35, w ∈ TB := List.forall_mem_cons.mpr ⟨tb_4 229 rfl rfl, List.forall_mem_cons.mpr ⟨tb_4 231 rfl rfl, List.forall_mem_cons.mpr ⟨tb_4 233 rfl rfl, List.forall_mem_cons.mpr ⟨tb_4 235 rfl rfl, List.forall_mem_cons.mpr ⟨tb_4 237 rfl rfl, List.forall_mem_cons.mpr ⟨tb_4 239 rfl rfl, List.forall_mem_cons.mpr ⟨tb_5 1 rfl rfl, List.forall_mem_cons.mpr ⟨tb_5 3 rfl rfl, List.forall_mem_cons.mpr ⟨tb_5 5 rfl rfl, List.forall_mem_cons.mpr ⟨tb_5 7 rfl rfl, List.forall_mem_cons.mpr ⟨tb_5 9 rfl rfl, List.forall_mem_cons.mpr ⟨tb_5 11 rfl rfl, List.forall_mem_cons.mpr ⟨tb_5 13 rfl rfl, List.forall_mem_cons.mpr ⟨tb_5 15 rfl rfl, List.forall_mem_cons.mpr ⟨tb_5 17 rfl rfl, List.forall_mem_cons.mpr ⟨tb_5 19 rfl rfl, List.forall_mem_cons.mpr ⟨tb_5 21 rfl rfl, List.forall_mem_cons.mpr ⟨tb_5 23 rfl rfl, List.forall_mem_cons.mpr ⟨tb_5 25 rfl rfl, List.forall_mem_cons.mpr ⟨tb_5 27 rfl rfl, List.forall_mem_cons.mpr ⟨tb_5 29 rfl rfl, List.forall_mem_cons.mpr ⟨tb_5 31 rfl rfl, List.forall_mem_cons.mpr ⟨tb_5 33 rfl rfl, List.forall_mem_cons.mpr ⟨tb_5 35 rfl rfl, List.forall_mem_cons.mpr ⟨tb_5 37 rfl rfl, List.forall_mem_cons.mpr ⟨tb_5 39 rfl rfl, List.forall_mem_cons.mpr ⟨tb_5 41 rfl rfl, List.forall_mem_cons.mpr ⟨tb_5 43 rfl rfl, List.forall_mem_cons.mpr ⟨tb_5 45 rfl rfl, List.forall_mem_cons.mpr ⟨tb_5 47 rfl rfl, List.forall_mem_cons.mpr ⟨tb_5 49 rfl rfl, List.forall_mem_cons.mpr ⟨tb_5 51 rfl rfl, List.forall_mem_cons.mpr ⟨tb_5 53 rfl rfl, List.forall_mem_cons.mpr ⟨tb_5 55 rfl rfl, List.forall_mem_cons.mpr ⟨tb_5 57 rfl rfl, fun _ h => absurd h List.not_mem_nil⟩⟩⟩⟩⟩⟩⟩⟩⟩⟩⟩⟩⟩⟩⟩⟩⟩⟩⟩⟩⟩⟩⟩⟩⟩⟩⟩⟩⟩⟩⟩⟩⟩⟩⟩
def cls0 : List vw_C := [("MaskedCauses", T_MC, 12), ("MaskedCauses$Inputs", T_In, 3), ("MaskedCauses$Conditions", T_Co, 5), ("MaskedCauses$Line", T_Li, 2), ("MaskedCauses$Tree", T_Tr, 7), ("MaskedCauses$Reader", T_Re, 5), ("MaskedCauses$Decision", T_De, 10), ("MaskedCauses$Walk", T_Wa, 3), ("MaskedCauses$Suite", T_Su, 3), ("MaskedCauses$Fewest", T_Fe, 5), ("MaskedCauses$Records", T_Rc, 2), ("MaskedCausesModel", T_Mo, 35)]
def fkT : List (List Nat) := [[2, 2, 2, 2, 2, 2, 2, 2, 2, 2, 0, 2], [2, 2, 0], [2, 2, 2, 2, 0], [2, 0], [2, 2, 2, 2, 2, 0, 0], [2, 2, 0, 0, 0], [2, 2, 2, 2, 2, 2, 2, 0, 1, 1], [2, 2, 2], [2, 0, 1], [2, 0, 0, 1, 0], [2, 0], [0, 0, 2, 2, 0, 2, 2, 2, 2, 0, 2, 0, 2, 2, 2, 2, 2, 2, 2, 2, 2, 2, 2, 2, 2, 2, 0, 0, 0, 2, 2, 0, 2, 0, 2]]
def fkL (c : Nat) : List Nat := fkT.getD c []
def shL : List (Nat × Nat) := [(10, 0), (11, 0), (0, 3), (0, 3), (12, 0), (0, 8), (0, 8), (0, 8), (0, 8), (13, 0), (2, 40), (14, 0), (0, 40), (0, 40), (0, 40), (1, 40), (1, 40), (15, 0), (17, 0), (5, 6), (0, 81), (0, 81), (0, 81), (0, 81), (0, 81), (0, 81), (4, 4), (16, 0), (13, 0), (2, 40), (0, 6), (0, 6), (1, 6), (1, 6), (0, 192), (16, 0), (13, 0), (2, 40), (0, 6), (0, 6), (1, 6), (1, 6), (0, 192), (16, 0), (13, 0), (2, 40), (0, 6), (0, 6), (1, 6), (1, 6), (0, 192), (16, 0), (13, 0), (2, 40), (0, 6), (0, 6), (1, 6), (1, 6), (0, 192), (18, 0), (0, 12), (19, 0), (1, 64), (20, 0), (0, 36), (13, 0), (2, 40), (21, 0), (0, 3), (0, 3), (0, 8), (0, 8), (0, 8), (0, 8), (0, 40), (0, 160), (0, 4), (3, 4), (0, 4), (0, 24), (3, 256), (0, 768), (3, 256), (0, 256), (3, 8), (3, 8), (3, 8), (3, 8), (3, 8), (0, 12), (0, 64), (0, 36), (0, 40), (1, 1)]
theorem shL_len : shL.length < 1000 := by decide
theorem shL_n : shL.length = 94 := by decide
def exN (E : Nat) : String := match E with
  | 0 => "java/lang/IllegalStateException"
  | 1 => "java/lang/IllegalArgumentException"
  | _ => "java/lang/IndexOutOfBoundsException"
end
