def R_EC : String := "EdgeCampaign"
def T_EC : u_T := fun k => match k with
  | 0 => ("EdgeCampaign", "program", "LEdgeCampaign$Program;", true)
  | 1 => ("EdgeCampaign", "draft", "LEdgeCampaign$Input;", true)
  | 2 => ("EdgeCampaign", "changed", "LEdgeCampaign$Input;", true)
  | 3 => ("EdgeCampaign", "run", "LEdgeCampaign$Run;", true)
  | 4 => ("EdgeCampaign", "store", "LEdgeCampaign$Store;", true)
  | 5 => ("EdgeCampaign", "findings", "LEdgeCampaign$Findings;", true)
  | 6 => ("EdgeCampaign", "shortener", "LEdgeCampaign$Shortener;", true)
  | 7 => ("EdgeCampaign", "generator", "LEdgeCampaign$Generator;", true)
  | 8 => ("EdgeCampaign", "trials", "LEdgeCampaign$Trials;", true)
  | 9 => ("EdgeCampaign", "executions", "I", false)
  | 10 => ("EdgeCampaign", "hangs", "I", false)
  | _ => ("EdgeCampaign", "lost", "I", false)
def t_EC : Nat → FieldType := fun k => match k with
  | 0 => .object "EdgeCampaign$Program"
  | 1 => .object "EdgeCampaign$Input"
  | 2 => .object "EdgeCampaign$Input"
  | 3 => .object "EdgeCampaign$Run"
  | 4 => .object "EdgeCampaign$Store"
  | 5 => .object "EdgeCampaign$Findings"
  | 6 => .object "EdgeCampaign$Shortener"
  | 7 => .object "EdgeCampaign$Generator"
  | 8 => .object "EdgeCampaign$Trials"
  | 9 => .int
  | 10 => .int
  | _ => .int
theorem nm_EC : ∀ a, a < 12 → ∀ b, b < 12 → a ≠ b → (T_EC a).2.1 ≠ (T_EC b).2.1 := by decide +kernel
theorem ty_EC : ∀ k, k < 12 → parseFieldDescriptor (T_EC k).2.2.1 = some (t_EC k) := by decide +kernel
def R_MO : String := "EdgeCampaignModel"
def T_MO : u_T := fun k => match k with
  | 0 => ("EdgeCampaignModel", "size", "I", false)
  | 1 => ("EdgeCampaignModel", "ops", "[I", true)
  | 2 => ("EdgeCampaignModel", "as", "[I", true)
  | 3 => ("EdgeCampaignModel", "bs", "[I", true)
  | 4 => ("EdgeCampaignModel", "draft", "[I", true)
  | 5 => ("EdgeCampaignModel", "drafted", "I", false)
  | 6 => ("EdgeCampaignModel", "x", "I", false)
  | 7 => ("EdgeCampaignModel", "tape", "[I", true)
  | 8 => ("EdgeCampaignModel", "tapeLength", "I", false)
  | 9 => ("EdgeCampaignModel", "\x72", "[I", true)
  | 10 => ("EdgeCampaignModel", "memory", "[I", true)
  | 11 => ("EdgeCampaignModel", "stack", "[I", true)
  | 12 => ("EdgeCampaignModel", "depth", "I", false)
  | 13 => ("EdgeCampaignModel", "pc", "I", false)
  | 14 => ("EdgeCampaignModel", "here", "I", false)
  | 15 => ("EdgeCampaignModel", "steps", "I", false)
  | 16 => ("EdgeCampaignModel", "outcome", "I", false)
  | 17 => ("EdgeCampaignModel", "times", "[I", true)
  | 18 => ("EdgeCampaignModel", "entries", "I", false)
  | 19 => ("EdgeCampaignModel", "inputs", "[I", true)
  | 20 => ("EdgeCampaignModel", "lengths", "[I", true)
  | 21 => ("EdgeCampaignModel", "finished", "[I", true)
  | 22 => ("EdgeCampaignModel", "findings", "I", false)
  | 23 => ("EdgeCampaignModel", "traps", "[I", true)
  | 24 => ("EdgeCampaignModel", "places", "[I", true)
  | 25 => ("EdgeCampaignModel", "depths", "[I", true)
  | 26 => ("EdgeCampaignModel", "stacks", "[I", true)
  | 27 => ("EdgeCampaignModel", "hits", "[I", true)
  | 28 => ("EdgeCampaignModel", "found", "[I", true)
  | 29 => ("EdgeCampaignModel", "foundLength", "[I", true)
  | 30 => ("EdgeCampaignModel", "brief", "[I", true)
  | 31 => ("EdgeCampaignModel", "briefLength", "[I", true)
  | 32 => ("EdgeCampaignModel", "executions", "I", false)
  | 33 => ("EdgeCampaignModel", "hangs", "I", false)
  | 34 => ("EdgeCampaignModel", "lost", "I", false)
  | 35 => ("EdgeCampaignModel", "surveyed", "I", false)
  | 36 => ("EdgeCampaignModel", "buckets", "[I", true)
  | 37 => ("EdgeCampaignModel", "went", "[I", true)
  | 38 => ("EdgeCampaignModel", "stepsOf", "[I", true)
  | 39 => ("EdgeCampaignModel", "favoured", "I", false)
  | 40 => ("EdgeCampaignModel", "taken", "I", false)
  | 41 => ("EdgeCampaignModel", "next", "I", false)
  | 42 => ("EdgeCampaignModel", "energy", "I", false)
  | 43 => ("EdgeCampaignModel", "cur", "[I", true)
  | _ => ("EdgeCampaignModel", "curLength", "I", false)
def t_MO : Nat → FieldType := fun k => match k with
  | 0 => .int
  | 1 => .array (.int)
  | 2 => .array (.int)
  | 3 => .array (.int)
  | 4 => .array (.int)
  | 5 => .int
  | 6 => .int
  | 7 => .array (.int)
  | 8 => .int
  | 9 => .array (.int)
  | 10 => .array (.int)
  | 11 => .array (.int)
  | 12 => .int
  | 13 => .int
  | 14 => .int
  | 15 => .int
  | 16 => .int
  | 17 => .array (.int)
  | 18 => .int
  | 19 => .array (.int)
  | 20 => .array (.int)
  | 21 => .array (.int)
  | 22 => .int
  | 23 => .array (.int)
  | 24 => .array (.int)
  | 25 => .array (.int)
  | 26 => .array (.int)
  | 27 => .array (.int)
  | 28 => .array (.int)
  | 29 => .array (.int)
  | 30 => .array (.int)
  | 31 => .array (.int)
  | 32 => .int
  | 33 => .int
  | 34 => .int
  | 35 => .int
  | 36 => .array (.int)
  | 37 => .array (.int)
  | 38 => .array (.int)
  | 39 => .int
  | 40 => .int
  | 41 => .int
  | 42 => .int
  | 43 => .array (.int)
  | _ => .int
theorem nm_MO : ∀ a, a < 45 → ∀ b, b < 45 → a ≠ b → (T_MO a).2.1 ≠ (T_MO b).2.1 := by decide +kernel
theorem ty_MO : ∀ k, k < 45 → parseFieldDescriptor (T_MO k).2.2.1 = some (t_MO k) := by decide +kernel
def R_LAW : String := "EdgeCampaignLaw"
def R_JM : String := "java/lang/Math"
def R_JA : String := "java/util/Arrays"
def R_PR : String := "EdgeCampaign$Program"
def T_PR : u_T := fun k => match k with
  | 0 => ("EdgeCampaign$Program", "ops", "[I", true)
  | 1 => ("EdgeCampaign$Program", "as", "[I", true)
  | 2 => ("EdgeCampaign$Program", "bs", "[I", true)
  | _ => ("EdgeCampaign$Program", "size", "I", false)
def t_PR : Nat → FieldType := fun k => match k with
  | 0 => .array (.int)
  | 1 => .array (.int)
  | 2 => .array (.int)
  | _ => .int
theorem nm_PR : ∀ a, a < 4 → ∀ b, b < 4 → a ≠ b → (T_PR a).2.1 ≠ (T_PR b).2.1 := by decide +kernel
theorem ty_PR : ∀ k, k < 4 → parseFieldDescriptor (T_PR k).2.2.1 = some (t_PR k) := by decide +kernel
def R_IN : String := "EdgeCampaign$Input"
def T_IN : u_T := fun k => match k with
  | 0 => ("EdgeCampaign$Input", "bytes", "[I", true)
  | _ => ("EdgeCampaign$Input", "size", "I", false)
def t_IN : Nat → FieldType := fun k => match k with
  | 0 => .array (.int)
  | _ => .int
theorem nm_IN : ∀ a, a < 2 → ∀ b, b < 2 → a ≠ b → (T_IN a).2.1 ≠ (T_IN b).2.1 := by decide +kernel
theorem ty_IN : ∀ k, k < 2 → parseFieldDescriptor (T_IN k).2.2.1 = some (t_IN k) := by decide +kernel
def R_RU : String := "EdgeCampaign$Run"
def T_RU : u_T := fun k => match k with
  | 0 => ("EdgeCampaign$Run", "registers", "[I", true)
  | 1 => ("EdgeCampaign$Run", "memory", "[I", true)
  | 2 => ("EdgeCampaign$Run", "stack", "[I", true)
  | 3 => ("EdgeCampaign$Run", "times", "[I", true)
  | 4 => ("EdgeCampaign$Run", "edges", "[I", true)
  | 5 => ("EdgeCampaign$Run", "edgeCount", "I", false)
  | 6 => ("EdgeCampaign$Run", "depth", "I", false)
  | 7 => ("EdgeCampaign$Run", "pc", "I", false)
  | 8 => ("EdgeCampaign$Run", "here", "I", false)
  | 9 => ("EdgeCampaign$Run", "steps", "I", false)
  | _ => ("EdgeCampaign$Run", "outcome", "I", false)
def t_RU : Nat → FieldType := fun k => match k with
  | 0 => .array (.int)
  | 1 => .array (.int)
  | 2 => .array (.int)
  | 3 => .array (.int)
  | 4 => .array (.int)
  | 5 => .int
  | 6 => .int
  | 7 => .int
  | 8 => .int
  | 9 => .int
  | _ => .int
theorem nm_RU : ∀ a, a < 11 → ∀ b, b < 11 → a ≠ b → (T_RU a).2.1 ≠ (T_RU b).2.1 := by decide +kernel
theorem ty_RU : ∀ k, k < 11 → parseFieldDescriptor (T_RU k).2.2.1 = some (t_RU k) := by decide +kernel
def R_EN : String := "EdgeCampaign$Entry"
def T_EN : u_T := fun k => match k with
  | 0 => ("EdgeCampaign$Entry", "input", "LEdgeCampaign$Input;", true)
  | 1 => ("EdgeCampaign$Entry", "steps", "I", false)
  | 2 => ("EdgeCampaign$Entry", "edgeCount", "I", false)
  | _ => ("EdgeCampaign$Entry", "finished", "I", false)
def t_EN : Nat → FieldType := fun k => match k with
  | 0 => .object "EdgeCampaign$Input"
  | 1 => .int
  | 2 => .int
  | _ => .int
theorem nm_EN : ∀ a, a < 4 → ∀ b, b < 4 → a ≠ b → (T_EN a).2.1 ≠ (T_EN b).2.1 := by decide +kernel
theorem ty_EN : ∀ k, k < 4 → parseFieldDescriptor (T_EN k).2.2.1 = some (t_EN k) := by decide +kernel
def R_ST : String := "EdgeCampaign$Store"
def T_ST : u_T := fun k => match k with
  | 0 => ("EdgeCampaign$Store", "entries", "[LEdgeCampaign$Entry;", true)
  | 1 => ("EdgeCampaign$Store", "buckets", "[I", true)
  | 2 => ("EdgeCampaign$Store", "goers", "[I", true)
  | 3 => ("EdgeCampaign$Store", "size", "I", false)
  | 4 => ("EdgeCampaign$Store", "favoured", "I", false)
  | 5 => ("EdgeCampaign$Store", "seenEdges", "I", false)
  | _ => ("EdgeCampaign$Store", "seenPairs", "I", false)
def t_ST : Nat → FieldType := fun k => match k with
  | 0 => .array (.object "EdgeCampaign$Entry")
  | 1 => .array (.int)
  | 2 => .array (.int)
  | 3 => .int
  | 4 => .int
  | 5 => .int
  | _ => .int
theorem nm_ST : ∀ a, a < 7 → ∀ b, b < 7 → a ≠ b → (T_ST a).2.1 ≠ (T_ST b).2.1 := by decide +kernel
theorem ty_ST : ∀ k, k < 7 → parseFieldDescriptor (T_ST k).2.2.1 = some (t_ST k) := by decide +kernel
def R_FI : String := "EdgeCampaign$Finding"
def T_FI : u_T := fun k => match k with
  | 0 => ("EdgeCampaign$Finding", "input", "LEdgeCampaign$Input;", true)
  | 1 => ("EdgeCampaign$Finding", "shortest", "LEdgeCampaign$Input;", true)
  | 2 => ("EdgeCampaign$Finding", "latestFirst", "[I", true)
  | 3 => ("EdgeCampaign$Finding", "trap", "I", false)
  | 4 => ("EdgeCampaign$Finding", "here", "I", false)
  | 5 => ("EdgeCampaign$Finding", "depth", "I", false)
  | _ => ("EdgeCampaign$Finding", "hits", "I", false)
def t_FI : Nat → FieldType := fun k => match k with
  | 0 => .object "EdgeCampaign$Input"
  | 1 => .object "EdgeCampaign$Input"
  | 2 => .array (.int)
  | 3 => .int
  | 4 => .int
  | 5 => .int
  | _ => .int
theorem nm_FI : ∀ a, a < 7 → ∀ b, b < 7 → a ≠ b → (T_FI a).2.1 ≠ (T_FI b).2.1 := by decide +kernel
theorem ty_FI : ∀ k, k < 7 → parseFieldDescriptor (T_FI k).2.2.1 = some (t_FI k) := by decide +kernel
def R_FS : String := "EdgeCampaign$Findings"
def T_FS : u_T := fun k => match k with
  | 0 => ("EdgeCampaign$Findings", "made", "[LEdgeCampaign$Finding;", true)
  | _ => ("EdgeCampaign$Findings", "size", "I", false)
def t_FS : Nat → FieldType := fun k => match k with
  | 0 => .array (.object "EdgeCampaign$Finding")
  | _ => .int
theorem nm_FS : ∀ a, a < 2 → ∀ b, b < 2 → a ≠ b → (T_FS a).2.1 ≠ (T_FS b).2.1 := by decide +kernel
theorem ty_FS : ∀ k, k < 2 → parseFieldDescriptor (T_FS k).2.2.1 = some (t_FS k) := by decide +kernel
def R_SH : String := "EdgeCampaign$Shortener"
def T_SH : u_T := fun k => match k with
  | 0 => ("EdgeCampaign$Shortener", "run", "LEdgeCampaign$Run;", true)
  | _ => ("EdgeCampaign$Shortener", "candidate", "LEdgeCampaign$Input;", true)
def t_SH : Nat → FieldType := fun k => match k with
  | 0 => .object "EdgeCampaign$Run"
  | _ => .object "EdgeCampaign$Input"
theorem nm_SH : ∀ a, a < 2 → ∀ b, b < 2 → a ≠ b → (T_SH a).2.1 ≠ (T_SH b).2.1 := by decide +kernel
theorem ty_SH : ∀ k, k < 2 → parseFieldDescriptor (T_SH k).2.2.1 = some (t_SH k) := by decide +kernel
def R_GE : String := "EdgeCampaign$Generator"
def T_GE : u_T := fun k => match k with
  | _ => ("EdgeCampaign$Generator", "x", "I", false)
def t_GE : Nat → FieldType := fun k => match k with
  | _ => .int
theorem nm_GE : ∀ a, a < 1 → ∀ b, b < 1 → a ≠ b → (T_GE a).2.1 ≠ (T_GE b).2.1 := by decide +kernel
theorem ty_GE : ∀ k, k < 1 → parseFieldDescriptor (T_GE k).2.2.1 = some (t_GE k) := by decide +kernel
def R_TR : String := "EdgeCampaign$Trials"
def T_TR : u_T := fun k => match k with
  | 0 => ("EdgeCampaign$Trials", "taken", "I", false)
  | 1 => ("EdgeCampaign$Trials", "number", "I", false)
  | _ => ("EdgeCampaign$Trials", "energy", "I", false)
def t_TR : Nat → FieldType := fun k => match k with
  | 0 => .int
  | 1 => .int
  | _ => .int
theorem nm_TR : ∀ a, a < 3 → ∀ b, b < 3 → a ≠ b → (T_TR a).2.1 ≠ (T_TR b).2.1 := by decide +kernel
theorem ty_TR : ∀ k, k < 3 → parseFieldDescriptor (T_TR k).2.2.1 = some (t_TR k) := by decide +kernel
abbrev b_EC_init : ByteArray := prog_1_method_1_code
def y_EC_init : MethodName := ⟨R_EC, "<init>", "(I)V"⟩
def r_EC_init : Room := { frames := 4, cells := 0, slots := 0, locals := 101 }
abbrev b_EC_emit : ByteArray := prog_1_method_2_code
def y_EC_emit : MethodName := ⟨R_EC, "emit", "(III)Z"⟩
def r_EC_emit : Room := { frames := 3, cells := 0, slots := 0, locals := 64 }
abbrev b_EC_feed : ByteArray := prog_1_method_3_code
def y_EC_feed : MethodName := ⟨R_EC, "feed", "(I)Z"⟩
def r_EC_feed : Room := { frames := 1, cells := 0, slots := 0, locals := 21 }
abbrev b_EC_plant : ByteArray := prog_1_method_4_code
def y_EC_plant : MethodName := ⟨R_EC, "plant", "()I"⟩
def r_EC_plant : Room := { frames := 6, cells := 0, slots := 0, locals := 146 }
abbrev b_EC_fuzz : ByteArray := prog_1_method_5_code
def y_EC_fuzz : MethodName := ⟨R_EC, "fuzz", "(I)I"⟩
def r_EC_fuzz : Room := { frames := 6, cells := 0, slots := 0, locals := 146 }
abbrev b_EC_count : ByteArray := prog_1_method_6_code
def y_EC_count : MethodName := ⟨R_EC, "count", "(I)I"⟩
def r_EC_count : Room := { frames := 0, cells := 0, slots := 0, locals := 0 }
abbrev b_EC_entry : ByteArray := prog_1_method_7_code
def y_EC_entry : MethodName := ⟨R_EC, "entry", "(II)I"⟩
def r_EC_entry : Room := { frames := 1, cells := 0, slots := 0, locals := 21 }
abbrev b_EC_entryByte : ByteArray := prog_1_method_8_code
def y_EC_entryByte : MethodName := ⟨R_EC, "entryByte", "(II)I"⟩
def r_EC_entryByte : Room := { frames := 1, cells := 0, slots := 0, locals := 21 }
abbrev b_EC_seen : ByteArray := prog_1_method_9_code
def y_EC_seen : MethodName := ⟨R_EC, "seen", "(II)I"⟩
def r_EC_seen : Room := { frames := 1, cells := 0, slots := 0, locals := 20 }
abbrev b_EC_finding : ByteArray := prog_1_method_10_code
def y_EC_finding : MethodName := ⟨R_EC, "finding", "(II)I"⟩
def r_EC_finding : Room := { frames := 1, cells := 0, slots := 0, locals := 21 }
abbrev b_EC_findingByte : ByteArray := prog_1_method_11_code
def y_EC_findingByte : MethodName := ⟨R_EC, "findingByte", "(IZI)I"⟩
def r_EC_findingByte : Room := { frames := 1, cells := 0, slots := 0, locals := 21 }
abbrev b_EC_current : ByteArray := prog_1_method_12_code
def y_EC_current : MethodName := ⟨R_EC, "current", "(I)I"⟩
def r_EC_current : Room := { frames := 0, cells := 0, slots := 0, locals := 0 }
abbrev b_EC_state : ByteArray := prog_1_method_13_code
def y_EC_state : MethodName := ⟨R_EC, "state", "()I"⟩
def r_EC_state : Room := { frames := 0, cells := 0, slots := 0, locals := 0 }
abbrev b_EC_execute : ByteArray := prog_1_method_14_code
def y_EC_execute : MethodName := ⟨R_EC, "execute", "(LEdgeCampaign$Input;)I"⟩
def r_EC_execute : Room := { frames := 5, cells := 0, slots := 0, locals := 124 }
abbrev b_MO_init : ByteArray := prog_13_method_1_code
def y_MO_init : MethodName := ⟨R_MO, "<init>", "(I)V"⟩
def r_MO_init : Room := { frames := 1, cells := 0, slots := 0, locals := 40 }
abbrev b_MO_within : ByteArray := prog_13_method_2_code
def y_MO_within : MethodName := ⟨R_MO, "within", "(II)Z"⟩
def r_MO_within : Room := { frames := 0, cells := 0, slots := 0, locals := 0 }
abbrev b_MO_fits : ByteArray := prog_13_method_3_code
def y_MO_fits : MethodName := ⟨R_MO, "fits", "(II)Z"⟩
def r_MO_fits : Room := { frames := 1, cells := 0, slots := 0, locals := 21 }
abbrev b_MO_emit : ByteArray := prog_13_method_4_code
def y_MO_emit : MethodName := ⟨R_MO, "emit", "(III)Z"⟩
def r_MO_emit : Room := { frames := 2, cells := 0, slots := 0, locals := 42 }
abbrev b_MO_feed : ByteArray := prog_13_method_5_code
def y_MO_feed : MethodName := ⟨R_MO, "feed", "(I)Z"⟩
def r_MO_feed : Room := { frames := 1, cells := 0, slots := 0, locals := 21 }
abbrev b_MO_run : ByteArray := prog_13_method_6_code
def y_MO_run : MethodName := ⟨R_MO, "run", "()V"⟩
def r_MO_run : Room := { frames := 4, cells := 0, slots := 0, locals := 90 }
abbrev b_MO_step : ByteArray := prog_13_method_7_code
def y_MO_step : MethodName := ⟨R_MO, "step", "()V"⟩
def r_MO_step : Room := { frames := 3, cells := 0, slots := 0, locals := 67 }
abbrev b_MO_jump : ByteArray := prog_13_method_8_code
def y_MO_jump : MethodName := ⟨R_MO, "jump", "(III)V"⟩
def r_MO_jump : Room := { frames := 0, cells := 0, slots := 0, locals := 0 }
abbrev b_MO_work : ByteArray := prog_13_method_9_code
def y_MO_work : MethodName := ⟨R_MO, "work", "(III)V"⟩
def r_MO_work : Room := { frames := 2, cells := 0, slots := 0, locals := 44 }
abbrev b_MO_word : ByteArray := prog_13_method_10_code
def y_MO_word : MethodName := ⟨R_MO, "word", "(III)V"⟩
def r_MO_word : Room := { frames := 1, cells := 0, slots := 0, locals := 21 }
abbrev b_MO_bucket : ByteArray := prog_13_method_11_code
def y_MO_bucket : MethodName := ⟨R_MO, "bucket", "(I)I"⟩
def r_MO_bucket : Room := { frames := 0, cells := 0, slots := 0, locals := 0 }
abbrev b_MO_runEntry : ByteArray := prog_13_method_12_code
def y_MO_runEntry : MethodName := ⟨R_MO, "runEntry", "(I)V"⟩
def r_MO_runEntry : Room := { frames := 5, cells := 0, slots := 0, locals := 111 }
abbrev b_MO_runCurrent : ByteArray := prog_13_method_13_code
def y_MO_runCurrent : MethodName := ⟨R_MO, "runCurrent", "()V"⟩
def r_MO_runCurrent : Room := { frames := 5, cells := 0, slots := 0, locals := 111 }
abbrev b_MO_survey : ByteArray := prog_13_method_14_code
def y_MO_survey : MethodName := ⟨R_MO, "survey", "()V"⟩
def r_MO_survey : Room := { frames := 6, cells := 0, slots := 0, locals := 133 }
abbrev b_MO_top : ByteArray := prog_13_method_15_code
def y_MO_top : MethodName := ⟨R_MO, "top", "(I)I"⟩
def r_MO_top : Room := { frames := 0, cells := 0, slots := 0, locals := 0 }
abbrev b_MO_edgesOf : ByteArray := prog_13_method_16_code
def y_MO_edgesOf : MethodName := ⟨R_MO, "edgesOf", "(I)I"⟩
def r_MO_edgesOf : Room := { frames := 0, cells := 0, slots := 0, locals := 0 }
abbrev b_MO_newPair : ByteArray := prog_13_method_17_code
def y_MO_newPair : MethodName := ⟨R_MO, "newPair", "()Z"⟩
def r_MO_newPair : Room := { frames := 1, cells := 0, slots := 0, locals := 20 }
abbrev b_MO_execute : ByteArray := prog_13_method_18_code
def y_MO_execute : MethodName := ⟨R_MO, "execute", "()I"⟩
def r_MO_execute : Room := { frames := 9, cells := 0, slots := 0, locals := 209 }
abbrev b_MO_signed : ByteArray := prog_13_method_19_code
def y_MO_signed : MethodName := ⟨R_MO, "signed", "(I)Z"⟩
def r_MO_signed : Room := { frames := 0, cells := 0, slots := 0, locals := 0 }
abbrev b_MO_trapped : ByteArray := prog_13_method_20_code
def y_MO_trapped : MethodName := ⟨R_MO, "trapped", "()V"⟩
def r_MO_trapped : Room := { frames := 8, cells := 0, slots := 0, locals := 187 }
abbrev b_MO_still : ByteArray := prog_13_method_21_code
def y_MO_still : MethodName := ⟨R_MO, "still", "(IIIZ)Z"⟩
def r_MO_still : Room := { frames := 5, cells := 0, slots := 0, locals := 111 }
abbrev b_MO_adopt : ByteArray := prog_13_method_22_code
def y_MO_adopt : MethodName := ⟨R_MO, "adopt", "(I)V"⟩
def r_MO_adopt : Room := { frames := 0, cells := 0, slots := 0, locals := 0 }
abbrev b_MO_part : ByteArray := prog_13_method_23_code
def y_MO_part : MethodName := ⟨R_MO, "part", "(IIZ)Z"⟩
def r_MO_part : Room := { frames := 6, cells := 0, slots := 0, locals := 137 }
abbrev b_MO_shorten : ByteArray := prog_13_method_24_code
def y_MO_shorten : MethodName := ⟨R_MO, "shorten", "(I)V"⟩
def r_MO_shorten : Room := { frames := 7, cells := 0, slots := 0, locals := 162 }
abbrev b_MO_draw : ByteArray := prog_13_method_25_code
def y_MO_draw : MethodName := ⟨R_MO, "draw", "(I)I"⟩
def r_MO_draw : Room := { frames := 0, cells := 0, slots := 0, locals := 0 }
abbrev b_MO_takeUp : ByteArray := prog_13_method_26_code
def y_MO_takeUp : MethodName := ⟨R_MO, "takeUp", "(I)V"⟩
def r_MO_takeUp : Room := { frames := 7, cells := 0, slots := 0, locals := 155 }
abbrev b_MO_takeNext : ByteArray := prog_13_method_27_code
def y_MO_takeNext : MethodName := ⟨R_MO, "takeNext", "()V"⟩
def r_MO_takeNext : Room := { frames := 8, cells := 0, slots := 0, locals := 178 }
abbrev b_MO_trial : ByteArray := prog_13_method_28_code
def y_MO_trial : MethodName := ⟨R_MO, "trial", "()V"⟩
def r_MO_trial : Room := { frames := 10, cells := 0, slots := 0, locals := 232 }
abbrev b_MO_plain : ByteArray := prog_13_method_29_code
def y_MO_plain : MethodName := ⟨R_MO, "plain", "(II)V"⟩
def r_MO_plain : Room := { frames := 0, cells := 0, slots := 0, locals := 0 }
abbrev b_MO_mixed : ByteArray := prog_13_method_30_code
def y_MO_mixed : MethodName := ⟨R_MO, "mixed", "()V"⟩
def r_MO_mixed : Room := { frames := 2, cells := 0, slots := 0, locals := 44 }
abbrev b_MO_putIn : ByteArray := prog_13_method_31_code
def y_MO_putIn : MethodName := ⟨R_MO, "putIn", "()V"⟩
def r_MO_putIn : Room := { frames := 1, cells := 0, slots := 0, locals := 21 }
abbrev b_MO_change : ByteArray := prog_13_method_32_code
def y_MO_change : MethodName := ⟨R_MO, "change", "(I)V"⟩
def r_MO_change : Room := { frames := 1, cells := 0, slots := 0, locals := 21 }
abbrev b_MO_crossed : ByteArray := prog_13_method_33_code
def y_MO_crossed : MethodName := ⟨R_MO, "crossed", "(I)V"⟩
def r_MO_crossed : Room := { frames := 1, cells := 0, slots := 0, locals := 21 }
abbrev b_MO_plant : ByteArray := prog_13_method_34_code
def y_MO_plant : MethodName := ⟨R_MO, "plant", "()I"⟩
def r_MO_plant : Room := { frames := 10, cells := 0, slots := 0, locals := 232 }
abbrev b_MO_fuzz : ByteArray := prog_13_method_35_code
def y_MO_fuzz : MethodName := ⟨R_MO, "fuzz", "(I)I"⟩
def r_MO_fuzz : Room := { frames := 11, cells := 0, slots := 0, locals := 256 }
abbrev b_MO_seenEdges : ByteArray := prog_13_method_36_code
def y_MO_seenEdges : MethodName := ⟨R_MO, "seenEdges", "()I"⟩
def r_MO_seenEdges : Room := { frames := 0, cells := 0, slots := 0, locals := 0 }
abbrev b_MO_seenPairs : ByteArray := prog_13_method_37_code
def y_MO_seenPairs : MethodName := ⟨R_MO, "seenPairs", "()I"⟩
def r_MO_seenPairs : Room := { frames := 0, cells := 0, slots := 0, locals := 0 }
abbrev b_MO_count : ByteArray := prog_13_method_38_code
def y_MO_count : MethodName := ⟨R_MO, "count", "(I)I"⟩
def r_MO_count : Room := { frames := 7, cells := 0, slots := 0, locals := 155 }
abbrev b_MO_entry : ByteArray := prog_13_method_39_code
def y_MO_entry : MethodName := ⟨R_MO, "entry", "(II)I"⟩
def r_MO_entry : Room := { frames := 7, cells := 0, slots := 0, locals := 155 }
abbrev b_MO_entryByte : ByteArray := prog_13_method_40_code
def y_MO_entryByte : MethodName := ⟨R_MO, "entryByte", "(II)I"⟩
def r_MO_entryByte : Room := { frames := 1, cells := 0, slots := 0, locals := 21 }
abbrev b_MO_seen : ByteArray := prog_13_method_41_code
def y_MO_seen : MethodName := ⟨R_MO, "seen", "(II)I"⟩
def r_MO_seen : Room := { frames := 7, cells := 0, slots := 0, locals := 155 }
abbrev b_MO_finding : ByteArray := prog_13_method_42_code
def y_MO_finding : MethodName := ⟨R_MO, "finding", "(II)I"⟩
def r_MO_finding : Room := { frames := 1, cells := 0, slots := 0, locals := 21 }
abbrev b_MO_findingByte : ByteArray := prog_13_method_43_code
def y_MO_findingByte : MethodName := ⟨R_MO, "findingByte", "(IZI)I"⟩
def r_MO_findingByte : Room := { frames := 1, cells := 0, slots := 0, locals := 21 }
abbrev b_MO_current : ByteArray := prog_13_method_44_code
def y_MO_current : MethodName := ⟨R_MO, "current", "(I)I"⟩
def r_MO_current : Room := { frames := 1, cells := 0, slots := 0, locals := 21 }
abbrev b_MO_state : ByteArray := prog_13_method_45_code
def y_MO_state : MethodName := ⟨R_MO, "state", "()I"⟩
def r_MO_state : Room := { frames := 0, cells := 0, slots := 0, locals := 0 }
abbrev b_EN_init : ByteArray := prog_2_method_1_code
def y_EN_init : MethodName := ⟨R_EN, "<init>", "()V"⟩
def r_EN_init : Room := { frames := 2, cells := 0, slots := 0, locals := 60 }
abbrev b_EN_cost : ByteArray := prog_2_method_2_code
def y_EN_cost : MethodName := ⟨R_EN, "cost", "()I"⟩
def r_EN_cost : Room := { frames := 0, cells := 0, slots := 0, locals := 0 }
abbrev b_FI_init : ByteArray := prog_3_method_1_code
def y_FI_init : MethodName := ⟨R_FI, "<init>", "()V"⟩
def r_FI_init : Room := { frames := 2, cells := 0, slots := 0, locals := 60 }
abbrev b_FI_begin : ByteArray := prog_3_method_2_code
def y_FI_begin : MethodName := ⟨R_FI, "begin", "(LEdgeCampaign$Input;LEdgeCampaign$Run;)V"⟩
def r_FI_begin : Room := { frames := 3, cells := 0, slots := 0, locals := 67 }
abbrev b_FI_hasSignOf : ByteArray := prog_3_method_3_code
def y_FI_hasSignOf : MethodName := ⟨R_FI, "hasSignOf", "(LEdgeCampaign$Run;)Z"⟩
def r_FI_hasSignOf : Room := { frames := 1, cells := 0, slots := 0, locals := 22 }
abbrev b_FS_init : ByteArray := prog_4_method_1_code
def y_FS_init : MethodName := ⟨R_FS, "<init>", "()V"⟩
def r_FS_init : Room := { frames := 3, cells := 0, slots := 0, locals := 80 }
abbrev b_FS_has : ByteArray := prog_4_method_2_code
def y_FS_has : MethodName := ⟨R_FS, "has", "(I)Z"⟩
def r_FS_has : Room := { frames := 0, cells := 0, slots := 0, locals := 0 }
abbrev b_FS_countHit : ByteArray := prog_4_method_3_code
def y_FS_countHit : MethodName := ⟨R_FS, "countHit", "(LEdgeCampaign$Run;)Z"⟩
def r_FS_countHit : Room := { frames := 2, cells := 0, slots := 0, locals := 44 }
abbrev b_FS_begin : ByteArray := prog_4_method_4_code
def y_FS_begin : MethodName := ⟨R_FS, "begin", "(LEdgeCampaign$Input;LEdgeCampaign$Run;)LEdgeCampaign$Finding;"⟩
def r_FS_begin : Room := { frames := 4, cells := 0, slots := 0, locals := 90 }
abbrev b_GE_init : ByteArray := prog_5_method_1_code
def y_GE_init : MethodName := ⟨R_GE, "<init>", "(I)V"⟩
def r_GE_init : Room := { frames := 1, cells := 0, slots := 0, locals := 40 }
abbrev b_GE_draw : ByteArray := prog_5_method_2_code
def y_GE_draw : MethodName := ⟨R_GE, "draw", "(I)I"⟩
def r_GE_draw : Room := { frames := 0, cells := 0, slots := 0, locals := 0 }
abbrev b_IN_init : ByteArray := prog_6_method_1_code
def y_IN_init : MethodName := ⟨R_IN, "<init>", "()V"⟩
def r_IN_init : Room := { frames := 1, cells := 0, slots := 0, locals := 40 }
abbrev b_IN_at : ByteArray := prog_6_method_2_code
def y_IN_at : MethodName := ⟨R_IN, "at", "(I)I"⟩
def r_IN_at : Room := { frames := 0, cells := 0, slots := 0, locals := 0 }
abbrev b_IN_append : ByteArray := prog_6_method_3_code
def y_IN_append : MethodName := ⟨R_IN, "append", "(I)Z"⟩
def r_IN_append : Room := { frames := 0, cells := 0, slots := 0, locals := 0 }
abbrev b_IN_appendPart : ByteArray := prog_6_method_4_code
def y_IN_appendPart : MethodName := ⟨R_IN, "appendPart", "(LEdgeCampaign$Input;II)V"⟩
def r_IN_appendPart : Room := { frames := 1, cells := 0, slots := 0, locals := 21 }
abbrev b_IN_copy : ByteArray := prog_6_method_5_code
def y_IN_copy : MethodName := ⟨R_IN, "copy", "(LEdgeCampaign$Input;)V"⟩
def r_IN_copy : Room := { frames := 2, cells := 0, slots := 0, locals := 46 }
abbrev b_IN_cutTo : ByteArray := prog_6_method_6_code
def y_IN_cutTo : MethodName := ⟨R_IN, "cutTo", "(I)V"⟩
def r_IN_cutTo : Room := { frames := 1, cells := 0, slots := 0, locals := 21 }
abbrev b_IN_put : ByteArray := prog_6_method_7_code
def y_IN_put : MethodName := ⟨R_IN, "put", "(II)V"⟩
def r_IN_put : Room := { frames := 0, cells := 0, slots := 0, locals := 0 }
abbrev b_IN_addTo : ByteArray := prog_6_method_8_code
def y_IN_addTo : MethodName := ⟨R_IN, "addTo", "(II)V"⟩
def r_IN_addTo : Room := { frames := 1, cells := 0, slots := 0, locals := 22 }
abbrev b_IN_turnBit : ByteArray := prog_6_method_9_code
def y_IN_turnBit : MethodName := ⟨R_IN, "turnBit", "(II)V"⟩
def r_IN_turnBit : Room := { frames := 1, cells := 0, slots := 0, locals := 22 }
abbrev b_IN_insert : ByteArray := prog_6_method_10_code
def y_IN_insert : MethodName := ⟨R_IN, "insert", "(II)V"⟩
def r_IN_insert : Room := { frames := 1, cells := 0, slots := 0, locals := 21 }
abbrev b_IN_takeOut : ByteArray := prog_6_method_11_code
def y_IN_takeOut : MethodName := ⟨R_IN, "takeOut", "(I)V"⟩
def r_IN_takeOut : Room := { frames := 0, cells := 0, slots := 0, locals := 0 }
abbrev b_PR_init : ByteArray := prog_7_method_1_code
def y_PR_init : MethodName := ⟨R_PR, "<init>", "()V"⟩
def r_PR_init : Room := { frames := 1, cells := 0, slots := 0, locals := 40 }
abbrev b_PR_isPlace : ByteArray := prog_7_method_2_code
def y_PR_isPlace : MethodName := ⟨R_PR, "isPlace", "(I)Z"⟩
def r_PR_isPlace : Room := { frames := 0, cells := 0, slots := 0, locals := 0 }
abbrev b_PR_isJump : ByteArray := prog_7_method_3_code
def y_PR_isJump : MethodName := ⟨R_PR, "isJump", "(I)Z"⟩
def r_PR_isJump : Room := { frames := 0, cells := 0, slots := 0, locals := 0 }
abbrev b_PR_has : ByteArray := prog_7_method_4_code
def y_PR_has : MethodName := ⟨R_PR, "has", "(I)Z"⟩
def r_PR_has : Room := { frames := 0, cells := 0, slots := 0, locals := 0 }
abbrev b_PR_append : ByteArray := prog_7_method_5_code
def y_PR_append : MethodName := ⟨R_PR, "append", "(III)Z"⟩
def r_PR_append : Room := { frames := 2, cells := 0, slots := 0, locals := 41 }
abbrev b_PR_isRegister : ByteArray := prog_7_method_6_code
def y_PR_isRegister : MethodName := ⟨R_PR, "isRegister", "(I)Z"⟩
def r_PR_isRegister : Room := { frames := 0, cells := 0, slots := 0, locals := 0 }
abbrev b_PR_fits : ByteArray := prog_7_method_7_code
def y_PR_fits : MethodName := ⟨R_PR, "fits", "(II)Z"⟩
def r_PR_fits : Room := { frames := 1, cells := 0, slots := 0, locals := 20 }
abbrev b_RU_init : ByteArray := prog_8_method_1_code
def y_RU_init : MethodName := ⟨R_RU, "<init>", "()V"⟩
def r_RU_init : Room := { frames := 1, cells := 0, slots := 0, locals := 40 }
abbrev b_RU_perform : ByteArray := prog_8_method_2_code
def y_RU_perform : MethodName := ⟨R_RU, "perform", "(LEdgeCampaign$Program;LEdgeCampaign$Input;)V"⟩
def r_RU_perform : Room := { frames := 2, cells := 0, slots := 0, locals := 47 }
abbrev b_RU_hasTrapped : ByteArray := prog_8_method_3_code
def y_RU_hasTrapped : MethodName := ⟨R_RU, "hasTrapped", "()Z"⟩
def r_RU_hasTrapped : Room := { frames := 0, cells := 0, slots := 0, locals := 0 }
abbrev b_RU_onStack : ByteArray := prog_8_method_4_code
def y_RU_onStack : MethodName := ⟨R_RU, "onStack", "(I)I"⟩
def r_RU_onStack : Room := { frames := 0, cells := 0, slots := 0, locals := 0 }
abbrev b_RU_pairBit : ByteArray := prog_8_method_5_code
def y_RU_pairBit : MethodName := ⟨R_RU, "pairBit", "(I)I"⟩
def r_RU_pairBit : Room := { frames := 0, cells := 0, slots := 0, locals := 0 }
abbrev b_RU_reset : ByteArray := prog_8_method_6_code
def y_RU_reset : MethodName := ⟨R_RU, "reset", "()V"⟩
def r_RU_reset : Room := { frames := 1, cells := 0, slots := 0, locals := 23 }
abbrev b_RU_step : ByteArray := prog_8_method_7_code
def y_RU_step : MethodName := ⟨R_RU, "step", "(LEdgeCampaign$Program;LEdgeCampaign$Input;)V"⟩
def r_RU_step : Room := { frames := 1, cells := 0, slots := 0, locals := 22 }
abbrev b_RU_divide : ByteArray := prog_8_method_8_code
def y_RU_divide : MethodName := ⟨R_RU, "divide", "(II)V"⟩
def r_RU_divide : Room := { frames := 0, cells := 0, slots := 0, locals := 0 }
abbrev b_RU_load : ByteArray := prog_8_method_9_code
def y_RU_load : MethodName := ⟨R_RU, "load", "(II)V"⟩
def r_RU_load : Room := { frames := 0, cells := 0, slots := 0, locals := 0 }
abbrev b_RU_save : ByteArray := prog_8_method_10_code
def y_RU_save : MethodName := ⟨R_RU, "save", "(II)V"⟩
def r_RU_save : Room := { frames := 0, cells := 0, slots := 0, locals := 0 }
abbrev b_RU_goInto : ByteArray := prog_8_method_11_code
def y_RU_goInto : MethodName := ⟨R_RU, "goInto", "(I)V"⟩
def r_RU_goInto : Room := { frames := 0, cells := 0, slots := 0, locals := 0 }
abbrev b_RU_goBack : ByteArray := prog_8_method_12_code
def y_RU_goBack : MethodName := ⟨R_RU, "goBack", "()V"⟩
def r_RU_goBack : Room := { frames := 0, cells := 0, slots := 0, locals := 0 }
abbrev b_RU_goAlong : ByteArray := prog_8_method_13_code
def y_RU_goAlong : MethodName := ⟨R_RU, "goAlong", "(I)V"⟩
def r_RU_goAlong : Room := { frames := 0, cells := 0, slots := 0, locals := 0 }
abbrev b_SH_init : ByteArray := prog_9_method_1_code
def y_SH_init : MethodName := ⟨R_SH, "<init>", "()V"⟩
def r_SH_init : Room := { frames := 2, cells := 0, slots := 0, locals := 60 }
abbrev b_SH_shorten : ByteArray := prog_9_method_2_code
def y_SH_shorten : MethodName := ⟨R_SH, "shorten", "(LEdgeCampaign$Finding;LEdgeCampaign$Program;)V"⟩
def r_SH_shorten : Room := { frames := 4, cells := 0, slots := 0, locals := 98 }
abbrev b_SH_keepFirst : ByteArray := prog_9_method_3_code
def y_SH_keepFirst : MethodName := ⟨R_SH, "keepFirst", "(LEdgeCampaign$Finding;LEdgeCampaign$Program;IZ)Z"⟩
def r_SH_keepFirst : Room := { frames := 3, cells := 0, slots := 0, locals := 70 }
abbrev b_SH_makePart : ByteArray := prog_9_method_4_code
def y_SH_makePart : MethodName := ⟨R_SH, "makePart", "(LEdgeCampaign$Input;II)V"⟩
def r_SH_makePart : Room := { frames := 2, cells := 0, slots := 0, locals := 46 }
abbrev b_SH_makeRest : ByteArray := prog_9_method_5_code
def y_SH_makeRest : MethodName := ⟨R_SH, "makeRest", "(LEdgeCampaign$Input;II)V"⟩
def r_SH_makeRest : Room := { frames := 2, cells := 0, slots := 0, locals := 46 }
abbrev b_ST_init : ByteArray := prog_10_method_1_code
def y_ST_init : MethodName := ⟨R_ST, "<init>", "()V"⟩
def r_ST_init : Room := { frames := 3, cells := 0, slots := 0, locals := 80 }
abbrev b_ST_has : ByteArray := prog_10_method_2_code
def y_ST_has : MethodName := ⟨R_ST, "has", "(I)Z"⟩
def r_ST_has : Room := { frames := 0, cells := 0, slots := 0, locals := 0 }
abbrev b_ST_isFavoured : ByteArray := prog_10_method_3_code
def y_ST_isFavoured : MethodName := ⟨R_ST, "isFavoured", "(I)Z"⟩
def r_ST_isFavoured : Room := { frames := 0, cells := 0, slots := 0, locals := 0 }
abbrev b_ST_behind : ByteArray := prog_10_method_4_code
def y_ST_behind : MethodName := ⟨R_ST, "behind", "(I)I"⟩
def r_ST_behind : Room := { frames := 0, cells := 0, slots := 0, locals := 0 }
abbrev b_ST_hasNews : ByteArray := prog_10_method_5_code
def y_ST_hasNews : MethodName := ⟨R_ST, "hasNews", "(LEdgeCampaign$Run;)Z"⟩
def r_ST_hasNews : Room := { frames := 1, cells := 0, slots := 0, locals := 22 }
abbrev b_ST_keep : ByteArray := prog_10_method_6_code
def y_ST_keep : MethodName := ⟨R_ST, "keep", "(LEdgeCampaign$Input;LEdgeCampaign$Run;)Z"⟩
def r_ST_keep : Room := { frames := 3, cells := 0, slots := 0, locals := 67 }
abbrev b_ST_markSeen : ByteArray := prog_10_method_7_code
def y_ST_markSeen : MethodName := ⟨R_ST, "markSeen", "(II)V"⟩
def r_ST_markSeen : Room := { frames := 0, cells := 0, slots := 0, locals := 0 }
abbrev b_ST_chooseFavoured : ByteArray := prog_10_method_8_code
def y_ST_chooseFavoured : MethodName := ⟨R_ST, "chooseFavoured", "()V"⟩
def r_ST_chooseFavoured : Room := { frames := 2, cells := 0, slots := 0, locals := 44 }
abbrev b_ST_top : ByteArray := prog_10_method_9_code
def y_ST_top : MethodName := ⟨R_ST, "top", "(I)I"⟩
def r_ST_top : Room := { frames := 1, cells := 0, slots := 0, locals := 20 }
abbrev b_TR_init : ByteArray := prog_11_method_1_code
def y_TR_init : MethodName := ⟨R_TR, "<init>", "()V"⟩
def r_TR_init : Room := { frames := 1, cells := 0, slots := 0, locals := 40 }
abbrev b_TR_beginWithFirst : ByteArray := prog_11_method_2_code
def y_TR_beginWithFirst : MethodName := ⟨R_TR, "beginWithFirst", "(LEdgeCampaign$Store;)V"⟩
def r_TR_beginWithFirst : Room := { frames := 2, cells := 0, slots := 0, locals := 44 }
abbrev b_TR_change : ByteArray := prog_11_method_3_code
def y_TR_change : MethodName := ⟨R_TR, "change", "(LEdgeCampaign$Input;LEdgeCampaign$Store;LEdgeCampaign$Generator;)V"⟩
def r_TR_change : Room := { frames := 4, cells := 0, slots := 0, locals := 92 }
abbrev b_TR_advance : ByteArray := prog_11_method_4_code
def y_TR_advance : MethodName := ⟨R_TR, "advance", "(LEdgeCampaign$Store;)V"⟩
def r_TR_advance : Room := { frames := 2, cells := 0, slots := 0, locals := 44 }
abbrev b_TR_firstDrawing : ByteArray := prog_11_method_5_code
def y_TR_firstDrawing : MethodName := ⟨R_TR, "firstDrawing", "(LEdgeCampaign$Input;)I"⟩
def r_TR_firstDrawing : Room := { frames := 0, cells := 0, slots := 0, locals := 0 }
abbrev b_TR_takeUp : ByteArray := prog_11_method_6_code
def y_TR_takeUp : MethodName := ⟨R_TR, "takeUp", "(LEdgeCampaign$Store;I)V"⟩
def r_TR_takeUp : Room := { frames := 1, cells := 0, slots := 0, locals := 21 }
abbrev b_TR_next : ByteArray := prog_11_method_7_code
def y_TR_next : MethodName := ⟨R_TR, "next", "(LEdgeCampaign$Store;)I"⟩
def r_TR_next : Room := { frames := 1, cells := 0, slots := 0, locals := 21 }
abbrev b_TR_changeByDraws : ByteArray := prog_11_method_8_code
def y_TR_changeByDraws : MethodName := ⟨R_TR, "changeByDraws", "(LEdgeCampaign$Input;LEdgeCampaign$Generator;)V"⟩
def r_TR_changeByDraws : Room := { frames := 3, cells := 0, slots := 0, locals := 68 }
abbrev b_TR_insertDrawn : ByteArray := prog_11_method_9_code
def y_TR_insertDrawn : MethodName := ⟨R_TR, "insertDrawn", "(LEdgeCampaign$Input;LEdgeCampaign$Generator;)V"⟩
def r_TR_insertDrawn : Room := { frames := 2, cells := 0, slots := 0, locals := 44 }
abbrev b_TR_changeDrawn : ByteArray := prog_11_method_10_code
def y_TR_changeDrawn : MethodName := ⟨R_TR, "changeDrawn", "(ILEdgeCampaign$Input;LEdgeCampaign$Generator;)V"⟩
def r_TR_changeDrawn : Room := { frames := 2, cells := 0, slots := 0, locals := 44 }
abbrev b_TR_joinPartner : ByteArray := prog_11_method_11_code
def y_TR_joinPartner : MethodName := ⟨R_TR, "joinPartner", "(LEdgeCampaign$Input;LEdgeCampaign$Store;LEdgeCampaign$Generator;)V"⟩
def r_TR_joinPartner : Room := { frames := 2, cells := 0, slots := 0, locals := 46 }
abbrev b_LAW_cell : ByteArray := method_2_code
def y_LAW_cell : MethodName := ⟨R_LAW, "cell", "([II)I"⟩
def r_LAW_cell : Room := { frames := 0, cells := 0, slots := 0, locals := 0 }
abbrev b_LAW_law : ByteArray := code
def y_LAW_law : MethodName := ⟨R_LAW, "law", "([I)Z"⟩
def r_LAW_law : Room := { frames := 12, cells := 0, slots := 0, locals := 278 }
abbrev b_JM_max : ByteArray := prog_14_method_65_code
def y_JM_max : MethodName := ⟨R_JM, "max", "(II)I"⟩
def r_JM_max : Room := { frames := 0, cells := 0, slots := 0, locals := 0 }
abbrev b_JM_min : ByteArray := prog_14_method_69_code
def y_JM_min : MethodName := ⟨R_JM, "min", "(II)I"⟩
def r_JM_min : Room := { frames := 0, cells := 0, slots := 0, locals := 0 }
abbrev b_JA_fill : ByteArray := prog_15_method_103_code
def y_JA_fill : MethodName := ⟨R_JA, "fill", "([II)V"⟩
def r_JA_fill : Room := { frames := 0, cells := 0, slots := 0, locals := 0 }
abbrev vwCl : List vw_C := [(R_EN, T_EN, 4), (R_FI, T_FI, 7), (R_FS, T_FS, 2), (R_GE, T_GE, 1), (R_IN, T_IN, 2), (R_PR, T_PR, 4), (R_RU, T_RU, 11), (R_SH, T_SH, 2), (R_ST, T_ST, 7), (R_TR, T_TR, 3), (R_EC, T_EC, 12), (R_MO, T_MO, 45)]
