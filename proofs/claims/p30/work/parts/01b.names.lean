/-! ===== BEGIN printed: names, fields, word lists, decode rows ===== -/
def RX0 : String := "Degreewall$Kinship"
def TX0 : u_T := fun k => match k with
  | 0 => ("Degreewall$Kinship", "kin", "LDegreewall$Links;", true)
  | 1 => ("Degreewall$Kinship", "barred", "[I", true)
  | 2 => ("Degreewall$Kinship", "count", "I", false)
  | _ => ("Degreewall$Kinship", "bar", "I", false)
def tyX0 : Nat → FieldType := fun k => match k with
  | 0 => .object "Degreewall$Links"
  | 1 => .array .int
  | 2 => .int
  | _ => .int
abbrev wsX00 : List Cond := u_ws RX0 TX0 4
theorem nmX0 : ∀ a, a < 4 → ∀ b, b < 4 → a ≠ b → (TX0 a).2.1 ≠ (TX0 b).2.1 := by decide +kernel
theorem tyX0_ok : ∀ k, k < 4 → parseFieldDescriptor (TX0 k).2.2.1 = some (tyX0 k) := by decide +kernel
abbrev cX0_init : ByteArray := prog_2_method_1_code
def yX0_init : MethodName := ⟨RX0, "<init>", "()V"⟩
abbrev cX0_count : ByteArray := prog_2_method_2_code
def yX0_count : MethodName := ⟨RX0, "count", "()I"⟩
abbrev cX0_knows : ByteArray := prog_2_method_3_code
def yX0_knows : MethodName := ⟨RX0, "knows", "(I)Z"⟩
abbrev cX0_barNow : ByteArray := prog_2_method_4_code
def yX0_barNow : MethodName := ⟨RX0, "barNow", "()I"⟩
abbrev cX0_addSource : ByteArray := prog_2_method_5_code
def yX0_addSource : MethodName := ⟨RX0, "addSource", "()I"⟩
abbrev cX0_tellKin : ByteArray := prog_2_method_6_code
def yX0_tellKin : MethodName := ⟨RX0, "tellKin", "(IIZ)V"⟩
abbrev cX0_tellBar : ByteArray := prog_2_method_7_code
def yX0_tellBar : MethodName := ⟨RX0, "tellBar", "(I)V"⟩
abbrev cX0_kinOf : ByteArray := prog_2_method_8_code
def yX0_kinOf : MethodName := ⟨RX0, "kinOf", "(I)I"⟩
abbrev cX0_within : ByteArray := prog_2_method_10_code
def yX0_within : MethodName := ⟨RX0, "within", "(I)I"⟩
abbrev cX0_firstPairWithin : ByteArray := prog_2_method_11_code
def yX0_firstPairWithin : MethodName := ⟨RX0, "firstPairWithin", "(I)I"⟩
abbrev cX0_findBarred : ByteArray := prog_2_method_12_code
def yX0_findBarred : MethodName := ⟨RX0, "findBarred", "()V"⟩
def RX1 : String := "Degreewall$Links"
def TX1 : u_T := fun k => match k with
  | _ => ("Degreewall$Links", "near", "[I", true)
def tyX1 : Nat → FieldType := fun k => match k with
  | _ => .array .int
abbrev wsX10 : List Cond := u_ws RX1 TX1 1
theorem nmX1 : ∀ a, a < 1 → ∀ b, b < 1 → a ≠ b → (TX1 a).2.1 ≠ (TX1 b).2.1 := by decide +kernel
theorem tyX1_ok : ∀ k, k < 1 → parseFieldDescriptor (TX1 k).2.2.1 = some (tyX1 k) := by decide +kernel
abbrev cX1_init : ByteArray := prog_3_method_1_code
def yX1_init : MethodName := ⟨RX1, "<init>", "()V"⟩
abbrev cX1_cutAll : ByteArray := prog_3_method_2_code
def yX1_cutAll : MethodName := ⟨RX1, "cutAll", "()V"⟩
abbrev cX1_link : ByteArray := prog_3_method_3_code
def yX1_link : MethodName := ⟨RX1, "link", "(II)V"⟩
abbrev cX1_cut : ByteArray := prog_3_method_4_code
def yX1_cut : MethodName := ⟨RX1, "cut", "(II)V"⟩
abbrev cX1_nextTo : ByteArray := prog_3_method_5_code
def yX1_nextTo : MethodName := ⟨RX1, "nextTo", "(I)I"⟩
abbrev cX1_reach : ByteArray := prog_3_method_6_code
def yX1_reach : MethodName := ⟨RX1, "reach", "(II)I"⟩
abbrev cX1_widened : ByteArray := prog_3_method_8_code
def yX1_widened : MethodName := ⟨RX1, "widened", "(I)I"⟩
def RX2 : String := "Degreewall$Permits"
def TX2 : u_T := fun k => match k with
  | 0 => ("Degreewall$Permits", "smaller", "[I", true)
  | 1 => ("Degreewall$Permits", "greater", "[I", true)
  | 2 => ("Degreewall$Permits", "lastDay", "[I", true)
  | 3 => ("Degreewall$Permits", "chains", "LDegreewall$Links;", true)
  | 4 => ("Degreewall$Permits", "count", "I", false)
  | 5 => ("Degreewall$Permits", "revoked", "I", false)
  | 6 => ("Degreewall$Permits", "today", "I", false)
  | _ => ("Degreewall$Permits", "repair", "I", false)
def tyX2 : Nat → FieldType := fun k => match k with
  | 0 => .array .int
  | 1 => .array .int
  | 2 => .array .int
  | 3 => .object "Degreewall$Links"
  | 4 => .int
  | 5 => .int
  | 6 => .int
  | _ => .int
abbrev wsX20 : List Cond := u_ws RX2 TX2 8
theorem nmX2 : ∀ a, a < 8 → ∀ b, b < 8 → a ≠ b → (TX2 a).2.1 ≠ (TX2 b).2.1 := by decide +kernel
theorem tyX2_ok : ∀ k, k < 8 → parseFieldDescriptor (TX2 k).2.2.1 = some (tyX2 k) := by decide +kernel
abbrev cX2_init : ByteArray := prog_4_method_1_code
def yX2_init : MethodName := ⟨RX2, "<init>", "()V"⟩
abbrev cX2_count : ByteArray := prog_4_method_2_code
def yX2_count : MethodName := ⟨RX2, "count", "()I"⟩
abbrev cX2_today : ByteArray := prog_4_method_3_code
def yX2_today : MethodName := ⟨RX2, "today", "()I"⟩
abbrev cX2_repair : ByteArray := prog_4_method_4_code
def yX2_repair : MethodName := ⟨RX2, "repair", "()I"⟩
abbrev cX2_isInForce : ByteArray := prog_4_method_9_code
def yX2_isInForce : MethodName := ⟨RX2, "isInForce", "(I)Z"⟩
abbrev cX2_countInForce : ByteArray := prog_4_method_10_code
def yX2_countInForce : MethodName := ⟨RX2, "countInForce", "()I"⟩
abbrev cX2_add : ByteArray := prog_4_method_11_code
def yX2_add : MethodName := ⟨RX2, "add", "(III)I"⟩
abbrev cX2_chained : ByteArray := prog_4_method_14_code
def yX2_chained : MethodName := ⟨RX2, "chained", "(I)I"⟩
abbrev cX2_countLeaks : ByteArray := prog_4_method_16_code
def yX2_countLeaks : MethodName := ⟨RX2, "countLeaks", "(LDegreewall$Kinship;)I"⟩
abbrev cX2_findRepair : ByteArray := prog_4_method_17_code
def yX2_findRepair : MethodName := ⟨RX2, "findRepair", "(LDegreewall$Kinship;)V"⟩
abbrev cX2_areSound : ByteArray := prog_4_method_18_code
def yX2_areSound : MethodName := ⟨RX2, "areSound", "(LDegreewall$Kinship;)Z"⟩
abbrev cX2_inForce : ByteArray := prog_4_method_19_code
def yX2_inForce : MethodName := ⟨RX2, "inForce", "()I"⟩
abbrev cX2_layOut : ByteArray := prog_4_method_20_code
def yX2_layOut : MethodName := ⟨RX2, "layOut", "(I)V"⟩
abbrev cX2_leaksBy : ByteArray := prog_4_method_21_code
def yX2_leaksBy : MethodName := ⟨RX2, "leaksBy", "(ILDegreewall$Kinship;)I"⟩
def RX3 : String := "Degreewall$Span"
def TX3 : u_T := fun k => match k with
  | 0 => ("Degreewall$Span", "rows", "[[I", true)
  | 1 => ("Degreewall$Span", "rest", "[I", true)
  | _ => ("Degreewall$Span", "used", "I", false)
def tyX3 : Nat → FieldType := fun k => match k with
  | 0 => .array (.array .int)
  | 1 => .array .int
  | _ => .int
abbrev wsX30 : List Cond := u_ws RX3 TX3 3
theorem nmX3 : ∀ a, a < 3 → ∀ b, b < 3 → a ≠ b → (TX3 a).2.1 ≠ (TX3 b).2.1 := by decide +kernel
theorem tyX3_ok : ∀ k, k < 3 → parseFieldDescriptor (TX3 k).2.2.1 = some (tyX3 k) := by decide +kernel
abbrev cX3_init : ByteArray := prog_5_method_1_code
def yX3_init : MethodName := ⟨RX3, "<init>", "()V"⟩
abbrev cX3_forgetAll : ByteArray := prog_5_method_2_code
def yX3_forgetAll : MethodName := ⟨RX3, "forgetAll", "()V"⟩
abbrev cX3_add : ByteArray := prog_5_method_3_code
def yX3_add : MethodName := ⟨RX3, "add", "(I)V"⟩
abbrev cX3_holds : ByteArray := prog_5_method_4_code
def yX3_holds : MethodName := ⟨RX3, "holds", "(I)Z"⟩
abbrev cX3_alone : ByteArray := prog_5_method_6_code
def yX3_alone : MethodName := ⟨RX3, "alone", "()I"⟩
abbrev cX3_isAlone : ByteArray := prog_5_method_7_code
def yX3_isAlone : MethodName := ⟨RX3, "isAlone", "([I)Z"⟩
abbrev cX3_firstOfRest : ByteArray := prog_5_method_8_code
def yX3_firstOfRest : MethodName := ⟨RX3, "firstOfRest", "(I)I"⟩
abbrev cX3_clearAt : ByteArray := prog_5_method_9_code
def yX3_clearAt : MethodName := ⟨RX3, "clearAt", "([II)V"⟩
def RX4 : String := "Degreewall$Sums"
def TX4 : u_T := fun k => match k with
  | 0 => ("Degreewall$Sums", "values", "[I", true)
  | 1 => ("Degreewall$Sums", "talks", "LDegreewall$Links;", true)
  | 2 => ("Degreewall$Sums", "hearers", "[I", true)
  | 3 => ("Degreewall$Sums", "told", "[I", true)
  | 4 => ("Degreewall$Sums", "refused", "[I", true)
  | 5 => ("Degreewall$Sums", "span", "LDegreewall$Span;", true)
  | 6 => ("Degreewall$Sums", "people", "I", false)
  | 7 => ("Degreewall$Sums", "askers", "I", false)
  | _ => ("Degreewall$Sums", "least", "I", false)
def tyX4 : Nat → FieldType := fun k => match k with
  | 0 => .array .int
  | 1 => .object "Degreewall$Links"
  | 2 => .array .int
  | 3 => .array .int
  | 4 => .array .int
  | 5 => .object "Degreewall$Span"
  | 6 => .int
  | 7 => .int
  | _ => .int
abbrev wsX40 : List Cond := u_ws RX4 TX4 9
theorem nmX4 : ∀ a, a < 9 → ∀ b, b < 9 → a ≠ b → (TX4 a).2.1 ≠ (TX4 b).2.1 := by decide +kernel
theorem tyX4_ok : ∀ k, k < 9 → parseFieldDescriptor (TX4 k).2.2.1 = some (tyX4 k) := by decide +kernel
abbrev cX4_init : ByteArray := prog_6_method_1_code
def yX4_init : MethodName := ⟨RX4, "<init>", "()V"⟩
abbrev cX4_people : ByteArray := prog_6_method_2_code
def yX4_people : MethodName := ⟨RX4, "people", "()I"⟩
abbrev cX4_everybody : ByteArray := prog_6_method_3_code
def yX4_everybody : MethodName := ⟨RX4, "everybody", "()I"⟩
abbrev cX4_askers : ByteArray := prog_6_method_4_code
def yX4_askers : MethodName := ⟨RX4, "askers", "()I"⟩
abbrev cX4_leastNow : ByteArray := prog_6_method_5_code
def yX4_leastNow : MethodName := ⟨RX4, "leastNow", "()I"⟩
abbrev cX4_knowsAsker : ByteArray := prog_6_method_6_code
def yX4_knowsAsker : MethodName := ⟨RX4, "knowsAsker", "(I)Z"⟩
abbrev cX4_knowsPeople : ByteArray := prog_6_method_7_code
def yX4_knowsPeople : MethodName := ⟨RX4, "knowsPeople", "(I)Z"⟩
abbrev cX4_addPerson : ByteArray := prog_6_method_8_code
def yX4_addPerson : MethodName := ⟨RX4, "addPerson", "(I)I"⟩
abbrev cX4_addAsker : ByteArray := prog_6_method_9_code
def yX4_addAsker : MethodName := ⟨RX4, "addAsker", "()I"⟩
abbrev cX4_tell : ByteArray := prog_6_method_11_code
def yX4_tell : MethodName := ⟨RX4, "tell", "(II)I"⟩
abbrev cX4_letTalk : ByteArray := prog_6_method_12_code
def yX4_letTalk : MethodName := ⟨RX4, "letTalk", "(II)Z"⟩
abbrev cX4_circle : ByteArray := prog_6_method_13_code
def yX4_circle : MethodName := ⟨RX4, "circle", "(I)I"⟩
abbrev cX4_toldEver : ByteArray := prog_6_method_17_code
def yX4_toldEver : MethodName := ⟨RX4, "toldEver", "()I"⟩
abbrev cX4_refusedEver : ByteArray := prog_6_method_18_code
def yX4_refusedEver : MethodName := ⟨RX4, "refusedEver", "()I"⟩
abbrev cX4_givenAwayWith : ByteArray := prog_6_method_20_code
def yX4_givenAwayWith : MethodName := ⟨RX4, "givenAwayWith", "(II)I"⟩
abbrev cX4_givenAwayByTalk : ByteArray := prog_6_method_21_code
def yX4_givenAwayByTalk : MethodName := ⟨RX4, "givenAwayByTalk", "(II)I"⟩
abbrev cX4_areSound : ByteArray := prog_6_method_22_code
def yX4_areSound : MethodName := ⟨RX4, "areSound", "()Z"⟩
abbrev cX4_spanHoldsAllTold : ByteArray := prog_6_method_23_code
def yX4_spanHoldsAllTold : MethodName := ⟨RX4, "spanHoldsAllTold", "(I)Z"⟩
abbrev cX4_fillSpan : ByteArray := prog_6_method_24_code
def yX4_fillSpan : MethodName := ⟨RX4, "fillSpan", "(I)V"⟩
abbrev cX4_sumOf : ByteArray := prog_6_method_25_code
def yX4_sumOf : MethodName := ⟨RX4, "sumOf", "(I)I"⟩
abbrev cX4_total : ByteArray := prog_6_method_26_code
def yX4_total : MethodName := ⟨RX4, "total", "([I)I"⟩
def RX5 : String := "Degreewall$Tables"
def TX5 : u_T := fun k => match k with
  | 0 => ("Degreewall$Tables", "lines", "[I", true)
  | 1 => ("Degreewall$Tables", "count", "I", false)
  | _ => ("Degreewall$Tables", "struck", "I", false)
def tyX5 : Nat → FieldType := fun k => match k with
  | 0 => .array .int
  | 1 => .int
  | _ => .int
abbrev wsX50 : List Cond := u_ws RX5 TX5 3
theorem nmX5 : ∀ a, a < 3 → ∀ b, b < 3 → a ≠ b → (TX5 a).2.1 ≠ (TX5 b).2.1 := by decide +kernel
theorem tyX5_ok : ∀ k, k < 3 → parseFieldDescriptor (TX5 k).2.2.1 = some (tyX5 k) := by decide +kernel
abbrev cX5_init : ByteArray := prog_7_method_1_code
def yX5_init : MethodName := ⟨RX5, "<init>", "()V"⟩
abbrev cX5_count : ByteArray := prog_7_method_2_code
def yX5_count : MethodName := ⟨RX5, "count", "()I"⟩
abbrev cX5_knows : ByteArray := prog_7_method_3_code
def yX5_knows : MethodName := ⟨RX5, "knows", "(I)Z"⟩
abbrev cX5_line : ByteArray := prog_7_method_4_code
def yX5_line : MethodName := ⟨RX5, "line", "(I)I"⟩
abbrev cX5_isStruck : ByteArray := prog_7_method_5_code
def yX5_isStruck : MethodName := ⟨RX5, "isStruck", "(I)Z"⟩
abbrev cX5_countStruck : ByteArray := prog_7_method_6_code
def yX5_countStruck : MethodName := ⟨RX5, "countStruck", "()I"⟩
abbrev cX5_add : ByteArray := prog_7_method_7_code
def yX5_add : MethodName := ⟨RX5, "add", "(I)I"⟩
abbrev cX5_strike : ByteArray := prog_7_method_8_code
def yX5_strike : MethodName := ⟨RX5, "strike", "(LDegreewall$Kinship;)I"⟩
abbrev cX5_countWith : ByteArray := prog_7_method_9_code
def yX5_countWith : MethodName := ⟨RX5, "countWith", "(I)I"⟩
abbrev cX5_areSound : ByteArray := prog_7_method_10_code
def yX5_areSound : MethodName := ⟨RX5, "areSound", "(LDegreewall$Kinship;)Z"⟩
def RX6 : String := "Degreewall"
def TX6 : u_T := fun k => match k with
  | 0 => ("Degreewall", "kinship", "LDegreewall$Kinship;", true)
  | 1 => ("Degreewall", "tables", "LDegreewall$Tables;", true)
  | 2 => ("Degreewall", "permits", "LDegreewall$Permits;", true)
  | 3 => ("Degreewall", "sums", "LDegreewall$Sums;", true)
  | _ => ("Degreewall", "knocks", "I", false)
def tyX6 : Nat → FieldType := fun k => match k with
  | 0 => .object "Degreewall$Kinship"
  | 1 => .object "Degreewall$Tables"
  | 2 => .object "Degreewall$Permits"
  | 3 => .object "Degreewall$Sums"
  | _ => .int
abbrev wsX60 : List Cond := u_ws RX6 TX6 5
theorem nmX6 : ∀ a, a < 5 → ∀ b, b < 5 → a ≠ b → (TX6 a).2.1 ≠ (TX6 b).2.1 := by decide +kernel
theorem tyX6_ok : ∀ k, k < 5 → parseFieldDescriptor (TX6 k).2.2.1 = some (tyX6 k) := by decide +kernel
abbrev cX6_init : ByteArray := prog_1_method_1_code
def yX6_init : MethodName := ⟨RX6, "<init>", "()V"⟩
abbrev cX6_source : ByteArray := prog_1_method_2_code
def yX6_source : MethodName := ⟨RX6, "source", "()I"⟩
abbrev cX6_kin : ByteArray := prog_1_method_3_code
def yX6_kin : MethodName := ⟨RX6, "kin", "(IIZ)I"⟩
abbrev cX6_bar : ByteArray := prog_1_method_4_code
def yX6_bar : MethodName := ⟨RX6, "bar", "(I)I"⟩
abbrev cX6_join : ByteArray := prog_1_method_5_code
def yX6_join : MethodName := ⟨RX6, "join", "(II)I"⟩
abbrev cX6_permit : ByteArray := prog_1_method_6_code
def yX6_permit : MethodName := ⟨RX6, "permit", "(III)I"⟩
abbrev cX6_person : ByteArray := prog_1_method_9_code
def yX6_person : MethodName := ⟨RX6, "person", "(I)I"⟩
abbrev cX6_asker : ByteArray := prog_1_method_10_code
def yX6_asker : MethodName := ⟨RX6, "asker", "()I"⟩
abbrev cX6_ask : ByteArray := prog_1_method_12_code
def yX6_ask : MethodName := ⟨RX6, "ask", "(II)I"⟩
abbrev cX6_talk : ByteArray := prog_1_method_13_code
def yX6_talk : MethodName := ⟨RX6, "talk", "(II)Z"⟩
abbrev cX6_ofSource : ByteArray := prog_1_method_15_code
def yX6_ofSource : MethodName := ⟨RX6, "ofSource", "(II)I"⟩
abbrev cX6_ofTable : ByteArray := prog_1_method_16_code
def yX6_ofTable : MethodName := ⟨RX6, "ofTable", "(II)I"⟩
abbrev cX6_house : ByteArray := prog_1_method_20_code
def yX6_house : MethodName := ⟨RX6, "house", "(I)I"⟩
abbrev cX6_wouldJoin : ByteArray := prog_1_method_22_code
def yX6_wouldJoin : MethodName := ⟨RX6, "wouldJoin", "(II)I"⟩
abbrev cX6_isSound : ByteArray := prog_1_method_26_code
def yX6_isSound : MethodName := ⟨RX6, "isSound", "()Z"⟩
abbrev cX6_contains : ByteArray := prog_1_method_30_code
def yX6_contains : MethodName := ⟨RX6, "contains", "(II)Z"⟩
abbrev cX6_applyBar : ByteArray := prog_1_method_31_code
def yX6_applyBar : MethodName := ⟨RX6, "applyBar", "()I"⟩
abbrev cX6_lineOf : ByteArray := prog_1_method_32_code
def yX6_lineOf : MethodName := ⟨RX6, "lineOf", "(I)I"⟩
abbrev cX6_needSource : ByteArray := prog_1_method_33_code
def yX6_needSource : MethodName := ⟨RX6, "needSource", "(I)V"⟩
abbrev cX6_needAsker : ByteArray := prog_1_method_35_code
def yX6_needAsker : MethodName := ⟨RX6, "needAsker", "(I)V"⟩
abbrev cX6_needPeople : ByteArray := prog_1_method_36_code
def yX6_needPeople : MethodName := ⟨RX6, "needPeople", "(I)V"⟩
abbrev cX6_needSomePeople : ByteArray := prog_1_method_37_code
def yX6_needSomePeople : MethodName := ⟨RX6, "needSomePeople", "(I)V"⟩
def RX7 : String := "DegreewallModel$Rows"
def TX7 : u_T := fun k => match k with
  | _ => ("", "", "", false)
def tyX7 : Nat → FieldType := fun k => match k with
  | _ => .int
abbrev wsX70 : List Cond := u_ws RX7 TX7 0
theorem nmX7 : ∀ a, a < 0 → ∀ b, b < 0 → a ≠ b → (TX7 a).2.1 ≠ (TX7 b).2.1 := by decide +kernel
theorem tyX7_ok : ∀ k, k < 0 → parseFieldDescriptor (TX7 k).2.2.1 = some (tyX7 k) := by decide +kernel
def RX8 : String := "DegreewallModel"
def TX8 : u_T := fun k => match k with
  | _ => ("", "", "", false)
def tyX8 : Nat → FieldType := fun k => match k with
  | _ => .int
abbrev wsX80 : List Cond := u_ws RX8 TX8 0
theorem nmX8 : ∀ a, a < 0 → ∀ b, b < 0 → a ≠ b → (TX8 a).2.1 ≠ (TX8 b).2.1 := by decide +kernel
theorem tyX8_ok : ∀ k, k < 0 → parseFieldDescriptor (TX8 k).2.2.1 = some (tyX8 k) := by decide +kernel
def RJx145de : String := "java/io/Serializable"
def TJx145de : u_T := fun k => match k with
  | _ => ("", "", "", false)
def tyJx145de : Nat → FieldType := fun k => match k with
  | _ => .int
abbrev wsJx145de0 : List Cond := u_ws RJx145de TJx145de 0
theorem nmJx145de : ∀ a, a < 0 → ∀ b, b < 0 → a ≠ b → (TJx145de a).2.1 ≠ (TJx145de b).2.1 := by decide +kernel
theorem tyJx145de_ok : ∀ k, k < 0 → parseFieldDescriptor (TJx145de k).2.2.1 = some (tyJx145de k) := by decide +kernel
def RJx8e188 : String := "java/lang/Cloneable"
def TJx8e188 : u_T := fun k => match k with
  | _ => ("", "", "", false)
def tyJx8e188 : Nat → FieldType := fun k => match k with
  | _ => .int
abbrev wsJx8e1880 : List Cond := u_ws RJx8e188 TJx8e188 0
theorem nmJx8e188 : ∀ a, a < 0 → ∀ b, b < 0 → a ≠ b → (TJx8e188 a).2.1 ≠ (TJx8e188 b).2.1 := by decide +kernel
theorem tyJx8e188_ok : ∀ k, k < 0 → parseFieldDescriptor (TJx8e188 k).2.2.1 = some (tyJx8e188 k) := by decide +kernel
def RJxb160c : String := "java/lang/Comparable"
def TJxb160c : u_T := fun k => match k with
  | _ => ("", "", "", false)
def tyJxb160c : Nat → FieldType := fun k => match k with
  | _ => .int
abbrev wsJxb160c0 : List Cond := u_ws RJxb160c TJxb160c 0
theorem nmJxb160c : ∀ a, a < 0 → ∀ b, b < 0 → a ≠ b → (TJxb160c a).2.1 ≠ (TJxb160c b).2.1 := by decide +kernel
theorem tyJxb160c_ok : ∀ k, k < 0 → parseFieldDescriptor (TJxb160c k).2.2.1 = some (tyJxb160c k) := by decide +kernel
def RJxabbfe : String := "java/lang/Integer$IntegerCache"
def TJxabbfe : u_T := fun k => match k with
  | _ => ("", "", "", false)
def tyJxabbfe : Nat → FieldType := fun k => match k with
  | _ => .int
abbrev wsJxabbfe0 : List Cond := u_ws RJxabbfe TJxabbfe 0
theorem nmJxabbfe : ∀ a, a < 0 → ∀ b, b < 0 → a ≠ b → (TJxabbfe a).2.1 ≠ (TJxabbfe b).2.1 := by decide +kernel
theorem tyJxabbfe_ok : ∀ k, k < 0 → parseFieldDescriptor (TJxabbfe k).2.2.1 = some (tyJxabbfe k) := by decide +kernel
def RJ6 : String := "java/lang/Integer"
def TJ6 : u_T := fun k => match k with
  | _ => ("java/lang/Integer", "value", "I", true)
def tyJ6 : Nat → FieldType := fun k => match k with
  | _ => .int
abbrev wsJ60 : List Cond := u_ws RJ6 TJ6 1
theorem nmJ6 : ∀ a, a < 1 → ∀ b, b < 1 → a ≠ b → (TJ6 a).2.1 ≠ (TJ6 b).2.1 := by decide +kernel
theorem tyJ6_ok : ∀ k, k < 1 → parseFieldDescriptor (TJ6 k).2.2.1 = some (tyJ6 k) := by decide +kernel
abbrev cJ6_valueOf_2dffe : ByteArray := prog_18_method_22_code
def yJ6_valueOf_2dffe : MethodName := ⟨RJ6, "valueOf", "(I)Ljava/lang/Integer;"⟩
abbrev cJ6_init_d00df : ByteArray := prog_18_method_23_code
def yJ6_init_d00df : MethodName := ⟨RJ6, "<init>", "(I)V"⟩
abbrev cJ6_intValue_8abf5 : ByteArray := prog_18_method_27_code
def yJ6_intValue_8abf5 : MethodName := ⟨RJ6, "intValue", "()I"⟩
abbrev cJ6_bitCount_0f7a4 : ByteArray := prog_18_method_49_code
def yJ6_bitCount_0f7a4 : MethodName := ⟨RJ6, "bitCount", "(I)I"⟩
def RJxab1ab : String := "java/lang/Iterable"
def TJxab1ab : u_T := fun k => match k with
  | _ => ("", "", "", false)
def tyJxab1ab : Nat → FieldType := fun k => match k with
  | _ => .int
abbrev wsJxab1ab0 : List Cond := u_ws RJxab1ab TJxab1ab 0
theorem nmJxab1ab : ∀ a, a < 0 → ∀ b, b < 0 → a ≠ b → (TJxab1ab a).2.1 ≠ (TJxab1ab b).2.1 := by decide +kernel
theorem tyJxab1ab_ok : ∀ k, k < 0 → parseFieldDescriptor (TJxab1ab k).2.2.1 = some (tyJxab1ab k) := by decide +kernel
def RJ9 : String := "java/lang/Math"
def TJ9 : u_T := fun k => match k with
  | _ => ("", "", "", false)
def tyJ9 : Nat → FieldType := fun k => match k with
  | _ => .int
abbrev wsJ90 : List Cond := u_ws RJ9 TJ9 0
theorem nmJ9 : ∀ a, a < 0 → ∀ b, b < 0 → a ≠ b → (TJ9 a).2.1 ≠ (TJ9 b).2.1 := by decide +kernel
theorem tyJ9_ok : ∀ k, k < 0 → parseFieldDescriptor (TJ9 k).2.2.1 = some (tyJ9 k) := by decide +kernel
abbrev cJ9_floorMod_f86c9 : ByteArray := prog_21_method_52_code
def yJ9_floorMod_f86c9 : MethodName := ⟨RJ9, "floorMod", "(JJ)J"⟩
abbrev cJ9_max_7cf53 : ByteArray := prog_21_method_65_code
def yJ9_max_7cf53 : MethodName := ⟨RJ9, "max", "(II)I"⟩
abbrev cJ9_min_7cf53 : ByteArray := prog_21_method_69_code
def yJ9_min_7cf53 : MethodName := ⟨RJ9, "min", "(II)I"⟩
def RJxd2413 : String := "java/lang/Number"
def TJxd2413 : u_T := fun k => match k with
  | _ => ("", "", "", false)
def tyJxd2413 : Nat → FieldType := fun k => match k with
  | _ => .int
abbrev wsJxd24130 : List Cond := u_ws RJxd2413 TJxd2413 0
theorem nmJxd2413 : ∀ a, a < 0 → ∀ b, b < 0 → a ≠ b → (TJxd2413 a).2.1 ≠ (TJxd2413 b).2.1 := by decide +kernel
theorem tyJxd2413_ok : ∀ k, k < 0 → parseFieldDescriptor (TJxd2413 k).2.2.1 = some (tyJxd2413 k) := by decide +kernel
abbrev cJxd2413_init_da8c8 : ByteArray := prog_22_method_1_code
def yJxd2413_init_da8c8 : MethodName := ⟨RJxd2413, "<init>", "()V"⟩
def RJ0 : String := "java/lang/String"
def TJ0 : u_T := fun k => match k with
  | _ => ("", "", "", false)
def tyJ0 : Nat → FieldType := fun k => match k with
  | _ => .int
abbrev wsJ00 : List Cond := u_ws RJ0 TJ0 0
theorem nmJ0 : ∀ a, a < 0 → ∀ b, b < 0 → a ≠ b → (TJ0 a).2.1 ≠ (TJ0 b).2.1 := by decide +kernel
theorem tyJ0_ok : ∀ k, k < 0 → parseFieldDescriptor (TJ0 k).2.2.1 = some (tyJ0 k) := by decide +kernel
def RJ10 : String := "java/lang/System"
def TJ10 : u_T := fun k => match k with
  | _ => ("", "", "", false)
def tyJ10 : Nat → FieldType := fun k => match k with
  | _ => .int
abbrev wsJ100 : List Cond := u_ws RJ10 TJ10 0
theorem nmJ10 : ∀ a, a < 0 → ∀ b, b < 0 → a ≠ b → (TJ10 a).2.1 ≠ (TJ10 b).2.1 := by decide +kernel
theorem tyJ10_ok : ∀ k, k < 0 → parseFieldDescriptor (TJ10 k).2.2.1 = some (tyJ10 k) := by decide +kernel
def RJxfd54e : String := "java/lang/constant/Constable"
def TJxfd54e : u_T := fun k => match k with
  | _ => ("", "", "", false)
def tyJxfd54e : Nat → FieldType := fun k => match k with
  | _ => .int
abbrev wsJxfd54e0 : List Cond := u_ws RJxfd54e TJxfd54e 0
theorem nmJxfd54e : ∀ a, a < 0 → ∀ b, b < 0 → a ≠ b → (TJxfd54e a).2.1 ≠ (TJxfd54e b).2.1 := by decide +kernel
theorem tyJxfd54e_ok : ∀ k, k < 0 → parseFieldDescriptor (TJxfd54e k).2.2.1 = some (tyJxfd54e k) := by decide +kernel
def RJx3cf43 : String := "java/lang/constant/ConstantDesc"
def TJx3cf43 : u_T := fun k => match k with
  | _ => ("", "", "", false)
def tyJx3cf43 : Nat → FieldType := fun k => match k with
  | _ => .int
abbrev wsJx3cf430 : List Cond := u_ws RJx3cf43 TJx3cf43 0
theorem nmJx3cf43 : ∀ a, a < 0 → ∀ b, b < 0 → a ≠ b → (TJx3cf43 a).2.1 ≠ (TJx3cf43 b).2.1 := by decide +kernel
theorem tyJx3cf43_ok : ∀ k, k < 0 → parseFieldDescriptor (TJx3cf43 k).2.2.1 = some (tyJx3cf43 k) := by decide +kernel
def RJxa1e45 : String := "java/util/AbstractCollection"
def TJxa1e45 : u_T := fun k => match k with
  | _ => ("", "", "", false)
def tyJxa1e45 : Nat → FieldType := fun k => match k with
  | _ => .int
abbrev wsJxa1e450 : List Cond := u_ws RJxa1e45 TJxa1e45 0
theorem nmJxa1e45 : ∀ a, a < 0 → ∀ b, b < 0 → a ≠ b → (TJxa1e45 a).2.1 ≠ (TJxa1e45 b).2.1 := by decide +kernel
theorem tyJxa1e45_ok : ∀ k, k < 0 → parseFieldDescriptor (TJxa1e45 k).2.2.1 = some (tyJxa1e45 k) := by decide +kernel
abbrev cJxa1e45_init_da8c8 : ByteArray := prog_29_method_1_code
def yJxa1e45_init_da8c8 : MethodName := ⟨RJxa1e45, "<init>", "()V"⟩
def RJxc12de : String := "java/util/AbstractList"
def TJxc12de : u_T := fun k => match k with
  | _ => ("", "", "", false)
def tyJxc12de : Nat → FieldType := fun k => match k with
  | _ => .int
abbrev wsJxc12de0 : List Cond := u_ws RJxc12de TJxc12de 0
theorem nmJxc12de : ∀ a, a < 0 → ∀ b, b < 0 → a ≠ b → (TJxc12de a).2.1 ≠ (TJxc12de b).2.1 := by decide +kernel
theorem tyJxc12de_ok : ∀ k, k < 0 → parseFieldDescriptor (TJxc12de k).2.2.1 = some (tyJxc12de k) := by decide +kernel
abbrev cJxc12de_init_da8c8 : ByteArray := prog_30_method_1_code
def yJxc12de_init_da8c8 : MethodName := ⟨RJxc12de, "<init>", "()V"⟩
def RJx35411 : String := "java/util/ArrayList$Itr"
def TJx35411 : u_T := fun k => match k with
  | 0 => ("java/util/ArrayList$Itr", "cursor", "I", false)
  | 1 => ("java/util/ArrayList$Itr", "lastRet", "I", false)
  | 2 => ("java/util/ArrayList$Itr", "expectedModCount", "I", false)
  | _ => ("java/util/ArrayList$Itr", "this$0", "Ljava/util/ArrayList;", true)
def tyJx35411 : Nat → FieldType := fun k => match k with
  | 0 => .int
  | 1 => .int
  | 2 => .int
  | _ => .object "java/util/ArrayList"
abbrev wsJx354110 : List Cond := u_ws RJx35411 TJx35411 4
theorem nmJx35411 : ∀ a, a < 4 → ∀ b, b < 4 → a ≠ b → (TJx35411 a).2.1 ≠ (TJx35411 b).2.1 := by decide +kernel
theorem tyJx35411_ok : ∀ k, k < 4 → parseFieldDescriptor (TJx35411 k).2.2.1 = some (tyJx35411 k) := by decide +kernel
abbrev cJx35411_init_45d68 : ByteArray := prog_32_method_1_code
def yJx35411_init_45d68 : MethodName := ⟨RJx35411, "<init>", "(Ljava/util/ArrayList;)V"⟩
abbrev cJx35411_hasNext_aae02 : ByteArray := prog_32_method_2_code
def yJx35411_hasNext_aae02 : MethodName := ⟨RJx35411, "hasNext", "()Z"⟩
abbrev cJx35411_next_0502b : ByteArray := prog_32_method_3_code
def yJx35411_next_0502b : MethodName := ⟨RJx35411, "next", "()Ljava/lang/Object;"⟩
abbrev cJx35411_checkForComodification_da8c8 : ByteArray := prog_32_method_6_code
def yJx35411_checkForComodification_da8c8 : MethodName := ⟨RJx35411, "checkForComodification", "()V"⟩
def RJx4a65c : String := "java/util/ArrayList"
def TJx4a65c : u_T := fun k => match k with
  | 0 => ("java/util/AbstractList", "modCount", "I", false)
  | 1 => ("java/util/ArrayList", "elementData", "[Ljava/lang/Object;", false)
  | _ => ("java/util/ArrayList", "size", "I", false)
def tyJx4a65c : Nat → FieldType := fun k => match k with
  | 0 => .int
  | 1 => .array (.object "java/lang/Object")
  | _ => .int
abbrev wsJx4a65c0 : List Cond := u_ws RJx4a65c TJx4a65c 3
theorem nmJx4a65c : ∀ a, a < 3 → ∀ b, b < 3 → a ≠ b → (TJx4a65c a).2.1 ≠ (TJx4a65c b).2.1 := by decide +kernel
theorem tyJx4a65c_ok : ∀ k, k < 3 → parseFieldDescriptor (TJx4a65c k).2.2.1 = some (tyJx4a65c k) := by decide +kernel
abbrev cJx4a65c_init_da8c8 : ByteArray := prog_31_method_2_code
def yJx4a65c_init_da8c8 : MethodName := ⟨RJx4a65c, "<init>", "()V"⟩
abbrev cJx4a65c_grow_92f84 : ByteArray := prog_31_method_6_code
def yJx4a65c_grow_92f84 : MethodName := ⟨RJx4a65c, "grow", "(I)[Ljava/lang/Object;"⟩
abbrev cJx4a65c_grow_d5877 : ByteArray := prog_31_method_7_code
def yJx4a65c_grow_d5877 : MethodName := ⟨RJx4a65c, "grow", "()[Ljava/lang/Object;"⟩
abbrev cJx4a65c_size_8abf5 : ByteArray := prog_31_method_8_code
def yJx4a65c_size_8abf5 : MethodName := ⟨RJx4a65c, "size", "()I"⟩
abbrev cJx4a65c_elementData_915e3 : ByteArray := prog_31_method_18_code
def yJx4a65c_elementData_915e3 : MethodName := ⟨RJx4a65c, "elementData", "(I)Ljava/lang/Object;"⟩
abbrev cJx4a65c_get_915e3 : ByteArray := prog_31_method_20_code
def yJx4a65c_get_915e3 : MethodName := ⟨RJx4a65c, "get", "(I)Ljava/lang/Object;"⟩
abbrev cJx4a65c_add_72be8 : ByteArray := prog_31_method_24_code
def yJx4a65c_add_72be8 : MethodName := ⟨RJx4a65c, "add", "(Ljava/lang/Object;[Ljava/lang/Object;I)V"⟩
abbrev cJx4a65c_add_9ea2d : ByteArray := prog_31_method_25_code
def yJx4a65c_add_9ea2d : MethodName := ⟨RJx4a65c, "add", "(Ljava/lang/Object;)Z"⟩
abbrev cJx4a65c_iterator_32c93 : ByteArray := prog_31_method_55_code
def yJx4a65c_iterator_32c93 : MethodName := ⟨RJx4a65c, "iterator", "()Ljava/util/Iterator;"⟩
def RJ7 : String := "java/util/Arrays"
def TJ7 : u_T := fun k => match k with
  | _ => ("", "", "", false)
def tyJ7 : Nat → FieldType := fun k => match k with
  | _ => .int
abbrev wsJ70 : List Cond := u_ws RJ7 TJ7 0
theorem nmJ7 : ∀ a, a < 0 → ∀ b, b < 0 → a ≠ b → (TJ7 a).2.1 ≠ (TJ7 b).2.1 := by decide +kernel
theorem tyJ7_ok : ∀ k, k < 0 → parseFieldDescriptor (TJ7 k).2.2.1 = some (tyJ7 k) := by decide +kernel
abbrev cJ7_copyOf_1904c : ByteArray := prog_33_method_119_code
def yJ7_copyOf_1904c : MethodName := ⟨RJ7, "copyOf", "([Ljava/lang/Object;I)[Ljava/lang/Object;"⟩
abbrev cJ7_copyOf_6403c : ByteArray := prog_33_method_120_code
def yJ7_copyOf_6403c : MethodName := ⟨RJ7, "copyOf", "([Ljava/lang/Object;ILjava/lang/Class;)[Ljava/lang/Object;"⟩
def RJx5ef63 : String := "java/util/Collection"
def TJx5ef63 : u_T := fun k => match k with
  | _ => ("", "", "", false)
def tyJx5ef63 : Nat → FieldType := fun k => match k with
  | _ => .int
abbrev wsJx5ef630 : List Cond := u_ws RJx5ef63 TJx5ef63 0
theorem nmJx5ef63 : ∀ a, a < 0 → ∀ b, b < 0 → a ≠ b → (TJx5ef63 a).2.1 ≠ (TJx5ef63 b).2.1 := by decide +kernel
theorem tyJx5ef63_ok : ∀ k, k < 0 → parseFieldDescriptor (TJx5ef63 k).2.2.1 = some (tyJx5ef63 k) := by decide +kernel
def RJx4d0d8 : String := "java/util/Iterator"
def TJx4d0d8 : u_T := fun k => match k with
  | _ => ("", "", "", false)
def tyJx4d0d8 : Nat → FieldType := fun k => match k with
  | _ => .int
abbrev wsJx4d0d80 : List Cond := u_ws RJx4d0d8 TJx4d0d8 0
theorem nmJx4d0d8 : ∀ a, a < 0 → ∀ b, b < 0 → a ≠ b → (TJx4d0d8 a).2.1 ≠ (TJx4d0d8 b).2.1 := by decide +kernel
theorem tyJx4d0d8_ok : ∀ k, k < 0 → parseFieldDescriptor (TJx4d0d8 k).2.2.1 = some (tyJx4d0d8 k) := by decide +kernel
def RJxbd725 : String := "java/util/List"
def TJxbd725 : u_T := fun k => match k with
  | _ => ("", "", "", false)
def tyJxbd725 : Nat → FieldType := fun k => match k with
  | _ => .int
abbrev wsJxbd7250 : List Cond := u_ws RJxbd725 TJxbd725 0
theorem nmJxbd725 : ∀ a, a < 0 → ∀ b, b < 0 → a ≠ b → (TJxbd725 a).2.1 ≠ (TJxbd725 b).2.1 := by decide +kernel
theorem tyJxbd725_ok : ∀ k, k < 0 → parseFieldDescriptor (TJxbd725 k).2.2.1 = some (tyJxbd725 k) := by decide +kernel
def RJ15 : String := "java/util/Objects"
def TJ15 : u_T := fun k => match k with
  | _ => ("", "", "", false)
def tyJ15 : Nat → FieldType := fun k => match k with
  | _ => .int
abbrev wsJ150 : List Cond := u_ws RJ15 TJ15 0
theorem nmJ15 : ∀ a, a < 0 → ∀ b, b < 0 → a ≠ b → (TJ15 a).2.1 ≠ (TJ15 b).2.1 := by decide +kernel
theorem tyJ15_ok : ∀ k, k < 0 → parseFieldDescriptor (TJ15 k).2.2.1 = some (tyJ15 k) := by decide +kernel
abbrev cJ15_checkIndex_7cf53 : ByteArray := prog_37_method_17_code
def yJ15_checkIndex_7cf53 : MethodName := ⟨RJ15, "checkIndex", "(II)I"⟩
def RJxf0a74 : String := "java/util/RandomAccess"
def TJxf0a74 : u_T := fun k => match k with
  | _ => ("", "", "", false)
def tyJxf0a74 : Nat → FieldType := fun k => match k with
  | _ => .int
abbrev wsJxf0a740 : List Cond := u_ws RJxf0a74 TJxf0a74 0
theorem nmJxf0a74 : ∀ a, a < 0 → ∀ b, b < 0 → a ≠ b → (TJxf0a74 a).2.1 ≠ (TJxf0a74 b).2.1 := by decide +kernel
theorem tyJxf0a74_ok : ∀ k, k < 0 → parseFieldDescriptor (TJxf0a74 k).2.2.1 = some (tyJxf0a74 k) := by decide +kernel
def RJxa66e6 : String := "java/util/SequencedCollection"
def TJxa66e6 : u_T := fun k => match k with
  | _ => ("", "", "", false)
def tyJxa66e6 : Nat → FieldType := fun k => match k with
  | _ => .int
abbrev wsJxa66e60 : List Cond := u_ws RJxa66e6 TJxa66e6 0
theorem nmJxa66e6 : ∀ a, a < 0 → ∀ b, b < 0 → a ≠ b → (TJxa66e6 a).2.1 ≠ (TJxa66e6 b).2.1 := by decide +kernel
theorem tyJxa66e6_ok : ∀ k, k < 0 → parseFieldDescriptor (TJxa66e6 k).2.2.1 = some (tyJxa66e6 k) := by decide +kernel
def RJ8 : String := "jdk/internal/util/ArraysSupport"
def TJ8 : u_T := fun k => match k with
  | _ => ("", "", "", false)
def tyJ8 : Nat → FieldType := fun k => match k with
  | _ => .int
abbrev wsJ80 : List Cond := u_ws RJ8 TJ8 0
theorem nmJ8 : ∀ a, a < 0 → ∀ b, b < 0 → a ≠ b → (TJ8 a).2.1 ≠ (TJ8 b).2.1 := by decide +kernel
theorem tyJ8_ok : ∀ k, k < 0 → parseFieldDescriptor (TJ8 k).2.2.1 = some (tyJ8 k) := by decide +kernel
abbrev cJ8_newLength_cabcc : ByteArray := prog_40_method_27_code
def yJ8_newLength_cabcc : MethodName := ⟨RJ8, "newLength", "(III)I"⟩
abbrev cJ8_hugeLength_7cf53 : ByteArray := prog_40_method_28_code
def yJ8_hugeLength_7cf53 : MethodName := ⟨RJ8, "hugeLength", "(II)I"⟩
def RJ3 : String := "jdk/internal/util/Preconditions"
def TJ3 : u_T := fun k => match k with
  | _ => ("", "", "", false)
def tyJ3 : Nat → FieldType := fun k => match k with
  | _ => .int
abbrev wsJ30 : List Cond := u_ws RJ3 TJ3 0
theorem nmJ3 : ∀ a, a < 0 → ∀ b, b < 0 → a ≠ b → (TJ3 a).2.1 ≠ (TJ3 b).2.1 := by decide +kernel
theorem tyJ3_ok : ∀ k, k < 0 → parseFieldDescriptor (TJ3 k).2.2.1 = some (tyJ3 k) := by decide +kernel
abbrev cJ3_checkIndex_8e157 : ByteArray := prog_41_method_11_code
def yJ3_checkIndex_8e157 : MethodName := ⟨RJ3, "checkIndex", "(IILjava/util/function/BiFunction;)I"⟩
def RL : String := "DegreewallLaw"
abbrev cL_below : ByteArray := method_2_code
def yL_below : MethodName := ⟨RL, "below", "(II)I"⟩
abbrev cL_cell : ByteArray := method_3_code
def yL_cell : MethodName := ⟨RL, "cell", "([II)I"⟩
abbrev cL_drawn : ByteArray := method_4_code
def yL_drawn : MethodName := ⟨RL, "drawn", "([III)I"⟩
abbrev cL_isIn : ByteArray := method_5_code
def yL_isIn : MethodName := ⟨RL, "isIn", "(Ljava/util/List;I)Z"⟩
abbrev cL_rank : ByteArray := method_6_code
def yL_rank : MethodName := ⟨RL, "rank", "(Ljava/util/List;I)I"⟩
abbrev cL_law : ByteArray := code
def yL_law : MethodName := ⟨RL, "law", "([I)Z"⟩
abbrev cL_isShut : ByteArray := method_8_code
def yL_isShut : MethodName := ⟨RL, "isShut", "([I[[III)Z"⟩
abbrev vwCl : List vw_C := [(RJ6, TJ6, 1), (RJx35411, TJx35411, 4), (RJx4a65c, TJx4a65c, 3), (RX0, TX0, 4), (RX1, TX1, 1), (RX2, TX2, 8), (RX3, TX3, 3), (RX4, TX4, 9), (RX5, TX5, 3), (RX6, TX6, 5)]
