/-! ===== BEGIN printed: names, fields, word lists, decode rows ===== -/
def RX0 : String := "Detentionbureau$Certificate"
def TX0 : u_T := fun k => match k with
  | 0 => ("Detentionbureau$Certificate", "body", "I", true)
  | 1 => ("Detentionbureau$Certificate", "issuedOn", "I", true)
  | 2 => ("Detentionbureau$Certificate", "lastDay", "I", true)
  | _ => ("Detentionbureau$Certificate", "endorsed", "I", false)
def tyX0 : Nat → FieldType := fun k => match k with
  | 0 => .int
  | 1 => .int
  | 2 => .int
  | _ => .int
abbrev wsX00 : List Cond := u_ws RX0 TX0 4
theorem nmX0 : ∀ a, a < 4 → ∀ b, b < 4 → a ≠ b → (TX0 a).2.1 ≠ (TX0 b).2.1 := by decide +kernel
theorem tyX0_ok : ∀ k, k < 4 → parseFieldDescriptor (TX0 k).2.2.1 = some (tyX0 k) := by decide +kernel
abbrev cX0_init : ByteArray := prog_2_method_1_code
def yX0_init : MethodName := ⟨RX0, "<init>", "(III)V"⟩
abbrev cX0_anniversaries : ByteArray := prog_2_method_2_code
def yX0_anniversaries : MethodName := ⟨RX0, "anniversaries", "()I"⟩
abbrev cX0_anniversaryDay : ByteArray := prog_2_method_3_code
def yX0_anniversaryDay : MethodName := ⟨RX0, "anniversaryDay", "(I)I"⟩
abbrev cX0_anniversaryToEndorse : ByteArray := prog_2_method_4_code
def yX0_anniversaryToEndorse : MethodName := ⟨RX0, "anniversaryToEndorse", "(I)I"⟩
abbrev cX0_hasLapsedByItself : ByteArray := prog_2_method_5_code
def yX0_hasLapsedByItself : MethodName := ⟨RX0, "hasLapsedByItself", "(I)Z"⟩
def RX1 : String := "Detentionbureau$Finding"
def TX1 : u_T := fun k => match k with
  | 0 => ("Detentionbureau$Finding", "weight", "I", true)
  | 1 => ("Detentionbureau$Finding", "putOff", "Z", false)
  | _ => ("Detentionbureau$Finding", "mended", "Z", false)
def tyX1 : Nat → FieldType := fun k => match k with
  | 0 => .int
  | 1 => .boolean
  | _ => .boolean
abbrev wsX10 : List Cond := u_ws RX1 TX1 3
theorem nmX1 : ∀ a, a < 3 → ∀ b, b < 3 → a ≠ b → (TX1 a).2.1 ≠ (TX1 b).2.1 := by decide +kernel
theorem tyX1_ok : ∀ k, k < 3 → parseFieldDescriptor (TX1 k).2.2.1 = some (tyX1 k) := by decide +kernel
abbrev cX1_init : ByteArray := prog_3_method_1_code
def yX1_init : MethodName := ⟨RX1, "<init>", "(I)V"⟩
abbrev cX1_isOpen : ByteArray := prog_3_method_2_code
def yX1_isOpen : MethodName := ⟨RX1, "isOpen", "()Z"⟩
def RX2 : String := "Detentionbureau$Note"
def TX2 : u_T := fun k => match k with
  | 0 => ("Detentionbureau$Note", "what", "I", true)
  | 1 => ("Detentionbureau$Note", "visit", "I", true)
  | 2 => ("Detentionbureau$Note", "first", "I", true)
  | _ => ("Detentionbureau$Note", "second", "I", true)
def tyX2 : Nat → FieldType := fun k => match k with
  | 0 => .int
  | 1 => .int
  | 2 => .int
  | _ => .int
abbrev wsX20 : List Cond := u_ws RX2 TX2 4
theorem nmX2 : ∀ a, a < 4 → ∀ b, b < 4 → a ≠ b → (TX2 a).2.1 ≠ (TX2 b).2.1 := by decide +kernel
theorem tyX2_ok : ∀ k, k < 4 → parseFieldDescriptor (TX2 k).2.2.1 = some (tyX2 k) := by decide +kernel
abbrev cX2_init : ByteArray := prog_4_method_1_code
def yX2_init : MethodName := ⟨RX2, "<init>", "(IIII)V"⟩
def RX3 : String := "Detentionbureau$Rule"
def TX3 : u_T := fun k => match k with
  | 0 => ("Detentionbureau$Rule", "code", "I", true)
  | 1 => ("Detentionbureau$Rule", "size", "I", true)
  | 2 => ("Detentionbureau$Rule", "kinds", "I", true)
  | 3 => ("Detentionbureau$Rule", "from", "I", true)
  | _ => ("Detentionbureau$Rule", "delay", "I", true)
def tyX3 : Nat → FieldType := fun k => match k with
  | 0 => .int
  | 1 => .int
  | 2 => .int
  | 3 => .int
  | _ => .int
abbrev wsX30 : List Cond := u_ws RX3 TX3 5
theorem nmX3 : ∀ a, a < 5 → ∀ b, b < 5 → a ≠ b → (TX3 a).2.1 ≠ (TX3 b).2.1 := by decide +kernel
theorem tyX3_ok : ∀ k, k < 5 → parseFieldDescriptor (TX3 k).2.2.1 = some (tyX3 k) := by decide +kernel
abbrev cX3_init : ByteArray := prog_5_method_1_code
def yX3_init : MethodName := ⟨RX3, "<init>", "(IIIII)V"⟩
abbrev cX3_isInForce : ByteArray := prog_5_method_2_code
def yX3_isInForce : MethodName := ⟨RX3, "isInForce", "(LDetentionbureau$Ship;I)Z"⟩
def RX4 : String := "Detentionbureau$Ship"
def TX4 : u_T := fun k => match k with
  | 0 => ("Detentionbureau$Ship", "number", "I", true)
  | 1 => ("Detentionbureau$Ship", "built", "I", true)
  | 2 => ("Detentionbureau$Ship", "size", "I", true)
  | 3 => ("Detentionbureau$Ship", "kind", "I", true)
  | 4 => ("Detentionbureau$Ship", "certificates", "[LDetentionbureau$Certificate;", true)
  | 5 => ("Detentionbureau$Ship", "file", "Ljava/util/ArrayList;", true)
  | 6 => ("Detentionbureau$Ship", "flag", "I", false)
  | 7 => ("Detentionbureau$Ship", "body", "I", false)
  | 8 => ("Detentionbureau$Ship", "changed", "I", false)
  | 9 => ("Detentionbureau$Ship", "port", "I", false)
  | 10 => ("Detentionbureau$Ship", "visitHere", "LDetentionbureau$Visit;", false)
  | 11 => ("Detentionbureau$Ship", "latestVisit", "LDetentionbureau$Visit;", false)
  | 12 => ("Detentionbureau$Ship", "detainedBy", "LDetentionbureau$Visit;", false)
  | 13 => ("Detentionbureau$Ship", "isBanDue", "Z", false)
  | 14 => ("Detentionbureau$Ship", "bans", "I", false)
  | 15 => ("Detentionbureau$Ship", "bannedTo", "I", false)
  | _ => ("Detentionbureau$Ship", "fees", "I", false)
def tyX4 : Nat → FieldType := fun k => match k with
  | 0 => .int
  | 1 => .int
  | 2 => .int
  | 3 => .int
  | 4 => .array (.object "Detentionbureau$Certificate")
  | 5 => .object "java/util/ArrayList"
  | 6 => .int
  | 7 => .int
  | 8 => .int
  | 9 => .int
  | 10 => .object "Detentionbureau$Visit"
  | 11 => .object "Detentionbureau$Visit"
  | 12 => .object "Detentionbureau$Visit"
  | 13 => .boolean
  | 14 => .int
  | 15 => .int
  | _ => .int
abbrev wsX40 : List Cond := u_ws RX4 TX4 17
theorem nmX4 : ∀ a, a < 17 → ∀ b, b < 17 → a ≠ b → (TX4 a).2.1 ≠ (TX4 b).2.1 := by decide +kernel
theorem tyX4_ok : ∀ k, k < 17 → parseFieldDescriptor (TX4 k).2.2.1 = some (tyX4 k) := by decide +kernel
abbrev cX4_init : ByteArray := prog_6_method_1_code
def yX4_init : MethodName := ⟨RX4, "<init>", "(IIIIII)V"⟩
abbrev cX4_note : ByteArray := prog_6_method_2_code
def yX4_note : MethodName := ⟨RX4, "note", "(IIII)V"⟩
def RX5 : String := "Detentionbureau$Visit"
def TX5 : u_T := fun k => match k with
  | 0 => ("Detentionbureau$Visit", "ship", "LDetentionbureau$Ship;", true)
  | 1 => ("Detentionbureau$Visit", "number", "I", true)
  | 2 => ("Detentionbureau$Visit", "port", "I", true)
  | 3 => ("Detentionbureau$Visit", "day", "I", true)
  | 4 => ("Detentionbureau$Visit", "flag", "I", true)
  | 5 => ("Detentionbureau$Visit", "findings", "Ljava/util/ArrayList;", true)
  | 6 => ("Detentionbureau$Visit", "depth", "I", false)
  | 7 => ("Detentionbureau$Visit", "detainedOn", "I", false)
  | 8 => ("Detentionbureau$Visit", "ledToBan", "Z", false)
  | 9 => ("Detentionbureau$Visit", "appealed", "Z", false)
  | 10 => ("Detentionbureau$Visit", "votesFor", "I", false)
  | _ => ("Detentionbureau$Visit", "votesAgainst", "I", false)
def tyX5 : Nat → FieldType := fun k => match k with
  | 0 => .object "Detentionbureau$Ship"
  | 1 => .int
  | 2 => .int
  | 3 => .int
  | 4 => .int
  | 5 => .object "java/util/ArrayList"
  | 6 => .int
  | 7 => .int
  | 8 => .boolean
  | 9 => .boolean
  | 10 => .int
  | _ => .int
abbrev wsX50 : List Cond := u_ws RX5 TX5 12
theorem nmX5 : ∀ a, a < 12 → ∀ b, b < 12 → a ≠ b → (TX5 a).2.1 ≠ (TX5 b).2.1 := by decide +kernel
theorem tyX5_ok : ∀ k, k < 12 → parseFieldDescriptor (TX5 k).2.2.1 = some (tyX5 k) := by decide +kernel
abbrev cX5_init : ByteArray := prog_7_method_1_code
def yX5_init : MethodName := ⟨RX5, "<init>", "(LDetentionbureau$Ship;III)V"⟩
abbrev cX5_openFindings : ByteArray := prog_7_method_2_code
def yX5_openFindings : MethodName := ⟨RX5, "openFindings", "()I"⟩
abbrev cX5_openWeight : ByteArray := prog_7_method_3_code
def yX5_openWeight : MethodName := ⟨RX5, "openWeight", "()I"⟩
abbrev cX5_hasPutOffUnmended : ByteArray := prog_7_method_4_code
def yX5_hasPutOffUnmended : MethodName := ⟨RX5, "hasPutOffUnmended", "()Z"⟩
abbrev cX5_wasDetention : ByteArray := prog_7_method_5_code
def yX5_wasDetention : MethodName := ⟨RX5, "wasDetention", "()Z"⟩
abbrev cX5_decision : ByteArray := prog_7_method_6_code
def yX5_decision : MethodName := ⟨RX5, "decision", "()I"⟩
abbrev cX5_counts : ByteArray := prog_7_method_7_code
def yX5_counts : MethodName := ⟨RX5, "counts", "()Z"⟩
abbrev cX5_isKnownAt : ByteArray := prog_7_method_8_code
def yX5_isKnownAt : MethodName := ⟨RX5, "isKnownAt", "(II)Z"⟩
def RX6 : String := "Detentionbureau"
def TX6 : u_T := fun k => match k with
  | 0 => ("Detentionbureau", "ships", "Ljava/util/ArrayList;", true)
  | 1 => ("Detentionbureau", "rules", "Ljava/util/ArrayList;", true)
  | 2 => ("Detentionbureau", "visits", "Ljava/util/ArrayList;", true)
  | 3 => ("Detentionbureau", "suspendedBodies", "[Z", true)
  | 4 => ("Detentionbureau", "missedAtPorts", "[I", true)
  | _ => ("Detentionbureau", "today", "I", false)
def tyX6 : Nat → FieldType := fun k => match k with
  | 0 => .object "java/util/ArrayList"
  | 1 => .object "java/util/ArrayList"
  | 2 => .object "java/util/ArrayList"
  | 3 => .array .boolean
  | 4 => .array .int
  | _ => .int
abbrev wsX60 : List Cond := u_ws RX6 TX6 6
theorem nmX6 : ∀ a, a < 6 → ∀ b, b < 6 → a ≠ b → (TX6 a).2.1 ≠ (TX6 b).2.1 := by decide +kernel
theorem tyX6_ok : ∀ k, k < 6 → parseFieldDescriptor (TX6 k).2.2.1 = some (tyX6 k) := by decide +kernel
abbrev cX6_init : ByteArray := prog_1_method_1_code
def yX6_init : MethodName := ⟨RX6, "<init>", "()V"⟩
abbrev cX6_pass : ByteArray := prog_1_method_2_code
def yX6_pass : MethodName := ⟨RX6, "pass", "(I)I"⟩
abbrev cX6_ship : ByteArray := prog_1_method_3_code
def yX6_ship : MethodName := ⟨RX6, "ship", "(IIIII)I"⟩
abbrev cX6_changes : ByteArray := prog_1_method_4_code
def yX6_changes : MethodName := ⟨RX6, "changes", "(III)I"⟩
abbrev cX6_suspend : ByteArray := prog_1_method_5_code
def yX6_suspend : MethodName := ⟨RX6, "suspend", "(IZ)Z"⟩
abbrev cX6_rule : ByteArray := prog_1_method_6_code
def yX6_rule : MethodName := ⟨RX6, "rule", "(IIIII)I"⟩
abbrev cX6_issue : ByteArray := prog_1_method_7_code
def yX6_issue : MethodName := ⟨RX6, "issue", "(III)I"⟩
abbrev cX6_endorse : ByteArray := prog_1_method_8_code
def yX6_endorse : MethodName := ⟨RX6, "endorse", "(II)I"⟩
abbrev cX6_calls : ByteArray := prog_1_method_9_code
def yX6_calls : MethodName := ⟨RX6, "calls", "(II)I"⟩
abbrev cX6_leaves : ByteArray := prog_1_method_10_code
def yX6_leaves : MethodName := ⟨RX6, "leaves", "(I)Z"⟩
abbrev cX6_visit : ByteArray := prog_1_method_11_code
def yX6_visit : MethodName := ⟨RX6, "visit", "(I)I"⟩
abbrev cX6_finds : ByteArray := prog_1_method_12_code
def yX6_finds : MethodName := ⟨RX6, "finds", "(III)I"⟩
abbrev cX6_mends : ByteArray := prog_1_method_13_code
def yX6_mends : MethodName := ⟨RX6, "mends", "(IIZ)I"⟩
abbrev cX6_detain : ByteArray := prog_1_method_14_code
def yX6_detain : MethodName := ⟨RX6, "detain", "(I)I"⟩
abbrev cX6_release : ByteArray := prog_1_method_15_code
def yX6_release : MethodName := ⟨RX6, "release", "(I)I"⟩
abbrev cX6_appeal : ByteArray := prog_1_method_16_code
def yX6_appeal : MethodName := ⟨RX6, "appeal", "(I)V"⟩
abbrev cX6_vote : ByteArray := prog_1_method_17_code
def yX6_vote : MethodName := ⟨RX6, "vote", "(IZ)I"⟩
abbrev cX6_ofShip : ByteArray := prog_1_method_18_code
def yX6_ofShip : MethodName := ⟨RX6, "ofShip", "(II)I"⟩
abbrev cX6_pointsAnew : ByteArray := prog_1_method_19_code
def yX6_pointsAnew : MethodName := ⟨RX6, "pointsAnew", "(I)I"⟩
abbrev cX6_isGround : ByteArray := prog_1_method_20_code
def yX6_isGround : MethodName := ⟨RX6, "isGround", "(II)Z"⟩
abbrev cX6_ofVisit : ByteArray := prog_1_method_21_code
def yX6_ofVisit : MethodName := ⟨RX6, "ofVisit", "(II)I"⟩
abbrev cX6_list : ByteArray := prog_1_method_22_code
def yX6_list : MethodName := ⟨RX6, "list", "(I)I"⟩
abbrev cX6_missed : ByteArray := prog_1_method_23_code
def yX6_missed : MethodName := ⟨RX6, "missed", "(I)I"⟩
abbrev cX6_knew : ByteArray := prog_1_method_24_code
def yX6_knew : MethodName := ⟨RX6, "knew", "(III)I"⟩
abbrev cX6_isIndex : ByteArray := prog_1_method_25_code
def yX6_isIndex : MethodName := ⟨RX6, "isIndex", "(II)Z"⟩
abbrev cX6_isIn : ByteArray := prog_1_method_26_code
def yX6_isIn : MethodName := ⟨RX6, "isIn", "(II)Z"⟩
abbrev cX6_shipNumbered : ByteArray := prog_1_method_27_code
def yX6_shipNumbered : MethodName := ⟨RX6, "shipNumbered", "(I)LDetentionbureau$Ship;"⟩
abbrev cX6_visitNumbered : ByteArray := prog_1_method_28_code
def yX6_visitNumbered : MethodName := ⟨RX6, "visitNumbered", "(I)LDetentionbureau$Visit;"⟩
abbrev cX6_isOfLatest : ByteArray := prog_1_method_29_code
def yX6_isOfLatest : MethodName := ⟨RX6, "isOfLatest", "(I)Z"⟩
abbrev cX6_isSuspended : ByteArray := prog_1_method_30_code
def yX6_isSuspended : MethodName := ⟨RX6, "isSuspended", "(I)Z"⟩
abbrev cX6_isGroundToday : ByteArray := prog_1_method_31_code
def yX6_isGroundToday : MethodName := ⟨RX6, "isGroundToday", "(LDetentionbureau$Ship;I)Z"⟩
abbrev cX6_hangsOn : ByteArray := prog_1_method_32_code
def yX6_hangsOn : MethodName := ⟨RX6, "hangsOn", "(I)I"⟩
abbrev cX6_familiesNotGood : ByteArray := prog_1_method_33_code
def yX6_familiesNotGood : MethodName := ⟨RX6, "familiesNotGood", "(LDetentionbureau$Ship;)I"⟩
abbrev cX6_pointsOf : ByteArray := prog_1_method_34_code
def yX6_pointsOf : MethodName := ⟨RX6, "pointsOf", "(LDetentionbureau$Ship;)I"⟩
abbrev cX6_pointsByFile : ByteArray := prog_1_method_35_code
def yX6_pointsByFile : MethodName := ⟨RX6, "pointsByFile", "(Ljava/util/ArrayList;)I"⟩
abbrev cX6_countsByFile : ByteArray := prog_1_method_36_code
def yX6_countsByFile : MethodName := ⟨RX6, "countsByFile", "(Ljava/util/ArrayList;I)Z"⟩
abbrev cX6_notesOf : ByteArray := prog_1_method_37_code
def yX6_notesOf : MethodName := ⟨RX6, "notesOf", "(Ljava/util/ArrayList;II)I"⟩
abbrev cX6_pointsOfMake : ByteArray := prog_1_method_38_code
def yX6_pointsOfMake : MethodName := ⟨RX6, "pointsOfMake", "(II)I"⟩
abbrev cX6_pointsOfBelonging : ByteArray := prog_1_method_39_code
def yX6_pointsOfBelonging : MethodName := ⟨RX6, "pointsOfBelonging", "(II)I"⟩
abbrev cX6_pointsOfVisits : ByteArray := prog_1_method_40_code
def yX6_pointsOfVisits : MethodName := ⟨RX6, "pointsOfVisits", "(ZI)I"⟩
abbrev cX6_isOld : ByteArray := prog_1_method_41_code
def yX6_isOld : MethodName := ⟨RX6, "isOld", "(I)Z"⟩
abbrev cX6_riskOf : ByteArray := prog_1_method_42_code
def yX6_riskOf : MethodName := ⟨RX6, "riskOf", "(LDetentionbureau$Ship;)I"⟩
abbrev cX6_priorityOf : ByteArray := prog_1_method_43_code
def yX6_priorityOf : MethodName := ⟨RX6, "priorityOf", "(LDetentionbureau$Ship;)I"⟩
abbrev cX6_windowBegin : ByteArray := prog_1_method_44_code
def yX6_windowBegin : MethodName := ⟨RX6, "windowBegin", "(I)I"⟩
abbrev cX6_windowEnd : ByteArray := prog_1_method_45_code
def yX6_windowEnd : MethodName := ⟨RX6, "windowEnd", "(I)I"⟩
abbrev cX6_depthOfNext : ByteArray := prog_1_method_46_code
def yX6_depthOfNext : MethodName := ⟨RX6, "depthOfNext", "(LDetentionbureau$Ship;)I"⟩
abbrev cX6_hasPutOffUnmended : ByteArray := prog_1_method_47_code
def yX6_hasPutOffUnmended : MethodName := ⟨RX6, "hasPutOffUnmended", "(LDetentionbureau$Ship;)Z"⟩
abbrev cX6_hasLeftSince : ByteArray := prog_1_method_48_code
def yX6_hasLeftSince : MethodName := ⟨RX6, "hasLeftSince", "(LDetentionbureau$Visit;)Z"⟩
abbrev cX6_isDetainable : ByteArray := prog_1_method_49_code
def yX6_isDetainable : MethodName := ⟨RX6, "isDetainable", "(LDetentionbureau$Visit;)Z"⟩
abbrev cX6_detentionsThatCount : ByteArray := prog_1_method_50_code
def yX6_detentionsThatCount : MethodName := ⟨RX6, "detentionsThatCount", "(LDetentionbureau$Ship;)I"⟩
abbrev cX6_isCounted : ByteArray := prog_1_method_51_code
def yX6_isCounted : MethodName := ⟨RX6, "isCounted", "(LDetentionbureau$Visit;LDetentionbureau$Ship;)Z"⟩
abbrev cX6_lookForBan : ByteArray := prog_1_method_52_code
def yX6_lookForBan : MethodName := ⟨RX6, "lookForBan", "(LDetentionbureau$Ship;)V"⟩
abbrev cX6_ban : ByteArray := prog_1_method_53_code
def yX6_ban : MethodName := ⟨RX6, "ban", "(LDetentionbureau$Ship;)V"⟩
abbrev cX6_isBanned : ByteArray := prog_1_method_54_code
def yX6_isBanned : MethodName := ⟨RX6, "isBanned", "(LDetentionbureau$Ship;)Z"⟩
abbrev cX6_listOf : ByteArray := prog_1_method_55_code
def yX6_listOf : MethodName := ⟨RX6, "listOf", "(I)I"⟩
abbrev cX6_listBy : ByteArray := prog_1_method_56_code
def yX6_listBy : MethodName := ⟨RX6, "listBy", "(II)I"⟩
def RX7 : String := "DetentionbureauModel"
def TX7 : u_T := fun k => match k with
  | _ => ("", "", "", false)
def tyX7 : Nat → FieldType := fun k => match k with
  | _ => .int
abbrev wsX70 : List Cond := u_ws RX7 TX7 0
theorem nmX7 : ∀ a, a < 0 → ∀ b, b < 0 → a ≠ b → (TX7 a).2.1 ≠ (TX7 b).2.1 := by decide +kernel
theorem tyX7_ok : ∀ k, k < 0 → parseFieldDescriptor (TX7 k).2.2.1 = some (tyX7 k) := by decide +kernel
def RJx145de : String := "java/io/Serializable"
def TJx145de : u_T := fun k => match k with
  | _ => ("", "", "", false)
def tyJx145de : Nat → FieldType := fun k => match k with
  | _ => .int
abbrev wsJx145de0 : List Cond := u_ws RJx145de TJx145de 0
theorem nmJx145de : ∀ a, a < 0 → ∀ b, b < 0 → a ≠ b → (TJx145de a).2.1 ≠ (TJx145de b).2.1 := by decide +kernel
theorem tyJx145de_ok : ∀ k, k < 0 → parseFieldDescriptor (TJx145de k).2.2.1 = some (tyJx145de k) := by decide +kernel
def RJx8e188 : String := "java/lang/Cloneable"
def TJx8e188 : u_T := fun k => match k with
  | _ => ("", "", "", false)
def tyJx8e188 : Nat → FieldType := fun k => match k with
  | _ => .int
abbrev wsJx8e1880 : List Cond := u_ws RJx8e188 TJx8e188 0
theorem nmJx8e188 : ∀ a, a < 0 → ∀ b, b < 0 → a ≠ b → (TJx8e188 a).2.1 ≠ (TJx8e188 b).2.1 := by decide +kernel
theorem tyJx8e188_ok : ∀ k, k < 0 → parseFieldDescriptor (TJx8e188 k).2.2.1 = some (tyJx8e188 k) := by decide +kernel
def RJ6 : String := "java/lang/Integer"
def TJ6 : u_T := fun k => match k with
  | _ => ("", "", "", false)
def tyJ6 : Nat → FieldType := fun k => match k with
  | _ => .int
abbrev wsJ60 : List Cond := u_ws RJ6 TJ6 0
theorem nmJ6 : ∀ a, a < 0 → ∀ b, b < 0 → a ≠ b → (TJ6 a).2.1 ≠ (TJ6 b).2.1 := by decide +kernel
theorem tyJ6_ok : ∀ k, k < 0 → parseFieldDescriptor (TJ6 k).2.2.1 = some (tyJ6 k) := by decide +kernel
abbrev cJ6_bitCount_0f7a4 : ByteArray := prog_16_method_49_code
def yJ6_bitCount_0f7a4 : MethodName := ⟨RJ6, "bitCount", "(I)I"⟩
def RJxab1ab : String := "java/lang/Iterable"
def TJxab1ab : u_T := fun k => match k with
  | _ => ("", "", "", false)
def tyJxab1ab : Nat → FieldType := fun k => match k with
  | _ => .int
abbrev wsJxab1ab0 : List Cond := u_ws RJxab1ab TJxab1ab 0
theorem nmJxab1ab : ∀ a, a < 0 → ∀ b, b < 0 → a ≠ b → (TJxab1ab a).2.1 ≠ (TJxab1ab b).2.1 := by decide +kernel
theorem tyJxab1ab_ok : ∀ k, k < 0 → parseFieldDescriptor (TJxab1ab k).2.2.1 = some (tyJxab1ab k) := by decide +kernel
def RJ9 : String := "java/lang/Math"
def TJ9 : u_T := fun k => match k with
  | _ => ("", "", "", false)
def tyJ9 : Nat → FieldType := fun k => match k with
  | _ => .int
abbrev wsJ90 : List Cond := u_ws RJ9 TJ9 0
theorem nmJ9 : ∀ a, a < 0 → ∀ b, b < 0 → a ≠ b → (TJ9 a).2.1 ≠ (TJ9 b).2.1 := by decide +kernel
theorem tyJ9_ok : ∀ k, k < 0 → parseFieldDescriptor (TJ9 k).2.2.1 = some (tyJ9 k) := by decide +kernel
abbrev cJ9_abs_0f7a4 : ByteArray := prog_18_method_59_code
def yJ9_abs_0f7a4 : MethodName := ⟨RJ9, "abs", "(I)I"⟩
abbrev cJ9_max_7cf53 : ByteArray := prog_18_method_65_code
def yJ9_max_7cf53 : MethodName := ⟨RJ9, "max", "(II)I"⟩
abbrev cJ9_min_7cf53 : ByteArray := prog_18_method_69_code
def yJ9_min_7cf53 : MethodName := ⟨RJ9, "min", "(II)I"⟩
def RJ0 : String := "java/lang/String"
def TJ0 : u_T := fun k => match k with
  | _ => ("", "", "", false)
def tyJ0 : Nat → FieldType := fun k => match k with
  | _ => .int
abbrev wsJ00 : List Cond := u_ws RJ0 TJ0 0
theorem nmJ0 : ∀ a, a < 0 → ∀ b, b < 0 → a ≠ b → (TJ0 a).2.1 ≠ (TJ0 b).2.1 := by decide +kernel
theorem tyJ0_ok : ∀ k, k < 0 → parseFieldDescriptor (TJ0 k).2.2.1 = some (tyJ0 k) := by decide +kernel
def RJ10 : String := "java/lang/System"
def TJ10 : u_T := fun k => match k with
  | _ => ("", "", "", false)
def tyJ10 : Nat → FieldType := fun k => match k with
  | _ => .int
abbrev wsJ100 : List Cond := u_ws RJ10 TJ10 0
theorem nmJ10 : ∀ a, a < 0 → ∀ b, b < 0 → a ≠ b → (TJ10 a).2.1 ≠ (TJ10 b).2.1 := by decide +kernel
theorem tyJ10_ok : ∀ k, k < 0 → parseFieldDescriptor (TJ10 k).2.2.1 = some (tyJ10 k) := by decide +kernel
def RJxa1e45 : String := "java/util/AbstractCollection"
def TJxa1e45 : u_T := fun k => match k with
  | _ => ("", "", "", false)
def tyJxa1e45 : Nat → FieldType := fun k => match k with
  | _ => .int
abbrev wsJxa1e450 : List Cond := u_ws RJxa1e45 TJxa1e45 0
theorem nmJxa1e45 : ∀ a, a < 0 → ∀ b, b < 0 → a ≠ b → (TJxa1e45 a).2.1 ≠ (TJxa1e45 b).2.1 := by decide +kernel
theorem tyJxa1e45_ok : ∀ k, k < 0 → parseFieldDescriptor (TJxa1e45 k).2.2.1 = some (tyJxa1e45 k) := by decide +kernel
abbrev cJxa1e45_init_da8c8 : ByteArray := prog_23_method_1_code
def yJxa1e45_init_da8c8 : MethodName := ⟨RJxa1e45, "<init>", "()V"⟩
def RJxc12de : String := "java/util/AbstractList"
def TJxc12de : u_T := fun k => match k with
  | _ => ("", "", "", false)
def tyJxc12de : Nat → FieldType := fun k => match k with
  | _ => .int
abbrev wsJxc12de0 : List Cond := u_ws RJxc12de TJxc12de 0
theorem nmJxc12de : ∀ a, a < 0 → ∀ b, b < 0 → a ≠ b → (TJxc12de a).2.1 ≠ (TJxc12de b).2.1 := by decide +kernel
theorem tyJxc12de_ok : ∀ k, k < 0 → parseFieldDescriptor (TJxc12de k).2.2.1 = some (tyJxc12de k) := by decide +kernel
abbrev cJxc12de_init_da8c8 : ByteArray := prog_24_method_1_code
def yJxc12de_init_da8c8 : MethodName := ⟨RJxc12de, "<init>", "()V"⟩
def RJx4a65c : String := "java/util/ArrayList"
def TJx4a65c : u_T := fun k => match k with
  | 0 => ("java/util/AbstractList", "modCount", "I", false)
  | 1 => ("java/util/ArrayList", "elementData", "[Ljava/lang/Object;", false)
  | _ => ("java/util/ArrayList", "size", "I", false)
def tyJx4a65c : Nat → FieldType := fun k => match k with
  | 0 => .int
  | 1 => .array (.object "java/lang/Object")
  | _ => .int
abbrev wsJx4a65c0 : List Cond := u_ws RJx4a65c TJx4a65c 3
theorem nmJx4a65c : ∀ a, a < 3 → ∀ b, b < 3 → a ≠ b → (TJx4a65c a).2.1 ≠ (TJx4a65c b).2.1 := by decide +kernel
theorem tyJx4a65c_ok : ∀ k, k < 3 → parseFieldDescriptor (TJx4a65c k).2.2.1 = some (tyJx4a65c k) := by decide +kernel
abbrev cJx4a65c_init_da8c8 : ByteArray := prog_25_method_2_code
def yJx4a65c_init_da8c8 : MethodName := ⟨RJx4a65c, "<init>", "()V"⟩
abbrev cJx4a65c_grow_92f84 : ByteArray := prog_25_method_6_code
def yJx4a65c_grow_92f84 : MethodName := ⟨RJx4a65c, "grow", "(I)[Ljava/lang/Object;"⟩
abbrev cJx4a65c_grow_d5877 : ByteArray := prog_25_method_7_code
def yJx4a65c_grow_d5877 : MethodName := ⟨RJx4a65c, "grow", "()[Ljava/lang/Object;"⟩
abbrev cJx4a65c_size_8abf5 : ByteArray := prog_25_method_8_code
def yJx4a65c_size_8abf5 : MethodName := ⟨RJx4a65c, "size", "()I"⟩
abbrev cJx4a65c_elementData_915e3 : ByteArray := prog_25_method_18_code
def yJx4a65c_elementData_915e3 : MethodName := ⟨RJx4a65c, "elementData", "(I)Ljava/lang/Object;"⟩
abbrev cJx4a65c_get_915e3 : ByteArray := prog_25_method_20_code
def yJx4a65c_get_915e3 : MethodName := ⟨RJx4a65c, "get", "(I)Ljava/lang/Object;"⟩
abbrev cJx4a65c_add_72be8 : ByteArray := prog_25_method_24_code
def yJx4a65c_add_72be8 : MethodName := ⟨RJx4a65c, "add", "(Ljava/lang/Object;[Ljava/lang/Object;I)V"⟩
abbrev cJx4a65c_add_9ea2d : ByteArray := prog_25_method_25_code
def yJx4a65c_add_9ea2d : MethodName := ⟨RJx4a65c, "add", "(Ljava/lang/Object;)Z"⟩
def RJ7 : String := "java/util/Arrays"
def TJ7 : u_T := fun k => match k with
  | _ => ("", "", "", false)
def tyJ7 : Nat → FieldType := fun k => match k with
  | _ => .int
abbrev wsJ70 : List Cond := u_ws RJ7 TJ7 0
theorem nmJ7 : ∀ a, a < 0 → ∀ b, b < 0 → a ≠ b → (TJ7 a).2.1 ≠ (TJ7 b).2.1 := by decide +kernel
theorem tyJ7_ok : ∀ k, k < 0 → parseFieldDescriptor (TJ7 k).2.2.1 = some (tyJ7 k) := by decide +kernel
abbrev cJ7_copyOf_1904c : ByteArray := prog_26_method_119_code
def yJ7_copyOf_1904c : MethodName := ⟨RJ7, "copyOf", "([Ljava/lang/Object;I)[Ljava/lang/Object;"⟩
abbrev cJ7_copyOf_6403c : ByteArray := prog_26_method_120_code
def yJ7_copyOf_6403c : MethodName := ⟨RJ7, "copyOf", "([Ljava/lang/Object;ILjava/lang/Class;)[Ljava/lang/Object;"⟩
def RJx5ef63 : String := "java/util/Collection"
def TJx5ef63 : u_T := fun k => match k with
  | _ => ("", "", "", false)
def tyJx5ef63 : Nat → FieldType := fun k => match k with
  | _ => .int
abbrev wsJx5ef630 : List Cond := u_ws RJx5ef63 TJx5ef63 0
theorem nmJx5ef63 : ∀ a, a < 0 → ∀ b, b < 0 → a ≠ b → (TJx5ef63 a).2.1 ≠ (TJx5ef63 b).2.1 := by decide +kernel
theorem tyJx5ef63_ok : ∀ k, k < 0 → parseFieldDescriptor (TJx5ef63 k).2.2.1 = some (tyJx5ef63 k) := by decide +kernel
def RJxbd725 : String := "java/util/List"
def TJxbd725 : u_T := fun k => match k with
  | _ => ("", "", "", false)
def tyJxbd725 : Nat → FieldType := fun k => match k with
  | _ => .int
abbrev wsJxbd7250 : List Cond := u_ws RJxbd725 TJxbd725 0
theorem nmJxbd725 : ∀ a, a < 0 → ∀ b, b < 0 → a ≠ b → (TJxbd725 a).2.1 ≠ (TJxbd725 b).2.1 := by decide +kernel
theorem tyJxbd725_ok : ∀ k, k < 0 → parseFieldDescriptor (TJxbd725 k).2.2.1 = some (tyJxbd725 k) := by decide +kernel
def RJ15 : String := "java/util/Objects"
def TJ15 : u_T := fun k => match k with
  | _ => ("", "", "", false)
def tyJ15 : Nat → FieldType := fun k => match k with
  | _ => .int
abbrev wsJ150 : List Cond := u_ws RJ15 TJ15 0
theorem nmJ15 : ∀ a, a < 0 → ∀ b, b < 0 → a ≠ b → (TJ15 a).2.1 ≠ (TJ15 b).2.1 := by decide +kernel
theorem tyJ15_ok : ∀ k, k < 0 → parseFieldDescriptor (TJ15 k).2.2.1 = some (tyJ15 k) := by decide +kernel
abbrev cJ15_checkIndex_7cf53 : ByteArray := prog_29_method_17_code
def yJ15_checkIndex_7cf53 : MethodName := ⟨RJ15, "checkIndex", "(II)I"⟩
def RJxf0a74 : String := "java/util/RandomAccess"
def TJxf0a74 : u_T := fun k => match k with
  | _ => ("", "", "", false)
def tyJxf0a74 : Nat → FieldType := fun k => match k with
  | _ => .int
abbrev wsJxf0a740 : List Cond := u_ws RJxf0a74 TJxf0a74 0
theorem nmJxf0a74 : ∀ a, a < 0 → ∀ b, b < 0 → a ≠ b → (TJxf0a74 a).2.1 ≠ (TJxf0a74 b).2.1 := by decide +kernel
theorem tyJxf0a74_ok : ∀ k, k < 0 → parseFieldDescriptor (TJxf0a74 k).2.2.1 = some (tyJxf0a74 k) := by decide +kernel
def RJxa66e6 : String := "java/util/SequencedCollection"
def TJxa66e6 : u_T := fun k => match k with
  | _ => ("", "", "", false)
def tyJxa66e6 : Nat → FieldType := fun k => match k with
  | _ => .int
abbrev wsJxa66e60 : List Cond := u_ws RJxa66e6 TJxa66e6 0
theorem nmJxa66e6 : ∀ a, a < 0 → ∀ b, b < 0 → a ≠ b → (TJxa66e6 a).2.1 ≠ (TJxa66e6 b).2.1 := by decide +kernel
theorem tyJxa66e6_ok : ∀ k, k < 0 → parseFieldDescriptor (TJxa66e6 k).2.2.1 = some (tyJxa66e6 k) := by decide +kernel
def RJ8 : String := "jdk/internal/util/ArraysSupport"
def TJ8 : u_T := fun k => match k with
  | _ => ("", "", "", false)
def tyJ8 : Nat → FieldType := fun k => match k with
  | _ => .int
abbrev wsJ80 : List Cond := u_ws RJ8 TJ8 0
theorem nmJ8 : ∀ a, a < 0 → ∀ b, b < 0 → a ≠ b → (TJ8 a).2.1 ≠ (TJ8 b).2.1 := by decide +kernel
theorem tyJ8_ok : ∀ k, k < 0 → parseFieldDescriptor (TJ8 k).2.2.1 = some (tyJ8 k) := by decide +kernel
abbrev cJ8_newLength_cabcc : ByteArray := prog_32_method_27_code
def yJ8_newLength_cabcc : MethodName := ⟨RJ8, "newLength", "(III)I"⟩
abbrev cJ8_hugeLength_7cf53 : ByteArray := prog_32_method_28_code
def yJ8_hugeLength_7cf53 : MethodName := ⟨RJ8, "hugeLength", "(II)I"⟩
def RJ3 : String := "jdk/internal/util/Preconditions"
def TJ3 : u_T := fun k => match k with
  | _ => ("", "", "", false)
def tyJ3 : Nat → FieldType := fun k => match k with
  | _ => .int
abbrev wsJ30 : List Cond := u_ws RJ3 TJ3 0
theorem nmJ3 : ∀ a, a < 0 → ∀ b, b < 0 → a ≠ b → (TJ3 a).2.1 ≠ (TJ3 b).2.1 := by decide +kernel
theorem tyJ3_ok : ∀ k, k < 0 → parseFieldDescriptor (TJ3 k).2.2.1 = some (tyJ3 k) := by decide +kernel
abbrev cJ3_checkIndex_8e157 : ByteArray := prog_33_method_11_code
def yJ3_checkIndex_8e157 : MethodName := ⟨RJ3, "checkIndex", "(IILjava/util/function/BiFunction;)I"⟩
def RL : String := "DetentionbureauLaw"
abbrev cL_cell : ByteArray := method_2_code
def yL_cell : MethodName := ⟨RL, "cell", "([II)I"⟩
abbrev cL_low : ByteArray := method_3_code
def yL_low : MethodName := ⟨RL, "low", "(II)I"⟩
abbrev cL_pass : ByteArray := method_4_code
def yL_pass : MethodName := ⟨RL, "pass", "(LDetentionbureau;I)I"⟩
abbrev cL_ship : ByteArray := method_5_code
def yL_ship : MethodName := ⟨RL, "ship", "(LDetentionbureau;IIIII)I"⟩
abbrev cL_changes : ByteArray := method_6_code
def yL_changes : MethodName := ⟨RL, "changes", "(LDetentionbureau;III)I"⟩
abbrev cL_suspend : ByteArray := method_7_code
def yL_suspend : MethodName := ⟨RL, "suspend", "(LDetentionbureau;IZ)I"⟩
abbrev cL_rule : ByteArray := method_8_code
def yL_rule : MethodName := ⟨RL, "rule", "(LDetentionbureau;IIIII)I"⟩
abbrev cL_issue : ByteArray := method_9_code
def yL_issue : MethodName := ⟨RL, "issue", "(LDetentionbureau;III)I"⟩
abbrev cL_endorse : ByteArray := method_10_code
def yL_endorse : MethodName := ⟨RL, "endorse", "(LDetentionbureau;II)I"⟩
abbrev cL_calls : ByteArray := method_11_code
def yL_calls : MethodName := ⟨RL, "calls", "(LDetentionbureau;II)I"⟩
abbrev cL_leaves : ByteArray := method_12_code
def yL_leaves : MethodName := ⟨RL, "leaves", "(LDetentionbureau;I)I"⟩
abbrev cL_visit : ByteArray := method_13_code
def yL_visit : MethodName := ⟨RL, "visit", "(LDetentionbureau;I)I"⟩
abbrev cL_finds : ByteArray := method_14_code
def yL_finds : MethodName := ⟨RL, "finds", "(LDetentionbureau;III)I"⟩
abbrev cL_mends : ByteArray := method_15_code
def yL_mends : MethodName := ⟨RL, "mends", "(LDetentionbureau;IIZ)I"⟩
abbrev cL_detain : ByteArray := method_16_code
def yL_detain : MethodName := ⟨RL, "detain", "(LDetentionbureau;I)I"⟩
abbrev cL_release : ByteArray := method_17_code
def yL_release : MethodName := ⟨RL, "release", "(LDetentionbureau;I)I"⟩
abbrev cL_appeal : ByteArray := method_18_code
def yL_appeal : MethodName := ⟨RL, "appeal", "(LDetentionbureau;I)I"⟩
abbrev cL_vote : ByteArray := method_19_code
def yL_vote : MethodName := ⟨RL, "vote", "(LDetentionbureau;IZ)I"⟩
abbrev cL_ofShip : ByteArray := method_20_code
def yL_ofShip : MethodName := ⟨RL, "ofShip", "(LDetentionbureau;II)I"⟩
abbrev cL_pointsAnew : ByteArray := method_21_code
def yL_pointsAnew : MethodName := ⟨RL, "pointsAnew", "(LDetentionbureau;I)I"⟩
abbrev cL_isGround : ByteArray := method_22_code
def yL_isGround : MethodName := ⟨RL, "isGround", "(LDetentionbureau;II)I"⟩
abbrev cL_ofVisit : ByteArray := method_23_code
def yL_ofVisit : MethodName := ⟨RL, "ofVisit", "(LDetentionbureau;II)I"⟩
abbrev cL_list : ByteArray := method_24_code
def yL_list : MethodName := ⟨RL, "list", "(LDetentionbureau;I)I"⟩
abbrev cL_missed : ByteArray := method_25_code
def yL_missed : MethodName := ⟨RL, "missed", "(LDetentionbureau;I)I"⟩
abbrev cL_knew : ByteArray := method_26_code
def yL_knew : MethodName := ⟨RL, "knew", "(LDetentionbureau;III)I"⟩
abbrev cL_end : ByteArray := method_27_code
def yL_end : MethodName := ⟨RL, "end", "(I[I)I"⟩
abbrev cL_lapsed : ByteArray := method_28_code
def yL_lapsed : MethodName := ⟨RL, "lapsed", "(I[I[I)I"⟩
abbrev cL_info : ByteArray := method_29_code
def yL_info : MethodName := ⟨RL, "info", "(I)I"⟩
abbrev cL_counts : ByteArray := method_30_code
def yL_counts : MethodName := ⟨RL, "counts", "(I[I[I)Z"⟩
abbrev cL_findings : ByteArray := method_31_code
def yL_findings : MethodName := ⟨RL, "findings", "(I)I"⟩
abbrev cL_listOf : ByteArray := method_32_code
def yL_listOf : MethodName := ⟨RL, "listOf", "(I[I[I[I[I)I"⟩
abbrev cL_points : ByteArray := method_33_code
def yL_points : MethodName := ⟨RL, "points", "(I[I[I[I[I[I)I"⟩
abbrev cL_risk : ByteArray := method_34_code
def yL_risk : MethodName := ⟨RL, "risk", "(I[I[I[I[I[I)I"⟩
abbrev cL_priority : ByteArray := method_35_code
def yL_priority : MethodName := ⟨RL, "priority", "(I[I[I[I[I[I)I"⟩
abbrev cL_ground : ByteArray := method_36_code
def yL_ground : MethodName := ⟨RL, "ground", "(II[I[I[I)Z"⟩
abbrev cL_open : ByteArray := method_37_code
def yL_open : MethodName := ⟨RL, "open", "(IZ[I[I[J)I"⟩
abbrev cL_isTold : ByteArray := method_38_code
def yL_isTold : MethodName := ⟨RL, "isTold", "(LDetentionbureau;I[I[I[I[I[I[I[I[J[I)Z"⟩
abbrev cL_law : ByteArray := code
def yL_law : MethodName := ⟨RL, "law", "([I)Z"⟩
theorem inX0 : ∀ w ∈ wsX00, w ∈ lw_tbl := by decide +kernel
theorem inX1 : ∀ w ∈ wsX10, w ∈ lw_tbl := by decide +kernel
theorem inX2 : ∀ w ∈ wsX20, w ∈ lw_tbl := by decide +kernel
theorem inX3 : ∀ w ∈ wsX30, w ∈ lw_tbl := by decide +kernel
theorem inX4 : ∀ w ∈ wsX40, w ∈ lw_tbl := by decide +kernel
theorem inX5 : ∀ w ∈ wsX50, w ∈ lw_tbl := by decide +kernel
theorem inX6 : ∀ w ∈ wsX60, w ∈ lw_tbl := by decide +kernel
theorem inX7 : ∀ w ∈ wsX70, w ∈ lw_tbl := by decide +kernel
theorem inJx145de : ∀ w ∈ wsJx145de0, w ∈ lw_tbl := by decide +kernel
theorem inJx8e188 : ∀ w ∈ wsJx8e1880, w ∈ lw_tbl := by decide +kernel
theorem inJ6 : ∀ w ∈ wsJ60, w ∈ lw_tbl := by decide +kernel
theorem inJxab1ab : ∀ w ∈ wsJxab1ab0, w ∈ lw_tbl := by decide +kernel
theorem inJ9 : ∀ w ∈ wsJ90, w ∈ lw_tbl := by decide +kernel
theorem inJ0 : ∀ w ∈ wsJ00, w ∈ lw_tbl := by decide +kernel
theorem inJ10 : ∀ w ∈ wsJ100, w ∈ lw_tbl := by decide +kernel
theorem inJxa1e45 : ∀ w ∈ wsJxa1e450, w ∈ lw_tbl := by decide +kernel
theorem inJxc12de : ∀ w ∈ wsJxc12de0, w ∈ lw_tbl := by decide +kernel
theorem inJx4a65c : ∀ w ∈ wsJx4a65c0, w ∈ lw_tbl := by decide +kernel
theorem inJ7 : ∀ w ∈ wsJ70, w ∈ lw_tbl := by decide +kernel
theorem inJx5ef63 : ∀ w ∈ wsJx5ef630, w ∈ lw_tbl := by decide +kernel
theorem inJxbd725 : ∀ w ∈ wsJxbd7250, w ∈ lw_tbl := by decide +kernel
theorem inJ15 : ∀ w ∈ wsJ150, w ∈ lw_tbl := by decide +kernel
theorem inJxf0a74 : ∀ w ∈ wsJxf0a740, w ∈ lw_tbl := by decide +kernel
theorem inJxa66e6 : ∀ w ∈ wsJxa66e60, w ∈ lw_tbl := by decide +kernel
theorem inJ8 : ∀ w ∈ wsJ80, w ∈ lw_tbl := by decide +kernel
theorem inJ3 : ∀ w ∈ wsJ30, w ∈ lw_tbl := by decide +kernel
abbrev vwCl : List vw_C := [(RJx4a65c, TJx4a65c, 3), (RX0, TX0, 4), (RX1, TX1, 3), (RX2, TX2, 4), (RX3, TX3, 5), (RX4, TX4, 17), (RX5, TX5, 12), (RX6, TX6, 6)]
