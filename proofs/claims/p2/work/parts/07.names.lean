def T_RG : u_T := fun k => match k with
  | 0 => ("RingGuard", "plan", "LRingGuard$Plan;", true)
  | 1 => ("RingGuard", "wires", "LRingGuard$Wires;", true)
  | 2 => ("RingGuard", "tables", "LRingGuard$Tables;", true)
  | 3 => ("RingGuard", "protocol", "LRingGuard$Protocol;", true)
  | 4 => ("RingGuard", "frames", "LRingGuard$Frames;", true)
  | 5 => ("RingGuard", "groups", "LRingGuard$Groups;", true)
  | 6 => ("RingGuard", "started", "Z", false)
  | 7 => ("RingGuard", "ticksInAll", "I", false)
  | 8 => ("RingGuard", "calmTicks", "I", false)
  | 9 => ("RingGuard", "stirsSeen", "I", false)
  | 10 => ("RingGuard", "circleNow", "Z", false)
  | 11 => ("RingGuard", "circleCount", "I", false)
  | _ => ("RingGuard", "apartCount", "I", false)
def ty_RG : Nat → FieldType := fun k => match k with
  | 0 => .object "RingGuard$Plan"
  | 1 => .object "RingGuard$Wires"
  | 2 => .object "RingGuard$Tables"
  | 3 => .object "RingGuard$Protocol"
  | 4 => .object "RingGuard$Frames"
  | 5 => .object "RingGuard$Groups"
  | 6 => .boolean
  | 7 => .int
  | 8 => .int
  | 9 => .int
  | 10 => .boolean
  | 11 => .int
  | _ => .int
theorem nm_RG : ∀ a, a < 13 → ∀ b, b < 13 → a ≠ b → (T_RG a).2.1 ≠ (T_RG b).2.1 := by decide +kernel
theorem ok_RG : ∀ k, k < 13 → parseFieldDescriptor (T_RG k).2.2.1 = some (ty_RG k) := by decide +kernel
theorem zd_RG : ∀ j, j < 13 → defaultValue (ty_RG j) = vp_V [.null, .null, .null, .null, .null, .null, .int 0, .int 0, .int 0, .int 0, .int 0, .int 0, .int 0] j := by decide +kernel
theorem zU_RG : (u_ws "RingGuard" T_RG 13).all (fun w => decide (w ∈ zT) && tq_ok w) = true := by decide +kernel
def T_PL : u_T := fun k => match k with
  | 0 => ("RingGuard$Plan", "bridgeCount", "I", false)
  | 1 => ("RingGuard$Plan", "linkCount", "I", false)
  | 2 => ("RingGuard$Plan", "firstOf", "[I", true)
  | 3 => ("RingGuard$Plan", "secondOf", "[I", true)
  | 4 => ("RingGuard$Plan", "ringOf", "[I", true)
  | 5 => ("RingGuard$Plan", "ownerBridge", "[I", true)
  | 6 => ("RingGuard$Plan", "ownerLink", "[I", true)
  | 7 => ("RingGuard$Plan", "placeOf", "[I", true)
  | 8 => ("RingGuard$Plan", "ownerPort", "[I", true)
  | 9 => ("RingGuard$Plan", "portsAt", "[I", true)
  | _ => ("RingGuard$Plan", "closedRing", "[Z", true)
def ty_PL : Nat → FieldType := fun k => match k with
  | 0 => .int
  | 1 => .int
  | 2 => .array .int
  | 3 => .array .int
  | 4 => .array .int
  | 5 => .array .int
  | 6 => .array .int
  | 7 => .array .int
  | 8 => .array .int
  | 9 => .array .int
  | _ => .array .boolean
theorem nm_PL : ∀ a, a < 11 → ∀ b, b < 11 → a ≠ b → (T_PL a).2.1 ≠ (T_PL b).2.1 := by decide +kernel
theorem ok_PL : ∀ k, k < 11 → parseFieldDescriptor (T_PL k).2.2.1 = some (ty_PL k) := by decide +kernel
theorem zd_PL : ∀ j, j < 11 → defaultValue (ty_PL j) = vp_V [.int 0, .int 0, .null, .null, .null, .null, .null, .null, .null, .null, .null] j := by decide +kernel
theorem zU_PL : (u_ws "RingGuard$Plan" T_PL 11).all (fun w => decide (w ∈ zT) && tq_ok w) = true := by decide +kernel
def T_WI : u_T := fun k => match k with
  | 0 => ("RingGuard$Wires", "arriving", "[I", false)
  | 1 => ("RingGuard$Wires", "arrivingCount", "[I", false)
  | 2 => ("RingGuard$Wires", "leaving", "[I", false)
  | 3 => ("RingGuard$Wires", "leavingCount", "[I", false)
  | 4 => ("RingGuard$Wires", "toLose", "[I", true)
  | _ => ("RingGuard$Wires", "lostCount", "I", false)
def ty_WI : Nat → FieldType := fun k => match k with
  | 0 => .array .int
  | 1 => .array .int
  | 2 => .array .int
  | 3 => .array .int
  | 4 => .array .int
  | _ => .int
theorem nm_WI : ∀ a, a < 6 → ∀ b, b < 6 → a ≠ b → (T_WI a).2.1 ≠ (T_WI b).2.1 := by decide +kernel
theorem ok_WI : ∀ k, k < 6 → parseFieldDescriptor (T_WI k).2.2.1 = some (ty_WI k) := by decide +kernel
theorem zd_WI : ∀ j, j < 6 → defaultValue (ty_WI j) = vp_V [.null, .null, .null, .null, .null, .int 0] j := by decide +kernel
theorem zU_WI : (u_ws "RingGuard$Wires" T_WI 6).all (fun w => decide (w ∈ zT) && tq_ok w) = true := by decide +kernel
def T_TA : u_T := fun k => match k with
  | _ => ("RingGuard$Tables", "entries", "[[I", true)
def ty_TA : Nat → FieldType := fun k => match k with
  | _ => .array (.array .int)
theorem nm_TA : ∀ a, a < 1 → ∀ b, b < 1 → a ≠ b → (T_TA a).2.1 ≠ (T_TA b).2.1 := by decide +kernel
theorem ok_TA : ∀ k, k < 1 → parseFieldDescriptor (T_TA k).2.2.1 = some (ty_TA k) := by decide +kernel
theorem zd_TA : ∀ j, j < 1 → defaultValue (ty_TA j) = vp_V [.null] j := by decide +kernel
theorem zU_TA : (u_ws "RingGuard$Tables" T_TA 1).all (fun w => decide (w ∈ zT) && tq_ok w) = true := by decide +kernel
def T_PR : u_T := fun k => match k with
  | 0 => ("RingGuard$Protocol", "plan", "LRingGuard$Plan;", true)
  | 1 => ("RingGuard$Protocol", "wires", "LRingGuard$Wires;", true)
  | 2 => ("RingGuard$Protocol", "tables", "LRingGuard$Tables;", true)
  | 3 => ("RingGuard$Protocol", "holdsOf", "[I", true)
  | 4 => ("RingGuard$Protocol", "guard", "[I", true)
  | 5 => ("RingGuard$Protocol", "phase", "[I", true)
  | 6 => ("RingGuard$Protocol", "clock", "[I", true)
  | 7 => ("RingGuard$Protocol", "timesTaken", "[I", true)
  | 8 => ("RingGuard$Protocol", "timesFailed", "[I", true)
  | 9 => ("RingGuard$Protocol", "timesCommanded", "[I", true)
  | 10 => ("RingGuard$Protocol", "greatestTold", "[I", true)
  | 11 => ("RingGuard$Protocol", "flushCount", "[I", true)
  | 12 => ("RingGuard$Protocol", "stirs", "I", false)
  | _ => ("RingGuard$Protocol", "holdsChanged", "Z", false)
def ty_PR : Nat → FieldType := fun k => match k with
  | 0 => .object "RingGuard$Plan"
  | 1 => .object "RingGuard$Wires"
  | 2 => .object "RingGuard$Tables"
  | 3 => .array .int
  | 4 => .array .int
  | 5 => .array .int
  | 6 => .array .int
  | 7 => .array .int
  | 8 => .array .int
  | 9 => .array .int
  | 10 => .array .int
  | 11 => .array .int
  | 12 => .int
  | _ => .boolean
theorem nm_PR : ∀ a, a < 14 → ∀ b, b < 14 → a ≠ b → (T_PR a).2.1 ≠ (T_PR b).2.1 := by decide +kernel
theorem ok_PR : ∀ k, k < 14 → parseFieldDescriptor (T_PR k).2.2.1 = some (ty_PR k) := by decide +kernel
theorem zd_PR : ∀ j, j < 14 → defaultValue (ty_PR j) = vp_V [.null, .null, .null, .null, .null, .null, .null, .null, .null, .null, .null, .null, .int 0, .int 0] j := by decide +kernel
theorem zU_PR : (u_ws "RingGuard$Protocol" T_PR 14).all (fun w => decide (w ∈ zT) && tq_ok w) = true := by decide +kernel
def T_FR : u_T := fun k => match k with
  | 0 => ("RingGuard$Frames", "plan", "LRingGuard$Plan;", true)
  | 1 => ("RingGuard$Frames", "protocol", "LRingGuard$Protocol;", true)
  | 2 => ("RingGuard$Frames", "tables", "LRingGuard$Tables;", true)
  | 3 => ("RingGuard$Frames", "bridgeOfHost", "[I", true)
  | 4 => ("RingGuard$Frames", "stepBridge", "[I", true)
  | 5 => ("RingGuard$Frames", "stepLink", "[I", true)
  | 6 => ("RingGuard$Frames", "stepCount", "I", false)
  | 7 => ("RingGuard$Frames", "passes", "[I", true)
  | _ => ("RingGuard$Frames", "mostPasses", "I", false)
def ty_FR : Nat → FieldType := fun k => match k with
  | 0 => .object "RingGuard$Plan"
  | 1 => .object "RingGuard$Protocol"
  | 2 => .object "RingGuard$Tables"
  | 3 => .array .int
  | 4 => .array .int
  | 5 => .array .int
  | 6 => .int
  | 7 => .array .int
  | _ => .int
theorem nm_FR : ∀ a, a < 9 → ∀ b, b < 9 → a ≠ b → (T_FR a).2.1 ≠ (T_FR b).2.1 := by decide +kernel
theorem ok_FR : ∀ k, k < 9 → parseFieldDescriptor (T_FR k).2.2.1 = some (ty_FR k) := by decide +kernel
theorem zd_FR : ∀ j, j < 9 → defaultValue (ty_FR j) = vp_V [.null, .null, .null, .null, .null, .null, .int 0, .null, .int 0] j := by decide +kernel
theorem zU_FR : (u_ws "RingGuard$Frames" T_FR 9).all (fun w => decide (w ∈ zT) && tq_ok w) = true := by decide +kernel
def T_GR : u_T := fun k => match k with
  | 0 => ("RingGuard$Groups", "group", "[I", true)
  | 1 => ("RingGuard$Groups", "groupCount", "I", false)
  | _ => ("RingGuard$Groups", "size", "I", false)
def ty_GR : Nat → FieldType := fun k => match k with
  | 0 => .array .int
  | 1 => .int
  | _ => .int
theorem nm_GR : ∀ a, a < 3 → ∀ b, b < 3 → a ≠ b → (T_GR a).2.1 ≠ (T_GR b).2.1 := by decide +kernel
theorem ok_GR : ∀ k, k < 3 → parseFieldDescriptor (T_GR k).2.2.1 = some (ty_GR k) := by decide +kernel
theorem zd_GR : ∀ j, j < 3 → defaultValue (ty_GR j) = vp_V [.null, .int 0, .int 0] j := by decide +kernel
theorem zU_GR : (u_ws "RingGuard$Groups" T_GR 3).all (fun w => decide (w ∈ zT) && tq_ok w) = true := by decide +kernel
def T_MO : u_T := fun k => match k with
  | 0 => ("RingGuardModel", "code", "I", false)
  | 1 => ("RingGuardModel", "started", "Z", false)
  | 2 => ("RingGuardModel", "bridges", "I", false)
  | 3 => ("RingGuardModel", "links", "I", false)
  | 4 => ("RingGuardModel", "first", "[I", true)
  | 5 => ("RingGuardModel", "second", "[I", true)
  | 6 => ("RingGuardModel", "ringOf", "[I", true)
  | 7 => ("RingGuardModel", "failed", "[Z", true)
  | 8 => ("RingGuardModel", "failures", "[I", true)
  | 9 => ("RingGuardModel", "toLose", "[I", true)
  | 10 => ("RingGuardModel", "hold", "[I", true)
  | 11 => ("RingGuardModel", "owner", "[I", true)
  | 12 => ("RingGuardModel", "protection", "[I", true)
  | 13 => ("RingGuardModel", "isClosed", "[Z", true)
  | 14 => ("RingGuardModel", "clock", "[I", true)
  | 15 => ("RingGuardModel", "taken", "[I", true)
  | 16 => ("RingGuardModel", "portLink", "[I", true)
  | 17 => ("RingGuardModel", "guard", "[I", true)
  | 18 => ("RingGuardModel", "phase", "[I", true)
  | 19 => ("RingGuardModel", "command", "[I", true)
  | 20 => ("RingGuardModel", "commandLink", "[I", true)
  | 21 => ("RingGuardModel", "commands", "[I", true)
  | 22 => ("RingGuardModel", "flushes", "[I", true)
  | 23 => ("RingGuardModel", "told", "[I", true)
  | 24 => ("RingGuardModel", "over", "[I", true)
  | 25 => ("RingGuardModel", "when", "[I", true)
  | 26 => ("RingGuardModel", "places", "[I", true)
  | 27 => ("RingGuardModel", "count", "[I", true)
  | 28 => ("RingGuardModel", "kinds", "[I", true)
  | 29 => ("RingGuardModel", "sources", "[I", true)
  | 30 => ("RingGuardModel", "names", "[I", true)
  | 31 => ("RingGuardModel", "numbers", "[I", true)
  | 32 => ("RingGuardModel", "comingCount", "[I", true)
  | 33 => ("RingGuardModel", "comingKinds", "[I", true)
  | 34 => ("RingGuardModel", "comingSources", "[I", true)
  | 35 => ("RingGuardModel", "comingNames", "[I", true)
  | 36 => ("RingGuardModel", "comingNumbers", "[I", true)
  | 37 => ("RingGuardModel", "now", "I", false)
  | 38 => ("RingGuardModel", "lost", "I", false)
  | 39 => ("RingGuardModel", "visits", "I", false)
  | 40 => ("RingGuardModel", "quiet", "I", false)
  | 41 => ("RingGuardModel", "stirred", "Z", false)
  | 42 => ("RingGuardModel", "circles", "I", false)
  | 43 => ("RingGuardModel", "apart", "I", false)
  | 44 => ("RingGuardModel", "group", "[I", true)
  | 45 => ("RingGuardModel", "degree", "[I", true)
  | 46 => ("RingGuardModel", "wayBridge", "[I", true)
  | 47 => ("RingGuardModel", "wayLink", "[I", true)
  | 48 => ("RingGuardModel", "saidKind", "I", false)
  | 49 => ("RingGuardModel", "saidSource", "I", false)
  | 50 => ("RingGuardModel", "saidName", "I", false)
  | 51 => ("RingGuardModel", "saidNumber", "I", false)
  | _ => ("RingGuardModel", "crossed", "[I", true)
def ty_MO : Nat → FieldType := fun k => match k with
  | 0 => .int
  | 1 => .boolean
  | 2 => .int
  | 3 => .int
  | 4 => .array .int
  | 5 => .array .int
  | 6 => .array .int
  | 7 => .array .boolean
  | 8 => .array .int
  | 9 => .array .int
  | 10 => .array .int
  | 11 => .array .int
  | 12 => .array .int
  | 13 => .array .boolean
  | 14 => .array .int
  | 15 => .array .int
  | 16 => .array .int
  | 17 => .array .int
  | 18 => .array .int
  | 19 => .array .int
  | 20 => .array .int
  | 21 => .array .int
  | 22 => .array .int
  | 23 => .array .int
  | 24 => .array .int
  | 25 => .array .int
  | 26 => .array .int
  | 27 => .array .int
  | 28 => .array .int
  | 29 => .array .int
  | 30 => .array .int
  | 31 => .array .int
  | 32 => .array .int
  | 33 => .array .int
  | 34 => .array .int
  | 35 => .array .int
  | 36 => .array .int
  | 37 => .int
  | 38 => .int
  | 39 => .int
  | 40 => .int
  | 41 => .boolean
  | 42 => .int
  | 43 => .int
  | 44 => .array .int
  | 45 => .array .int
  | 46 => .array .int
  | 47 => .array .int
  | 48 => .int
  | 49 => .int
  | 50 => .int
  | 51 => .int
  | _ => .array .int
theorem nm_MO : ∀ a, a < 53 → ∀ b, b < 53 → a ≠ b → (T_MO a).2.1 ≠ (T_MO b).2.1 := by decide +kernel
theorem ok_MO : ∀ k, k < 53 → parseFieldDescriptor (T_MO k).2.2.1 = some (ty_MO k) := by decide +kernel
theorem zd_MO : ∀ j, j < 53 → defaultValue (ty_MO j) = vp_V [.int 0, .int 0, .int 0, .int 0, .null, .null, .null, .null, .null, .null, .null, .null, .null, .null, .null, .null, .null, .null, .null, .null, .null, .null, .null, .null, .null, .null, .null, .null, .null, .null, .null, .null, .null, .null, .null, .null, .null, .int 0, .int 0, .int 0, .int 0, .int 0, .int 0, .int 0, .null, .null, .null, .null, .int 0, .int 0, .int 0, .int 0, .null] j := by decide +kernel
theorem zU_MO : (u_ws "RingGuardModel" T_MO 53).all (fun w => decide (w ∈ zT) && tq_ok w) = true := by decide +kernel
abbrev zCl : List vw_C := [("RingGuard", T_RG, 13), ("RingGuard$Plan", T_PL, 11), ("RingGuard$Wires", T_WI, 6), ("RingGuard$Tables", T_TA, 1), ("RingGuard$Protocol", T_PR, 14), ("RingGuard$Frames", T_FR, 9), ("RingGuard$Groups", T_GR, 3), ("RingGuardModel", T_MO, 53)]
theorem k1_2 : tables_1_1[2]? = some (Jvm.Cond.initialized "RingGuard$Plan") := by decide +kernel
theorem k1_9 : tables_1_1[9]? = some (Jvm.Cond.initialized "RingGuardModel") := by decide +kernel
theorem k1_26 : tables_1_1[26]? = some (Jvm.Cond.instantiable "RingGuard$Plan" (11 : Nat)) := by decide +kernel
theorem k1_35 : tables_1_1[35]? = some (Jvm.Cond.fieldLink "RingGuard$Plan" (69 : Nat) "RingGuard$Plan" "bridgeCount" "I") := by decide +kernel
theorem k1_37 : tables_1_1[37]? = some (Jvm.Cond.fieldLink "RingGuard$Plan" (46 : Nat) "RingGuard$Plan" "linkCount" "I") := by decide +kernel
theorem k1_41 : tables_1_1[41]? = some (Jvm.Cond.fieldLink "RingGuard$Plan" (9 : Nat) "RingGuard$Plan" "firstOf" "[I") := by decide +kernel
theorem k1_43 : tables_1_1[43]? = some (Jvm.Cond.fieldLink "RingGuard$Plan" (15 : Nat) "RingGuard$Plan" "secondOf" "[I") := by decide +kernel
theorem k1_45 : tables_1_1[45]? = some (Jvm.Cond.fieldLink "RingGuard$Plan" (18 : Nat) "RingGuard$Plan" "ringOf" "[I") := by decide +kernel
theorem k1_47 : tables_1_1[47]? = some (Jvm.Cond.fieldLink "RingGuard$Plan" (21 : Nat) "RingGuard$Plan" "ownerBridge" "[I") := by decide +kernel
theorem k1_51 : tables_1_1[51]? = some (Jvm.Cond.fieldLink "RingGuard$Plan" (27 : Nat) "RingGuard$Plan" "placeOf" "[I") := by decide +kernel
theorem k1_56 : tables_1_1[56]? = some (Jvm.Cond.fieldLink "RingGuard$Plan" (33 : Nat) "RingGuard$Plan" "portsAt" "[I") := by decide +kernel
theorem k1_222 : tables_1_1[222]? = some (Jvm.Cond.fieldLink "RingGuard$Groups" (9 : Nat) "RingGuard$Groups" "group" "[I") := by decide +kernel
theorem k1_224 : tables_1_1[224]? = some (Jvm.Cond.fieldLink "RingGuard$Groups" (19 : Nat) "RingGuard$Groups" "groupCount" "I") := by decide +kernel
theorem k1_227 : tables_1_1[227]? = some (Jvm.Cond.fieldLink "RingGuard$Groups" (15 : Nat) "RingGuard$Groups" "size" "I") := by decide +kernel
theorem k2_205 : tables_1_2[205]? = some (Jvm.Cond.methodLink "RingGuard$Plan" (72 : Nat) ({ cls := "RingGuard$Plan", name := "isInRingBefore", desc := "(II)Z" } : Jvm.MethodName)) := by decide +kernel
theorem k2_206 : tables_1_2[206]? = some (Jvm.Cond.privateMethod ({ cls := "RingGuard$Plan", name := "isInRingBefore", desc := "(II)Z" } : Jvm.MethodName)) := by decide +kernel
theorem k2_207 : tables_1_2[207]? = some (Jvm.Cond.instanceMethod ({ cls := "RingGuard$Plan", name := "isInRingBefore", desc := "(II)Z" } : Jvm.MethodName)) := by decide +kernel
theorem k2_208 : tables_1_2[208]? = some (Jvm.Cond.code ({ cls := "RingGuard$Plan", name := "isInRingBefore", desc := "(II)Z" } : Jvm.MethodName) prog_5_method_10_code (4 : Nat) (Option.some Jvm.ClassFile.FieldType.boolean)) := rfl
theorem k2_209 : tables_1_2[209]? = some (Jvm.Cond.methodLink "RingGuard$Plan" (54 : Nat) ({ cls := "RingGuard$Plan", name := "portOf", desc := "(II)I" } : Jvm.MethodName)) := by decide +kernel
theorem k2_210 : tables_1_2[210]? = some (Jvm.Cond.instanceMethod ({ cls := "RingGuard$Plan", name := "portOf", desc := "(II)I" } : Jvm.MethodName)) := by decide +kernel
theorem k2_211 : tables_1_2[211]? = some (Jvm.Cond.selects "RingGuard$Plan" ({ cls := "RingGuard$Plan", name := "portOf", desc := "(II)I" } : Jvm.MethodName) ({ cls := "RingGuard$Plan", name := "portOf", desc := "(II)I" } : Jvm.MethodName)) := by decide +kernel
theorem k2_212 : tables_1_2[212]? = some (Jvm.Cond.code ({ cls := "RingGuard$Plan", name := "portOf", desc := "(II)I" } : Jvm.MethodName) prog_5_method_3_code (3 : Nat) (Option.some Jvm.ClassFile.FieldType.int)) := rfl
theorem k4_109 : tables_1_4[109]? = some (Jvm.Cond.instantiable "RingGuardModel" (53 : Nat)) := by decide +kernel
theorem k4_117 : tables_1_4[117]? = some (Jvm.Cond.fieldLink "RingGuardModel" (132 : Nat) "RingGuardModel" "links" "I") := by decide +kernel
theorem k4_118 : tables_1_4[118]? = some (Jvm.Cond.fieldLink "RingGuardModel" (7 : Nat) "RingGuardModel" "first" "[I") := by decide +kernel
theorem k4_119 : tables_1_4[119]? = some (Jvm.Cond.fieldLink "RingGuardModel" (13 : Nat) "RingGuardModel" "second" "[I") := by decide +kernel
theorem k4_120 : tables_1_4[120]? = some (Jvm.Cond.fieldLink "RingGuardModel" (16 : Nat) "RingGuardModel" "ringOf" "[I") := by decide +kernel
theorem k5_77 : tables_1_5[77]? = some (Jvm.Cond.methodLink "RingGuardModel" (153 : Nat) ({ cls := "RingGuardModel", name := "isEnd", desc := "(II)Z" } : Jvm.MethodName)) := by decide +kernel
theorem k5_78 : tables_1_5[78]? = some (Jvm.Cond.privateMethod ({ cls := "RingGuardModel", name := "isEnd", desc := "(II)Z" } : Jvm.MethodName)) := by decide +kernel
theorem k5_79 : tables_1_5[79]? = some (Jvm.Cond.instanceMethod ({ cls := "RingGuardModel", name := "isEnd", desc := "(II)Z" } : Jvm.MethodName)) := by decide +kernel
theorem k5_80 : tables_1_5[80]? = some (Jvm.Cond.code ({ cls := "RingGuardModel", name := "isEnd", desc := "(II)Z" } : Jvm.MethodName) prog_10_method_6_code (3 : Nat) (Option.some Jvm.ClassFile.FieldType.boolean)) := rfl
abbrev yPL_portOf : MethodName := ⟨"RingGuard$Plan", "portOf", "(II)I"⟩
abbrev bPL_portOf : ByteArray := prog_5_method_3_code
abbrev yPL_otherPort : MethodName := ⟨"RingGuard$Plan", "otherPort", "(I)I"⟩
abbrev bPL_otherPort : ByteArray := prog_5_method_4_code
abbrev yPL_isOwner : MethodName := ⟨"RingGuard$Plan", "isOwner", "(I)Z"⟩
abbrev bPL_isOwner : ByteArray := prog_5_method_5_code
abbrev yPL_countLinks : MethodName := ⟨"RingGuard$Plan", "countLinks", "(II)I"⟩
abbrev bPL_countLinks : ByteArray := prog_5_method_11_code
abbrev yPL_hasLinks : MethodName := ⟨"RingGuard$Plan", "hasLinks", "(I)Z"⟩
abbrev bPL_hasLinks : ByteArray := prog_5_method_8_code
abbrev yPL_isInRingBefore : MethodName := ⟨"RingGuard$Plan", "isInRingBefore", "(II)Z"⟩
abbrev bPL_isInRingBefore : ByteArray := prog_5_method_10_code
abbrev yPL_hasBareBridge : MethodName := ⟨"RingGuard$Plan", "hasBareBridge", "()Z"⟩
abbrev bPL_hasBareBridge : ByteArray := prog_5_method_9_code
abbrev yMO_isEnd : MethodName := ⟨"RingGuardModel", "isEnd", "(II)Z"⟩
abbrev bMO_isEnd : ByteArray := prog_10_method_6_code
abbrev yMO_degreeIn : MethodName := ⟨"RingGuardModel", "degreeIn", "(II)I"⟩
abbrev bMO_degreeIn : ByteArray := prog_10_method_13_code
abbrev yMO_linksIn : MethodName := ⟨"RingGuardModel", "linksIn", "(I)I"⟩
abbrev bMO_linksIn : ByteArray := prog_10_method_12_code
abbrev yGR_separate : MethodName := ⟨"RingGuard$Groups", "separate", "(I)V"⟩
abbrev bGR_separate : ByteArray := prog_4_method_2_code
theorem zac_int {a0 args : Array Value} {s0 s : State} (hB : tq_B zT a0 s0 s) : (Cond.arrayClass (newarray.typeOf .int)).before args s = true := zac hB (zm1 (i := 82) rfl)
theorem zac_boolean {a0 args : Array Value} {s0 s : State} (hB : tq_B zT a0 s0 s) : (Cond.arrayClass (newarray.typeOf .boolean)).before args s = true := zac hB (zm1 (i := 83) rfl)
theorem zac_long {a0 args : Array Value} {s0 s : State} (hB : tq_B zT a0 s0 s) : (Cond.arrayClass (newarray.typeOf .long)).before args s = true := zac hB (zm6 (i := 36) rfl)
theorem zgood {y : MethodName} {b : ByteArray} {n : Nat} {r : Option FieldType} : GoodIn [Cond.code y b n r] [Cond.code y b n r] := fun w h => ⟨h, by rw [List.mem_singleton.mp h]; exact Or.inl rfl⟩
theorem dGR_separate_0 : decode bGR_separate 0 = .ok (.aload_n 0, 1) := by decide +kernel
theorem dGR_separate_1 : decode bGR_separate 1 = .ok (.iload_n 1, 1) := by decide +kernel
theorem dGR_separate_2 : decode bGR_separate 2 = .ok (.putfield 15, 3) := by decide +kernel
theorem dGR_separate_5 : decode bGR_separate 5 = .ok (.aload_n 0, 1) := by decide +kernel
theorem dGR_separate_6 : decode bGR_separate 6 = .ok (.iload_n 1, 1) := by decide +kernel
theorem dGR_separate_7 : decode bGR_separate 7 = .ok (.putfield 19, 3) := by decide +kernel
theorem dGR_separate_10 : decode bGR_separate 10 = .ok (.iconst 0, 1) := by decide +kernel
theorem dGR_separate_11 : decode bGR_separate 11 = .ok (.istore_n 2, 1) := by decide +kernel
theorem dGR_separate_12 : decode bGR_separate 12 = .ok (.iload_n 2, 1) := by decide +kernel
theorem dGR_separate_13 : decode bGR_separate 13 = .ok (.iload_n 1, 1) := by decide +kernel
theorem dGR_separate_14 : decode bGR_separate 14 = .ok (.if_icmp .ge 16, 3) := by decide +kernel
theorem dGR_separate_17 : decode bGR_separate 17 = .ok (.aload_n 0, 1) := by decide +kernel
theorem dGR_separate_18 : decode bGR_separate 18 = .ok (.getfield 9, 3) := by decide +kernel
theorem dGR_separate_21 : decode bGR_separate 21 = .ok (.iload_n 2, 1) := by decide +kernel
theorem dGR_separate_22 : decode bGR_separate 22 = .ok (.iload_n 2, 1) := by decide +kernel
theorem dGR_separate_23 : decode bGR_separate 23 = .ok (.iastore, 1) := by decide +kernel
theorem dGR_separate_24 : decode bGR_separate 24 = .ok (.iinc 2 1, 3) := by decide +kernel
theorem dGR_separate_27 : decode bGR_separate 27 = .ok (.goto (-15), 3) := by decide +kernel
theorem dGR_separate_30 : decode bGR_separate 30 = .ok (.return_, 1) := by decide +kernel
theorem dPL_countLinks_0 : decode bPL_countLinks 0 = .ok (.iconst 0, 1) := by decide +kernel
theorem dPL_countLinks_1 : decode bPL_countLinks 1 = .ok (.istore_n 3, 1) := by decide +kernel
theorem dPL_countLinks_2 : decode bPL_countLinks 2 = .ok (.iconst 0, 1) := by decide +kernel
theorem dPL_countLinks_3 : decode bPL_countLinks 3 = .ok (.istore 4, 2) := by decide +kernel
theorem dPL_countLinks_5 : decode bPL_countLinks 5 = .ok (.iload 4, 2) := by decide +kernel
theorem dPL_countLinks_7 : decode bPL_countLinks 7 = .ok (.aload_n 0, 1) := by decide +kernel
theorem dPL_countLinks_8 : decode bPL_countLinks 8 = .ok (.getfield 46, 3) := by decide +kernel
theorem dPL_countLinks_11 : decode bPL_countLinks 11 = .ok (.if_icmp .ge 34, 3) := by decide +kernel
theorem dPL_countLinks_14 : decode bPL_countLinks 14 = .ok (.aload_n 0, 1) := by decide +kernel
theorem dPL_countLinks_15 : decode bPL_countLinks 15 = .ok (.getfield 18, 3) := by decide +kernel
theorem dPL_countLinks_18 : decode bPL_countLinks 18 = .ok (.iload 4, 2) := by decide +kernel
theorem dPL_countLinks_20 : decode bPL_countLinks 20 = .ok (.iaload, 1) := by decide +kernel
theorem dPL_countLinks_21 : decode bPL_countLinks 21 = .ok (.iload_n 2, 1) := by decide +kernel
theorem dPL_countLinks_22 : decode bPL_countLinks 22 = .ok (.if_icmp .ne 17, 3) := by decide +kernel
theorem dPL_countLinks_25 : decode bPL_countLinks 25 = .ok (.aload_n 0, 1) := by decide +kernel
theorem dPL_countLinks_26 : decode bPL_countLinks 26 = .ok (.iload_n 1, 1) := by decide +kernel
theorem dPL_countLinks_27 : decode bPL_countLinks 27 = .ok (.iload 4, 2) := by decide +kernel
theorem dPL_countLinks_29 : decode bPL_countLinks 29 = .ok (.invokevirtual 54, 3) := by decide +kernel
theorem dPL_countLinks_32 : decode bPL_countLinks 32 = .ok (.iconst (-1), 1) := by decide +kernel
theorem dPL_countLinks_33 : decode bPL_countLinks 33 = .ok (.if_icmp .eq 6, 3) := by decide +kernel
theorem dPL_countLinks_36 : decode bPL_countLinks 36 = .ok (.iinc 3 1, 3) := by decide +kernel
theorem dPL_countLinks_39 : decode bPL_countLinks 39 = .ok (.iinc 4 1, 3) := by decide +kernel
theorem dPL_countLinks_42 : decode bPL_countLinks 42 = .ok (.goto (-37), 3) := by decide +kernel
theorem dPL_countLinks_45 : decode bPL_countLinks 45 = .ok (.iload_n 3, 1) := by decide +kernel
theorem dPL_countLinks_46 : decode bPL_countLinks 46 = .ok (.ireturn, 1) := by decide +kernel
theorem dPL_hasBareBridge_0 : decode bPL_hasBareBridge 0 = .ok (.iconst 0, 1) := by decide +kernel
theorem dPL_hasBareBridge_1 : decode bPL_hasBareBridge 1 = .ok (.istore_n 1, 1) := by decide +kernel
theorem dPL_hasBareBridge_2 : decode bPL_hasBareBridge 2 = .ok (.iload_n 1, 1) := by decide +kernel
theorem dPL_hasBareBridge_3 : decode bPL_hasBareBridge 3 = .ok (.aload_n 0, 1) := by decide +kernel
theorem dPL_hasBareBridge_4 : decode bPL_hasBareBridge 4 = .ok (.getfield 69, 3) := by decide +kernel
theorem dPL_hasBareBridge_7 : decode bPL_hasBareBridge 7 = .ok (.if_icmp .ge 21, 3) := by decide +kernel
theorem dPL_hasBareBridge_10 : decode bPL_hasBareBridge 10 = .ok (.aload_n 0, 1) := by decide +kernel
theorem dPL_hasBareBridge_11 : decode bPL_hasBareBridge 11 = .ok (.iload_n 1, 1) := by decide +kernel
theorem dPL_hasBareBridge_12 : decode bPL_hasBareBridge 12 = .ok (.bipush 6, 2) := by decide +kernel
theorem dPL_hasBareBridge_14 : decode bPL_hasBareBridge 14 = .ok (.invokevirtual 72, 3) := by decide +kernel
theorem dPL_hasBareBridge_17 : decode bPL_hasBareBridge 17 = .ok (.ifCond .ne 5, 3) := by decide +kernel
theorem dPL_hasBareBridge_20 : decode bPL_hasBareBridge 20 = .ok (.iconst 1, 1) := by decide +kernel
theorem dPL_hasBareBridge_21 : decode bPL_hasBareBridge 21 = .ok (.ireturn, 1) := by decide +kernel
theorem dPL_hasBareBridge_22 : decode bPL_hasBareBridge 22 = .ok (.iinc 1 1, 3) := by decide +kernel
theorem dPL_hasBareBridge_25 : decode bPL_hasBareBridge 25 = .ok (.goto (-23), 3) := by decide +kernel
theorem dPL_hasBareBridge_28 : decode bPL_hasBareBridge 28 = .ok (.iconst 0, 1) := by decide +kernel
theorem dPL_hasBareBridge_29 : decode bPL_hasBareBridge 29 = .ok (.ireturn, 1) := by decide +kernel
theorem dPL_hasLinks_0 : decode bPL_hasLinks 0 = .ok (.iconst 0, 1) := by decide +kernel
theorem dPL_hasLinks_1 : decode bPL_hasLinks 1 = .ok (.istore_n 2, 1) := by decide +kernel
theorem dPL_hasLinks_2 : decode bPL_hasLinks 2 = .ok (.iload_n 2, 1) := by decide +kernel
theorem dPL_hasLinks_3 : decode bPL_hasLinks 3 = .ok (.aload_n 0, 1) := by decide +kernel
theorem dPL_hasLinks_4 : decode bPL_hasLinks 4 = .ok (.getfield 46, 3) := by decide +kernel
theorem dPL_hasLinks_7 : decode bPL_hasLinks 7 = .ok (.if_icmp .ge 21, 3) := by decide +kernel
theorem dPL_hasLinks_10 : decode bPL_hasLinks 10 = .ok (.aload_n 0, 1) := by decide +kernel
theorem dPL_hasLinks_11 : decode bPL_hasLinks 11 = .ok (.getfield 18, 3) := by decide +kernel
theorem dPL_hasLinks_14 : decode bPL_hasLinks 14 = .ok (.iload_n 2, 1) := by decide +kernel
theorem dPL_hasLinks_15 : decode bPL_hasLinks 15 = .ok (.iaload, 1) := by decide +kernel
theorem dPL_hasLinks_16 : decode bPL_hasLinks 16 = .ok (.iload_n 1, 1) := by decide +kernel
theorem dPL_hasLinks_17 : decode bPL_hasLinks 17 = .ok (.if_icmp .ne 5, 3) := by decide +kernel
theorem dPL_hasLinks_20 : decode bPL_hasLinks 20 = .ok (.iconst 1, 1) := by decide +kernel
theorem dPL_hasLinks_21 : decode bPL_hasLinks 21 = .ok (.ireturn, 1) := by decide +kernel
theorem dPL_hasLinks_22 : decode bPL_hasLinks 22 = .ok (.iinc 2 1, 3) := by decide +kernel
theorem dPL_hasLinks_25 : decode bPL_hasLinks 25 = .ok (.goto (-23), 3) := by decide +kernel
theorem dPL_hasLinks_28 : decode bPL_hasLinks 28 = .ok (.iconst 0, 1) := by decide +kernel
theorem dPL_hasLinks_29 : decode bPL_hasLinks 29 = .ok (.ireturn, 1) := by decide +kernel
theorem dPL_isInRingBefore_0 : decode bPL_isInRingBefore 0 = .ok (.iconst 0, 1) := by decide +kernel
theorem dPL_isInRingBefore_1 : decode bPL_isInRingBefore 1 = .ok (.istore_n 3, 1) := by decide +kernel
theorem dPL_isInRingBefore_2 : decode bPL_isInRingBefore 2 = .ok (.iload_n 3, 1) := by decide +kernel
theorem dPL_isInRingBefore_3 : decode bPL_isInRingBefore 3 = .ok (.aload_n 0, 1) := by decide +kernel
theorem dPL_isInRingBefore_4 : decode bPL_isInRingBefore 4 = .ok (.getfield 46, 3) := by decide +kernel
theorem dPL_isInRingBefore_7 : decode bPL_isInRingBefore 7 = .ok (.if_icmp .ge 31, 3) := by decide +kernel
theorem dPL_isInRingBefore_10 : decode bPL_isInRingBefore 10 = .ok (.aload_n 0, 1) := by decide +kernel
theorem dPL_isInRingBefore_11 : decode bPL_isInRingBefore 11 = .ok (.getfield 18, 3) := by decide +kernel
theorem dPL_isInRingBefore_14 : decode bPL_isInRingBefore 14 = .ok (.iload_n 3, 1) := by decide +kernel
theorem dPL_isInRingBefore_15 : decode bPL_isInRingBefore 15 = .ok (.iaload, 1) := by decide +kernel
theorem dPL_isInRingBefore_16 : decode bPL_isInRingBefore 16 = .ok (.iload_n 2, 1) := by decide +kernel
theorem dPL_isInRingBefore_17 : decode bPL_isInRingBefore 17 = .ok (.if_icmp .ge 15, 3) := by decide +kernel
theorem dPL_isInRingBefore_20 : decode bPL_isInRingBefore 20 = .ok (.aload_n 0, 1) := by decide +kernel
theorem dPL_isInRingBefore_21 : decode bPL_isInRingBefore 21 = .ok (.iload_n 1, 1) := by decide +kernel
theorem dPL_isInRingBefore_22 : decode bPL_isInRingBefore 22 = .ok (.iload_n 3, 1) := by decide +kernel
theorem dPL_isInRingBefore_23 : decode bPL_isInRingBefore 23 = .ok (.invokevirtual 54, 3) := by decide +kernel
theorem dPL_isInRingBefore_26 : decode bPL_isInRingBefore 26 = .ok (.iconst (-1), 1) := by decide +kernel
theorem dPL_isInRingBefore_27 : decode bPL_isInRingBefore 27 = .ok (.if_icmp .eq 5, 3) := by decide +kernel
theorem dPL_isInRingBefore_30 : decode bPL_isInRingBefore 30 = .ok (.iconst 1, 1) := by decide +kernel
theorem dPL_isInRingBefore_31 : decode bPL_isInRingBefore 31 = .ok (.ireturn, 1) := by decide +kernel
theorem dPL_isInRingBefore_32 : decode bPL_isInRingBefore 32 = .ok (.iinc 3 1, 3) := by decide +kernel
theorem dPL_isInRingBefore_35 : decode bPL_isInRingBefore 35 = .ok (.goto (-33), 3) := by decide +kernel
theorem dPL_isInRingBefore_38 : decode bPL_isInRingBefore 38 = .ok (.iconst 0, 1) := by decide +kernel
theorem dPL_isInRingBefore_39 : decode bPL_isInRingBefore 39 = .ok (.ireturn, 1) := by decide +kernel
theorem dPL_isOwner_0 : decode bPL_isOwner 0 = .ok (.aload_n 0, 1) := by decide +kernel
theorem dPL_isOwner_1 : decode bPL_isOwner 1 = .ok (.getfield 21, 3) := by decide +kernel
theorem dPL_isOwner_4 : decode bPL_isOwner 4 = .ok (.iload_n 1, 1) := by decide +kernel
theorem dPL_isOwner_5 : decode bPL_isOwner 5 = .ok (.bipush 6, 2) := by decide +kernel
theorem dPL_isOwner_7 : decode bPL_isOwner 7 = .ok (.irem, 1) := by decide +kernel
theorem dPL_isOwner_8 : decode bPL_isOwner 8 = .ok (.iaload, 1) := by decide +kernel
theorem dPL_isOwner_9 : decode bPL_isOwner 9 = .ok (.iload_n 1, 1) := by decide +kernel
theorem dPL_isOwner_10 : decode bPL_isOwner 10 = .ok (.bipush 6, 2) := by decide +kernel
theorem dPL_isOwner_12 : decode bPL_isOwner 12 = .ok (.idiv, 1) := by decide +kernel
theorem dPL_isOwner_13 : decode bPL_isOwner 13 = .ok (.if_icmp .ne 7, 3) := by decide +kernel
theorem dPL_isOwner_16 : decode bPL_isOwner 16 = .ok (.iconst 1, 1) := by decide +kernel
theorem dPL_isOwner_17 : decode bPL_isOwner 17 = .ok (.goto 4, 3) := by decide +kernel
theorem dPL_isOwner_20 : decode bPL_isOwner 20 = .ok (.iconst 0, 1) := by decide +kernel
theorem dPL_isOwner_21 : decode bPL_isOwner 21 = .ok (.ireturn, 1) := by decide +kernel
theorem dPL_otherPort_0 : decode bPL_otherPort 0 = .ok (.iconst 2, 1) := by decide +kernel
theorem dPL_otherPort_1 : decode bPL_otherPort 1 = .ok (.aload_n 0, 1) := by decide +kernel
theorem dPL_otherPort_2 : decode bPL_otherPort 2 = .ok (.getfield 27, 3) := by decide +kernel
theorem dPL_otherPort_5 : decode bPL_otherPort 5 = .ok (.iload_n 1, 1) := by decide +kernel
theorem dPL_otherPort_6 : decode bPL_otherPort 6 = .ok (.iaload, 1) := by decide +kernel
theorem dPL_otherPort_7 : decode bPL_otherPort 7 = .ok (.imul, 1) := by decide +kernel
theorem dPL_otherPort_8 : decode bPL_otherPort 8 = .ok (.istore_n 2, 1) := by decide +kernel
theorem dPL_otherPort_9 : decode bPL_otherPort 9 = .ok (.aload_n 0, 1) := by decide +kernel
theorem dPL_otherPort_10 : decode bPL_otherPort 10 = .ok (.getfield 33, 3) := by decide +kernel
theorem dPL_otherPort_13 : decode bPL_otherPort 13 = .ok (.iload_n 2, 1) := by decide +kernel
theorem dPL_otherPort_14 : decode bPL_otherPort 14 = .ok (.iaload, 1) := by decide +kernel
theorem dPL_otherPort_15 : decode bPL_otherPort 15 = .ok (.iload_n 1, 1) := by decide +kernel
theorem dPL_otherPort_16 : decode bPL_otherPort 16 = .ok (.if_icmp .ne 14, 3) := by decide +kernel
theorem dPL_otherPort_19 : decode bPL_otherPort 19 = .ok (.aload_n 0, 1) := by decide +kernel
theorem dPL_otherPort_20 : decode bPL_otherPort 20 = .ok (.getfield 33, 3) := by decide +kernel
theorem dPL_otherPort_23 : decode bPL_otherPort 23 = .ok (.iload_n 2, 1) := by decide +kernel
theorem dPL_otherPort_24 : decode bPL_otherPort 24 = .ok (.iconst 1, 1) := by decide +kernel
theorem dPL_otherPort_25 : decode bPL_otherPort 25 = .ok (.iadd, 1) := by decide +kernel
theorem dPL_otherPort_26 : decode bPL_otherPort 26 = .ok (.iaload, 1) := by decide +kernel
theorem dPL_otherPort_27 : decode bPL_otherPort 27 = .ok (.goto 9, 3) := by decide +kernel
theorem dPL_otherPort_30 : decode bPL_otherPort 30 = .ok (.aload_n 0, 1) := by decide +kernel
theorem dPL_otherPort_31 : decode bPL_otherPort 31 = .ok (.getfield 33, 3) := by decide +kernel
theorem dPL_otherPort_34 : decode bPL_otherPort 34 = .ok (.iload_n 2, 1) := by decide +kernel
theorem dPL_otherPort_35 : decode bPL_otherPort 35 = .ok (.iaload, 1) := by decide +kernel
theorem dPL_otherPort_36 : decode bPL_otherPort 36 = .ok (.ireturn, 1) := by decide +kernel
theorem dPL_portOf_0 : decode bPL_portOf 0 = .ok (.aload_n 0, 1) := by decide +kernel
theorem dPL_portOf_1 : decode bPL_portOf 1 = .ok (.getfield 9, 3) := by decide +kernel
theorem dPL_portOf_4 : decode bPL_portOf 4 = .ok (.iload_n 2, 1) := by decide +kernel
theorem dPL_portOf_5 : decode bPL_portOf 5 = .ok (.iaload, 1) := by decide +kernel
theorem dPL_portOf_6 : decode bPL_portOf 6 = .ok (.iload_n 1, 1) := by decide +kernel
theorem dPL_portOf_7 : decode bPL_portOf 7 = .ok (.if_icmp .ne 7, 3) := by decide +kernel
theorem dPL_portOf_10 : decode bPL_portOf 10 = .ok (.iconst 2, 1) := by decide +kernel
theorem dPL_portOf_11 : decode bPL_portOf 11 = .ok (.iload_n 2, 1) := by decide +kernel
theorem dPL_portOf_12 : decode bPL_portOf 12 = .ok (.imul, 1) := by decide +kernel
theorem dPL_portOf_13 : decode bPL_portOf 13 = .ok (.ireturn, 1) := by decide +kernel
theorem dPL_portOf_14 : decode bPL_portOf 14 = .ok (.aload_n 0, 1) := by decide +kernel
theorem dPL_portOf_15 : decode bPL_portOf 15 = .ok (.getfield 15, 3) := by decide +kernel
theorem dPL_portOf_18 : decode bPL_portOf 18 = .ok (.iload_n 2, 1) := by decide +kernel
theorem dPL_portOf_19 : decode bPL_portOf 19 = .ok (.iaload, 1) := by decide +kernel
theorem dPL_portOf_20 : decode bPL_portOf 20 = .ok (.iload_n 1, 1) := by decide +kernel
theorem dPL_portOf_21 : decode bPL_portOf 21 = .ok (.if_icmp .ne 11, 3) := by decide +kernel
theorem dPL_portOf_24 : decode bPL_portOf 24 = .ok (.iconst 2, 1) := by decide +kernel
theorem dPL_portOf_25 : decode bPL_portOf 25 = .ok (.iload_n 2, 1) := by decide +kernel
theorem dPL_portOf_26 : decode bPL_portOf 26 = .ok (.imul, 1) := by decide +kernel
theorem dPL_portOf_27 : decode bPL_portOf 27 = .ok (.iconst 1, 1) := by decide +kernel
theorem dPL_portOf_28 : decode bPL_portOf 28 = .ok (.iadd, 1) := by decide +kernel
theorem dPL_portOf_29 : decode bPL_portOf 29 = .ok (.goto 4, 3) := by decide +kernel
theorem dPL_portOf_32 : decode bPL_portOf 32 = .ok (.iconst (-1), 1) := by decide +kernel
theorem dPL_portOf_33 : decode bPL_portOf 33 = .ok (.ireturn, 1) := by decide +kernel
theorem dMO_degreeIn_0 : decode bMO_degreeIn 0 = .ok (.iconst 0, 1) := by decide +kernel
theorem dMO_degreeIn_1 : decode bMO_degreeIn 1 = .ok (.istore_n 3, 1) := by decide +kernel
theorem dMO_degreeIn_2 : decode bMO_degreeIn 2 = .ok (.iconst 0, 1) := by decide +kernel
theorem dMO_degreeIn_3 : decode bMO_degreeIn 3 = .ok (.istore 4, 2) := by decide +kernel
theorem dMO_degreeIn_5 : decode bMO_degreeIn 5 = .ok (.iload 4, 2) := by decide +kernel
theorem dMO_degreeIn_7 : decode bMO_degreeIn 7 = .ok (.aload_n 0, 1) := by decide +kernel
theorem dMO_degreeIn_8 : decode bMO_degreeIn 8 = .ok (.getfield 132, 3) := by decide +kernel
theorem dMO_degreeIn_11 : decode bMO_degreeIn 11 = .ok (.if_icmp .ge 38, 3) := by decide +kernel
theorem dMO_degreeIn_14 : decode bMO_degreeIn 14 = .ok (.iload_n 3, 1) := by decide +kernel
theorem dMO_degreeIn_15 : decode bMO_degreeIn 15 = .ok (.aload_n 0, 1) := by decide +kernel
theorem dMO_degreeIn_16 : decode bMO_degreeIn 16 = .ok (.getfield 16, 3) := by decide +kernel
theorem dMO_degreeIn_19 : decode bMO_degreeIn 19 = .ok (.iload 4, 2) := by decide +kernel
theorem dMO_degreeIn_21 : decode bMO_degreeIn 21 = .ok (.iaload, 1) := by decide +kernel
theorem dMO_degreeIn_22 : decode bMO_degreeIn 22 = .ok (.iload_n 2, 1) := by decide +kernel
theorem dMO_degreeIn_23 : decode bMO_degreeIn 23 = .ok (.if_icmp .ne 17, 3) := by decide +kernel
theorem dMO_degreeIn_26 : decode bMO_degreeIn 26 = .ok (.aload_n 0, 1) := by decide +kernel
theorem dMO_degreeIn_27 : decode bMO_degreeIn 27 = .ok (.iload_n 1, 1) := by decide +kernel
theorem dMO_degreeIn_28 : decode bMO_degreeIn 28 = .ok (.iload 4, 2) := by decide +kernel
theorem dMO_degreeIn_30 : decode bMO_degreeIn 30 = .ok (.invokevirtual 153, 3) := by decide +kernel
theorem dMO_degreeIn_33 : decode bMO_degreeIn 33 = .ok (.ifCond .eq 7, 3) := by decide +kernel
theorem dMO_degreeIn_36 : decode bMO_degreeIn 36 = .ok (.iconst 1, 1) := by decide +kernel
theorem dMO_degreeIn_37 : decode bMO_degreeIn 37 = .ok (.goto 4, 3) := by decide +kernel
theorem dMO_degreeIn_40 : decode bMO_degreeIn 40 = .ok (.iconst 0, 1) := by decide +kernel
theorem dMO_degreeIn_41 : decode bMO_degreeIn 41 = .ok (.iadd, 1) := by decide +kernel
theorem dMO_degreeIn_42 : decode bMO_degreeIn 42 = .ok (.istore_n 3, 1) := by decide +kernel
theorem dMO_degreeIn_43 : decode bMO_degreeIn 43 = .ok (.iinc 4 1, 3) := by decide +kernel
theorem dMO_degreeIn_46 : decode bMO_degreeIn 46 = .ok (.goto (-41), 3) := by decide +kernel
theorem dMO_degreeIn_49 : decode bMO_degreeIn 49 = .ok (.iload_n 3, 1) := by decide +kernel
theorem dMO_degreeIn_50 : decode bMO_degreeIn 50 = .ok (.ireturn, 1) := by decide +kernel
theorem dMO_isEnd_0 : decode bMO_isEnd 0 = .ok (.aload_n 0, 1) := by decide +kernel
theorem dMO_isEnd_1 : decode bMO_isEnd 1 = .ok (.getfield 7, 3) := by decide +kernel
theorem dMO_isEnd_4 : decode bMO_isEnd 4 = .ok (.iload_n 2, 1) := by decide +kernel
theorem dMO_isEnd_5 : decode bMO_isEnd 5 = .ok (.iaload, 1) := by decide +kernel
theorem dMO_isEnd_6 : decode bMO_isEnd 6 = .ok (.iload_n 1, 1) := by decide +kernel
theorem dMO_isEnd_7 : decode bMO_isEnd 7 = .ok (.if_icmp .eq 13, 3) := by decide +kernel
theorem dMO_isEnd_10 : decode bMO_isEnd 10 = .ok (.aload_n 0, 1) := by decide +kernel
theorem dMO_isEnd_11 : decode bMO_isEnd 11 = .ok (.getfield 13, 3) := by decide +kernel
theorem dMO_isEnd_14 : decode bMO_isEnd 14 = .ok (.iload_n 2, 1) := by decide +kernel
theorem dMO_isEnd_15 : decode bMO_isEnd 15 = .ok (.iaload, 1) := by decide +kernel
theorem dMO_isEnd_16 : decode bMO_isEnd 16 = .ok (.iload_n 1, 1) := by decide +kernel
theorem dMO_isEnd_17 : decode bMO_isEnd 17 = .ok (.if_icmp .ne 7, 3) := by decide +kernel
theorem dMO_isEnd_20 : decode bMO_isEnd 20 = .ok (.iconst 1, 1) := by decide +kernel
theorem dMO_isEnd_21 : decode bMO_isEnd 21 = .ok (.goto 4, 3) := by decide +kernel
theorem dMO_isEnd_24 : decode bMO_isEnd 24 = .ok (.iconst 0, 1) := by decide +kernel
theorem dMO_isEnd_25 : decode bMO_isEnd 25 = .ok (.ireturn, 1) := by decide +kernel
theorem dMO_linksIn_0 : decode bMO_linksIn 0 = .ok (.iconst 0, 1) := by decide +kernel
theorem dMO_linksIn_1 : decode bMO_linksIn 1 = .ok (.istore_n 2, 1) := by decide +kernel
theorem dMO_linksIn_2 : decode bMO_linksIn 2 = .ok (.iconst 0, 1) := by decide +kernel
theorem dMO_linksIn_3 : decode bMO_linksIn 3 = .ok (.istore_n 3, 1) := by decide +kernel
theorem dMO_linksIn_4 : decode bMO_linksIn 4 = .ok (.iload_n 3, 1) := by decide +kernel
theorem dMO_linksIn_5 : decode bMO_linksIn 5 = .ok (.aload_n 0, 1) := by decide +kernel
theorem dMO_linksIn_6 : decode bMO_linksIn 6 = .ok (.getfield 132, 3) := by decide +kernel
theorem dMO_linksIn_9 : decode bMO_linksIn 9 = .ok (.if_icmp .ge 27, 3) := by decide +kernel
theorem dMO_linksIn_12 : decode bMO_linksIn 12 = .ok (.iload_n 2, 1) := by decide +kernel
theorem dMO_linksIn_13 : decode bMO_linksIn 13 = .ok (.aload_n 0, 1) := by decide +kernel
theorem dMO_linksIn_14 : decode bMO_linksIn 14 = .ok (.getfield 16, 3) := by decide +kernel
theorem dMO_linksIn_17 : decode bMO_linksIn 17 = .ok (.iload_n 3, 1) := by decide +kernel
theorem dMO_linksIn_18 : decode bMO_linksIn 18 = .ok (.iaload, 1) := by decide +kernel
theorem dMO_linksIn_19 : decode bMO_linksIn 19 = .ok (.iload_n 1, 1) := by decide +kernel
theorem dMO_linksIn_20 : decode bMO_linksIn 20 = .ok (.if_icmp .ne 7, 3) := by decide +kernel
theorem dMO_linksIn_23 : decode bMO_linksIn 23 = .ok (.iconst 1, 1) := by decide +kernel
theorem dMO_linksIn_24 : decode bMO_linksIn 24 = .ok (.goto 4, 3) := by decide +kernel
theorem dMO_linksIn_27 : decode bMO_linksIn 27 = .ok (.iconst 0, 1) := by decide +kernel
theorem dMO_linksIn_28 : decode bMO_linksIn 28 = .ok (.iadd, 1) := by decide +kernel
theorem dMO_linksIn_29 : decode bMO_linksIn 29 = .ok (.istore_n 2, 1) := by decide +kernel
theorem dMO_linksIn_30 : decode bMO_linksIn 30 = .ok (.iinc 3 1, 3) := by decide +kernel
theorem dMO_linksIn_33 : decode bMO_linksIn 33 = .ok (.goto (-29), 3) := by decide +kernel
theorem dMO_linksIn_36 : decode bMO_linksIn 36 = .ok (.iload_n 2, 1) := by decide +kernel
theorem dMO_linksIn_37 : decode bMO_linksIn 37 = .ok (.ireturn, 1) := by decide +kernel
/-- the port of bridge br at link lk, or -1 -/
def zport (fA fB : Nat → Nat) (br lk : Nat) : Int32 := if fA lk = br then nI (2 * lk) else if fB lk = br then nI (2 * lk + 1) else -1
theorem zport_a {fA fB : Nat → Nat} {br lk : Nat} (h1 : fA lk < 48) (h2 : br < 48) (c : nI (fA lk) = nI br) : nI (2 * lk) = zport fA fB br lk := by
  unfold zport
  rw [if_pos (nI_inj (by omega) (by omega) c)]
theorem zport_b {fA fB : Nat → Nat} {br lk : Nat} (h1 : fB lk < 48) (h2 : br < 48) (c : ¬ nI (fA lk) = nI br) (c2 : nI (fB lk) = nI br) : nI (2 * lk + 1) = zport fA fB br lk := by
  unfold zport
  rw [if_neg (fun e => c (by rw [e])), if_pos (nI_inj (by omega) (by omega) c2)]
theorem zport_n {fA fB : Nat → Nat} {br lk : Nat} (c : ¬ nI (fA lk) = nI br) (c2 : ¬ nI (fB lk) = nI br) : -1 = zport fA fB br lk := by
  unfold zport
  rw [if_neg (fun e => c (by rw [e])), if_neg (fun e => c2 (by rw [e]))]
theorem zport_idx {fA fB : Nat → Nat} {br lk : Nat} (h : lk < 60) : zidx 120 (zport fA fB br lk) := by
  unfold zport
  split
  · exact Or.inr ⟨2 * lk, by omega, rfl⟩
  · split
    · exact Or.inr ⟨2 * lk + 1, by omega, rfl⟩
    · exact Or.inl rfl
theorem zport_ne {fA fB : Nat → Nat} {br lk : Nat} (h : lk < 60) : zport fA fB br lk ≠ -1 ↔ (fA lk = br ∨ fB lk = br) := by
  unfold zport
  by_cases h1 : fA lk = br
  · simp only [h1, if_true, true_or, iff_true]
    exact nI_ne (by omega)
  · by_cases h2 : fB lk = br
    · simp only [h1, h2, if_false, if_true, or_true, iff_true]
      exact nI_ne (by omega)
    · simp [h1, h2]
theorem zb1 {r : Int32} {A B : Prop} (h : (r = 1 ∧ A) ∨ (r = 0 ∧ B)) (c : r = 0) : B := by
  rcases h with ⟨h1, -⟩ | ⟨-, h2⟩
  · rw [c] at h1; exact absurd h1 (by decide)
  · exact h2
theorem zb0 {r : Int32} {A B : Prop} (h : (r = 1 ∧ A) ∨ (r = 0 ∧ B)) (c : ¬ r = 0) : A := by
  rcases h with ⟨-, h2⟩ | ⟨h1, -⟩
  · exact h2
  · exact absurd h1 c
theorem zbef_0 {a b : Nat} (h1 : a < 6) (h2 : b ≤ 6) (c : nI b ≤ nI a) (h : a < b) : False := nI_ge h (by omega) c
theorem zbef_1 {a b : Nat} (h1 : a < 6) (h2 : b ≤ 6) (c : ¬ nI b ≤ nI a) : a < b := by
  rcases Nat.lt_or_ge a b with h | h
  · exact h
  · exact absurd (nI_le h (by omega)) c
/-- how many of the first k links of ring rg have an end at bridge br -/
def zdeg (fA fB fR : Nat → Nat) (br rg : Nat) : Nat → Nat
  | 0 => 0
  | k + 1 => zdeg fA fB fR br rg k + (if fR k = rg ∧ (fA k = br ∨ fB k = br) then 1 else 0)
theorem zdeg_le {fA fB fR : Nat → Nat} {br rg : Nat} : ∀ k, zdeg fA fB fR br rg k ≤ k
  | 0 => Nat.le_refl _
  | k + 1 => by
    have := zdeg_le (fA := fA) (fB := fB) (fR := fR) (br := br) (rg := rg) k
    unfold zdeg
    split <;> omega
theorem zdeg_0 {fA fB fR : Nat → Nat} {br rg k : Nat} (h1 : fR k < 6) (h2 : rg < 6) (c : ¬ nI (fR k) = nI rg) : nI (zdeg fA fB fR br rg k) = nI (zdeg fA fB fR br rg (k + 1)) := by
  have h : ¬ (fR k = rg ∧ (fA k = br ∨ fB k = br)) := fun e => c (by rw [e.1])
  rw [zdeg, if_neg h, Nat.add_zero]
theorem zdeg_1 {fA fB fR : Nat → Nat} {br rg k : Nat} (hk : k < 60) (c : nI (fR k) = nI rg) (c2 : zport fA fB br k = -1) : nI (zdeg fA fB fR br rg k) = nI (zdeg fA fB fR br rg (k + 1)) := by
  have h : ¬ (fR k = rg ∧ (fA k = br ∨ fB k = br)) := fun e => (zport_ne hk).mpr e.2 c2
  rw [zdeg, if_neg h, Nat.add_zero]
theorem zdeg_2 {fA fB fR : Nat → Nat} {br rg k : Nat} (h1 : fR k < 6) (h2 : rg < 6) (hk : k < 60) (c : nI (fR k) = nI rg) (c2 : ¬ zport fA fB br k = -1) : nI (zdeg fA fB fR br rg k + 1) = nI (zdeg fA fB fR br rg (k + 1)) := by
  have h : fR k = rg ∧ (fA k = br ∨ fB k = br) := ⟨nI_inj (by omega) (by omega) c, (zport_ne hk).mp c2⟩
  rw [zdeg, if_pos h]
theorem zend {a b br : Nat} (h1 : a < 48) (h2 : b < 48) (h3 : br < 48) (c : nI a = nI br ∨ nI b = nI br) : a = br ∨ b = br := c.elim (fun h => Or.inl (nI_inj (by omega) (by omega) h)) (fun h => Or.inr (nI_inj (by omega) (by omega) h))
theorem zdegm_0 {fA fB fR : Nat → Nat} {br rg k : Nat} (c : ¬ nI (fR k) = nI rg) : nI (zdeg fA fB fR br rg k + 0) = nI (zdeg fA fB fR br rg (k + 1)) := by
  have h : ¬ (fR k = rg ∧ (fA k = br ∨ fB k = br)) := fun e => c (by rw [e.1])
  rw [zdeg, if_neg h]
theorem zdegm_1 {fA fB fR : Nat → Nat} {br rg k : Nat} (c : ¬ (fA k = br ∨ fB k = br)) : nI (zdeg fA fB fR br rg k + 0) = nI (zdeg fA fB fR br rg (k + 1)) := by
  have h : ¬ (fR k = rg ∧ (fA k = br ∨ fB k = br)) := fun e => c e.2
  rw [zdeg, if_neg h]
theorem zdegm_2 {fA fB fR : Nat → Nat} {br rg k : Nat} (h1 : fR k < 6) (h2 : rg < 6) (c : nI (fR k) = nI rg) (c2 : fA k = br ∨ fB k = br) : nI (zdeg fA fB fR br rg k + 1) = nI (zdeg fA fB fR br rg (k + 1)) := by
  have h : fR k = rg ∧ (fA k = br ∨ fB k = br) := ⟨nI_inj (by omega) (by omega) c, c2⟩
  rw [zdeg, if_pos h]
theorem zupdI {f : Nat → Int32} {k : Nat} (hk : k < 2 ^ 31) (hf : ∀ j, j < k → f j = nI j) : ∀ j, j < k + 1 → upd f (nI k).toNatClampNeg (nI k) j = nI j := fun j hj => by
  rw [nI_clamp hk]
  unfold upd
  by_cases e : j = k
  · rw [if_pos e, e]
  · rw [if_neg e]; exact hf j (by omega)
/-- how many of the first k links are of ring rg -/
def zcnt (fR : Nat → Nat) (rg : Nat) : Nat → Nat
  | 0 => 0
  | k + 1 => zcnt fR rg k + (if fR k = rg then 1 else 0)
theorem zcnt_0 {fR : Nat → Nat} {rg k : Nat} (c : ¬ nI (fR k) = nI rg) : nI (zcnt fR rg k + 0) = nI (zcnt fR rg (k + 1)) := by
  rw [zcnt, if_neg (fun e => c (by rw [e]))]
theorem zcnt_1 {fR : Nat → Nat} {rg k : Nat} (h1 : fR k < 6) (h2 : rg < 6) (c : nI (fR k) = nI rg) : nI (zcnt fR rg k + 1) = nI (zcnt fR rg (k + 1)) := by
  rw [zcnt, if_pos (nI_inj (by omega) (by omega) c)]
theorem zcnt_pos {fR : Nat → Nat} {rg : Nat} : ∀ k, 0 < zcnt fR rg k ↔ ∃ j, j < k ∧ fR j = rg
  | 0 => ⟨fun h => absurd h (Nat.lt_irrefl _), fun ⟨j, h, _⟩ => absurd h (Nat.not_lt_zero _)⟩
  | k + 1 => by
    have ih := zcnt_pos (fR := fR) (rg := rg) k
    unfold zcnt
    by_cases h : fR k = rg
    · rw [if_pos h]
      exact ⟨fun _ => ⟨k, Nat.lt_succ_self k, h⟩, fun _ => Nat.succ_pos _⟩
    · rw [if_neg h, Nat.add_zero, ih]
      exact ⟨fun ⟨j, a, b⟩ => ⟨j, Nat.lt_succ_of_lt a, b⟩, fun ⟨j, a, b⟩ => ⟨j, Nat.lt_of_le_of_ne (Nat.le_of_lt_succ a) (fun e => h (by rw [← e]; exact b)), b⟩⟩
