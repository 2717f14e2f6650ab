def T_RG : u_T := fun k => match k with
  | 0 => ("RingGuard", "plan", "LRingGuard$Plan;", true)
  | 1 => ("RingGuard", "wires", "LRingGuard$Wires;", true)
  | 2 => ("RingGuard", "tables", "LRingGuard$Tables;", true)
  | 3 => ("RingGuard", "protocol", "LRingGuard$Protocol;", true)
  | 4 => ("RingGuard", "frames", "LRingGuard$Frames;", true)
  | 5 => ("RingGuard", "groups", "LRingGuard$Groups;", true)
  | 6 => ("RingGuard", "started", "Z", false)
  | 7 => ("RingGuard", "ticksInAll", "I", false)
  | 8 => ("RingGuard", "calmTicks", "I", false)
  | 9 => ("RingGuard", "stirsSeen", "I", false)
  | 10 => ("RingGuard", "circleNow", "Z", false)
  | 11 => ("RingGuard", "circleCount", "I", false)
  | _ => ("RingGuard", "apartCount", "I", false)
def ty_RG : Nat → FieldType := fun k => match k with
  | 0 => .object "RingGuard$Plan"
  | 1 => .object "RingGuard$Wires"
  | 2 => .object "RingGuard$Tables"
  | 3 => .object "RingGuard$Protocol"
  | 4 => .object "RingGuard$Frames"
  | 5 => .object "RingGuard$Groups"
  | 6 => .boolean
  | 7 => .int
  | 8 => .int
  | 9 => .int
  | 10 => .boolean
  | 11 => .int
  | _ => .int
theorem nm_RG : ∀ a, a < 13 → ∀ b, b < 13 → a ≠ b → (T_RG a).2.1 ≠ (T_RG b).2.1 := by decide +kernel
theorem ok_RG : ∀ k, k < 13 → parseFieldDescriptor (T_RG k).2.2.1 = some (ty_RG k) := by decide +kernel
theorem zd_RG : ∀ j, j < 13 → defaultValue (ty_RG j) = vp_V [.null, .null, .null, .null, .null, .null, .int 0, .int 0, .int 0, .int 0, .int 0, .int 0, .int 0] j := by decide +kernel
theorem zU_RG : (u_ws "RingGuard" T_RG 13).all (fun w => decide (w ∈ zT) && tq_ok w) = true := by decide +kernel
def T_PL : u_T := fun k => match k with
  | 0 => ("RingGuard$Plan", "bridgeCount", "I", false)
  | 1 => ("RingGuard$Plan", "linkCount", "I", false)
  | 2 => ("RingGuard$Plan", "firstOf", "[I", true)
  | 3 => ("RingGuard$Plan", "secondOf", "[I", true)
  | 4 => ("RingGuard$Plan", "ringOf", "[I", true)
  | 5 => ("RingGuard$Plan", "ownerBridge", "[I", true)
  | 6 => ("RingGuard$Plan", "ownerLink", "[I", true)
  | 7 => ("RingGuard$Plan", "placeOf", "[I", true)
  | 8 => ("RingGuard$Plan", "ownerPort", "[I", true)
  | 9 => ("RingGuard$Plan", "portsAt", "[I", true)
  | _ => ("RingGuard$Plan", "closedRing", "[Z", true)
def ty_PL : Nat → FieldType := fun k => match k with
  | 0 => .int
  | 1 => .int
  | 2 => .array .int
  | 3 => .array .int
  | 4 => .array .int
  | 5 => .array .int
  | 6 => .array .int
  | 7 => .array .int
  | 8 => .array .int
  | 9 => .array .int
  | _ => .array .boolean
theorem nm_PL : ∀ a, a < 11 → ∀ b, b < 11 → a ≠ b → (T_PL a).2.1 ≠ (T_PL b).2.1 := by decide +kernel
theorem ok_PL : ∀ k, k < 11 → parseFieldDescriptor (T_PL k).2.2.1 = some (ty_PL k) := by decide +kernel
theorem zd_PL : ∀ j, j < 11 → defaultValue (ty_PL j) = vp_V [.int 0, .int 0, .null, .null, .null, .null, .null, .null, .null, .null, .null] j := by decide +kernel
theorem zU_PL : (u_ws "RingGuard$Plan" T_PL 11).all (fun w => decide (w ∈ zT) && tq_ok w) = true := by decide +kernel
def T_WI : u_T := fun k => match k with
  | 0 => ("RingGuard$Wires", "arriving", "[I", false)
  | 1 => ("RingGuard$Wires", "arrivingCount", "[I", false)
  | 2 => ("RingGuard$Wires", "leaving", "[I", false)
  | 3 => ("RingGuard$Wires", "leavingCount", "[I", false)
  | 4 => ("RingGuard$Wires", "toLose", "[I", true)
  | _ => ("RingGuard$Wires", "lostCount", "I", false)
def ty_WI : Nat → FieldType := fun k => match k with
  | 0 => .array .int
  | 1 => .array .int
  | 2 => .array .int
  | 3 => .array .int
  | 4 => .array .int
  | _ => .int
theorem nm_WI : ∀ a, a < 6 → ∀ b, b < 6 → a ≠ b → (T_WI a).2.1 ≠ (T_WI b).2.1 := by decide +kernel
theorem ok_WI : ∀ k, k < 6 → parseFieldDescriptor (T_WI k).2.2.1 = some (ty_WI k) := by decide +kernel
theorem zd_WI : ∀ j, j < 6 → defaultValue (ty_WI j) = vp_V [.null, .null, .null, .null, .null, .int 0] j := by decide +kernel
theorem zU_WI : (u_ws "RingGuard$Wires" T_WI 6).all (fun w => decide (w ∈ zT) && tq_ok w) = true := by decide +kernel
def T_TA : u_T := fun k => match k with
  | _ => ("RingGuard$Tables", "entries", "[[I", true)
def ty_TA : Nat → FieldType := fun k => match k with
  | _ => .array (.array .int)
theorem nm_TA : ∀ a, a < 1 → ∀ b, b < 1 → a ≠ b → (T_TA a).2.1 ≠ (T_TA b).2.1 := by decide +kernel
theorem ok_TA : ∀ k, k < 1 → parseFieldDescriptor (T_TA k).2.2.1 = some (ty_TA k) := by decide +kernel
theorem zd_TA : ∀ j, j < 1 → defaultValue (ty_TA j) = vp_V [.null] j := by decide +kernel
theorem zU_TA : (u_ws "RingGuard$Tables" T_TA 1).all (fun w => decide (w ∈ zT) && tq_ok w) = true := by decide +kernel
def T_PR : u_T := fun k => match k with
  | 0 => ("RingGuard$Protocol", "plan", "LRingGuard$Plan;", true)
  | 1 => ("RingGuard$Protocol", "wires", "LRingGuard$Wires;", true)
  | 2 => ("RingGuard$Protocol", "tables", "LRingGuard$Tables;", true)
  | 3 => ("RingGuard$Protocol", "holdsOf", "[I", true)
  | 4 => ("RingGuard$Protocol", "guard", "[I", true)
  | 5 => ("RingGuard$Protocol", "phase", "[I", true)
  | 6 => ("RingGuard$Protocol", "clock", "[I", true)
  | 7 => ("RingGuard$Protocol", "timesTaken", "[I", true)
  | 8 => ("RingGuard$Protocol", "timesFailed", "[I", true)
  | 9 => ("RingGuard$Protocol", "timesCommanded", "[I", true)
  | 10 => ("RingGuard$Protocol", "greatestTold", "[I", true)
  | 11 => ("RingGuard$Protocol", "flushCount", "[I", true)
  | 12 => ("RingGuard$Protocol", "stirs", "I", false)
  | _ => ("RingGuard$Protocol", "holdsChanged", "Z", false)
def ty_PR : Nat → FieldType := fun k => match k with
  | 0 => .object "RingGuard$Plan"
  | 1 => .object "RingGuard$Wires"
  | 2 => .object "RingGuard$Tables"
  | 3 => .array .int
  | 4 => .array .int
  | 5 => .array .int
  | 6 => .array .int
  | 7 => .array .int
  | 8 => .array .int
  | 9 => .array .int
  | 10 => .array .int
  | 11 => .array .int
  | 12 => .int
  | _ => .boolean
theorem nm_PR : ∀ a, a < 14 → ∀ b, b < 14 → a ≠ b → (T_PR a).2.1 ≠ (T_PR b).2.1 := by decide +kernel
theorem ok_PR : ∀ k, k < 14 → parseFieldDescriptor (T_PR k).2.2.1 = some (ty_PR k) := by decide +kernel
theorem zd_PR : ∀ j, j < 14 → defaultValue (ty_PR j) = vp_V [.null, .null, .null, .null, .null, .null, .null, .null, .null, .null, .null, .null, .int 0, .int 0] j := by decide +kernel
theorem zU_PR : (u_ws "RingGuard$Protocol" T_PR 14).all (fun w => decide (w ∈ zT) && tq_ok w) = true := by decide +kernel
def T_FR : u_T := fun k => match k with
  | 0 => ("RingGuard$Frames", "plan", "LRingGuard$Plan;", true)
  | 1 => ("RingGuard$Frames", "protocol", "LRingGuard$Protocol;", true)
  | 2 => ("RingGuard$Frames", "tables", "LRingGuard$Tables;", true)
  | 3 => ("RingGuard$Frames", "bridgeOfHost", "[I", true)
  | 4 => ("RingGuard$Frames", "stepBridge", "[I", true)
  | 5 => ("RingGuard$Frames", "stepLink", "[I", true)
  | 6 => ("RingGuard$Frames", "stepCount", "I", false)
  | 7 => ("RingGuard$Frames", "passes", "[I", true)
  | _ => ("RingGuard$Frames", "mostPasses", "I", false)
def ty_FR : Nat → FieldType := fun k => match k with
  | 0 => .object "RingGuard$Plan"
  | 1 => .object "RingGuard$Protocol"
  | 2 => .object "RingGuard$Tables"
  | 3 => .array .int
  | 4 => .array .int
  | 5 => .array .int
  | 6 => .int
  | 7 => .array .int
  | _ => .int
theorem nm_FR : ∀ a, a < 9 → ∀ b, b < 9 → a ≠ b → (T_FR a).2.1 ≠ (T_FR b).2.1 := by decide +kernel
theorem ok_FR : ∀ k, k < 9 → parseFieldDescriptor (T_FR k).2.2.1 = some (ty_FR k) := by decide +kernel
theorem zd_FR : ∀ j, j < 9 → defaultValue (ty_FR j) = vp_V [.null, .null, .null, .null, .null, .null, .int 0, .null, .int 0] j := by decide +kernel
theorem zU_FR : (u_ws "RingGuard$Frames" T_FR 9).all (fun w => decide (w ∈ zT) && tq_ok w) = true := by decide +kernel
def T_GR : u_T := fun k => match k with
  | 0 => ("RingGuard$Groups", "group", "[I", true)
  | 1 => ("RingGuard$Groups", "groupCount", "I", false)
  | _ => ("RingGuard$Groups", "size", "I", false)
def ty_GR : Nat → FieldType := fun k => match k with
  | 0 => .array .int
  | 1 => .int
  | _ => .int
theorem nm_GR : ∀ a, a < 3 → ∀ b, b < 3 → a ≠ b → (T_GR a).2.1 ≠ (T_GR b).2.1 := by decide +kernel
theorem ok_GR : ∀ k, k < 3 → parseFieldDescriptor (T_GR k).2.2.1 = some (ty_GR k) := by decide +kernel
theorem zd_GR : ∀ j, j < 3 → defaultValue (ty_GR j) = vp_V [.null, .int 0, .int 0] j := by decide +kernel
theorem zU_GR : (u_ws "RingGuard$Groups" T_GR 3).all (fun w => decide (w ∈ zT) && tq_ok w) = true := by decide +kernel
def T_MO : u_T := fun k => match k with
  | 0 => ("RingGuardModel", "code", "I", false)
  | 1 => ("RingGuardModel", "started", "Z", false)
  | 2 => ("RingGuardModel", "bridges", "I", false)
  | 3 => ("RingGuardModel", "links", "I", false)
  | 4 => ("RingGuardModel", "first", "[I", true)
  | 5 => ("RingGuardModel", "second", "[I", true)
  | 6 => ("RingGuardModel", "ringOf", "[I", true)
  | 7 => ("RingGuardModel", "failed", "[Z", true)
  | 8 => ("RingGuardModel", "failures", "[I", true)
  | 9 => ("RingGuardModel", "toLose", "[I", true)
  | 10 => ("RingGuardModel", "hold", "[I", true)
  | 11 => ("RingGuardModel", "owner", "[I", true)
  | 12 => ("RingGuardModel", "protection", "[I", true)
  | 13 => ("RingGuardModel", "isClosed", "[Z", true)
  | 14 => ("RingGuardModel", "clock", "[I", true)
  | 15 => ("RingGuardModel", "taken", "[I", true)
  | 16 => ("RingGuardModel", "portLink", "[I", true)
  | 17 => ("RingGuardModel", "guard", "[I", true)
  | 18 => ("RingGuardModel", "phase", "[I", true)
  | 19 => ("RingGuardModel", "command", "[I", true)
  | 20 => ("RingGuardModel", "commandLink", "[I", true)
  | 21 => ("RingGuardModel", "commands", "[I", true)
  | 22 => ("RingGuardModel", "flushes", "[I", true)
  | 23 => ("RingGuardModel", "told", "[I", true)
  | 24 => ("RingGuardModel", "over", "[I", true)
  | 25 => ("RingGuardModel", "when", "[I", true)
  | 26 => ("RingGuardModel", "places", "[I", true)
  | 27 => ("RingGuardModel", "count", "[I", true)
  | 28 => ("RingGuardModel", "kinds", "[I", true)
  | 29 => ("RingGuardModel", "sources", "[I", true)
  | 30 => ("RingGuardModel", "names", "[I", true)
  | 31 => ("RingGuardModel", "numbers", "[I", true)
  | 32 => ("RingGuardModel", "comingCount", "[I", true)
  | 33 => ("RingGuardModel", "comingKinds", "[I", true)
  | 34 => ("RingGuardModel", "comingSources", "[I", true)
  | 35 => ("RingGuardModel", "comingNames", "[I", true)
  | 36 => ("RingGuardModel", "comingNumbers", "[I", true)
  | 37 => ("RingGuardModel", "now", "I", false)
  | 38 => ("RingGuardModel", "lost", "I", false)
  | 39 => ("RingGuardModel", "visits", "I", false)
  | 40 => ("RingGuardModel", "quiet", "I", false)
  | 41 => ("RingGuardModel", "stirred", "Z", false)
  | 42 => ("RingGuardModel", "circles", "I", false)
  | 43 => ("RingGuardModel", "apart", "I", false)
  | 44 => ("RingGuardModel", "group", "[I", true)
  | 45 => ("RingGuardModel", "degree", "[I", true)
  | 46 => ("RingGuardModel", "wayBridge", "[I", true)
  | 47 => ("RingGuardModel", "wayLink", "[I", true)
  | 48 => ("RingGuardModel", "saidKind", "I", false)
  | 49 => ("RingGuardModel", "saidSource", "I", false)
  | 50 => ("RingGuardModel", "saidName", "I", false)
  | 51 => ("RingGuardModel", "saidNumber", "I", false)
  | _ => ("RingGuardModel", "crossed", "[I", true)
def ty_MO : Nat → FieldType := fun k => match k with
  | 0 => .int
  | 1 => .boolean
  | 2 => .int
  | 3 => .int
  | 4 => .array .int
  | 5 => .array .int
  | 6 => .array .int
  | 7 => .array .boolean
  | 8 => .array .int
  | 9 => .array .int
  | 10 => .array .int
  | 11 => .array .int
  | 12 => .array .int
  | 13 => .array .boolean
  | 14 => .array .int
  | 15 => .array .int
  | 16 => .array .int
  | 17 => .array .int
  | 18 => .array .int
  | 19 => .array .int
  | 20 => .array .int
  | 21 => .array .int
  | 22 => .array .int
  | 23 => .array .int
  | 24 => .array .int
  | 25 => .array .int
  | 26 => .array .int
  | 27 => .array .int
  | 28 => .array .int
  | 29 => .array .int
  | 30 => .array .int
  | 31 => .array .int
  | 32 => .array .int
  | 33 => .array .int
  | 34 => .array .int
  | 35 => .array .int
  | 36 => .array .int
  | 37 => .int
  | 38 => .int
  | 39 => .int
  | 40 => .int
  | 41 => .boolean
  | 42 => .int
  | 43 => .int
  | 44 => .array .int
  | 45 => .array .int
  | 46 => .array .int
  | 47 => .array .int
  | 48 => .int
  | 49 => .int
  | 50 => .int
  | 51 => .int
  | _ => .array .int
theorem nm_MO : ∀ a, a < 53 → ∀ b, b < 53 → a ≠ b → (T_MO a).2.1 ≠ (T_MO b).2.1 := by decide +kernel
theorem ok_MO : ∀ k, k < 53 → parseFieldDescriptor (T_MO k).2.2.1 = some (ty_MO k) := by decide +kernel
theorem zd_MO : ∀ j, j < 53 → defaultValue (ty_MO j) = vp_V [.int 0, .int 0, .int 0, .int 0, .null, .null, .null, .null, .null, .null, .null, .null, .null, .null, .null, .null, .null, .null, .null, .null, .null, .null, .null, .null, .null, .null, .null, .null, .null, .null, .null, .null, .null, .null, .null, .null, .null, .int 0, .int 0, .int 0, .int 0, .int 0, .int 0, .int 0, .null, .null, .null, .null, .int 0, .int 0, .int 0, .int 0, .null] j := by decide +kernel
theorem zU_MO : (u_ws "RingGuardModel" T_MO 53).all (fun w => decide (w ∈ zT) && tq_ok w) = true := by decide +kernel
abbrev zCl : List vw_C := [("RingGuard", T_RG, 13), ("RingGuard$Plan", T_PL, 11), ("RingGuard$Wires", T_WI, 6), ("RingGuard$Tables", T_TA, 1), ("RingGuard$Protocol", T_PR, 14), ("RingGuard$Frames", T_FR, 9), ("RingGuard$Groups", T_GR, 3), ("RingGuardModel", T_MO, 53)]
theorem zO_66 : (Bundle.ownAtoms "RingGuard" 66 "java/lang/IllegalStateException" ["java/lang/RuntimeException", "java/lang/Exception"]).all (fun w => decide (w ∈ zT) && tq_ok w) = true := by decide +kernel
theorem zO_80 : (Bundle.ownAtoms "RingGuard" 80 "java/lang/IllegalArgumentException" ["java/lang/RuntimeException", "java/lang/Exception"]).all (fun w => decide (w ∈ zT) && tq_ok w) = true := by decide +kernel
theorem k1_1 : tables_1_1[1]? = some (Jvm.Cond.initialized "RingGuard") := by decide +kernel
theorem k1_2 : tables_1_1[2]? = some (Jvm.Cond.initialized "RingGuard$Plan") := by decide +kernel
theorem k1_3 : tables_1_1[3]? = some (Jvm.Cond.initialized "java/util/Arrays") := by decide +kernel
theorem k1_4 : tables_1_1[4]? = some (Jvm.Cond.initialized "RingGuard$Wires") := by decide +kernel
theorem k1_9 : tables_1_1[9]? = some (Jvm.Cond.initialized "RingGuardModel") := by decide +kernel
theorem k1_13 : tables_1_1[13]? = some (Jvm.Cond.initialized "java/lang/IllegalStateException") := by decide +kernel
theorem k1_14 : tables_1_1[14]? = some (Jvm.Cond.initialized "java/lang/IllegalArgumentException") := by decide +kernel
theorem k1_18 : tables_1_1[18]? = some (Jvm.Cond.instantiable "RingGuard" (13 : Nat)) := by decide +kernel
theorem k1_23 : tables_1_1[23]? = some (Jvm.Cond.instanceMethod ({ cls := "java/lang/Object", name := "<init>", desc := "()V" } : Jvm.MethodName)) := by decide +kernel
theorem k1_24 : tables_1_1[24]? = some (Jvm.Cond.code ({ cls := "java/lang/Object", name := "<init>", desc := "()V" } : Jvm.MethodName) object_method_1_code (1 : Nat) (Option.none : Option Jvm.ClassFile.FieldType)) := rfl
theorem k1_30 : tables_1_1[30]? = some (Jvm.Cond.methodLink "RingGuard$Plan" (3 : Nat) ({ cls := "java/lang/Object", name := "<init>", desc := "()V" } : Jvm.MethodName)) := by decide +kernel
theorem k1_31 : tables_1_1[31]? = some (Jvm.Cond.methodLink "RingGuard$Plan" (40 : Nat) ({ cls := "java/util/Arrays", name := "fill", desc := "([II)V" } : Jvm.MethodName)) := by decide +kernel
theorem k1_32 : tables_1_1[32]? = some (Jvm.Cond.static ({ cls := "java/util/Arrays", name := "fill", desc := "([II)V" } : Jvm.MethodName)) := by decide +kernel
theorem k1_33 : tables_1_1[33]? = some (Jvm.Cond.code ({ cls := "java/util/Arrays", name := "fill", desc := "([II)V" } : Jvm.MethodName) prog_18_method_103_code (4 : Nat) (Option.none : Option Jvm.ClassFile.FieldType)) := rfl
theorem k1_34 : tables_1_1[34]? = some (Jvm.Cond.fieldLink "RingGuard" (58 : Nat) "RingGuard$Plan" "bridgeCount" "I") := by decide +kernel
theorem k1_37 : tables_1_1[37]? = some (Jvm.Cond.fieldLink "RingGuard$Plan" (46 : Nat) "RingGuard$Plan" "linkCount" "I") := by decide +kernel
theorem k1_39 : tables_1_1[39]? = some (Jvm.Cond.fieldLink "RingGuard" (81 : Nat) "RingGuard$Plan" "linkCount" "I") := by decide +kernel
theorem k1_41 : tables_1_1[41]? = some (Jvm.Cond.fieldLink "RingGuard$Plan" (9 : Nat) "RingGuard$Plan" "firstOf" "[I") := by decide +kernel
theorem k1_43 : tables_1_1[43]? = some (Jvm.Cond.fieldLink "RingGuard$Plan" (15 : Nat) "RingGuard$Plan" "secondOf" "[I") := by decide +kernel
theorem k1_45 : tables_1_1[45]? = some (Jvm.Cond.fieldLink "RingGuard$Plan" (18 : Nat) "RingGuard$Plan" "ringOf" "[I") := by decide +kernel
theorem k1_47 : tables_1_1[47]? = some (Jvm.Cond.fieldLink "RingGuard$Plan" (21 : Nat) "RingGuard$Plan" "ownerBridge" "[I") := by decide +kernel
theorem k1_49 : tables_1_1[49]? = some (Jvm.Cond.fieldLink "RingGuard$Plan" (24 : Nat) "RingGuard$Plan" "ownerLink" "[I") := by decide +kernel
theorem k1_51 : tables_1_1[51]? = some (Jvm.Cond.fieldLink "RingGuard$Plan" (27 : Nat) "RingGuard$Plan" "placeOf" "[I") := by decide +kernel
theorem k1_54 : tables_1_1[54]? = some (Jvm.Cond.fieldLink "RingGuard$Plan" (30 : Nat) "RingGuard$Plan" "ownerPort" "[I") := by decide +kernel
theorem k1_56 : tables_1_1[56]? = some (Jvm.Cond.fieldLink "RingGuard$Plan" (33 : Nat) "RingGuard$Plan" "portsAt" "[I") := by decide +kernel
theorem k1_58 : tables_1_1[58]? = some (Jvm.Cond.fieldLink "RingGuard$Plan" (36 : Nat) "RingGuard$Plan" "closedRing" "[Z") := by decide +kernel
theorem k1_89 : tables_1_1[89]? = some (Jvm.Cond.methodLink "RingGuard$Wires" (3 : Nat) ({ cls := "java/lang/Object", name := "<init>", desc := "()V" } : Jvm.MethodName)) := by decide +kernel
theorem k1_90 : tables_1_1[90]? = some (Jvm.Cond.fieldLink "RingGuard$Wires" (11 : Nat) "RingGuard$Wires" "arriving" "[I") := by decide +kernel
theorem k1_91 : tables_1_1[91]? = some (Jvm.Cond.fieldLink "RingGuard$Wires" (15 : Nat) "RingGuard$Wires" "arrivingCount" "[I") := by decide +kernel
theorem k1_92 : tables_1_1[92]? = some (Jvm.Cond.fieldLink "RingGuard$Wires" (18 : Nat) "RingGuard$Wires" "leaving" "[I") := by decide +kernel
theorem k1_93 : tables_1_1[93]? = some (Jvm.Cond.fieldLink "RingGuard$Wires" (21 : Nat) "RingGuard$Wires" "leavingCount" "[I") := by decide +kernel
theorem k1_94 : tables_1_1[94]? = some (Jvm.Cond.fieldLink "RingGuard$Wires" (24 : Nat) "RingGuard$Wires" "toLose" "[I") := by decide +kernel
theorem k1_97 : tables_1_1[97]? = some (Jvm.Cond.fieldLink "RingGuard" (223 : Nat) "RingGuard$Wires" "lostCount" "I") := by decide +kernel
theorem k1_129 : tables_1_1[129]? = some (Jvm.Cond.methodLink "RingGuard$Protocol" (3 : Nat) ({ cls := "java/lang/Object", name := "<init>", desc := "()V" } : Jvm.MethodName)) := by decide +kernel
theorem k1_130 : tables_1_1[130]? = some (Jvm.Cond.fieldLink "RingGuard$Protocol" (45 : Nat) "RingGuard$Protocol" "plan" "LRingGuard$Plan;") := by decide +kernel
theorem k1_131 : tables_1_1[131]? = some (Jvm.Cond.fieldLink "RingGuard$Protocol" (49 : Nat) "RingGuard$Protocol" "wires" "LRingGuard$Wires;") := by decide +kernel
theorem k1_132 : tables_1_1[132]? = some (Jvm.Cond.fieldLink "RingGuard$Protocol" (53 : Nat) "RingGuard$Protocol" "tables" "LRingGuard$Tables;") := by decide +kernel
theorem k1_133 : tables_1_1[133]? = some (Jvm.Cond.fieldLink "RingGuard$Protocol" (9 : Nat) "RingGuard$Protocol" "holdsOf" "[I") := by decide +kernel
theorem k1_135 : tables_1_1[135]? = some (Jvm.Cond.fieldLink "RingGuard$Protocol" (15 : Nat) "RingGuard$Protocol" "guard" "[I") := by decide +kernel
theorem k1_137 : tables_1_1[137]? = some (Jvm.Cond.fieldLink "RingGuard$Protocol" (18 : Nat) "RingGuard$Protocol" "phase" "[I") := by decide +kernel
theorem k1_138 : tables_1_1[138]? = some (Jvm.Cond.fieldLink "RingGuard$Protocol" (21 : Nat) "RingGuard$Protocol" "clock" "[I") := by decide +kernel
theorem k1_140 : tables_1_1[140]? = some (Jvm.Cond.fieldLink "RingGuard$Protocol" (24 : Nat) "RingGuard$Protocol" "timesTaken" "[I") := by decide +kernel
theorem k1_141 : tables_1_1[141]? = some (Jvm.Cond.fieldLink "RingGuard$Protocol" (27 : Nat) "RingGuard$Protocol" "timesFailed" "[I") := by decide +kernel
theorem k1_142 : tables_1_1[142]? = some (Jvm.Cond.fieldLink "RingGuard$Protocol" (30 : Nat) "RingGuard$Protocol" "timesCommanded" "[I") := by decide +kernel
theorem k1_143 : tables_1_1[143]? = some (Jvm.Cond.fieldLink "RingGuard$Protocol" (35 : Nat) "RingGuard$Protocol" "greatestTold" "[I") := by decide +kernel
theorem k1_144 : tables_1_1[144]? = some (Jvm.Cond.fieldLink "RingGuard$Protocol" (38 : Nat) "RingGuard$Protocol" "flushCount" "[I") := by decide +kernel
theorem k1_148 : tables_1_1[148]? = some (Jvm.Cond.fieldLink "RingGuard$Protocol" (41 : Nat) "RingGuard$Protocol" "holdsChanged" "Z") := by decide +kernel
theorem k1_184 : tables_1_1[184]? = some (Jvm.Cond.methodLink "RingGuard$Frames" (3 : Nat) ({ cls := "java/lang/Object", name := "<init>", desc := "()V" } : Jvm.MethodName)) := by decide +kernel
theorem k1_185 : tables_1_1[185]? = some (Jvm.Cond.methodLink "RingGuard$Frames" (36 : Nat) ({ cls := "java/util/Arrays", name := "fill", desc := "([II)V" } : Jvm.MethodName)) := by decide +kernel
theorem k1_186 : tables_1_1[186]? = some (Jvm.Cond.fieldLink "RingGuard$Frames" (24 : Nat) "RingGuard$Frames" "plan" "LRingGuard$Plan;") := by decide +kernel
theorem k1_187 : tables_1_1[187]? = some (Jvm.Cond.fieldLink "RingGuard$Frames" (28 : Nat) "RingGuard$Frames" "protocol" "LRingGuard$Protocol;") := by decide +kernel
theorem k1_188 : tables_1_1[188]? = some (Jvm.Cond.fieldLink "RingGuard$Frames" (32 : Nat) "RingGuard$Frames" "tables" "LRingGuard$Tables;") := by decide +kernel
theorem k1_189 : tables_1_1[189]? = some (Jvm.Cond.fieldLink "RingGuard$Frames" (9 : Nat) "RingGuard$Frames" "bridgeOfHost" "[I") := by decide +kernel
theorem k1_190 : tables_1_1[190]? = some (Jvm.Cond.fieldLink "RingGuard" (179 : Nat) "RingGuard$Frames" "bridgeOfHost" "[I") := by decide +kernel
theorem k1_191 : tables_1_1[191]? = some (Jvm.Cond.fieldLink "RingGuard$Frames" (15 : Nat) "RingGuard$Frames" "stepBridge" "[I") := by decide +kernel
theorem k1_192 : tables_1_1[192]? = some (Jvm.Cond.fieldLink "RingGuard$Frames" (18 : Nat) "RingGuard$Frames" "stepLink" "[I") := by decide +kernel
theorem k1_194 : tables_1_1[194]? = some (Jvm.Cond.fieldLink "RingGuard$Frames" (21 : Nat) "RingGuard$Frames" "passes" "[I") := by decide +kernel
theorem k1_196 : tables_1_1[196]? = some (Jvm.Cond.fieldLink "RingGuard" (194 : Nat) "RingGuard$Frames" "mostPasses" "I") := by decide +kernel
theorem k1_221 : tables_1_1[221]? = some (Jvm.Cond.methodLink "RingGuard$Groups" (3 : Nat) ({ cls := "java/lang/Object", name := "<init>", desc := "()V" } : Jvm.MethodName)) := by decide +kernel
theorem k1_222 : tables_1_1[222]? = some (Jvm.Cond.fieldLink "RingGuard$Groups" (9 : Nat) "RingGuard$Groups" "group" "[I") := by decide +kernel
theorem k1_235 : tables_1_1[235]? = some (Jvm.Cond.fieldLink "RingGuard" (12 : Nat) "RingGuard" "plan" "LRingGuard$Plan;") := by decide +kernel
theorem k1_236 : tables_1_1[236]? = some (Jvm.Cond.fieldLink "RingGuard" (19 : Nat) "RingGuard" "wires" "LRingGuard$Wires;") := by decide +kernel
theorem k1_239 : tables_1_1[239]? = some (Jvm.Cond.fieldLink "RingGuard" (44 : Nat) "RingGuard" "frames" "LRingGuard$Frames;") := by decide +kernel
theorem k2_0 : tables_1_2[0]? = some (Jvm.Cond.fieldLink "RingGuard" (51 : Nat) "RingGuard" "groups" "LRingGuard$Groups;") := by decide +kernel
theorem k2_1 : tables_1_2[1]? = some (Jvm.Cond.fieldLink "RingGuard" (104 : Nat) "RingGuard" "started" "Z") := by decide +kernel
theorem k2_6 : tables_1_2[6]? = some (Jvm.Cond.fieldLink "RingGuard" (226 : Nat) "RingGuard" "circleCount" "I") := by decide +kernel
theorem k2_7 : tables_1_2[7]? = some (Jvm.Cond.fieldLink "RingGuard" (229 : Nat) "RingGuard" "apartCount" "I") := by decide +kernel
theorem k2_43 : tables_1_2[43]? = some (Jvm.Cond.methodLink "RingGuard" (220 : Nat) ({ cls := "RingGuard$Wires", name := "countOnLinks", desc := "()I" } : Jvm.MethodName)) := by decide +kernel
theorem k2_44 : tables_1_2[44]? = some (Jvm.Cond.instanceMethod ({ cls := "RingGuard$Wires", name := "countOnLinks", desc := "()I" } : Jvm.MethodName)) := by decide +kernel
theorem k2_45 : tables_1_2[45]? = some (Jvm.Cond.selects "RingGuard$Wires" ({ cls := "RingGuard$Wires", name := "countOnLinks", desc := "()I" } : Jvm.MethodName) ({ cls := "RingGuard$Wires", name := "countOnLinks", desc := "()I" } : Jvm.MethodName)) := by decide +kernel
theorem k2_46 : tables_1_2[46]? = some (Jvm.Cond.code ({ cls := "RingGuard$Wires", name := "countOnLinks", desc := "()I" } : Jvm.MethodName) prog_8_method_7_code (3 : Nat) (Option.some Jvm.ClassFile.FieldType.int)) := rfl
theorem k2_62 : tables_1_2[62]? = some (Jvm.Cond.classLink "RingGuardLaw" (13 : Nat) "java/lang/IllegalStateException") := by decide +kernel
theorem k2_63 : tables_1_2[63]? = some (Jvm.Cond.methodLink "RingGuardLaw" (7 : Nat) ({ cls := "RingGuard", name := "bridge", desc := "()I" } : Jvm.MethodName)) := by decide +kernel
theorem k2_64 : tables_1_2[64]? = some (Jvm.Cond.instanceMethod ({ cls := "RingGuard", name := "bridge", desc := "()I" } : Jvm.MethodName)) := by decide +kernel
theorem k2_65 : tables_1_2[65]? = some (Jvm.Cond.selects "RingGuard" ({ cls := "RingGuard", name := "bridge", desc := "()I" } : Jvm.MethodName) ({ cls := "RingGuard", name := "bridge", desc := "()I" } : Jvm.MethodName)) := by decide +kernel
theorem k2_66 : tables_1_2[66]? = some (Jvm.Cond.code ({ cls := "RingGuard", name := "bridge", desc := "()I" } : Jvm.MethodName) prog_1_method_2_code (2 : Nat) (Option.some Jvm.ClassFile.FieldType.int)) := rfl
theorem k2_67 : tables_1_2[67]? = some (Jvm.Cond.methodLink "RingGuard" (55 : Nat) ({ cls := "RingGuard", name := "requireNotStarted", desc := "()V" } : Jvm.MethodName)) := by decide +kernel
theorem k2_68 : tables_1_2[68]? = some (Jvm.Cond.privateMethod ({ cls := "RingGuard", name := "requireNotStarted", desc := "()V" } : Jvm.MethodName)) := by decide +kernel
theorem k2_69 : tables_1_2[69]? = some (Jvm.Cond.instanceMethod ({ cls := "RingGuard", name := "requireNotStarted", desc := "()V" } : Jvm.MethodName)) := by decide +kernel
theorem k2_70 : tables_1_2[70]? = some (Jvm.Cond.code ({ cls := "RingGuard", name := "requireNotStarted", desc := "()V" } : Jvm.MethodName) prog_1_method_23_code (1 : Nat) (Option.none : Option Jvm.ClassFile.FieldType)) := rfl
theorem k2_71 : tables_1_2[71]? = some (Jvm.Cond.classLink "RingGuard" (62 : Nat) "java/lang/IllegalStateException") := by decide +kernel
theorem k2_73 : tables_1_2[73]? = some (Jvm.Cond.castable "java/lang/IllegalStateException" "java/lang/IllegalStateException") := by decide +kernel
theorem k2_142 : tables_1_2[142]? = some (Jvm.Cond.classLink "RingGuardLaw" (19 : Nat) "java/lang/IllegalArgumentException") := by decide +kernel
theorem k2_143 : tables_1_2[143]? = some (Jvm.Cond.methodLink "RingGuardLaw" (15 : Nat) ({ cls := "RingGuard", name := "link", desc := "(III)I" } : Jvm.MethodName)) := by decide +kernel
theorem k2_144 : tables_1_2[144]? = some (Jvm.Cond.instanceMethod ({ cls := "RingGuard", name := "link", desc := "(III)I" } : Jvm.MethodName)) := by decide +kernel
theorem k2_145 : tables_1_2[145]? = some (Jvm.Cond.selects "RingGuard" ({ cls := "RingGuard", name := "link", desc := "(III)I" } : Jvm.MethodName) ({ cls := "RingGuard", name := "link", desc := "(III)I" } : Jvm.MethodName)) := by decide +kernel
theorem k2_146 : tables_1_2[146]? = some (Jvm.Cond.code ({ cls := "RingGuard", name := "link", desc := "(III)I" } : Jvm.MethodName) prog_1_method_3_code (4 : Nat) (Option.some Jvm.ClassFile.FieldType.int)) := rfl
theorem k2_147 : tables_1_2[147]? = some (Jvm.Cond.methodLink "RingGuard" (69 : Nat) ({ cls := "RingGuard", name := "requireBridge", desc := "(I)V" } : Jvm.MethodName)) := by decide +kernel
theorem k2_148 : tables_1_2[148]? = some (Jvm.Cond.privateMethod ({ cls := "RingGuard", name := "requireBridge", desc := "(I)V" } : Jvm.MethodName)) := by decide +kernel
theorem k2_149 : tables_1_2[149]? = some (Jvm.Cond.instanceMethod ({ cls := "RingGuard", name := "requireBridge", desc := "(I)V" } : Jvm.MethodName)) := by decide +kernel
theorem k2_150 : tables_1_2[150]? = some (Jvm.Cond.code ({ cls := "RingGuard", name := "requireBridge", desc := "(I)V" } : Jvm.MethodName) prog_1_method_25_code (2 : Nat) (Option.none : Option Jvm.ClassFile.FieldType)) := rfl
theorem k2_151 : tables_1_2[151]? = some (Jvm.Cond.classLink "RingGuard" (76 : Nat) "java/lang/IllegalArgumentException") := by decide +kernel
theorem k2_153 : tables_1_2[153]? = some (Jvm.Cond.castable "java/lang/IllegalArgumentException" "java/lang/IllegalArgumentException") := by decide +kernel
theorem k2_160 : tables_1_2[160]? = some (Jvm.Cond.stringRef "RingGuard" (236 : Nat) "no such bridge") := by decide +kernel
theorem k2_167 : tables_1_2[167]? = some (Jvm.Cond.methodLink "RingGuard" (73 : Nat) ({ cls := "RingGuard", name := "requireRing", desc := "(I)V" } : Jvm.MethodName)) := by decide +kernel
theorem k2_168 : tables_1_2[168]? = some (Jvm.Cond.privateMethod ({ cls := "RingGuard", name := "requireRing", desc := "(I)V" } : Jvm.MethodName)) := by decide +kernel
theorem k2_169 : tables_1_2[169]? = some (Jvm.Cond.instanceMethod ({ cls := "RingGuard", name := "requireRing", desc := "(I)V" } : Jvm.MethodName)) := by decide +kernel
theorem k2_170 : tables_1_2[170]? = some (Jvm.Cond.code ({ cls := "RingGuard", name := "requireRing", desc := "(I)V" } : Jvm.MethodName) prog_1_method_28_code (2 : Nat) (Option.none : Option Jvm.ClassFile.FieldType)) := rfl
theorem k2_171 : tables_1_2[171]? = some (Jvm.Cond.stringRef "RingGuard" (242 : Nat) "no such ring") := by decide +kernel
theorem k2_181 : tables_1_2[181]? = some (Jvm.Cond.methodLink "RingGuardLaw" (21 : Nat) ({ cls := "RingGuard", name := "owner", desc := "(III)V" } : Jvm.MethodName)) := by decide +kernel
theorem k2_182 : tables_1_2[182]? = some (Jvm.Cond.instanceMethod ({ cls := "RingGuard", name := "owner", desc := "(III)V" } : Jvm.MethodName)) := by decide +kernel
theorem k2_183 : tables_1_2[183]? = some (Jvm.Cond.selects "RingGuard" ({ cls := "RingGuard", name := "owner", desc := "(III)V" } : Jvm.MethodName) ({ cls := "RingGuard", name := "owner", desc := "(III)V" } : Jvm.MethodName)) := by decide +kernel
theorem k2_184 : tables_1_2[184]? = some (Jvm.Cond.code ({ cls := "RingGuard", name := "owner", desc := "(III)V" } : Jvm.MethodName) prog_1_method_4_code (4 : Nat) (Option.none : Option Jvm.ClassFile.FieldType)) := rfl
theorem k2_185 : tables_1_2[185]? = some (Jvm.Cond.methodLink "RingGuard" (90 : Nat) ({ cls := "RingGuard", name := "requireLink", desc := "(I)V" } : Jvm.MethodName)) := by decide +kernel
theorem k2_186 : tables_1_2[186]? = some (Jvm.Cond.privateMethod ({ cls := "RingGuard", name := "requireLink", desc := "(I)V" } : Jvm.MethodName)) := by decide +kernel
theorem k2_187 : tables_1_2[187]? = some (Jvm.Cond.instanceMethod ({ cls := "RingGuard", name := "requireLink", desc := "(I)V" } : Jvm.MethodName)) := by decide +kernel
theorem k2_188 : tables_1_2[188]? = some (Jvm.Cond.code ({ cls := "RingGuard", name := "requireLink", desc := "(I)V" } : Jvm.MethodName) prog_1_method_26_code (2 : Nat) (Option.none : Option Jvm.ClassFile.FieldType)) := rfl
theorem k2_189 : tables_1_2[189]? = some (Jvm.Cond.stringRef "RingGuard" (238 : Nat) "no such link") := by decide +kernel
theorem k2_193 : tables_1_2[193]? = some (Jvm.Cond.methodLink "RingGuardLaw" (25 : Nat) ({ cls := "RingGuard", name := "start", desc := "()I" } : Jvm.MethodName)) := by decide +kernel
theorem k2_194 : tables_1_2[194]? = some (Jvm.Cond.instanceMethod ({ cls := "RingGuard", name := "start", desc := "()I" } : Jvm.MethodName)) := by decide +kernel
theorem k2_195 : tables_1_2[195]? = some (Jvm.Cond.selects "RingGuard" ({ cls := "RingGuard", name := "start", desc := "()I" } : Jvm.MethodName) ({ cls := "RingGuard", name := "start", desc := "()I" } : Jvm.MethodName)) := by decide +kernel
theorem k2_196 : tables_1_2[196]? = some (Jvm.Cond.code ({ cls := "RingGuard", name := "start", desc := "()I" } : Jvm.MethodName) prog_1_method_5_code (2 : Nat) (Option.some Jvm.ClassFile.FieldType.int)) := rfl
theorem k2_197 : tables_1_2[197]? = some (Jvm.Cond.methodLink "RingGuard" (100 : Nat) ({ cls := "RingGuard$Plan", name := "firstFault", desc := "(LRingGuard$Groups;)I" } : Jvm.MethodName)) := by decide +kernel
theorem k2_198 : tables_1_2[198]? = some (Jvm.Cond.instanceMethod ({ cls := "RingGuard$Plan", name := "firstFault", desc := "(LRingGuard$Groups;)I" } : Jvm.MethodName)) := by decide +kernel
theorem k2_199 : tables_1_2[199]? = some (Jvm.Cond.selects "RingGuard$Plan" ({ cls := "RingGuard$Plan", name := "firstFault", desc := "(LRingGuard$Groups;)I" } : Jvm.MethodName) ({ cls := "RingGuard$Plan", name := "firstFault", desc := "(LRingGuard$Groups;)I" } : Jvm.MethodName)) := by decide +kernel
theorem k2_200 : tables_1_2[200]? = some (Jvm.Cond.code ({ cls := "RingGuard$Plan", name := "firstFault", desc := "(LRingGuard$Groups;)I" } : Jvm.MethodName) prog_5_method_7_code (4 : Nat) (Option.some Jvm.ClassFile.FieldType.int)) := rfl
theorem k3_51 : tables_1_3[51]? = some (Jvm.Cond.methodLink "RingGuardLaw" (28 : Nat) ({ cls := "RingGuard", name := "fail", desc := "(I)Z" } : Jvm.MethodName)) := by decide +kernel
theorem k3_52 : tables_1_3[52]? = some (Jvm.Cond.instanceMethod ({ cls := "RingGuard", name := "fail", desc := "(I)Z" } : Jvm.MethodName)) := by decide +kernel
theorem k3_53 : tables_1_3[53]? = some (Jvm.Cond.selects "RingGuard" ({ cls := "RingGuard", name := "fail", desc := "(I)Z" } : Jvm.MethodName) ({ cls := "RingGuard", name := "fail", desc := "(I)Z" } : Jvm.MethodName)) := by decide +kernel
theorem k3_54 : tables_1_3[54]? = some (Jvm.Cond.code ({ cls := "RingGuard", name := "fail", desc := "(I)Z" } : Jvm.MethodName) prog_1_method_6_code (3 : Nat) (Option.some Jvm.ClassFile.FieldType.boolean)) := rfl
theorem k3_55 : tables_1_3[55]? = some (Jvm.Cond.methodLink "RingGuard" (114 : Nat) ({ cls := "RingGuard", name := "requireStarted", desc := "()V" } : Jvm.MethodName)) := by decide +kernel
theorem k3_56 : tables_1_3[56]? = some (Jvm.Cond.privateMethod ({ cls := "RingGuard", name := "requireStarted", desc := "()V" } : Jvm.MethodName)) := by decide +kernel
theorem k3_57 : tables_1_3[57]? = some (Jvm.Cond.instanceMethod ({ cls := "RingGuard", name := "requireStarted", desc := "()V" } : Jvm.MethodName)) := by decide +kernel
theorem k3_58 : tables_1_3[58]? = some (Jvm.Cond.code ({ cls := "RingGuard", name := "requireStarted", desc := "()V" } : Jvm.MethodName) prog_1_method_24_code (1 : Nat) (Option.none : Option Jvm.ClassFile.FieldType)) := rfl
theorem k3_59 : tables_1_3[59]? = some (Jvm.Cond.stringRef "RingGuard" (234 : Nat) "not started yet") := by decide +kernel
theorem k3_97 : tables_1_3[97]? = some (Jvm.Cond.methodLink "RingGuardLaw" (32 : Nat) ({ cls := "RingGuard", name := "heal", desc := "(I)Z" } : Jvm.MethodName)) := by decide +kernel
theorem k3_98 : tables_1_3[98]? = some (Jvm.Cond.instanceMethod ({ cls := "RingGuard", name := "heal", desc := "(I)Z" } : Jvm.MethodName)) := by decide +kernel
theorem k3_99 : tables_1_3[99]? = some (Jvm.Cond.selects "RingGuard" ({ cls := "RingGuard", name := "heal", desc := "(I)Z" } : Jvm.MethodName) ({ cls := "RingGuard", name := "heal", desc := "(I)Z" } : Jvm.MethodName)) := by decide +kernel
theorem k3_100 : tables_1_3[100]? = some (Jvm.Cond.code ({ cls := "RingGuard", name := "heal", desc := "(I)Z" } : Jvm.MethodName) prog_1_method_7_code (3 : Nat) (Option.some Jvm.ClassFile.FieldType.boolean)) := rfl
theorem k3_112 : tables_1_3[112]? = some (Jvm.Cond.methodLink "RingGuardLaw" (35 : Nat) ({ cls := "RingGuard", name := "lose", desc := "(II)I" } : Jvm.MethodName)) := by decide +kernel
theorem k3_113 : tables_1_3[113]? = some (Jvm.Cond.instanceMethod ({ cls := "RingGuard", name := "lose", desc := "(II)I" } : Jvm.MethodName)) := by decide +kernel
theorem k3_114 : tables_1_3[114]? = some (Jvm.Cond.selects "RingGuard" ({ cls := "RingGuard", name := "lose", desc := "(II)I" } : Jvm.MethodName) ({ cls := "RingGuard", name := "lose", desc := "(II)I" } : Jvm.MethodName)) := by decide +kernel
theorem k3_115 : tables_1_3[115]? = some (Jvm.Cond.code ({ cls := "RingGuard", name := "lose", desc := "(II)I" } : Jvm.MethodName) prog_1_method_8_code (4 : Nat) (Option.some Jvm.ClassFile.FieldType.int)) := rfl
theorem k3_120 : tables_1_3[120]? = some (Jvm.Cond.methodLink "RingGuardLaw" (39 : Nat) ({ cls := "RingGuard", name := "order", desc := "(IIZ)Z" } : Jvm.MethodName)) := by decide +kernel
theorem k3_121 : tables_1_3[121]? = some (Jvm.Cond.instanceMethod ({ cls := "RingGuard", name := "order", desc := "(IIZ)Z" } : Jvm.MethodName)) := by decide +kernel
theorem k3_122 : tables_1_3[122]? = some (Jvm.Cond.selects "RingGuard" ({ cls := "RingGuard", name := "order", desc := "(IIZ)Z" } : Jvm.MethodName) ({ cls := "RingGuard", name := "order", desc := "(IIZ)Z" } : Jvm.MethodName)) := by decide +kernel
theorem k3_123 : tables_1_3[123]? = some (Jvm.Cond.code ({ cls := "RingGuard", name := "order", desc := "(IIZ)Z" } : Jvm.MethodName) prog_1_method_9_code (5 : Nat) (Option.some Jvm.ClassFile.FieldType.boolean)) := rfl
theorem k3_124 : tables_1_3[124]? = some (Jvm.Cond.methodLink "RingGuard" (135 : Nat) ({ cls := "RingGuard", name := "requirePort", desc := "(II)V" } : Jvm.MethodName)) := by decide +kernel
theorem k3_125 : tables_1_3[125]? = some (Jvm.Cond.privateMethod ({ cls := "RingGuard", name := "requirePort", desc := "(II)V" } : Jvm.MethodName)) := by decide +kernel
theorem k3_126 : tables_1_3[126]? = some (Jvm.Cond.instanceMethod ({ cls := "RingGuard", name := "requirePort", desc := "(II)V" } : Jvm.MethodName)) := by decide +kernel
theorem k3_127 : tables_1_3[127]? = some (Jvm.Cond.code ({ cls := "RingGuard", name := "requirePort", desc := "(II)V" } : Jvm.MethodName) prog_1_method_27_code (3 : Nat) (Option.none : Option Jvm.ClassFile.FieldType)) := rfl
theorem k3_145 : tables_1_3[145]? = some (Jvm.Cond.methodLink "RingGuardLaw" (43 : Nat) ({ cls := "RingGuard", name := "clear", desc := "(II)Z" } : Jvm.MethodName)) := by decide +kernel
theorem k3_146 : tables_1_3[146]? = some (Jvm.Cond.instanceMethod ({ cls := "RingGuard", name := "clear", desc := "(II)Z" } : Jvm.MethodName)) := by decide +kernel
theorem k3_147 : tables_1_3[147]? = some (Jvm.Cond.selects "RingGuard" ({ cls := "RingGuard", name := "clear", desc := "(II)Z" } : Jvm.MethodName) ({ cls := "RingGuard", name := "clear", desc := "(II)Z" } : Jvm.MethodName)) := by decide +kernel
theorem k3_148 : tables_1_3[148]? = some (Jvm.Cond.code ({ cls := "RingGuard", name := "clear", desc := "(II)Z" } : Jvm.MethodName) prog_1_method_10_code (4 : Nat) (Option.some Jvm.ClassFile.FieldType.boolean)) := rfl
theorem k3_153 : tables_1_3[153]? = some (Jvm.Cond.methodLink "RingGuardLaw" (47 : Nat) ({ cls := "RingGuard", name := "ticks", desc := "(I)I" } : Jvm.MethodName)) := by decide +kernel
theorem k3_154 : tables_1_3[154]? = some (Jvm.Cond.instanceMethod ({ cls := "RingGuard", name := "ticks", desc := "(I)I" } : Jvm.MethodName)) := by decide +kernel
theorem k3_155 : tables_1_3[155]? = some (Jvm.Cond.selects "RingGuard" ({ cls := "RingGuard", name := "ticks", desc := "(I)I" } : Jvm.MethodName) ({ cls := "RingGuard", name := "ticks", desc := "(I)I" } : Jvm.MethodName)) := by decide +kernel
theorem k3_156 : tables_1_3[156]? = some (Jvm.Cond.code ({ cls := "RingGuard", name := "ticks", desc := "(I)I" } : Jvm.MethodName) prog_1_method_11_code (4 : Nat) (Option.some Jvm.ClassFile.FieldType.int)) := rfl
theorem k3_157 : tables_1_3[157]? = some (Jvm.Cond.stringRef "RingGuard" (150 : Nat) "n is not 1 .. 200") := by decide +kernel
theorem k4_23 : tables_1_4[23]? = some (Jvm.Cond.methodLink "RingGuardLaw" (51 : Nat) ({ cls := "RingGuard", name := "host", desc := "(II)I" } : Jvm.MethodName)) := by decide +kernel
theorem k4_24 : tables_1_4[24]? = some (Jvm.Cond.instanceMethod ({ cls := "RingGuard", name := "host", desc := "(II)I" } : Jvm.MethodName)) := by decide +kernel
theorem k4_25 : tables_1_4[25]? = some (Jvm.Cond.selects "RingGuard" ({ cls := "RingGuard", name := "host", desc := "(II)I" } : Jvm.MethodName) ({ cls := "RingGuard", name := "host", desc := "(II)I" } : Jvm.MethodName)) := by decide +kernel
theorem k4_26 : tables_1_4[26]? = some (Jvm.Cond.code ({ cls := "RingGuard", name := "host", desc := "(II)I" } : Jvm.MethodName) prog_1_method_12_code (4 : Nat) (Option.some Jvm.ClassFile.FieldType.int)) := rfl
theorem k4_27 : tables_1_4[27]? = some (Jvm.Cond.methodLink "RingGuard" (176 : Nat) ({ cls := "RingGuard", name := "requireHost", desc := "(I)V" } : Jvm.MethodName)) := by decide +kernel
theorem k4_28 : tables_1_4[28]? = some (Jvm.Cond.privateMethod ({ cls := "RingGuard", name := "requireHost", desc := "(I)V" } : Jvm.MethodName)) := by decide +kernel
theorem k4_29 : tables_1_4[29]? = some (Jvm.Cond.instanceMethod ({ cls := "RingGuard", name := "requireHost", desc := "(I)V" } : Jvm.MethodName)) := by decide +kernel
theorem k4_30 : tables_1_4[30]? = some (Jvm.Cond.code ({ cls := "RingGuard", name := "requireHost", desc := "(I)V" } : Jvm.MethodName) prog_1_method_29_code (2 : Nat) (Option.none : Option Jvm.ClassFile.FieldType)) := rfl
theorem k4_31 : tables_1_4[31]? = some (Jvm.Cond.stringRef "RingGuard" (244 : Nat) "no such host") := by decide +kernel
theorem k4_39 : tables_1_4[39]? = some (Jvm.Cond.methodLink "RingGuardLaw" (54 : Nat) ({ cls := "RingGuard", name := "send", desc := "(III)I" } : Jvm.MethodName)) := by decide +kernel
theorem k4_40 : tables_1_4[40]? = some (Jvm.Cond.instanceMethod ({ cls := "RingGuard", name := "send", desc := "(III)I" } : Jvm.MethodName)) := by decide +kernel
theorem k4_41 : tables_1_4[41]? = some (Jvm.Cond.selects "RingGuard" ({ cls := "RingGuard", name := "send", desc := "(III)I" } : Jvm.MethodName) ({ cls := "RingGuard", name := "send", desc := "(III)I" } : Jvm.MethodName)) := by decide +kernel
theorem k4_42 : tables_1_4[42]? = some (Jvm.Cond.code ({ cls := "RingGuard", name := "send", desc := "(III)I" } : Jvm.MethodName) prog_1_method_13_code (4 : Nat) (Option.some Jvm.ClassFile.FieldType.int)) := rfl
theorem k4_43 : tables_1_4[43]? = some (Jvm.Cond.methodLink "RingGuard" (185 : Nat) ({ cls := "RingGuard", name := "requireTag", desc := "(I)V" } : Jvm.MethodName)) := by decide +kernel
theorem k4_44 : tables_1_4[44]? = some (Jvm.Cond.privateMethod ({ cls := "RingGuard", name := "requireTag", desc := "(I)V" } : Jvm.MethodName)) := by decide +kernel
theorem k4_45 : tables_1_4[45]? = some (Jvm.Cond.instanceMethod ({ cls := "RingGuard", name := "requireTag", desc := "(I)V" } : Jvm.MethodName)) := by decide +kernel
theorem k4_46 : tables_1_4[46]? = some (Jvm.Cond.code ({ cls := "RingGuard", name := "requireTag", desc := "(I)V" } : Jvm.MethodName) prog_1_method_30_code (2 : Nat) (Option.none : Option Jvm.ClassFile.FieldType)) := rfl
theorem k4_47 : tables_1_4[47]? = some (Jvm.Cond.stringRef "RingGuard" (246 : Nat) "no such tag") := by decide +kernel
theorem k4_48 : tables_1_4[48]? = some (Jvm.Cond.stringRef "RingGuard" (188 : Nat) "a frame goes between two hosts that are somewhere") := by decide +kernel
theorem k4_81 : tables_1_4[81]? = some (Jvm.Cond.methodLink "RingGuardLaw" (57 : Nat) ({ cls := "RingGuard", name := "holds", desc := "(II)I" } : Jvm.MethodName)) := by decide +kernel
theorem k4_82 : tables_1_4[82]? = some (Jvm.Cond.instanceMethod ({ cls := "RingGuard", name := "holds", desc := "(II)I" } : Jvm.MethodName)) := by decide +kernel
theorem k4_83 : tables_1_4[83]? = some (Jvm.Cond.selects "RingGuard" ({ cls := "RingGuard", name := "holds", desc := "(II)I" } : Jvm.MethodName) ({ cls := "RingGuard", name := "holds", desc := "(II)I" } : Jvm.MethodName)) := by decide +kernel
theorem k4_84 : tables_1_4[84]? = some (Jvm.Cond.code ({ cls := "RingGuard", name := "holds", desc := "(II)I" } : Jvm.MethodName) prog_1_method_15_code (3 : Nat) (Option.some Jvm.ClassFile.FieldType.int)) := rfl
theorem k4_88 : tables_1_4[88]? = some (Jvm.Cond.methodLink "RingGuardLaw" (60 : Nat) ({ cls := "RingGuard", name := "told", desc := "(III)I" } : Jvm.MethodName)) := by decide +kernel
theorem k4_89 : tables_1_4[89]? = some (Jvm.Cond.instanceMethod ({ cls := "RingGuard", name := "told", desc := "(III)I" } : Jvm.MethodName)) := by decide +kernel
theorem k4_90 : tables_1_4[90]? = some (Jvm.Cond.selects "RingGuard" ({ cls := "RingGuard", name := "told", desc := "(III)I" } : Jvm.MethodName) ({ cls := "RingGuard", name := "told", desc := "(III)I" } : Jvm.MethodName)) := by decide +kernel
theorem k4_91 : tables_1_4[91]? = some (Jvm.Cond.code ({ cls := "RingGuard", name := "told", desc := "(III)I" } : Jvm.MethodName) prog_1_method_16_code (4 : Nat) (Option.some Jvm.ClassFile.FieldType.int)) := rfl
theorem k4_96 : tables_1_4[96]? = some (Jvm.Cond.methodLink "RingGuardLaw" (63 : Nat) ({ cls := "RingGuard", name := "learned", desc := "(III)I" } : Jvm.MethodName)) := by decide +kernel
theorem k4_97 : tables_1_4[97]? = some (Jvm.Cond.instanceMethod ({ cls := "RingGuard", name := "learned", desc := "(III)I" } : Jvm.MethodName)) := by decide +kernel
theorem k4_98 : tables_1_4[98]? = some (Jvm.Cond.selects "RingGuard" ({ cls := "RingGuard", name := "learned", desc := "(III)I" } : Jvm.MethodName) ({ cls := "RingGuard", name := "learned", desc := "(III)I" } : Jvm.MethodName)) := by decide +kernel
theorem k4_99 : tables_1_4[99]? = some (Jvm.Cond.code ({ cls := "RingGuard", name := "learned", desc := "(III)I" } : Jvm.MethodName) prog_1_method_17_code (4 : Nat) (Option.some Jvm.ClassFile.FieldType.int)) := rfl
theorem k4_104 : tables_1_4[104]? = some (Jvm.Cond.methodLink "RingGuardLaw" (66 : Nat) ({ cls := "RingGuard", name := "joined", desc := "(II)Z" } : Jvm.MethodName)) := by decide +kernel
theorem k4_105 : tables_1_4[105]? = some (Jvm.Cond.instanceMethod ({ cls := "RingGuard", name := "joined", desc := "(II)Z" } : Jvm.MethodName)) := by decide +kernel
theorem k4_106 : tables_1_4[106]? = some (Jvm.Cond.selects "RingGuard" ({ cls := "RingGuard", name := "joined", desc := "(II)Z" } : Jvm.MethodName) ({ cls := "RingGuard", name := "joined", desc := "(II)Z" } : Jvm.MethodName)) := by decide +kernel
theorem k4_107 : tables_1_4[107]? = some (Jvm.Cond.code ({ cls := "RingGuard", name := "joined", desc := "(II)Z" } : Jvm.MethodName) prog_1_method_18_code (3 : Nat) (Option.some Jvm.ClassFile.FieldType.boolean)) := rfl
theorem k4_109 : tables_1_4[109]? = some (Jvm.Cond.instantiable "RingGuardModel" (53 : Nat)) := by decide +kernel
theorem k4_114 : tables_1_4[114]? = some (Jvm.Cond.fieldLink "RingGuardModel" (125 : Nat) "RingGuardModel" "code" "I") := by decide +kernel
theorem k4_115 : tables_1_4[115]? = some (Jvm.Cond.fieldLink "RingGuardModel" (135 : Nat) "RingGuardModel" "started" "Z") := by decide +kernel
theorem k4_116 : tables_1_4[116]? = some (Jvm.Cond.fieldLink "RingGuardModel" (129 : Nat) "RingGuardModel" "bridges" "I") := by decide +kernel
theorem k4_117 : tables_1_4[117]? = some (Jvm.Cond.fieldLink "RingGuardModel" (132 : Nat) "RingGuardModel" "links" "I") := by decide +kernel
theorem k4_140 : tables_1_4[140]? = some (Jvm.Cond.fieldLink "RingGuardModel" (77 : Nat) "RingGuardModel" "places" "[I") := by decide +kernel
theorem k4_141 : tables_1_4[141]? = some (Jvm.Cond.fieldLink "RingGuardModel" (80 : Nat) "RingGuardModel" "count" "[I") := by decide +kernel
theorem k4_152 : tables_1_4[152]? = some (Jvm.Cond.fieldLink "RingGuardModel" (239 : Nat) "RingGuardModel" "lost" "I") := by decide +kernel
theorem k4_153 : tables_1_4[153]? = some (Jvm.Cond.fieldLink "RingGuardModel" (293 : Nat) "RingGuardModel" "visits" "I") := by decide +kernel
theorem k4_156 : tables_1_4[156]? = some (Jvm.Cond.fieldLink "RingGuardModel" (290 : Nat) "RingGuardModel" "circles" "I") := by decide +kernel
theorem k4_157 : tables_1_4[157]? = some (Jvm.Cond.fieldLink "RingGuardModel" (274 : Nat) "RingGuardModel" "apart" "I") := by decide +kernel
theorem k5_46 : tables_1_5[46]? = some (Jvm.Cond.methodLink "RingGuardModel" (139 : Nat) ({ cls := "RingGuardModel", name := "isBridge", desc := "(I)Z" } : Jvm.MethodName)) := by decide +kernel
theorem k5_47 : tables_1_5[47]? = some (Jvm.Cond.privateMethod ({ cls := "RingGuardModel", name := "isBridge", desc := "(I)Z" } : Jvm.MethodName)) := by decide +kernel
theorem k5_48 : tables_1_5[48]? = some (Jvm.Cond.instanceMethod ({ cls := "RingGuardModel", name := "isBridge", desc := "(I)Z" } : Jvm.MethodName)) := by decide +kernel
theorem k5_49 : tables_1_5[49]? = some (Jvm.Cond.code ({ cls := "RingGuardModel", name := "isBridge", desc := "(I)Z" } : Jvm.MethodName) prog_10_method_3_code (2 : Nat) (Option.some Jvm.ClassFile.FieldType.boolean)) := rfl
theorem k5_50 : tables_1_5[50]? = some (Jvm.Cond.methodLink "RingGuardModel" (143 : Nat) ({ cls := "RingGuardModel", name := "isRing", desc := "(I)Z" } : Jvm.MethodName)) := by decide +kernel
theorem k5_51 : tables_1_5[51]? = some (Jvm.Cond.static ({ cls := "RingGuardModel", name := "isRing", desc := "(I)Z" } : Jvm.MethodName)) := by decide +kernel
theorem k5_52 : tables_1_5[52]? = some (Jvm.Cond.code ({ cls := "RingGuardModel", name := "isRing", desc := "(I)Z" } : Jvm.MethodName) prog_10_method_5_code (1 : Nat) (Option.some Jvm.ClassFile.FieldType.boolean)) := rfl
theorem k5_53 : tables_1_5[53]? = some (Jvm.Cond.methodLink "RingGuardModel" (146 : Nat) ({ cls := "RingGuardModel", name := "goes", desc := "(ZZ)Z" } : Jvm.MethodName)) := by decide +kernel
theorem k5_54 : tables_1_5[54]? = some (Jvm.Cond.privateMethod ({ cls := "RingGuardModel", name := "goes", desc := "(ZZ)Z" } : Jvm.MethodName)) := by decide +kernel
theorem k5_55 : tables_1_5[55]? = some (Jvm.Cond.instanceMethod ({ cls := "RingGuardModel", name := "goes", desc := "(ZZ)Z" } : Jvm.MethodName)) := by decide +kernel
theorem k5_56 : tables_1_5[56]? = some (Jvm.Cond.code ({ cls := "RingGuardModel", name := "goes", desc := "(ZZ)Z" } : Jvm.MethodName) prog_10_method_8_code (3 : Nat) (Option.some Jvm.ClassFile.FieldType.boolean)) := rfl
theorem k5_61 : tables_1_5[61]? = some (Jvm.Cond.methodLink "RingGuardModel" (150 : Nat) ({ cls := "RingGuardModel", name := "isLink", desc := "(I)Z" } : Jvm.MethodName)) := by decide +kernel
theorem k5_62 : tables_1_5[62]? = some (Jvm.Cond.privateMethod ({ cls := "RingGuardModel", name := "isLink", desc := "(I)Z" } : Jvm.MethodName)) := by decide +kernel
theorem k5_63 : tables_1_5[63]? = some (Jvm.Cond.instanceMethod ({ cls := "RingGuardModel", name := "isLink", desc := "(I)Z" } : Jvm.MethodName)) := by decide +kernel
theorem k5_64 : tables_1_5[64]? = some (Jvm.Cond.code ({ cls := "RingGuardModel", name := "isLink", desc := "(I)Z" } : Jvm.MethodName) prog_10_method_4_code (2 : Nat) (Option.some Jvm.ClassFile.FieldType.boolean)) := rfl
theorem k5_69 : tables_1_5[69]? = some (Jvm.Cond.methodLink "RingGuardModel" (181 : Nat) ({ cls := "RingGuardModel", name := "faultOf", desc := "()I" } : Jvm.MethodName)) := by decide +kernel
theorem k5_70 : tables_1_5[70]? = some (Jvm.Cond.privateMethod ({ cls := "RingGuardModel", name := "faultOf", desc := "()I" } : Jvm.MethodName)) := by decide +kernel
theorem k5_71 : tables_1_5[71]? = some (Jvm.Cond.instanceMethod ({ cls := "RingGuardModel", name := "faultOf", desc := "()I" } : Jvm.MethodName)) := by decide +kernel
theorem k5_72 : tables_1_5[72]? = some (Jvm.Cond.code ({ cls := "RingGuardModel", name := "faultOf", desc := "()I" } : Jvm.MethodName) prog_10_method_19_code (4 : Nat) (Option.some Jvm.ClassFile.FieldType.int)) := rfl
theorem k5_140 : tables_1_5[140]? = some (Jvm.Cond.methodLink "RingGuardModel" (215 : Nat) ({ cls := "RingGuardModel", name := "look", desc := "()V" } : Jvm.MethodName)) := by decide +kernel
theorem k5_141 : tables_1_5[141]? = some (Jvm.Cond.privateMethod ({ cls := "RingGuardModel", name := "look", desc := "()V" } : Jvm.MethodName)) := by decide +kernel
theorem k5_142 : tables_1_5[142]? = some (Jvm.Cond.instanceMethod ({ cls := "RingGuardModel", name := "look", desc := "()V" } : Jvm.MethodName)) := by decide +kernel
theorem k5_143 : tables_1_5[143]? = some (Jvm.Cond.code ({ cls := "RingGuardModel", name := "look", desc := "()V" } : Jvm.MethodName) prog_10_method_48_code (3 : Nat) (Option.none : Option Jvm.ClassFile.FieldType)) := rfl
abbrev yRG_requireBridge : MethodName := ⟨"RingGuard", "requireBridge", "(I)V"⟩
abbrev bRG_requireBridge : ByteArray := prog_1_method_25_code
abbrev yRG_requireLink : MethodName := ⟨"RingGuard", "requireLink", "(I)V"⟩
abbrev bRG_requireLink : ByteArray := prog_1_method_26_code
abbrev yRG_requireRing : MethodName := ⟨"RingGuard", "requireRing", "(I)V"⟩
abbrev bRG_requireRing : ByteArray := prog_1_method_28_code
abbrev yRG_requireHost : MethodName := ⟨"RingGuard", "requireHost", "(I)V"⟩
abbrev bRG_requireHost : ByteArray := prog_1_method_29_code
abbrev yRG_requireTag : MethodName := ⟨"RingGuard", "requireTag", "(I)V"⟩
abbrev bRG_requireTag : ByteArray := prog_1_method_30_code
abbrev yRG_requireNotStarted : MethodName := ⟨"RingGuard", "requireNotStarted", "()V"⟩
abbrev bRG_requireNotStarted : ByteArray := prog_1_method_23_code
abbrev yRG_requireStarted : MethodName := ⟨"RingGuard", "requireStarted", "()V"⟩
abbrev bRG_requireStarted : ByteArray := prog_1_method_24_code
abbrev yRG_requirePort : MethodName := ⟨"RingGuard", "requirePort", "(II)V"⟩
abbrev bRG_requirePort : ByteArray := prog_1_method_27_code
abbrev yRG_link : MethodName := ⟨"RingGuard", "link", "(III)I"⟩
abbrev bRG_link : ByteArray := prog_1_method_3_code
abbrev yRG_owner : MethodName := ⟨"RingGuard", "owner", "(III)V"⟩
abbrev bRG_owner : ByteArray := prog_1_method_4_code
abbrev yRG_fail : MethodName := ⟨"RingGuard", "fail", "(I)Z"⟩
abbrev bRG_fail : ByteArray := prog_1_method_6_code
abbrev yRG_heal : MethodName := ⟨"RingGuard", "heal", "(I)Z"⟩
abbrev bRG_heal : ByteArray := prog_1_method_7_code
abbrev yRG_lose : MethodName := ⟨"RingGuard", "lose", "(II)I"⟩
abbrev bRG_lose : ByteArray := prog_1_method_8_code
abbrev yRG_order : MethodName := ⟨"RingGuard", "order", "(IIZ)Z"⟩
abbrev bRG_order : ByteArray := prog_1_method_9_code
abbrev yRG_clear : MethodName := ⟨"RingGuard", "clear", "(II)Z"⟩
abbrev bRG_clear : ByteArray := prog_1_method_10_code
abbrev yRG_ticks : MethodName := ⟨"RingGuard", "ticks", "(I)I"⟩
abbrev bRG_ticks : ByteArray := prog_1_method_11_code
abbrev yRG_host : MethodName := ⟨"RingGuard", "host", "(II)I"⟩
abbrev bRG_host : ByteArray := prog_1_method_12_code
abbrev yRG_send : MethodName := ⟨"RingGuard", "send", "(III)I"⟩
abbrev bRG_send : ByteArray := prog_1_method_13_code
abbrev yRG_holds : MethodName := ⟨"RingGuard", "holds", "(II)I"⟩
abbrev bRG_holds : ByteArray := prog_1_method_15_code
abbrev yRG_told : MethodName := ⟨"RingGuard", "told", "(III)I"⟩
abbrev bRG_told : ByteArray := prog_1_method_16_code
abbrev yRG_learned : MethodName := ⟨"RingGuard", "learned", "(III)I"⟩
abbrev bRG_learned : ByteArray := prog_1_method_17_code
abbrev yRG_joined : MethodName := ⟨"RingGuard", "joined", "(II)Z"⟩
abbrev bRG_joined : ByteArray := prog_1_method_18_code
abbrev yRG_bridge : MethodName := ⟨"RingGuard", "bridge", "()I"⟩
abbrev bRG_bridge : ByteArray := prog_1_method_2_code
abbrev yPL_firstFault : MethodName := ⟨"RingGuard$Plan", "firstFault", "(LRingGuard$Groups;)I"⟩
abbrev bPL_firstFault : ByteArray := prog_5_method_7_code
abbrev yRG_start : MethodName := ⟨"RingGuard", "start", "()I"⟩
abbrev bRG_start : ByteArray := prog_1_method_5_code
abbrev yRG_visits : MethodName := ⟨"RingGuard", "visits", "()I"⟩
abbrev bRG_visits : ByteArray := prog_1_method_14_code
abbrev yRG_lost : MethodName := ⟨"RingGuard", "lost", "()I"⟩
abbrev bRG_lost : ByteArray := prog_1_method_20_code
abbrev yRG_circles : MethodName := ⟨"RingGuard", "circles", "()I"⟩
abbrev bRG_circles : ByteArray := prog_1_method_21_code
abbrev yRG_apart : MethodName := ⟨"RingGuard", "apart", "()I"⟩
abbrev bRG_apart : ByteArray := prog_1_method_22_code
abbrev yLA_link : MethodName := ⟨"RingGuardLaw", "link", "(LRingGuard;III[J)I"⟩
abbrev bLA_link : ByteArray := method_4_code
abbrev yLA_owner : MethodName := ⟨"RingGuardLaw", "owner", "(LRingGuard;III)I"⟩
abbrev bLA_owner : ByteArray := method_5_code
abbrev yLA_fail : MethodName := ⟨"RingGuardLaw", "fail", "(LRingGuard;I[J)I"⟩
abbrev bLA_fail : ByteArray := method_7_code
abbrev yLA_heal : MethodName := ⟨"RingGuardLaw", "heal", "(LRingGuard;I[J)I"⟩
abbrev bLA_heal : ByteArray := method_8_code
abbrev yLA_lose : MethodName := ⟨"RingGuardLaw", "lose", "(LRingGuard;II[J)I"⟩
abbrev bLA_lose : ByteArray := method_9_code
abbrev yLA_clear : MethodName := ⟨"RingGuardLaw", "clear", "(LRingGuard;II[J)I"⟩
abbrev bLA_clear : ByteArray := method_11_code
abbrev yLA_ticks : MethodName := ⟨"RingGuardLaw", "ticks", "(LRingGuard;I[J)I"⟩
abbrev bLA_ticks : ByteArray := method_12_code
abbrev yLA_host : MethodName := ⟨"RingGuardLaw", "host", "(LRingGuard;II[J)I"⟩
abbrev bLA_host : ByteArray := method_13_code
abbrev yLA_send : MethodName := ⟨"RingGuardLaw", "send", "(LRingGuard;III[J)I"⟩
abbrev bLA_send : ByteArray := method_14_code
abbrev yLA_holds : MethodName := ⟨"RingGuardLaw", "holds", "(LRingGuard;II[J)I"⟩
abbrev bLA_holds : ByteArray := method_15_code
abbrev yLA_told : MethodName := ⟨"RingGuardLaw", "told", "(LRingGuard;III[J)I"⟩
abbrev bLA_told : ByteArray := method_16_code
abbrev yLA_learned : MethodName := ⟨"RingGuardLaw", "learned", "(LRingGuard;III[J)I"⟩
abbrev bLA_learned : ByteArray := method_17_code
abbrev yLA_joined : MethodName := ⟨"RingGuardLaw", "joined", "(LRingGuard;II[J)I"⟩
abbrev bLA_joined : ByteArray := method_18_code
abbrev yLA_order : MethodName := ⟨"RingGuardLaw", "order", "(LRingGuard;IIZ[J)I"⟩
abbrev bLA_order : ByteArray := method_10_code
abbrev yLA_bridge : MethodName := ⟨"RingGuardLaw", "bridge", "(LRingGuard;[J)I"⟩
abbrev bLA_bridge : ByteArray := method_3_code
abbrev yLA_start : MethodName := ⟨"RingGuardLaw", "start", "(LRingGuard;[J)I"⟩
abbrev bLA_start : ByteArray := method_6_code
abbrev yMO_isBridge : MethodName := ⟨"RingGuardModel", "isBridge", "(I)Z"⟩
abbrev bMO_isBridge : ByteArray := prog_10_method_3_code
abbrev yMO_isLink : MethodName := ⟨"RingGuardModel", "isLink", "(I)Z"⟩
abbrev bMO_isLink : ByteArray := prog_10_method_4_code
abbrev yMO_isRing : MethodName := ⟨"RingGuardModel", "isRing", "(I)Z"⟩
abbrev bMO_isRing : ByteArray := prog_10_method_5_code
abbrev yMO_goes : MethodName := ⟨"RingGuardModel", "goes", "(ZZ)Z"⟩
abbrev bMO_goes : ByteArray := prog_10_method_8_code
abbrev yMO_thrown : MethodName := ⟨"RingGuardModel", "thrown", "()I"⟩
abbrev bMO_thrown : ByteArray := prog_10_method_2_code
abbrev yMO_look : MethodName := ⟨"RingGuardModel", "look", "()V"⟩
abbrev bMO_look : ByteArray := prog_10_method_48_code
abbrev yMO_faultOf : MethodName := ⟨"RingGuardModel", "faultOf", "()I"⟩
abbrev bMO_faultOf : ByteArray := prog_10_method_19_code
abbrev yMO_bridge : MethodName := ⟨"RingGuardModel", "bridge", "()I"⟩
abbrev bMO_bridge : ByteArray := prog_10_method_9_code
abbrev yMO_start : MethodName := ⟨"RingGuardModel", "start", "()I"⟩
abbrev bMO_start : ByteArray := prog_10_method_20_code
abbrev yMO_link : MethodName := ⟨"RingGuardModel", "link", "(III)I"⟩
abbrev bMO_link : ByteArray := prog_10_method_10_code
abbrev yMO_owner : MethodName := ⟨"RingGuardModel", "owner", "(III)V"⟩
abbrev bMO_owner : ByteArray := prog_10_method_11_code
abbrev yMO_fail : MethodName := ⟨"RingGuardModel", "fail", "(I)Z"⟩
abbrev bMO_fail : ByteArray := prog_10_method_31_code
abbrev yMO_heal : MethodName := ⟨"RingGuardModel", "heal", "(I)Z"⟩
abbrev bMO_heal : ByteArray := prog_10_method_32_code
abbrev yMO_lose : MethodName := ⟨"RingGuardModel", "lose", "(II)I"⟩
abbrev bMO_lose : ByteArray := prog_10_method_33_code
abbrev yMO_clear : MethodName := ⟨"RingGuardModel", "clear", "(II)Z"⟩
abbrev bMO_clear : ByteArray := prog_10_method_35_code
abbrev yMO_host : MethodName := ⟨"RingGuardModel", "host", "(II)I"⟩
abbrev bMO_host : ByteArray := prog_10_method_51_code
abbrev yMO_holds : MethodName := ⟨"RingGuardModel", "holds", "(II)I"⟩
abbrev bMO_holds : ByteArray := prog_10_method_55_code
abbrev yMO_joined : MethodName := ⟨"RingGuardModel", "joined", "(II)Z"⟩
abbrev bMO_joined : ByteArray := prog_10_method_58_code
abbrev yMO_order : MethodName := ⟨"RingGuardModel", "order", "(IIZ)Z"⟩
abbrev bMO_order : ByteArray := prog_10_method_34_code
abbrev yMO_told : MethodName := ⟨"RingGuardModel", "told", "(III)I"⟩
abbrev bMO_told : ByteArray := prog_10_method_56_code
abbrev yMO_learned : MethodName := ⟨"RingGuardModel", "learned", "(III)I"⟩
abbrev bMO_learned : ByteArray := prog_10_method_57_code
abbrev yMO_ticks : MethodName := ⟨"RingGuardModel", "ticks", "(I)I"⟩
abbrev bMO_ticks : ByteArray := prog_10_method_46_code
abbrev yMO_send : MethodName := ⟨"RingGuardModel", "send", "(III)I"⟩
abbrev bMO_send : ByteArray := prog_10_method_53_code
abbrev yMO_visits : MethodName := ⟨"RingGuardModel", "visits", "()I"⟩
abbrev bMO_visits : ByteArray := prog_10_method_54_code
abbrev yMO_lost : MethodName := ⟨"RingGuardModel", "lost", "()I"⟩
abbrev bMO_lost : ByteArray := prog_10_method_60_code
abbrev yMO_circles : MethodName := ⟨"RingGuardModel", "circles", "()I"⟩
abbrev bMO_circles : ByteArray := prog_10_method_61_code
abbrev yMO_apart : MethodName := ⟨"RingGuardModel", "apart", "()I"⟩
abbrev bMO_apart : ByteArray := prog_10_method_62_code
abbrev yWI_countOnLinks : MethodName := ⟨"RingGuard$Wires", "countOnLinks", "()I"⟩
abbrev bWI_countOnLinks : ByteArray := prog_8_method_7_code
abbrev yRG_casts : MethodName := ⟨"RingGuard", "casts", "()I"⟩
abbrev bRG_casts : ByteArray := prog_1_method_19_code
abbrev yMO_casts : MethodName := ⟨"RingGuardModel", "casts", "()I"⟩
abbrev bMO_casts : ByteArray := prog_10_method_59_code
abbrev yAR_fill : MethodName := ⟨"java/util/Arrays", "fill", "([II)V"⟩
abbrev bAR_fill : ByteArray := prog_18_method_103_code
abbrev yGR_init : MethodName := ⟨"RingGuard$Groups", "<init>", "()V"⟩
abbrev bGR_init : ByteArray := prog_4_method_1_code
abbrev yPL_init : MethodName := ⟨"RingGuard$Plan", "<init>", "()V"⟩
abbrev bPL_init : ByteArray := prog_5_method_1_code
abbrev yWI_init : MethodName := ⟨"RingGuard$Wires", "<init>", "()V"⟩
abbrev bWI_init : ByteArray := prog_8_method_1_code
abbrev yPR_init : MethodName := ⟨"RingGuard$Protocol", "<init>", "(LRingGuard$Plan;LRingGuard$Wires;LRingGuard$Tables;)V"⟩
abbrev bPR_init : ByteArray := prog_6_method_1_code
abbrev yFR_init : MethodName := ⟨"RingGuard$Frames", "<init>", "(LRingGuard$Plan;LRingGuard$Protocol;LRingGuard$Tables;)V"⟩
abbrev bFR_init : ByteArray := prog_3_method_1_code
theorem zac_int {a0 args : Array Value} {s0 s : State} (hB : tq_B zT a0 s0 s) : (Cond.arrayClass (newarray.typeOf .int)).before args s = true := zac hB (zm1 (i := 82) rfl)
theorem zac_boolean {a0 args : Array Value} {s0 s : State} (hB : tq_B zT a0 s0 s) : (Cond.arrayClass (newarray.typeOf .boolean)).before args s = true := zac hB (zm1 (i := 83) rfl)
theorem zac_long {a0 args : Array Value} {s0 s : State} (hB : tq_B zT a0 s0 s) : (Cond.arrayClass (newarray.typeOf .long)).before args s = true := zac hB (zm6 (i := 36) rfl)
theorem zgood {y : MethodName} {b : ByteArray} {n : Nat} {r : Option FieldType} : GoodIn [Cond.code y b n r] [Cond.code y b n r] := fun w h => ⟨h, by rw [List.mem_singleton.mp h]; exact Or.inl rfl⟩
theorem dRG_apart_0 : decode bRG_apart 0 = .ok (.aload_n 0, 1) := by decide +kernel
theorem dRG_apart_1 : decode bRG_apart 1 = .ok (.getfield 229, 3) := by decide +kernel
theorem dRG_apart_4 : decode bRG_apart 4 = .ok (.ireturn, 1) := by decide +kernel
theorem dRG_bridge_0 : decode bRG_bridge 0 = .ok (.aload_n 0, 1) := by decide +kernel
theorem dRG_bridge_1 : decode bRG_bridge 1 = .ok (.invokevirtual 55, 3) := by decide +kernel
theorem dRG_bridge_4 : decode bRG_bridge 4 = .ok (.aload_n 0, 1) := by decide +kernel
theorem dRG_bridge_5 : decode bRG_bridge 5 = .ok (.getfield 12, 3) := by decide +kernel
theorem dRG_bridge_8 : decode bRG_bridge 8 = .ok (.getfield 58, 3) := by decide +kernel
theorem dRG_bridge_11 : decode bRG_bridge 11 = .ok (.bipush 48, 2) := by decide +kernel
theorem dRG_bridge_13 : decode bRG_bridge 13 = .ok (.if_icmp .lt 13, 3) := by decide +kernel
theorem dRG_bridge_26 : decode bRG_bridge 26 = .ok (.aload_n 0, 1) := by decide +kernel
theorem dRG_bridge_27 : decode bRG_bridge 27 = .ok (.getfield 12, 3) := by decide +kernel
theorem dRG_bridge_30 : decode bRG_bridge 30 = .ok (.getfield 58, 3) := by decide +kernel
theorem dRG_bridge_33 : decode bRG_bridge 33 = .ok (.istore_n 1, 1) := by decide +kernel
theorem dRG_bridge_34 : decode bRG_bridge 34 = .ok (.aload_n 0, 1) := by decide +kernel
theorem dRG_bridge_35 : decode bRG_bridge 35 = .ok (.getfield 12, 3) := by decide +kernel
theorem dRG_bridge_38 : decode bRG_bridge 38 = .ok (.iload_n 1, 1) := by decide +kernel
theorem dRG_bridge_39 : decode bRG_bridge 39 = .ok (.iconst 1, 1) := by decide +kernel
theorem dRG_bridge_40 : decode bRG_bridge 40 = .ok (.iadd, 1) := by decide +kernel
theorem dRG_bridge_41 : decode bRG_bridge 41 = .ok (.putfield 58, 3) := by decide +kernel
theorem dRG_bridge_44 : decode bRG_bridge 44 = .ok (.iload_n 1, 1) := by decide +kernel
theorem dRG_bridge_45 : decode bRG_bridge 45 = .ok (.ireturn, 1) := by decide +kernel
theorem dRG_casts_0 : decode bRG_casts 0 = .ok (.aload_n 0, 1) := by decide +kernel
theorem dRG_casts_1 : decode bRG_casts 1 = .ok (.getfield 19, 3) := by decide +kernel
theorem dRG_casts_4 : decode bRG_casts 4 = .ok (.invokevirtual 220, 3) := by decide +kernel
theorem dRG_casts_7 : decode bRG_casts 7 = .ok (.ireturn, 1) := by decide +kernel
theorem dRG_circles_0 : decode bRG_circles 0 = .ok (.aload_n 0, 1) := by decide +kernel
theorem dRG_circles_1 : decode bRG_circles 1 = .ok (.getfield 226, 3) := by decide +kernel
theorem dRG_circles_4 : decode bRG_circles 4 = .ok (.ireturn, 1) := by decide +kernel
theorem dRG_clear_0 : decode bRG_clear 0 = .ok (.aload_n 0, 1) := by decide +kernel
theorem dRG_clear_1 : decode bRG_clear 1 = .ok (.iload_n 1, 1) := by decide +kernel
theorem dRG_clear_2 : decode bRG_clear 2 = .ok (.invokevirtual 69, 3) := by decide +kernel
theorem dRG_fail_0 : decode bRG_fail 0 = .ok (.aload_n 0, 1) := by decide +kernel
theorem dRG_fail_1 : decode bRG_fail 1 = .ok (.iload_n 1, 1) := by decide +kernel
theorem dRG_fail_2 : decode bRG_fail 2 = .ok (.invokevirtual 90, 3) := by decide +kernel
theorem dRG_heal_0 : decode bRG_heal 0 = .ok (.aload_n 0, 1) := by decide +kernel
theorem dRG_heal_1 : decode bRG_heal 1 = .ok (.iload_n 1, 1) := by decide +kernel
theorem dRG_heal_2 : decode bRG_heal 2 = .ok (.invokevirtual 90, 3) := by decide +kernel
theorem dRG_holds_0 : decode bRG_holds 0 = .ok (.aload_n 0, 1) := by decide +kernel
theorem dRG_holds_1 : decode bRG_holds 1 = .ok (.iload_n 1, 1) := by decide +kernel
theorem dRG_holds_2 : decode bRG_holds 2 = .ok (.iload_n 2, 1) := by decide +kernel
theorem dRG_holds_3 : decode bRG_holds 3 = .ok (.invokevirtual 135, 3) := by decide +kernel
theorem dRG_host_0 : decode bRG_host 0 = .ok (.aload_n 0, 1) := by decide +kernel
theorem dRG_host_1 : decode bRG_host 1 = .ok (.iload_n 1, 1) := by decide +kernel
theorem dRG_host_2 : decode bRG_host 2 = .ok (.invokevirtual 176, 3) := by decide +kernel
theorem dRG_host_5 : decode bRG_host 5 = .ok (.aload_n 0, 1) := by decide +kernel
theorem dRG_host_6 : decode bRG_host 6 = .ok (.iload_n 2, 1) := by decide +kernel
theorem dRG_host_7 : decode bRG_host 7 = .ok (.invokevirtual 69, 3) := by decide +kernel
theorem dRG_joined_0 : decode bRG_joined 0 = .ok (.aload_n 0, 1) := by decide +kernel
theorem dRG_joined_1 : decode bRG_joined 1 = .ok (.iload_n 1, 1) := by decide +kernel
theorem dRG_joined_2 : decode bRG_joined 2 = .ok (.invokevirtual 69, 3) := by decide +kernel
theorem dRG_learned_0 : decode bRG_learned 0 = .ok (.aload_n 0, 1) := by decide +kernel
theorem dRG_learned_1 : decode bRG_learned 1 = .ok (.iload_n 1, 1) := by decide +kernel
theorem dRG_learned_2 : decode bRG_learned 2 = .ok (.invokevirtual 69, 3) := by decide +kernel
theorem dRG_link_0 : decode bRG_link 0 = .ok (.aload_n 0, 1) := by decide +kernel
theorem dRG_link_1 : decode bRG_link 1 = .ok (.iload_n 1, 1) := by decide +kernel
theorem dRG_link_2 : decode bRG_link 2 = .ok (.invokevirtual 69, 3) := by decide +kernel
theorem dRG_lose_0 : decode bRG_lose 0 = .ok (.aload_n 0, 1) := by decide +kernel
theorem dRG_lose_1 : decode bRG_lose 1 = .ok (.iload_n 1, 1) := by decide +kernel
theorem dRG_lose_2 : decode bRG_lose 2 = .ok (.invokevirtual 90, 3) := by decide +kernel
theorem dRG_lost_0 : decode bRG_lost 0 = .ok (.aload_n 0, 1) := by decide +kernel
theorem dRG_lost_1 : decode bRG_lost 1 = .ok (.getfield 19, 3) := by decide +kernel
theorem dRG_lost_4 : decode bRG_lost 4 = .ok (.getfield 223, 3) := by decide +kernel
theorem dRG_lost_7 : decode bRG_lost 7 = .ok (.ireturn, 1) := by decide +kernel
theorem dRG_order_0 : decode bRG_order 0 = .ok (.aload_n 0, 1) := by decide +kernel
theorem dRG_order_1 : decode bRG_order 1 = .ok (.iload_n 1, 1) := by decide +kernel
theorem dRG_order_2 : decode bRG_order 2 = .ok (.iload_n 2, 1) := by decide +kernel
theorem dRG_order_3 : decode bRG_order 3 = .ok (.invokevirtual 135, 3) := by decide +kernel
theorem dRG_owner_0 : decode bRG_owner 0 = .ok (.aload_n 0, 1) := by decide +kernel
theorem dRG_owner_1 : decode bRG_owner 1 = .ok (.iload_n 1, 1) := by decide +kernel
theorem dRG_owner_2 : decode bRG_owner 2 = .ok (.invokevirtual 73, 3) := by decide +kernel
theorem dRG_owner_5 : decode bRG_owner 5 = .ok (.aload_n 0, 1) := by decide +kernel
theorem dRG_owner_6 : decode bRG_owner 6 = .ok (.iload_n 2, 1) := by decide +kernel
theorem dRG_owner_7 : decode bRG_owner 7 = .ok (.invokevirtual 69, 3) := by decide +kernel
theorem dRG_requireBridge_0 : decode bRG_requireBridge 0 = .ok (.iload_n 1, 1) := by decide +kernel
theorem dRG_requireBridge_1 : decode bRG_requireBridge 1 = .ok (.ifCond .lt 14, 3) := by decide +kernel
theorem dRG_requireBridge_4 : decode bRG_requireBridge 4 = .ok (.iload_n 1, 1) := by decide +kernel
theorem dRG_requireBridge_5 : decode bRG_requireBridge 5 = .ok (.aload_n 0, 1) := by decide +kernel
theorem dRG_requireBridge_6 : decode bRG_requireBridge 6 = .ok (.getfield 12, 3) := by decide +kernel
theorem dRG_requireBridge_9 : decode bRG_requireBridge 9 = .ok (.getfield 58, 3) := by decide +kernel
theorem dRG_requireBridge_12 : decode bRG_requireBridge 12 = .ok (.if_icmp .lt 13, 3) := by decide +kernel
theorem dRG_requireBridge_15 : decode bRG_requireBridge 15 = .ok (.new 76, 3) := by decide +kernel
theorem dRG_requireBridge_18 : decode bRG_requireBridge 18 = .ok (.dup, 1) := by decide +kernel
theorem dRG_requireBridge_19 : decode bRG_requireBridge 19 = .ok (.ldc 236, 2) := by decide +kernel
theorem dRG_requireBridge_21 : decode bRG_requireBridge 21 = .ok (.invokespecial 80, 3) := by decide +kernel
theorem dRG_requireBridge_24 : decode bRG_requireBridge 24 = .ok (.athrow, 1) := by decide +kernel
theorem dRG_requireHost_0 : decode bRG_requireHost 0 = .ok (.iload_n 1, 1) := by decide +kernel
theorem dRG_requireHost_1 : decode bRG_requireHost 1 = .ok (.ifCond .lt 9, 3) := by decide +kernel
theorem dRG_requireHost_4 : decode bRG_requireHost 4 = .ok (.iload_n 1, 1) := by decide +kernel
theorem dRG_requireHost_5 : decode bRG_requireHost 5 = .ok (.bipush 64, 2) := by decide +kernel
theorem dRG_requireHost_7 : decode bRG_requireHost 7 = .ok (.if_icmp .lt 13, 3) := by decide +kernel
theorem dRG_requireHost_10 : decode bRG_requireHost 10 = .ok (.new 76, 3) := by decide +kernel
theorem dRG_requireHost_13 : decode bRG_requireHost 13 = .ok (.dup, 1) := by decide +kernel
theorem dRG_requireHost_14 : decode bRG_requireHost 14 = .ok (.ldc 244, 2) := by decide +kernel
theorem dRG_requireHost_16 : decode bRG_requireHost 16 = .ok (.invokespecial 80, 3) := by decide +kernel
theorem dRG_requireHost_19 : decode bRG_requireHost 19 = .ok (.athrow, 1) := by decide +kernel
theorem dRG_requireHost_20 : decode bRG_requireHost 20 = .ok (.return_, 1) := by decide +kernel
theorem dRG_requireLink_0 : decode bRG_requireLink 0 = .ok (.iload_n 1, 1) := by decide +kernel
theorem dRG_requireLink_1 : decode bRG_requireLink 1 = .ok (.ifCond .lt 14, 3) := by decide +kernel
theorem dRG_requireLink_4 : decode bRG_requireLink 4 = .ok (.iload_n 1, 1) := by decide +kernel
theorem dRG_requireLink_5 : decode bRG_requireLink 5 = .ok (.aload_n 0, 1) := by decide +kernel
theorem dRG_requireLink_6 : decode bRG_requireLink 6 = .ok (.getfield 12, 3) := by decide +kernel
theorem dRG_requireLink_9 : decode bRG_requireLink 9 = .ok (.getfield 81, 3) := by decide +kernel
theorem dRG_requireLink_12 : decode bRG_requireLink 12 = .ok (.if_icmp .lt 13, 3) := by decide +kernel
theorem dRG_requireLink_15 : decode bRG_requireLink 15 = .ok (.new 76, 3) := by decide +kernel
theorem dRG_requireLink_18 : decode bRG_requireLink 18 = .ok (.dup, 1) := by decide +kernel
theorem dRG_requireLink_19 : decode bRG_requireLink 19 = .ok (.ldc 238, 2) := by decide +kernel
theorem dRG_requireLink_21 : decode bRG_requireLink 21 = .ok (.invokespecial 80, 3) := by decide +kernel
theorem dRG_requireLink_24 : decode bRG_requireLink 24 = .ok (.athrow, 1) := by decide +kernel
theorem dRG_requireNotStarted_0 : decode bRG_requireNotStarted 0 = .ok (.aload_n 0, 1) := by decide +kernel
theorem dRG_requireNotStarted_1 : decode bRG_requireNotStarted 1 = .ok (.getfield 104, 3) := by decide +kernel
theorem dRG_requireNotStarted_4 : decode bRG_requireNotStarted 4 = .ok (.ifCond .eq 13, 3) := by decide +kernel
theorem dRG_requireNotStarted_17 : decode bRG_requireNotStarted 17 = .ok (.return_, 1) := by decide +kernel
theorem dRG_requirePort_0 : decode bRG_requirePort 0 = .ok (.aload_n 0, 1) := by decide +kernel
theorem dRG_requirePort_1 : decode bRG_requirePort 1 = .ok (.iload_n 1, 1) := by decide +kernel
theorem dRG_requirePort_2 : decode bRG_requirePort 2 = .ok (.invokevirtual 69, 3) := by decide +kernel
theorem dRG_requireRing_0 : decode bRG_requireRing 0 = .ok (.iload_n 1, 1) := by decide +kernel
theorem dRG_requireRing_1 : decode bRG_requireRing 1 = .ok (.ifCond .lt 9, 3) := by decide +kernel
theorem dRG_requireRing_4 : decode bRG_requireRing 4 = .ok (.iload_n 1, 1) := by decide +kernel
theorem dRG_requireRing_5 : decode bRG_requireRing 5 = .ok (.bipush 6, 2) := by decide +kernel
theorem dRG_requireRing_7 : decode bRG_requireRing 7 = .ok (.if_icmp .lt 13, 3) := by decide +kernel
theorem dRG_requireRing_10 : decode bRG_requireRing 10 = .ok (.new 76, 3) := by decide +kernel
theorem dRG_requireRing_13 : decode bRG_requireRing 13 = .ok (.dup, 1) := by decide +kernel
theorem dRG_requireRing_14 : decode bRG_requireRing 14 = .ok (.ldc 242, 2) := by decide +kernel
theorem dRG_requireRing_16 : decode bRG_requireRing 16 = .ok (.invokespecial 80, 3) := by decide +kernel
theorem dRG_requireRing_19 : decode bRG_requireRing 19 = .ok (.athrow, 1) := by decide +kernel
theorem dRG_requireRing_20 : decode bRG_requireRing 20 = .ok (.return_, 1) := by decide +kernel
theorem dRG_requireStarted_0 : decode bRG_requireStarted 0 = .ok (.aload_n 0, 1) := by decide +kernel
theorem dRG_requireStarted_1 : decode bRG_requireStarted 1 = .ok (.getfield 104, 3) := by decide +kernel
theorem dRG_requireStarted_4 : decode bRG_requireStarted 4 = .ok (.ifCond .ne 13, 3) := by decide +kernel
theorem dRG_requireStarted_7 : decode bRG_requireStarted 7 = .ok (.new 62, 3) := by decide +kernel
theorem dRG_requireStarted_10 : decode bRG_requireStarted 10 = .ok (.dup, 1) := by decide +kernel
theorem dRG_requireStarted_11 : decode bRG_requireStarted 11 = .ok (.ldc 234, 2) := by decide +kernel
theorem dRG_requireStarted_13 : decode bRG_requireStarted 13 = .ok (.invokespecial 66, 3) := by decide +kernel
theorem dRG_requireStarted_16 : decode bRG_requireStarted 16 = .ok (.athrow, 1) := by decide +kernel
theorem dRG_requireTag_0 : decode bRG_requireTag 0 = .ok (.iload_n 1, 1) := by decide +kernel
theorem dRG_requireTag_1 : decode bRG_requireTag 1 = .ok (.ifCond .lt 8, 3) := by decide +kernel
theorem dRG_requireTag_4 : decode bRG_requireTag 4 = .ok (.iload_n 1, 1) := by decide +kernel
theorem dRG_requireTag_5 : decode bRG_requireTag 5 = .ok (.iconst 4, 1) := by decide +kernel
theorem dRG_requireTag_6 : decode bRG_requireTag 6 = .ok (.if_icmp .lt 13, 3) := by decide +kernel
theorem dRG_requireTag_9 : decode bRG_requireTag 9 = .ok (.new 76, 3) := by decide +kernel
theorem dRG_requireTag_12 : decode bRG_requireTag 12 = .ok (.dup, 1) := by decide +kernel
theorem dRG_requireTag_13 : decode bRG_requireTag 13 = .ok (.ldc 246, 2) := by decide +kernel
theorem dRG_requireTag_15 : decode bRG_requireTag 15 = .ok (.invokespecial 80, 3) := by decide +kernel
theorem dRG_requireTag_18 : decode bRG_requireTag 18 = .ok (.athrow, 1) := by decide +kernel
theorem dRG_requireTag_19 : decode bRG_requireTag 19 = .ok (.return_, 1) := by decide +kernel
theorem dRG_send_0 : decode bRG_send 0 = .ok (.aload_n 0, 1) := by decide +kernel
theorem dRG_send_1 : decode bRG_send 1 = .ok (.iload_n 1, 1) := by decide +kernel
theorem dRG_send_2 : decode bRG_send 2 = .ok (.invokevirtual 176, 3) := by decide +kernel
theorem dRG_send_5 : decode bRG_send 5 = .ok (.aload_n 0, 1) := by decide +kernel
theorem dRG_send_6 : decode bRG_send 6 = .ok (.iload_n 2, 1) := by decide +kernel
theorem dRG_send_7 : decode bRG_send 7 = .ok (.invokevirtual 176, 3) := by decide +kernel
theorem dRG_send_10 : decode bRG_send 10 = .ok (.aload_n 0, 1) := by decide +kernel
theorem dRG_send_11 : decode bRG_send 11 = .ok (.iload_n 3, 1) := by decide +kernel
theorem dRG_send_12 : decode bRG_send 12 = .ok (.invokevirtual 185, 3) := by decide +kernel
theorem dRG_send_15 : decode bRG_send 15 = .ok (.iload_n 1, 1) := by decide +kernel
theorem dRG_send_16 : decode bRG_send 16 = .ok (.iload_n 2, 1) := by decide +kernel
theorem dRG_send_17 : decode bRG_send 17 = .ok (.if_icmp .eq 29, 3) := by decide +kernel
theorem dRG_send_20 : decode bRG_send 20 = .ok (.aload_n 0, 1) := by decide +kernel
theorem dRG_send_21 : decode bRG_send 21 = .ok (.getfield 44, 3) := by decide +kernel
theorem dRG_send_24 : decode bRG_send 24 = .ok (.getfield 179, 3) := by decide +kernel
theorem dRG_send_27 : decode bRG_send 27 = .ok (.iload_n 1, 1) := by decide +kernel
theorem dRG_send_28 : decode bRG_send 28 = .ok (.iaload, 1) := by decide +kernel
theorem dRG_send_29 : decode bRG_send 29 = .ok (.iconst (-1), 1) := by decide +kernel
theorem dRG_send_30 : decode bRG_send 30 = .ok (.if_icmp .eq 16, 3) := by decide +kernel
theorem dRG_send_46 : decode bRG_send 46 = .ok (.new 76, 3) := by decide +kernel
theorem dRG_send_49 : decode bRG_send 49 = .ok (.dup, 1) := by decide +kernel
theorem dRG_send_50 : decode bRG_send 50 = .ok (.ldc 188, 2) := by decide +kernel
theorem dRG_send_52 : decode bRG_send 52 = .ok (.invokespecial 80, 3) := by decide +kernel
theorem dRG_send_55 : decode bRG_send 55 = .ok (.athrow, 1) := by decide +kernel
theorem dRG_start_0 : decode bRG_start 0 = .ok (.aload_n 0, 1) := by decide +kernel
theorem dRG_start_1 : decode bRG_start 1 = .ok (.invokevirtual 55, 3) := by decide +kernel
theorem dRG_start_4 : decode bRG_start 4 = .ok (.aload_n 0, 1) := by decide +kernel
theorem dRG_start_5 : decode bRG_start 5 = .ok (.getfield 12, 3) := by decide +kernel
theorem dRG_start_8 : decode bRG_start 8 = .ok (.aload_n 0, 1) := by decide +kernel
theorem dRG_start_9 : decode bRG_start 9 = .ok (.getfield 51, 3) := by decide +kernel
theorem dRG_start_12 : decode bRG_start 12 = .ok (.invokevirtual 100, 3) := by decide +kernel
theorem dRG_start_15 : decode bRG_start 15 = .ok (.istore_n 1, 1) := by decide +kernel
theorem dRG_start_16 : decode bRG_start 16 = .ok (.iload_n 1, 1) := by decide +kernel
theorem dRG_start_17 : decode bRG_start 17 = .ok (.ifCond .ne 22, 3) := by decide +kernel
theorem dRG_start_39 : decode bRG_start 39 = .ok (.iload_n 1, 1) := by decide +kernel
theorem dRG_start_40 : decode bRG_start 40 = .ok (.ireturn, 1) := by decide +kernel
theorem dRG_ticks_0 : decode bRG_ticks 0 = .ok (.iload_n 1, 1) := by decide +kernel
theorem dRG_ticks_1 : decode bRG_ticks 1 = .ok (.iconst 1, 1) := by decide +kernel
theorem dRG_ticks_2 : decode bRG_ticks 2 = .ok (.if_icmp .lt 10, 3) := by decide +kernel
theorem dRG_ticks_5 : decode bRG_ticks 5 = .ok (.iload_n 1, 1) := by decide +kernel
theorem dRG_ticks_6 : decode bRG_ticks 6 = .ok (.sipush 200, 3) := by decide +kernel
theorem dRG_ticks_9 : decode bRG_ticks 9 = .ok (.if_icmp .le 13, 3) := by decide +kernel
theorem dRG_ticks_12 : decode bRG_ticks 12 = .ok (.new 76, 3) := by decide +kernel
theorem dRG_ticks_15 : decode bRG_ticks 15 = .ok (.dup, 1) := by decide +kernel
theorem dRG_ticks_16 : decode bRG_ticks 16 = .ok (.ldc 150, 2) := by decide +kernel
theorem dRG_ticks_18 : decode bRG_ticks 18 = .ok (.invokespecial 80, 3) := by decide +kernel
theorem dRG_ticks_21 : decode bRG_ticks 21 = .ok (.athrow, 1) := by decide +kernel
theorem dRG_ticks_22 : decode bRG_ticks 22 = .ok (.aload_n 0, 1) := by decide +kernel
theorem dRG_ticks_23 : decode bRG_ticks 23 = .ok (.invokevirtual 114, 3) := by decide +kernel
theorem dRG_told_0 : decode bRG_told 0 = .ok (.aload_n 0, 1) := by decide +kernel
theorem dRG_told_1 : decode bRG_told 1 = .ok (.iload_n 1, 1) := by decide +kernel
theorem dRG_told_2 : decode bRG_told 2 = .ok (.invokevirtual 69, 3) := by decide +kernel
theorem dRG_visits_0 : decode bRG_visits 0 = .ok (.aload_n 0, 1) := by decide +kernel
theorem dRG_visits_1 : decode bRG_visits 1 = .ok (.getfield 44, 3) := by decide +kernel
theorem dRG_visits_4 : decode bRG_visits 4 = .ok (.getfield 194, 3) := by decide +kernel
theorem dRG_visits_7 : decode bRG_visits 7 = .ok (.ireturn, 1) := by decide +kernel
theorem dFR_init_0 : decode bFR_init 0 = .ok (.aload_n 0, 1) := by decide +kernel
theorem dFR_init_1 : decode bFR_init 1 = .ok (.invokespecial 3, 3) := by decide +kernel
theorem dFR_init_4 : decode bFR_init 4 = .ok (.aload_n 0, 1) := by decide +kernel
theorem dFR_init_5 : decode bFR_init 5 = .ok (.bipush 64, 2) := by decide +kernel
theorem dFR_init_7 : decode bFR_init 7 = .ok (.newarray .int, 2) := by decide +kernel
theorem dFR_init_9 : decode bFR_init 9 = .ok (.putfield 9, 3) := by decide +kernel
theorem dFR_init_12 : decode bFR_init 12 = .ok (.aload_n 0, 1) := by decide +kernel
theorem dFR_init_13 : decode bFR_init 13 = .ok (.sipush 400, 3) := by decide +kernel
theorem dFR_init_16 : decode bFR_init 16 = .ok (.newarray .int, 2) := by decide +kernel
theorem dFR_init_18 : decode bFR_init 18 = .ok (.putfield 15, 3) := by decide +kernel
theorem dFR_init_21 : decode bFR_init 21 = .ok (.aload_n 0, 1) := by decide +kernel
theorem dFR_init_22 : decode bFR_init 22 = .ok (.sipush 400, 3) := by decide +kernel
theorem dFR_init_25 : decode bFR_init 25 = .ok (.newarray .int, 2) := by decide +kernel
theorem dFR_init_27 : decode bFR_init 27 = .ok (.putfield 18, 3) := by decide +kernel
theorem dFR_init_30 : decode bFR_init 30 = .ok (.aload_n 0, 1) := by decide +kernel
theorem dFR_init_31 : decode bFR_init 31 = .ok (.bipush 120, 2) := by decide +kernel
theorem dFR_init_33 : decode bFR_init 33 = .ok (.newarray .int, 2) := by decide +kernel
theorem dFR_init_35 : decode bFR_init 35 = .ok (.putfield 21, 3) := by decide +kernel
theorem dFR_init_38 : decode bFR_init 38 = .ok (.aload_n 0, 1) := by decide +kernel
theorem dFR_init_39 : decode bFR_init 39 = .ok (.aload_n 1, 1) := by decide +kernel
theorem dFR_init_40 : decode bFR_init 40 = .ok (.putfield 24, 3) := by decide +kernel
theorem dFR_init_43 : decode bFR_init 43 = .ok (.aload_n 0, 1) := by decide +kernel
theorem dFR_init_44 : decode bFR_init 44 = .ok (.aload_n 2, 1) := by decide +kernel
theorem dFR_init_45 : decode bFR_init 45 = .ok (.putfield 28, 3) := by decide +kernel
theorem dFR_init_48 : decode bFR_init 48 = .ok (.aload_n 0, 1) := by decide +kernel
theorem dFR_init_49 : decode bFR_init 49 = .ok (.aload_n 3, 1) := by decide +kernel
theorem dFR_init_50 : decode bFR_init 50 = .ok (.putfield 32, 3) := by decide +kernel
theorem dFR_init_53 : decode bFR_init 53 = .ok (.aload_n 0, 1) := by decide +kernel
theorem dFR_init_54 : decode bFR_init 54 = .ok (.getfield 9, 3) := by decide +kernel
theorem dFR_init_57 : decode bFR_init 57 = .ok (.iconst (-1), 1) := by decide +kernel
theorem dFR_init_58 : decode bFR_init 58 = .ok (.invokestatic 36, 3) := by decide +kernel
theorem dFR_init_61 : decode bFR_init 61 = .ok (.return_, 1) := by decide +kernel
theorem dGR_init_0 : decode bGR_init 0 = .ok (.aload_n 0, 1) := by decide +kernel
theorem dGR_init_1 : decode bGR_init 1 = .ok (.invokespecial 3, 3) := by decide +kernel
theorem dGR_init_4 : decode bGR_init 4 = .ok (.aload_n 0, 1) := by decide +kernel
theorem dGR_init_5 : decode bGR_init 5 = .ok (.bipush 48, 2) := by decide +kernel
theorem dGR_init_7 : decode bGR_init 7 = .ok (.newarray .int, 2) := by decide +kernel
theorem dGR_init_9 : decode bGR_init 9 = .ok (.putfield 9, 3) := by decide +kernel
theorem dGR_init_12 : decode bGR_init 12 = .ok (.return_, 1) := by decide +kernel
theorem dPL_init_0 : decode bPL_init 0 = .ok (.aload_n 0, 1) := by decide +kernel
theorem dPL_init_1 : decode bPL_init 1 = .ok (.invokespecial 3, 3) := by decide +kernel
theorem dPL_init_4 : decode bPL_init 4 = .ok (.aload_n 0, 1) := by decide +kernel
theorem dPL_init_5 : decode bPL_init 5 = .ok (.bipush 60, 2) := by decide +kernel
theorem dPL_init_7 : decode bPL_init 7 = .ok (.newarray .int, 2) := by decide +kernel
theorem dPL_init_9 : decode bPL_init 9 = .ok (.putfield 9, 3) := by decide +kernel
theorem dPL_init_12 : decode bPL_init 12 = .ok (.aload_n 0, 1) := by decide +kernel
theorem dPL_init_13 : decode bPL_init 13 = .ok (.bipush 60, 2) := by decide +kernel
theorem dPL_init_15 : decode bPL_init 15 = .ok (.newarray .int, 2) := by decide +kernel
theorem dPL_init_17 : decode bPL_init 17 = .ok (.putfield 15, 3) := by decide +kernel
theorem dPL_init_20 : decode bPL_init 20 = .ok (.aload_n 0, 1) := by decide +kernel
theorem dPL_init_21 : decode bPL_init 21 = .ok (.bipush 60, 2) := by decide +kernel
theorem dPL_init_23 : decode bPL_init 23 = .ok (.newarray .int, 2) := by decide +kernel
theorem dPL_init_25 : decode bPL_init 25 = .ok (.putfield 18, 3) := by decide +kernel
theorem dPL_init_28 : decode bPL_init 28 = .ok (.aload_n 0, 1) := by decide +kernel
theorem dPL_init_29 : decode bPL_init 29 = .ok (.bipush 6, 2) := by decide +kernel
theorem dPL_init_31 : decode bPL_init 31 = .ok (.newarray .int, 2) := by decide +kernel
theorem dPL_init_33 : decode bPL_init 33 = .ok (.putfield 21, 3) := by decide +kernel
theorem dPL_init_36 : decode bPL_init 36 = .ok (.aload_n 0, 1) := by decide +kernel
theorem dPL_init_37 : decode bPL_init 37 = .ok (.bipush 6, 2) := by decide +kernel
theorem dPL_init_39 : decode bPL_init 39 = .ok (.newarray .int, 2) := by decide +kernel
theorem dPL_init_41 : decode bPL_init 41 = .ok (.putfield 24, 3) := by decide +kernel
theorem dPL_init_44 : decode bPL_init 44 = .ok (.aload_n 0, 1) := by decide +kernel
theorem dPL_init_45 : decode bPL_init 45 = .ok (.bipush 120, 2) := by decide +kernel
theorem dPL_init_47 : decode bPL_init 47 = .ok (.newarray .int, 2) := by decide +kernel
theorem dPL_init_49 : decode bPL_init 49 = .ok (.putfield 27, 3) := by decide +kernel
theorem dPL_init_52 : decode bPL_init 52 = .ok (.aload_n 0, 1) := by decide +kernel
theorem dPL_init_53 : decode bPL_init 53 = .ok (.bipush 6, 2) := by decide +kernel
theorem dPL_init_55 : decode bPL_init 55 = .ok (.newarray .int, 2) := by decide +kernel
theorem dPL_init_57 : decode bPL_init 57 = .ok (.putfield 30, 3) := by decide +kernel
theorem dPL_init_60 : decode bPL_init 60 = .ok (.aload_n 0, 1) := by decide +kernel
theorem dPL_init_61 : decode bPL_init 61 = .ok (.sipush 576, 3) := by decide +kernel
theorem dPL_init_64 : decode bPL_init 64 = .ok (.newarray .int, 2) := by decide +kernel
theorem dPL_init_66 : decode bPL_init 66 = .ok (.putfield 33, 3) := by decide +kernel
theorem dPL_init_69 : decode bPL_init 69 = .ok (.aload_n 0, 1) := by decide +kernel
theorem dPL_init_70 : decode bPL_init 70 = .ok (.bipush 6, 2) := by decide +kernel
theorem dPL_init_72 : decode bPL_init 72 = .ok (.newarray .boolean, 2) := by decide +kernel
theorem dPL_init_74 : decode bPL_init 74 = .ok (.putfield 36, 3) := by decide +kernel
theorem dPL_init_77 : decode bPL_init 77 = .ok (.aload_n 0, 1) := by decide +kernel
theorem dPL_init_78 : decode bPL_init 78 = .ok (.getfield 21, 3) := by decide +kernel
theorem dPL_init_81 : decode bPL_init 81 = .ok (.iconst (-1), 1) := by decide +kernel
theorem dPL_init_82 : decode bPL_init 82 = .ok (.invokestatic 40, 3) := by decide +kernel
theorem dPL_init_85 : decode bPL_init 85 = .ok (.aload_n 0, 1) := by decide +kernel
theorem dPL_init_86 : decode bPL_init 86 = .ok (.getfield 24, 3) := by decide +kernel
theorem dPL_init_89 : decode bPL_init 89 = .ok (.iconst (-1), 1) := by decide +kernel
theorem dPL_init_90 : decode bPL_init 90 = .ok (.invokestatic 40, 3) := by decide +kernel
theorem dPL_init_93 : decode bPL_init 93 = .ok (.aload_n 0, 1) := by decide +kernel
theorem dPL_init_94 : decode bPL_init 94 = .ok (.getfield 30, 3) := by decide +kernel
theorem dPL_init_97 : decode bPL_init 97 = .ok (.iconst (-1), 1) := by decide +kernel
theorem dPL_init_98 : decode bPL_init 98 = .ok (.invokestatic 40, 3) := by decide +kernel
theorem dPL_init_101 : decode bPL_init 101 = .ok (.aload_n 0, 1) := by decide +kernel
theorem dPL_init_102 : decode bPL_init 102 = .ok (.getfield 33, 3) := by decide +kernel
theorem dPL_init_105 : decode bPL_init 105 = .ok (.iconst (-1), 1) := by decide +kernel
theorem dPL_init_106 : decode bPL_init 106 = .ok (.invokestatic 40, 3) := by decide +kernel
theorem dPL_init_109 : decode bPL_init 109 = .ok (.return_, 1) := by decide +kernel
theorem dPL_firstFault_0 : decode bPL_firstFault 0 = .ok (.aload_n 0, 1) := by decide +kernel
theorem dPL_firstFault_1 : decode bPL_firstFault 1 = .ok (.getfield 46, 3) := by decide +kernel
theorem dPL_firstFault_4 : decode bPL_firstFault 4 = .ok (.ifCond .eq 10, 3) := by decide +kernel
theorem dPL_firstFault_14 : decode bPL_firstFault 14 = .ok (.bipush 7, 2) := by decide +kernel
theorem dPL_firstFault_16 : decode bPL_firstFault 16 = .ok (.ireturn, 1) := by decide +kernel
theorem dPR_init_0 : decode bPR_init 0 = .ok (.aload_n 0, 1) := by decide +kernel
theorem dPR_init_1 : decode bPR_init 1 = .ok (.invokespecial 3, 3) := by decide +kernel
theorem dPR_init_4 : decode bPR_init 4 = .ok (.aload_n 0, 1) := by decide +kernel
theorem dPR_init_5 : decode bPR_init 5 = .ok (.bipush 120, 2) := by decide +kernel
theorem dPR_init_7 : decode bPR_init 7 = .ok (.newarray .int, 2) := by decide +kernel
theorem dPR_init_9 : decode bPR_init 9 = .ok (.putfield 9, 3) := by decide +kernel
theorem dPR_init_12 : decode bPR_init 12 = .ok (.aload_n 0, 1) := by decide +kernel
theorem dPR_init_13 : decode bPR_init 13 = .ok (.sipush 288, 3) := by decide +kernel
theorem dPR_init_16 : decode bPR_init 16 = .ok (.newarray .int, 2) := by decide +kernel
theorem dPR_init_18 : decode bPR_init 18 = .ok (.putfield 15, 3) := by decide +kernel
theorem dPR_init_21 : decode bPR_init 21 = .ok (.aload_n 0, 1) := by decide +kernel
theorem dPR_init_22 : decode bPR_init 22 = .ok (.sipush 288, 3) := by decide +kernel
theorem dPR_init_25 : decode bPR_init 25 = .ok (.newarray .int, 2) := by decide +kernel
theorem dPR_init_27 : decode bPR_init 27 = .ok (.putfield 18, 3) := by decide +kernel
theorem dPR_init_30 : decode bPR_init 30 = .ok (.aload_n 0, 1) := by decide +kernel
theorem dPR_init_31 : decode bPR_init 31 = .ok (.bipush 6, 2) := by decide +kernel
theorem dPR_init_33 : decode bPR_init 33 = .ok (.newarray .int, 2) := by decide +kernel
theorem dPR_init_35 : decode bPR_init 35 = .ok (.putfield 21, 3) := by decide +kernel
theorem dPR_init_38 : decode bPR_init 38 = .ok (.aload_n 0, 1) := by decide +kernel
theorem dPR_init_39 : decode bPR_init 39 = .ok (.bipush 6, 2) := by decide +kernel
theorem dPR_init_41 : decode bPR_init 41 = .ok (.newarray .int, 2) := by decide +kernel
theorem dPR_init_43 : decode bPR_init 43 = .ok (.putfield 24, 3) := by decide +kernel
theorem dPR_init_46 : decode bPR_init 46 = .ok (.aload_n 0, 1) := by decide +kernel
theorem dPR_init_47 : decode bPR_init 47 = .ok (.bipush 60, 2) := by decide +kernel
theorem dPR_init_49 : decode bPR_init 49 = .ok (.newarray .int, 2) := by decide +kernel
theorem dPR_init_51 : decode bPR_init 51 = .ok (.putfield 27, 3) := by decide +kernel
theorem dPR_init_54 : decode bPR_init 54 = .ok (.aload_n 0, 1) := by decide +kernel
theorem dPR_init_55 : decode bPR_init 55 = .ok (.bipush 48, 2) := by decide +kernel
theorem dPR_init_57 : decode bPR_init 57 = .ok (.newarray .int, 2) := by decide +kernel
theorem dPR_init_59 : decode bPR_init 59 = .ok (.putfield 30, 3) := by decide +kernel
theorem dPR_init_62 : decode bPR_init 62 = .ok (.aload_n 0, 1) := by decide +kernel
theorem dPR_init_63 : decode bPR_init 63 = .ok (.sipush 5472, 3) := by decide +kernel
theorem dPR_init_66 : decode bPR_init 66 = .ok (.newarray .int, 2) := by decide +kernel
theorem dPR_init_68 : decode bPR_init 68 = .ok (.putfield 35, 3) := by decide +kernel
theorem dPR_init_71 : decode bPR_init 71 = .ok (.aload_n 0, 1) := by decide +kernel
theorem dPR_init_72 : decode bPR_init 72 = .ok (.bipush 48, 2) := by decide +kernel
theorem dPR_init_74 : decode bPR_init 74 = .ok (.newarray .int, 2) := by decide +kernel
theorem dPR_init_76 : decode bPR_init 76 = .ok (.putfield 38, 3) := by decide +kernel
theorem dPR_init_79 : decode bPR_init 79 = .ok (.aload_n 0, 1) := by decide +kernel
theorem dPR_init_80 : decode bPR_init 80 = .ok (.iconst 1, 1) := by decide +kernel
theorem dPR_init_81 : decode bPR_init 81 = .ok (.putfield 41, 3) := by decide +kernel
theorem dPR_init_84 : decode bPR_init 84 = .ok (.aload_n 0, 1) := by decide +kernel
theorem dPR_init_85 : decode bPR_init 85 = .ok (.aload_n 1, 1) := by decide +kernel
theorem dPR_init_86 : decode bPR_init 86 = .ok (.putfield 45, 3) := by decide +kernel
theorem dPR_init_89 : decode bPR_init 89 = .ok (.aload_n 0, 1) := by decide +kernel
theorem dPR_init_90 : decode bPR_init 90 = .ok (.aload_n 2, 1) := by decide +kernel
theorem dPR_init_91 : decode bPR_init 91 = .ok (.putfield 49, 3) := by decide +kernel
theorem dPR_init_94 : decode bPR_init 94 = .ok (.aload_n 0, 1) := by decide +kernel
theorem dPR_init_95 : decode bPR_init 95 = .ok (.aload_n 3, 1) := by decide +kernel
theorem dPR_init_96 : decode bPR_init 96 = .ok (.putfield 53, 3) := by decide +kernel
theorem dPR_init_99 : decode bPR_init 99 = .ok (.return_, 1) := by decide +kernel
theorem dWI_init_0 : decode bWI_init 0 = .ok (.aload_n 0, 1) := by decide +kernel
theorem dWI_init_1 : decode bWI_init 1 = .ok (.invokespecial 3, 3) := by decide +kernel
theorem dWI_init_4 : decode bWI_init 4 = .ok (.aload_n 0, 1) := by decide +kernel
theorem dWI_init_5 : decode bWI_init 5 = .ok (.sipush 7680, 3) := by decide +kernel
theorem dWI_init_8 : decode bWI_init 8 = .ok (.newarray .int, 2) := by decide +kernel
theorem dWI_init_10 : decode bWI_init 10 = .ok (.putfield 11, 3) := by decide +kernel
theorem dWI_init_13 : decode bWI_init 13 = .ok (.aload_n 0, 1) := by decide +kernel
theorem dWI_init_14 : decode bWI_init 14 = .ok (.bipush 120, 2) := by decide +kernel
theorem dWI_init_16 : decode bWI_init 16 = .ok (.newarray .int, 2) := by decide +kernel
theorem dWI_init_18 : decode bWI_init 18 = .ok (.putfield 15, 3) := by decide +kernel
theorem dWI_init_21 : decode bWI_init 21 = .ok (.aload_n 0, 1) := by decide +kernel
theorem dWI_init_22 : decode bWI_init 22 = .ok (.sipush 7680, 3) := by decide +kernel
theorem dWI_init_25 : decode bWI_init 25 = .ok (.newarray .int, 2) := by decide +kernel
theorem dWI_init_27 : decode bWI_init 27 = .ok (.putfield 18, 3) := by decide +kernel
theorem dWI_init_30 : decode bWI_init 30 = .ok (.aload_n 0, 1) := by decide +kernel
theorem dWI_init_31 : decode bWI_init 31 = .ok (.bipush 120, 2) := by decide +kernel
theorem dWI_init_33 : decode bWI_init 33 = .ok (.newarray .int, 2) := by decide +kernel
theorem dWI_init_35 : decode bWI_init 35 = .ok (.putfield 21, 3) := by decide +kernel
theorem dWI_init_38 : decode bWI_init 38 = .ok (.aload_n 0, 1) := by decide +kernel
theorem dWI_init_39 : decode bWI_init 39 = .ok (.bipush 60, 2) := by decide +kernel
theorem dWI_init_41 : decode bWI_init 41 = .ok (.newarray .int, 2) := by decide +kernel
theorem dWI_init_43 : decode bWI_init 43 = .ok (.putfield 24, 3) := by decide +kernel
theorem dWI_init_46 : decode bWI_init 46 = .ok (.return_, 1) := by decide +kernel
theorem dWI_countOnLinks_0 : decode bWI_countOnLinks 0 = .ok (.iconst 0, 1) := by decide +kernel
theorem dWI_countOnLinks_1 : decode bWI_countOnLinks 1 = .ok (.istore_n 1, 1) := by decide +kernel
theorem dWI_countOnLinks_2 : decode bWI_countOnLinks 2 = .ok (.iconst 0, 1) := by decide +kernel
theorem dWI_countOnLinks_3 : decode bWI_countOnLinks 3 = .ok (.istore_n 2, 1) := by decide +kernel
theorem dWI_countOnLinks_4 : decode bWI_countOnLinks 4 = .ok (.iload_n 2, 1) := by decide +kernel
theorem dWI_countOnLinks_5 : decode bWI_countOnLinks 5 = .ok (.bipush 120, 2) := by decide +kernel
theorem dWI_countOnLinks_7 : decode bWI_countOnLinks 7 = .ok (.if_icmp .ge 18, 3) := by decide +kernel
theorem dWI_countOnLinks_10 : decode bWI_countOnLinks 10 = .ok (.iload_n 1, 1) := by decide +kernel
theorem dWI_countOnLinks_11 : decode bWI_countOnLinks 11 = .ok (.aload_n 0, 1) := by decide +kernel
theorem dWI_countOnLinks_12 : decode bWI_countOnLinks 12 = .ok (.getfield 21, 3) := by decide +kernel
theorem dWI_countOnLinks_15 : decode bWI_countOnLinks 15 = .ok (.iload_n 2, 1) := by decide +kernel
theorem dWI_countOnLinks_16 : decode bWI_countOnLinks 16 = .ok (.iaload, 1) := by decide +kernel
theorem dWI_countOnLinks_17 : decode bWI_countOnLinks 17 = .ok (.iadd, 1) := by decide +kernel
theorem dWI_countOnLinks_18 : decode bWI_countOnLinks 18 = .ok (.istore_n 1, 1) := by decide +kernel
theorem dWI_countOnLinks_19 : decode bWI_countOnLinks 19 = .ok (.iinc 2 1, 3) := by decide +kernel
theorem dWI_countOnLinks_22 : decode bWI_countOnLinks 22 = .ok (.goto (-18), 3) := by decide +kernel
theorem dWI_countOnLinks_25 : decode bWI_countOnLinks 25 = .ok (.iload_n 1, 1) := by decide +kernel
theorem dWI_countOnLinks_26 : decode bWI_countOnLinks 26 = .ok (.ireturn, 1) := by decide +kernel
theorem dLA_bridge_0 : decode bLA_bridge 0 = .ok (.aload_n 1, 1) := by decide +kernel
theorem dLA_bridge_1 : decode bLA_bridge 1 = .ok (.iconst 0, 1) := by decide +kernel
theorem dLA_bridge_2 : decode bLA_bridge 2 = .ok (.aload_n 0, 1) := by decide +kernel
theorem dLA_bridge_3 : decode bLA_bridge 3 = .ok (.invokevirtual 7, 3) := by decide +kernel
theorem dLA_bridge_6 : decode bLA_bridge 6 = .ok (.i2l, 1) := by decide +kernel
theorem dLA_bridge_7 : decode bLA_bridge 7 = .ok (.lastore, 1) := by decide +kernel
theorem dLA_bridge_8 : decode bLA_bridge 8 = .ok (.goto 6, 3) := by decide +kernel
theorem dLA_bridge_14 : decode bLA_bridge 14 = .ok (.iconst 0, 1) := by decide +kernel
theorem dLA_bridge_15 : decode bLA_bridge 15 = .ok (.ireturn, 1) := by decide +kernel
theorem dLA_clear_0 : decode bLA_clear 0 = .ok (.aload_n 3, 1) := by decide +kernel
theorem dLA_clear_1 : decode bLA_clear 1 = .ok (.iconst 0, 1) := by decide +kernel
theorem dLA_clear_2 : decode bLA_clear 2 = .ok (.aload_n 0, 1) := by decide +kernel
theorem dLA_clear_3 : decode bLA_clear 3 = .ok (.iload_n 1, 1) := by decide +kernel
theorem dLA_clear_4 : decode bLA_clear 4 = .ok (.iload_n 2, 1) := by decide +kernel
theorem dLA_clear_5 : decode bLA_clear 5 = .ok (.invokevirtual 43, 3) := by decide +kernel
theorem dLA_clear_20 : decode bLA_clear 20 = .ok (.astore 4, 2) := by decide +kernel
theorem dLA_clear_22 : decode bLA_clear 22 = .ok (.iconst 1, 1) := by decide +kernel
theorem dLA_clear_23 : decode bLA_clear 23 = .ok (.ireturn, 1) := by decide +kernel
theorem dLA_fail_0 : decode bLA_fail 0 = .ok (.aload_n 2, 1) := by decide +kernel
theorem dLA_fail_1 : decode bLA_fail 1 = .ok (.iconst 0, 1) := by decide +kernel
theorem dLA_fail_2 : decode bLA_fail 2 = .ok (.aload_n 0, 1) := by decide +kernel
theorem dLA_fail_3 : decode bLA_fail 3 = .ok (.iload_n 1, 1) := by decide +kernel
theorem dLA_fail_4 : decode bLA_fail 4 = .ok (.invokevirtual 28, 3) := by decide +kernel
theorem dLA_fail_19 : decode bLA_fail 19 = .ok (.astore_n 3, 1) := by decide +kernel
theorem dLA_fail_20 : decode bLA_fail 20 = .ok (.iconst 1, 1) := by decide +kernel
theorem dLA_fail_21 : decode bLA_fail 21 = .ok (.ireturn, 1) := by decide +kernel
theorem dLA_heal_0 : decode bLA_heal 0 = .ok (.aload_n 2, 1) := by decide +kernel
theorem dLA_heal_1 : decode bLA_heal 1 = .ok (.iconst 0, 1) := by decide +kernel
theorem dLA_heal_2 : decode bLA_heal 2 = .ok (.aload_n 0, 1) := by decide +kernel
theorem dLA_heal_3 : decode bLA_heal 3 = .ok (.iload_n 1, 1) := by decide +kernel
theorem dLA_heal_4 : decode bLA_heal 4 = .ok (.invokevirtual 32, 3) := by decide +kernel
theorem dLA_heal_19 : decode bLA_heal 19 = .ok (.astore_n 3, 1) := by decide +kernel
theorem dLA_heal_20 : decode bLA_heal 20 = .ok (.iconst 1, 1) := by decide +kernel
theorem dLA_heal_21 : decode bLA_heal 21 = .ok (.ireturn, 1) := by decide +kernel
theorem dLA_holds_0 : decode bLA_holds 0 = .ok (.aload_n 3, 1) := by decide +kernel
theorem dLA_holds_1 : decode bLA_holds 1 = .ok (.iconst 0, 1) := by decide +kernel
theorem dLA_holds_2 : decode bLA_holds 2 = .ok (.aload_n 0, 1) := by decide +kernel
theorem dLA_holds_3 : decode bLA_holds 3 = .ok (.iload_n 1, 1) := by decide +kernel
theorem dLA_holds_4 : decode bLA_holds 4 = .ok (.iload_n 2, 1) := by decide +kernel
theorem dLA_holds_5 : decode bLA_holds 5 = .ok (.invokevirtual 57, 3) := by decide +kernel
theorem dLA_holds_13 : decode bLA_holds 13 = .ok (.astore 4, 2) := by decide +kernel
theorem dLA_holds_15 : decode bLA_holds 15 = .ok (.iconst 1, 1) := by decide +kernel
theorem dLA_holds_16 : decode bLA_holds 16 = .ok (.ireturn, 1) := by decide +kernel
theorem dLA_host_0 : decode bLA_host 0 = .ok (.aload_n 3, 1) := by decide +kernel
theorem dLA_host_1 : decode bLA_host 1 = .ok (.iconst 0, 1) := by decide +kernel
theorem dLA_host_2 : decode bLA_host 2 = .ok (.aload_n 0, 1) := by decide +kernel
theorem dLA_host_3 : decode bLA_host 3 = .ok (.iload_n 1, 1) := by decide +kernel
theorem dLA_host_4 : decode bLA_host 4 = .ok (.iload_n 2, 1) := by decide +kernel
theorem dLA_host_5 : decode bLA_host 5 = .ok (.invokevirtual 51, 3) := by decide +kernel
theorem dLA_host_13 : decode bLA_host 13 = .ok (.astore 4, 2) := by decide +kernel
theorem dLA_host_15 : decode bLA_host 15 = .ok (.iconst 1, 1) := by decide +kernel
theorem dLA_host_16 : decode bLA_host 16 = .ok (.ireturn, 1) := by decide +kernel
theorem dLA_joined_0 : decode bLA_joined 0 = .ok (.aload_n 3, 1) := by decide +kernel
theorem dLA_joined_1 : decode bLA_joined 1 = .ok (.iconst 0, 1) := by decide +kernel
theorem dLA_joined_2 : decode bLA_joined 2 = .ok (.aload_n 0, 1) := by decide +kernel
theorem dLA_joined_3 : decode bLA_joined 3 = .ok (.iload_n 1, 1) := by decide +kernel
theorem dLA_joined_4 : decode bLA_joined 4 = .ok (.iload_n 2, 1) := by decide +kernel
theorem dLA_joined_5 : decode bLA_joined 5 = .ok (.invokevirtual 66, 3) := by decide +kernel
theorem dLA_joined_20 : decode bLA_joined 20 = .ok (.astore 4, 2) := by decide +kernel
theorem dLA_joined_22 : decode bLA_joined 22 = .ok (.iconst 1, 1) := by decide +kernel
theorem dLA_joined_23 : decode bLA_joined 23 = .ok (.ireturn, 1) := by decide +kernel
theorem dLA_learned_0 : decode bLA_learned 0 = .ok (.aload 4, 2) := by decide +kernel
theorem dLA_learned_2 : decode bLA_learned 2 = .ok (.iconst 0, 1) := by decide +kernel
theorem dLA_learned_3 : decode bLA_learned 3 = .ok (.aload_n 0, 1) := by decide +kernel
theorem dLA_learned_4 : decode bLA_learned 4 = .ok (.iload_n 1, 1) := by decide +kernel
theorem dLA_learned_5 : decode bLA_learned 5 = .ok (.iload_n 2, 1) := by decide +kernel
theorem dLA_learned_6 : decode bLA_learned 6 = .ok (.iload_n 3, 1) := by decide +kernel
theorem dLA_learned_7 : decode bLA_learned 7 = .ok (.invokevirtual 63, 3) := by decide +kernel
theorem dLA_learned_15 : decode bLA_learned 15 = .ok (.astore 5, 2) := by decide +kernel
theorem dLA_learned_17 : decode bLA_learned 17 = .ok (.iconst 1, 1) := by decide +kernel
theorem dLA_learned_18 : decode bLA_learned 18 = .ok (.ireturn, 1) := by decide +kernel
theorem dLA_link_0 : decode bLA_link 0 = .ok (.aload 4, 2) := by decide +kernel
theorem dLA_link_2 : decode bLA_link 2 = .ok (.iconst 0, 1) := by decide +kernel
theorem dLA_link_3 : decode bLA_link 3 = .ok (.aload_n 0, 1) := by decide +kernel
theorem dLA_link_4 : decode bLA_link 4 = .ok (.iload_n 1, 1) := by decide +kernel
theorem dLA_link_5 : decode bLA_link 5 = .ok (.iload_n 2, 1) := by decide +kernel
theorem dLA_link_6 : decode bLA_link 6 = .ok (.iload_n 3, 1) := by decide +kernel
theorem dLA_link_7 : decode bLA_link 7 = .ok (.invokevirtual 15, 3) := by decide +kernel
theorem dLA_link_15 : decode bLA_link 15 = .ok (.astore 5, 2) := by decide +kernel
theorem dLA_link_17 : decode bLA_link 17 = .ok (.iconst 1, 1) := by decide +kernel
theorem dLA_link_18 : decode bLA_link 18 = .ok (.ireturn, 1) := by decide +kernel
theorem dLA_lose_0 : decode bLA_lose 0 = .ok (.aload_n 3, 1) := by decide +kernel
theorem dLA_lose_1 : decode bLA_lose 1 = .ok (.iconst 0, 1) := by decide +kernel
theorem dLA_lose_2 : decode bLA_lose 2 = .ok (.aload_n 0, 1) := by decide +kernel
theorem dLA_lose_3 : decode bLA_lose 3 = .ok (.iload_n 1, 1) := by decide +kernel
theorem dLA_lose_4 : decode bLA_lose 4 = .ok (.iload_n 2, 1) := by decide +kernel
theorem dLA_lose_5 : decode bLA_lose 5 = .ok (.invokevirtual 35, 3) := by decide +kernel
theorem dLA_lose_13 : decode bLA_lose 13 = .ok (.astore 4, 2) := by decide +kernel
theorem dLA_lose_15 : decode bLA_lose 15 = .ok (.iconst 1, 1) := by decide +kernel
theorem dLA_lose_16 : decode bLA_lose 16 = .ok (.ireturn, 1) := by decide +kernel
theorem dLA_order_0 : decode bLA_order 0 = .ok (.aload 4, 2) := by decide +kernel
theorem dLA_order_2 : decode bLA_order 2 = .ok (.iconst 0, 1) := by decide +kernel
theorem dLA_order_3 : decode bLA_order 3 = .ok (.aload_n 0, 1) := by decide +kernel
theorem dLA_order_4 : decode bLA_order 4 = .ok (.iload_n 1, 1) := by decide +kernel
theorem dLA_order_5 : decode bLA_order 5 = .ok (.iload_n 2, 1) := by decide +kernel
theorem dLA_order_6 : decode bLA_order 6 = .ok (.iload_n 3, 1) := by decide +kernel
theorem dLA_order_7 : decode bLA_order 7 = .ok (.invokevirtual 39, 3) := by decide +kernel
theorem dLA_order_22 : decode bLA_order 22 = .ok (.astore 5, 2) := by decide +kernel
theorem dLA_order_24 : decode bLA_order 24 = .ok (.iconst 1, 1) := by decide +kernel
theorem dLA_order_25 : decode bLA_order 25 = .ok (.ireturn, 1) := by decide +kernel
theorem dLA_owner_0 : decode bLA_owner 0 = .ok (.aload_n 0, 1) := by decide +kernel
theorem dLA_owner_1 : decode bLA_owner 1 = .ok (.iload_n 1, 1) := by decide +kernel
theorem dLA_owner_2 : decode bLA_owner 2 = .ok (.iload_n 2, 1) := by decide +kernel
theorem dLA_owner_3 : decode bLA_owner 3 = .ok (.iload_n 3, 1) := by decide +kernel
theorem dLA_owner_4 : decode bLA_owner 4 = .ok (.invokevirtual 21, 3) := by decide +kernel
theorem dLA_owner_10 : decode bLA_owner 10 = .ok (.astore 4, 2) := by decide +kernel
theorem dLA_owner_12 : decode bLA_owner 12 = .ok (.iconst 1, 1) := by decide +kernel
theorem dLA_owner_13 : decode bLA_owner 13 = .ok (.ireturn, 1) := by decide +kernel
theorem dLA_send_0 : decode bLA_send 0 = .ok (.aload 4, 2) := by decide +kernel
theorem dLA_send_2 : decode bLA_send 2 = .ok (.iconst 0, 1) := by decide +kernel
theorem dLA_send_3 : decode bLA_send 3 = .ok (.aload_n 0, 1) := by decide +kernel
theorem dLA_send_4 : decode bLA_send 4 = .ok (.iload_n 1, 1) := by decide +kernel
theorem dLA_send_5 : decode bLA_send 5 = .ok (.iload_n 2, 1) := by decide +kernel
theorem dLA_send_6 : decode bLA_send 6 = .ok (.iload_n 3, 1) := by decide +kernel
theorem dLA_send_7 : decode bLA_send 7 = .ok (.invokevirtual 54, 3) := by decide +kernel
theorem dLA_send_15 : decode bLA_send 15 = .ok (.astore 5, 2) := by decide +kernel
theorem dLA_send_17 : decode bLA_send 17 = .ok (.iconst 1, 1) := by decide +kernel
theorem dLA_send_18 : decode bLA_send 18 = .ok (.ireturn, 1) := by decide +kernel
theorem dLA_start_0 : decode bLA_start 0 = .ok (.aload_n 1, 1) := by decide +kernel
theorem dLA_start_1 : decode bLA_start 1 = .ok (.iconst 0, 1) := by decide +kernel
theorem dLA_start_2 : decode bLA_start 2 = .ok (.aload_n 0, 1) := by decide +kernel
theorem dLA_start_3 : decode bLA_start 3 = .ok (.invokevirtual 25, 3) := by decide +kernel
theorem dLA_start_6 : decode bLA_start 6 = .ok (.i2l, 1) := by decide +kernel
theorem dLA_start_7 : decode bLA_start 7 = .ok (.lastore, 1) := by decide +kernel
theorem dLA_start_8 : decode bLA_start 8 = .ok (.goto 6, 3) := by decide +kernel
theorem dLA_start_14 : decode bLA_start 14 = .ok (.iconst 0, 1) := by decide +kernel
theorem dLA_start_15 : decode bLA_start 15 = .ok (.ireturn, 1) := by decide +kernel
theorem dLA_ticks_0 : decode bLA_ticks 0 = .ok (.aload_n 2, 1) := by decide +kernel
theorem dLA_ticks_1 : decode bLA_ticks 1 = .ok (.iconst 0, 1) := by decide +kernel
theorem dLA_ticks_2 : decode bLA_ticks 2 = .ok (.aload_n 0, 1) := by decide +kernel
theorem dLA_ticks_3 : decode bLA_ticks 3 = .ok (.iload_n 1, 1) := by decide +kernel
theorem dLA_ticks_4 : decode bLA_ticks 4 = .ok (.invokevirtual 47, 3) := by decide +kernel
theorem dLA_ticks_12 : decode bLA_ticks 12 = .ok (.astore_n 3, 1) := by decide +kernel
theorem dLA_ticks_13 : decode bLA_ticks 13 = .ok (.iconst 1, 1) := by decide +kernel
theorem dLA_ticks_14 : decode bLA_ticks 14 = .ok (.ireturn, 1) := by decide +kernel
theorem dLA_ticks_15 : decode bLA_ticks 15 = .ok (.astore_n 3, 1) := by decide +kernel
theorem dLA_ticks_16 : decode bLA_ticks 16 = .ok (.iconst 2, 1) := by decide +kernel
theorem dLA_ticks_17 : decode bLA_ticks 17 = .ok (.ireturn, 1) := by decide +kernel
theorem dLA_told_0 : decode bLA_told 0 = .ok (.aload 4, 2) := by decide +kernel
theorem dLA_told_2 : decode bLA_told 2 = .ok (.iconst 0, 1) := by decide +kernel
theorem dLA_told_3 : decode bLA_told 3 = .ok (.aload_n 0, 1) := by decide +kernel
theorem dLA_told_4 : decode bLA_told 4 = .ok (.iload_n 1, 1) := by decide +kernel
theorem dLA_told_5 : decode bLA_told 5 = .ok (.iload_n 2, 1) := by decide +kernel
theorem dLA_told_6 : decode bLA_told 6 = .ok (.iload_n 3, 1) := by decide +kernel
theorem dLA_told_7 : decode bLA_told 7 = .ok (.invokevirtual 60, 3) := by decide +kernel
theorem dLA_told_15 : decode bLA_told 15 = .ok (.astore 5, 2) := by decide +kernel
theorem dLA_told_17 : decode bLA_told 17 = .ok (.iconst 1, 1) := by decide +kernel
theorem dLA_told_18 : decode bLA_told 18 = .ok (.ireturn, 1) := by decide +kernel
theorem dMO_apart_0 : decode bMO_apart 0 = .ok (.aload_n 0, 1) := by decide +kernel
theorem dMO_apart_1 : decode bMO_apart 1 = .ok (.iconst 0, 1) := by decide +kernel
theorem dMO_apart_2 : decode bMO_apart 2 = .ok (.putfield 125, 3) := by decide +kernel
theorem dMO_apart_5 : decode bMO_apart 5 = .ok (.aload_n 0, 1) := by decide +kernel
theorem dMO_apart_6 : decode bMO_apart 6 = .ok (.getfield 274, 3) := by decide +kernel
theorem dMO_apart_9 : decode bMO_apart 9 = .ok (.ireturn, 1) := by decide +kernel
theorem dMO_bridge_0 : decode bMO_bridge 0 = .ok (.aload_n 0, 1) := by decide +kernel
theorem dMO_bridge_1 : decode bMO_bridge 1 = .ok (.aload_n 0, 1) := by decide +kernel
theorem dMO_bridge_2 : decode bMO_bridge 2 = .ok (.getfield 135, 3) := by decide +kernel
theorem dMO_bridge_5 : decode bMO_bridge 5 = .ok (.ifCond .ne 12, 3) := by decide +kernel
theorem dMO_bridge_8 : decode bMO_bridge 8 = .ok (.aload_n 0, 1) := by decide +kernel
theorem dMO_bridge_9 : decode bMO_bridge 9 = .ok (.getfield 129, 3) := by decide +kernel
theorem dMO_bridge_12 : decode bMO_bridge 12 = .ok (.bipush 48, 2) := by decide +kernel
theorem dMO_bridge_14 : decode bMO_bridge 14 = .ok (.if_icmp .ne 7, 3) := by decide +kernel
theorem dMO_bridge_21 : decode bMO_bridge 21 = .ok (.iconst 0, 1) := by decide +kernel
theorem dMO_bridge_22 : decode bMO_bridge 22 = .ok (.putfield 125, 3) := by decide +kernel
theorem dMO_bridge_25 : decode bMO_bridge 25 = .ok (.aload_n 0, 1) := by decide +kernel
theorem dMO_bridge_26 : decode bMO_bridge 26 = .ok (.getfield 125, 3) := by decide +kernel
theorem dMO_bridge_29 : decode bMO_bridge 29 = .ok (.ifCond .le 5, 3) := by decide +kernel
theorem dMO_bridge_34 : decode bMO_bridge 34 = .ok (.aload_n 0, 1) := by decide +kernel
theorem dMO_bridge_35 : decode bMO_bridge 35 = .ok (.dup, 1) := by decide +kernel
theorem dMO_bridge_36 : decode bMO_bridge 36 = .ok (.getfield 129, 3) := by decide +kernel
theorem dMO_bridge_39 : decode bMO_bridge 39 = .ok (.iconst 1, 1) := by decide +kernel
theorem dMO_bridge_40 : decode bMO_bridge 40 = .ok (.iadd, 1) := by decide +kernel
theorem dMO_bridge_41 : decode bMO_bridge 41 = .ok (.putfield 129, 3) := by decide +kernel
theorem dMO_bridge_44 : decode bMO_bridge 44 = .ok (.aload_n 0, 1) := by decide +kernel
theorem dMO_bridge_45 : decode bMO_bridge 45 = .ok (.getfield 129, 3) := by decide +kernel
theorem dMO_bridge_48 : decode bMO_bridge 48 = .ok (.iconst 1, 1) := by decide +kernel
theorem dMO_bridge_49 : decode bMO_bridge 49 = .ok (.isub, 1) := by decide +kernel
theorem dMO_bridge_50 : decode bMO_bridge 50 = .ok (.ireturn, 1) := by decide +kernel
theorem dMO_casts_0 : decode bMO_casts 0 = .ok (.aload_n 0, 1) := by decide +kernel
theorem dMO_casts_1 : decode bMO_casts 1 = .ok (.iconst 0, 1) := by decide +kernel
theorem dMO_casts_2 : decode bMO_casts 2 = .ok (.putfield 125, 3) := by decide +kernel
theorem dMO_casts_5 : decode bMO_casts 5 = .ok (.iconst 0, 1) := by decide +kernel
theorem dMO_casts_6 : decode bMO_casts 6 = .ok (.istore_n 1, 1) := by decide +kernel
theorem dMO_casts_7 : decode bMO_casts 7 = .ok (.iconst 0, 1) := by decide +kernel
theorem dMO_casts_8 : decode bMO_casts 8 = .ok (.istore_n 2, 1) := by decide +kernel
theorem dMO_casts_9 : decode bMO_casts 9 = .ok (.iload_n 2, 1) := by decide +kernel
theorem dMO_casts_10 : decode bMO_casts 10 = .ok (.bipush 120, 2) := by decide +kernel
theorem dMO_casts_12 : decode bMO_casts 12 = .ok (.if_icmp .ge 18, 3) := by decide +kernel
theorem dMO_casts_15 : decode bMO_casts 15 = .ok (.iload_n 1, 1) := by decide +kernel
theorem dMO_casts_16 : decode bMO_casts 16 = .ok (.aload_n 0, 1) := by decide +kernel
theorem dMO_casts_17 : decode bMO_casts 17 = .ok (.getfield 80, 3) := by decide +kernel
theorem dMO_casts_20 : decode bMO_casts 20 = .ok (.iload_n 2, 1) := by decide +kernel
theorem dMO_casts_21 : decode bMO_casts 21 = .ok (.iaload, 1) := by decide +kernel
theorem dMO_casts_22 : decode bMO_casts 22 = .ok (.iadd, 1) := by decide +kernel
theorem dMO_casts_23 : decode bMO_casts 23 = .ok (.istore_n 1, 1) := by decide +kernel
theorem dMO_casts_24 : decode bMO_casts 24 = .ok (.iinc 2 1, 3) := by decide +kernel
theorem dMO_casts_27 : decode bMO_casts 27 = .ok (.goto (-18), 3) := by decide +kernel
theorem dMO_casts_30 : decode bMO_casts 30 = .ok (.iload_n 1, 1) := by decide +kernel
theorem dMO_casts_31 : decode bMO_casts 31 = .ok (.ireturn, 1) := by decide +kernel
theorem dMO_circles_0 : decode bMO_circles 0 = .ok (.aload_n 0, 1) := by decide +kernel
theorem dMO_circles_1 : decode bMO_circles 1 = .ok (.iconst 0, 1) := by decide +kernel
theorem dMO_circles_2 : decode bMO_circles 2 = .ok (.putfield 125, 3) := by decide +kernel
theorem dMO_circles_5 : decode bMO_circles 5 = .ok (.aload_n 0, 1) := by decide +kernel
theorem dMO_circles_6 : decode bMO_circles 6 = .ok (.getfield 290, 3) := by decide +kernel
theorem dMO_circles_9 : decode bMO_circles 9 = .ok (.ireturn, 1) := by decide +kernel
theorem dMO_clear_0 : decode bMO_clear 0 = .ok (.aload_n 0, 1) := by decide +kernel
theorem dMO_clear_1 : decode bMO_clear 1 = .ok (.aload_n 0, 1) := by decide +kernel
theorem dMO_clear_2 : decode bMO_clear 2 = .ok (.iload_n 1, 1) := by decide +kernel
theorem dMO_clear_3 : decode bMO_clear 3 = .ok (.invokevirtual 139, 3) := by decide +kernel
theorem dMO_clear_6 : decode bMO_clear 6 = .ok (.ifCond .eq 14, 3) := by decide +kernel
theorem dMO_clear_20 : decode bMO_clear 20 = .ok (.iconst 0, 1) := by decide +kernel
theorem dMO_clear_21 : decode bMO_clear 21 = .ok (.aload_n 0, 1) := by decide +kernel
theorem dMO_clear_22 : decode bMO_clear 22 = .ok (.getfield 135, 3) := by decide +kernel
theorem dMO_clear_25 : decode bMO_clear 25 = .ok (.invokevirtual 146, 3) := by decide +kernel
theorem dMO_clear_28 : decode bMO_clear 28 = .ok (.ifCond .ne 5, 3) := by decide +kernel
theorem dMO_clear_31 : decode bMO_clear 31 = .ok (.iconst 0, 1) := by decide +kernel
theorem dMO_clear_32 : decode bMO_clear 32 = .ok (.ireturn, 1) := by decide +kernel
theorem dMO_fail_0 : decode bMO_fail 0 = .ok (.aload_n 0, 1) := by decide +kernel
theorem dMO_fail_1 : decode bMO_fail 1 = .ok (.aload_n 0, 1) := by decide +kernel
theorem dMO_fail_2 : decode bMO_fail 2 = .ok (.iload_n 1, 1) := by decide +kernel
theorem dMO_fail_3 : decode bMO_fail 3 = .ok (.invokevirtual 150, 3) := by decide +kernel
theorem dMO_fail_6 : decode bMO_fail 6 = .ok (.aload_n 0, 1) := by decide +kernel
theorem dMO_fail_7 : decode bMO_fail 7 = .ok (.getfield 135, 3) := by decide +kernel
theorem dMO_fail_10 : decode bMO_fail 10 = .ok (.invokevirtual 146, 3) := by decide +kernel
theorem dMO_fail_13 : decode bMO_fail 13 = .ok (.ifCond .eq 12, 3) := by decide +kernel
theorem dMO_fail_25 : decode bMO_fail 25 = .ok (.aload_n 0, 1) := by decide +kernel
theorem dMO_fail_26 : decode bMO_fail 26 = .ok (.invokevirtual 215, 3) := by decide +kernel
theorem dMO_fail_29 : decode bMO_fail 29 = .ok (.iconst 0, 1) := by decide +kernel
theorem dMO_fail_30 : decode bMO_fail 30 = .ok (.ireturn, 1) := by decide +kernel
theorem dMO_faultOf_0 : decode bMO_faultOf 0 = .ok (.aload_n 0, 1) := by decide +kernel
theorem dMO_faultOf_1 : decode bMO_faultOf 1 = .ok (.getfield 132, 3) := by decide +kernel
theorem dMO_faultOf_4 : decode bMO_faultOf 4 = .ok (.ifCond .ne 6, 3) := by decide +kernel
theorem dMO_faultOf_7 : decode bMO_faultOf 7 = .ok (.bipush 7, 2) := by decide +kernel
theorem dMO_faultOf_9 : decode bMO_faultOf 9 = .ok (.ireturn, 1) := by decide +kernel
theorem dMO_goes_0 : decode bMO_goes 0 = .ok (.aload_n 0, 1) := by decide +kernel
theorem dMO_goes_1 : decode bMO_goes 1 = .ok (.iload_n 1, 1) := by decide +kernel
theorem dMO_goes_2 : decode bMO_goes 2 = .ok (.ifCond .ne 7, 3) := by decide +kernel
theorem dMO_goes_5 : decode bMO_goes 5 = .ok (.iconst 1, 1) := by decide +kernel
theorem dMO_goes_6 : decode bMO_goes 6 = .ok (.goto 12, 3) := by decide +kernel
theorem dMO_goes_9 : decode bMO_goes 9 = .ok (.iload_n 2, 1) := by decide +kernel
theorem dMO_goes_10 : decode bMO_goes 10 = .ok (.ifCond .ne 7, 3) := by decide +kernel
theorem dMO_goes_13 : decode bMO_goes 13 = .ok (.iconst 2, 1) := by decide +kernel
theorem dMO_goes_14 : decode bMO_goes 14 = .ok (.goto 4, 3) := by decide +kernel
theorem dMO_goes_18 : decode bMO_goes 18 = .ok (.putfield 125, 3) := by decide +kernel
theorem dMO_goes_21 : decode bMO_goes 21 = .ok (.aload_n 0, 1) := by decide +kernel
theorem dMO_goes_22 : decode bMO_goes 22 = .ok (.getfield 125, 3) := by decide +kernel
theorem dMO_goes_25 : decode bMO_goes 25 = .ok (.ifCond .ne 7, 3) := by decide +kernel
theorem dMO_goes_32 : decode bMO_goes 32 = .ok (.iconst 0, 1) := by decide +kernel
theorem dMO_goes_33 : decode bMO_goes 33 = .ok (.ireturn, 1) := by decide +kernel
theorem dMO_heal_0 : decode bMO_heal 0 = .ok (.aload_n 0, 1) := by decide +kernel
theorem dMO_heal_1 : decode bMO_heal 1 = .ok (.aload_n 0, 1) := by decide +kernel
theorem dMO_heal_2 : decode bMO_heal 2 = .ok (.iload_n 1, 1) := by decide +kernel
theorem dMO_heal_3 : decode bMO_heal 3 = .ok (.invokevirtual 150, 3) := by decide +kernel
theorem dMO_heal_6 : decode bMO_heal 6 = .ok (.aload_n 0, 1) := by decide +kernel
theorem dMO_heal_7 : decode bMO_heal 7 = .ok (.getfield 135, 3) := by decide +kernel
theorem dMO_heal_10 : decode bMO_heal 10 = .ok (.invokevirtual 146, 3) := by decide +kernel
theorem dMO_heal_13 : decode bMO_heal 13 = .ok (.ifCond .eq 12, 3) := by decide +kernel
theorem dMO_heal_25 : decode bMO_heal 25 = .ok (.aload_n 0, 1) := by decide +kernel
theorem dMO_heal_26 : decode bMO_heal 26 = .ok (.invokevirtual 215, 3) := by decide +kernel
theorem dMO_heal_29 : decode bMO_heal 29 = .ok (.iconst 0, 1) := by decide +kernel
theorem dMO_heal_30 : decode bMO_heal 30 = .ok (.ireturn, 1) := by decide +kernel
theorem dMO_holds_0 : decode bMO_holds 0 = .ok (.aload_n 0, 1) := by decide +kernel
theorem dMO_holds_1 : decode bMO_holds 1 = .ok (.aload_n 0, 1) := by decide +kernel
theorem dMO_holds_2 : decode bMO_holds 2 = .ok (.iload_n 1, 1) := by decide +kernel
theorem dMO_holds_3 : decode bMO_holds 3 = .ok (.invokevirtual 139, 3) := by decide +kernel
theorem dMO_holds_6 : decode bMO_holds 6 = .ok (.ifCond .eq 24, 3) := by decide +kernel
theorem dMO_holds_30 : decode bMO_holds 30 = .ok (.iconst 1, 1) := by decide +kernel
theorem dMO_holds_31 : decode bMO_holds 31 = .ok (.putfield 125, 3) := by decide +kernel
theorem dMO_holds_34 : decode bMO_holds 34 = .ok (.aload_n 0, 1) := by decide +kernel
theorem dMO_holds_35 : decode bMO_holds 35 = .ok (.getfield 125, 3) := by decide +kernel
theorem dMO_holds_38 : decode bMO_holds 38 = .ok (.ifCond .le 7, 3) := by decide +kernel
theorem dMO_holds_41 : decode bMO_holds 41 = .ok (.iconst 0, 1) := by decide +kernel
theorem dMO_holds_42 : decode bMO_holds 42 = .ok (.goto 14, 3) := by decide +kernel
theorem dMO_holds_56 : decode bMO_holds 56 = .ok (.ireturn, 1) := by decide +kernel
theorem dMO_host_0 : decode bMO_host 0 = .ok (.aload_n 0, 1) := by decide +kernel
theorem dMO_host_1 : decode bMO_host 1 = .ok (.iload_n 1, 1) := by decide +kernel
theorem dMO_host_2 : decode bMO_host 2 = .ok (.ifCond .lt 21, 3) := by decide +kernel
theorem dMO_host_5 : decode bMO_host 5 = .ok (.iload_n 1, 1) := by decide +kernel
theorem dMO_host_6 : decode bMO_host 6 = .ok (.bipush 64, 2) := by decide +kernel
theorem dMO_host_8 : decode bMO_host 8 = .ok (.if_icmp .ge 15, 3) := by decide +kernel
theorem dMO_host_11 : decode bMO_host 11 = .ok (.aload_n 0, 1) := by decide +kernel
theorem dMO_host_12 : decode bMO_host 12 = .ok (.iload_n 2, 1) := by decide +kernel
theorem dMO_host_13 : decode bMO_host 13 = .ok (.invokevirtual 139, 3) := by decide +kernel
theorem dMO_host_16 : decode bMO_host 16 = .ok (.ifCond .eq 7, 3) := by decide +kernel
theorem dMO_host_23 : decode bMO_host 23 = .ok (.iconst 0, 1) := by decide +kernel
theorem dMO_host_24 : decode bMO_host 24 = .ok (.aload_n 0, 1) := by decide +kernel
theorem dMO_host_25 : decode bMO_host 25 = .ok (.getfield 135, 3) := by decide +kernel
theorem dMO_host_28 : decode bMO_host 28 = .ok (.invokevirtual 146, 3) := by decide +kernel
theorem dMO_host_31 : decode bMO_host 31 = .ok (.ifCond .ne 5, 3) := by decide +kernel
theorem dMO_host_34 : decode bMO_host 34 = .ok (.iconst 0, 1) := by decide +kernel
theorem dMO_host_35 : decode bMO_host 35 = .ok (.ireturn, 1) := by decide +kernel
theorem dMO_isBridge_0 : decode bMO_isBridge 0 = .ok (.iload_n 1, 1) := by decide +kernel
theorem dMO_isBridge_1 : decode bMO_isBridge 1 = .ok (.ifCond .lt 15, 3) := by decide +kernel
theorem dMO_isBridge_4 : decode bMO_isBridge 4 = .ok (.iload_n 1, 1) := by decide +kernel
theorem dMO_isBridge_5 : decode bMO_isBridge 5 = .ok (.aload_n 0, 1) := by decide +kernel
theorem dMO_isBridge_6 : decode bMO_isBridge 6 = .ok (.getfield 129, 3) := by decide +kernel
theorem dMO_isBridge_9 : decode bMO_isBridge 9 = .ok (.if_icmp .ge 7, 3) := by decide +kernel
theorem dMO_isBridge_16 : decode bMO_isBridge 16 = .ok (.iconst 0, 1) := by decide +kernel
theorem dMO_isBridge_17 : decode bMO_isBridge 17 = .ok (.ireturn, 1) := by decide +kernel
theorem dMO_isLink_0 : decode bMO_isLink 0 = .ok (.iload_n 1, 1) := by decide +kernel
theorem dMO_isLink_1 : decode bMO_isLink 1 = .ok (.ifCond .lt 15, 3) := by decide +kernel
theorem dMO_isLink_4 : decode bMO_isLink 4 = .ok (.iload_n 1, 1) := by decide +kernel
theorem dMO_isLink_5 : decode bMO_isLink 5 = .ok (.aload_n 0, 1) := by decide +kernel
theorem dMO_isLink_6 : decode bMO_isLink 6 = .ok (.getfield 132, 3) := by decide +kernel
theorem dMO_isLink_9 : decode bMO_isLink 9 = .ok (.if_icmp .ge 7, 3) := by decide +kernel
theorem dMO_isLink_16 : decode bMO_isLink 16 = .ok (.iconst 0, 1) := by decide +kernel
theorem dMO_isLink_17 : decode bMO_isLink 17 = .ok (.ireturn, 1) := by decide +kernel
theorem dMO_isRing_0 : decode bMO_isRing 0 = .ok (.iload_n 0, 1) := by decide +kernel
theorem dMO_isRing_1 : decode bMO_isRing 1 = .ok (.ifCond .lt 13, 3) := by decide +kernel
theorem dMO_isRing_4 : decode bMO_isRing 4 = .ok (.iload_n 0, 1) := by decide +kernel
theorem dMO_isRing_5 : decode bMO_isRing 5 = .ok (.bipush 6, 2) := by decide +kernel
theorem dMO_isRing_7 : decode bMO_isRing 7 = .ok (.if_icmp .ge 7, 3) := by decide +kernel
theorem dMO_isRing_10 : decode bMO_isRing 10 = .ok (.iconst 1, 1) := by decide +kernel
theorem dMO_isRing_11 : decode bMO_isRing 11 = .ok (.goto 4, 3) := by decide +kernel
theorem dMO_isRing_14 : decode bMO_isRing 14 = .ok (.iconst 0, 1) := by decide +kernel
theorem dMO_isRing_15 : decode bMO_isRing 15 = .ok (.ireturn, 1) := by decide +kernel
theorem dMO_joined_0 : decode bMO_joined 0 = .ok (.aload_n 0, 1) := by decide +kernel
theorem dMO_joined_1 : decode bMO_joined 1 = .ok (.aload_n 0, 1) := by decide +kernel
theorem dMO_joined_2 : decode bMO_joined 2 = .ok (.iload_n 1, 1) := by decide +kernel
theorem dMO_joined_3 : decode bMO_joined 3 = .ok (.invokevirtual 139, 3) := by decide +kernel
theorem dMO_joined_6 : decode bMO_joined 6 = .ok (.ifCond .eq 15, 3) := by decide +kernel
theorem dMO_joined_21 : decode bMO_joined 21 = .ok (.iconst 1, 1) := by decide +kernel
theorem dMO_joined_22 : decode bMO_joined 22 = .ok (.putfield 125, 3) := by decide +kernel
theorem dMO_joined_25 : decode bMO_joined 25 = .ok (.aload_n 0, 1) := by decide +kernel
theorem dMO_joined_26 : decode bMO_joined 26 = .ok (.getfield 125, 3) := by decide +kernel
theorem dMO_joined_29 : decode bMO_joined 29 = .ok (.ifCond .le 5, 3) := by decide +kernel
theorem dMO_joined_32 : decode bMO_joined 32 = .ok (.iconst 0, 1) := by decide +kernel
theorem dMO_joined_33 : decode bMO_joined 33 = .ok (.ireturn, 1) := by decide +kernel
theorem dMO_learned_0 : decode bMO_learned 0 = .ok (.aload_n 0, 1) := by decide +kernel
theorem dMO_learned_1 : decode bMO_learned 1 = .ok (.aload_n 0, 1) := by decide +kernel
theorem dMO_learned_2 : decode bMO_learned 2 = .ok (.iload_n 1, 1) := by decide +kernel
theorem dMO_learned_3 : decode bMO_learned 3 = .ok (.invokevirtual 139, 3) := by decide +kernel
theorem dMO_learned_6 : decode bMO_learned 6 = .ok (.ifCond .eq 26, 3) := by decide +kernel
theorem dMO_learned_32 : decode bMO_learned 32 = .ok (.iconst 1, 1) := by decide +kernel
theorem dMO_learned_33 : decode bMO_learned 33 = .ok (.putfield 125, 3) := by decide +kernel
theorem dMO_learned_36 : decode bMO_learned 36 = .ok (.aload_n 0, 1) := by decide +kernel
theorem dMO_learned_37 : decode bMO_learned 37 = .ok (.getfield 125, 3) := by decide +kernel
theorem dMO_learned_40 : decode bMO_learned 40 = .ok (.ifCond .le 7, 3) := by decide +kernel
theorem dMO_learned_43 : decode bMO_learned 43 = .ok (.iconst (-1), 1) := by decide +kernel
theorem dMO_learned_44 : decode bMO_learned 44 = .ok (.goto 10, 3) := by decide +kernel
theorem dMO_learned_54 : decode bMO_learned 54 = .ok (.ireturn, 1) := by decide +kernel
theorem dMO_link_0 : decode bMO_link 0 = .ok (.aload_n 0, 1) := by decide +kernel
theorem dMO_link_1 : decode bMO_link 1 = .ok (.aload_n 0, 1) := by decide +kernel
theorem dMO_link_2 : decode bMO_link 2 = .ok (.iload_n 1, 1) := by decide +kernel
theorem dMO_link_3 : decode bMO_link 3 = .ok (.invokevirtual 139, 3) := by decide +kernel
theorem dMO_link_6 : decode bMO_link 6 = .ok (.ifCond .eq 27, 3) := by decide +kernel
theorem dMO_link_33 : decode bMO_link 33 = .ok (.iconst 0, 1) := by decide +kernel
theorem dMO_link_34 : decode bMO_link 34 = .ok (.aload_n 0, 1) := by decide +kernel
theorem dMO_link_35 : decode bMO_link 35 = .ok (.getfield 135, 3) := by decide +kernel
theorem dMO_link_38 : decode bMO_link 38 = .ok (.ifCond .ne 16, 3) := by decide +kernel
theorem dMO_link_41 : decode bMO_link 41 = .ok (.aload_n 0, 1) := by decide +kernel
theorem dMO_link_42 : decode bMO_link 42 = .ok (.getfield 132, 3) := by decide +kernel
theorem dMO_link_45 : decode bMO_link 45 = .ok (.bipush 60, 2) := by decide +kernel
theorem dMO_link_47 : decode bMO_link 47 = .ok (.if_icmp .ge 7, 3) := by decide +kernel
theorem dMO_link_50 : decode bMO_link 50 = .ok (.iconst 1, 1) := by decide +kernel
theorem dMO_link_51 : decode bMO_link 51 = .ok (.goto 4, 3) := by decide +kernel
theorem dMO_link_55 : decode bMO_link 55 = .ok (.invokevirtual 146, 3) := by decide +kernel
theorem dMO_link_58 : decode bMO_link 58 = .ok (.ifCond .ne 5, 3) := by decide +kernel
theorem dMO_link_61 : decode bMO_link 61 = .ok (.iconst 0, 1) := by decide +kernel
theorem dMO_link_62 : decode bMO_link 62 = .ok (.ireturn, 1) := by decide +kernel
theorem dMO_look_0 : decode bMO_look 0 = .ok (.aload_n 0, 1) := by decide +kernel
theorem dMO_look_1 : decode bMO_look 1 = .ok (.getfield 125, 3) := by decide +kernel
theorem dMO_look_4 : decode bMO_look 4 = .ok (.ifCond .le 4, 3) := by decide +kernel
theorem dMO_look_7 : decode bMO_look 7 = .ok (.return_, 1) := by decide +kernel
theorem dMO_lose_0 : decode bMO_lose 0 = .ok (.aload_n 0, 1) := by decide +kernel
theorem dMO_lose_1 : decode bMO_lose 1 = .ok (.aload_n 0, 1) := by decide +kernel
theorem dMO_lose_2 : decode bMO_lose 2 = .ok (.iload_n 1, 1) := by decide +kernel
theorem dMO_lose_3 : decode bMO_lose 3 = .ok (.invokevirtual 150, 3) := by decide +kernel
theorem dMO_lose_6 : decode bMO_lose 6 = .ok (.ifCond .eq 18, 3) := by decide +kernel
theorem dMO_lose_24 : decode bMO_lose 24 = .ok (.iconst 0, 1) := by decide +kernel
theorem dMO_lose_25 : decode bMO_lose 25 = .ok (.aload_n 0, 1) := by decide +kernel
theorem dMO_lose_26 : decode bMO_lose 26 = .ok (.getfield 135, 3) := by decide +kernel
theorem dMO_lose_29 : decode bMO_lose 29 = .ok (.invokevirtual 146, 3) := by decide +kernel
theorem dMO_lose_32 : decode bMO_lose 32 = .ok (.ifCond .ne 5, 3) := by decide +kernel
theorem dMO_lose_35 : decode bMO_lose 35 = .ok (.iconst 0, 1) := by decide +kernel
theorem dMO_lose_36 : decode bMO_lose 36 = .ok (.ireturn, 1) := by decide +kernel
theorem dMO_lost_0 : decode bMO_lost 0 = .ok (.aload_n 0, 1) := by decide +kernel
theorem dMO_lost_1 : decode bMO_lost 1 = .ok (.iconst 0, 1) := by decide +kernel
theorem dMO_lost_2 : decode bMO_lost 2 = .ok (.putfield 125, 3) := by decide +kernel
theorem dMO_lost_5 : decode bMO_lost 5 = .ok (.aload_n 0, 1) := by decide +kernel
theorem dMO_lost_6 : decode bMO_lost 6 = .ok (.getfield 239, 3) := by decide +kernel
theorem dMO_lost_9 : decode bMO_lost 9 = .ok (.ireturn, 1) := by decide +kernel
theorem dMO_order_0 : decode bMO_order 0 = .ok (.aload_n 0, 1) := by decide +kernel
theorem dMO_order_1 : decode bMO_order 1 = .ok (.aload_n 0, 1) := by decide +kernel
theorem dMO_order_2 : decode bMO_order 2 = .ok (.iload_n 1, 1) := by decide +kernel
theorem dMO_order_3 : decode bMO_order 3 = .ok (.invokevirtual 139, 3) := by decide +kernel
theorem dMO_order_6 : decode bMO_order 6 = .ok (.ifCond .eq 24, 3) := by decide +kernel
theorem dMO_order_30 : decode bMO_order 30 = .ok (.iconst 0, 1) := by decide +kernel
theorem dMO_order_31 : decode bMO_order 31 = .ok (.aload_n 0, 1) := by decide +kernel
theorem dMO_order_32 : decode bMO_order 32 = .ok (.getfield 135, 3) := by decide +kernel
theorem dMO_order_35 : decode bMO_order 35 = .ok (.invokevirtual 146, 3) := by decide +kernel
theorem dMO_order_38 : decode bMO_order 38 = .ok (.ifCond .ne 5, 3) := by decide +kernel
theorem dMO_order_41 : decode bMO_order 41 = .ok (.iconst 0, 1) := by decide +kernel
theorem dMO_order_42 : decode bMO_order 42 = .ok (.ireturn, 1) := by decide +kernel
theorem dMO_owner_0 : decode bMO_owner 0 = .ok (.aload_n 0, 1) := by decide +kernel
theorem dMO_owner_1 : decode bMO_owner 1 = .ok (.iload_n 1, 1) := by decide +kernel
theorem dMO_owner_2 : decode bMO_owner 2 = .ok (.invokestatic 143, 3) := by decide +kernel
theorem dMO_owner_5 : decode bMO_owner 5 = .ok (.ifCond .eq 23, 3) := by decide +kernel
theorem dMO_owner_8 : decode bMO_owner 8 = .ok (.aload_n 0, 1) := by decide +kernel
theorem dMO_owner_9 : decode bMO_owner 9 = .ok (.iload_n 2, 1) := by decide +kernel
theorem dMO_owner_10 : decode bMO_owner 10 = .ok (.invokevirtual 139, 3) := by decide +kernel
theorem dMO_owner_13 : decode bMO_owner 13 = .ok (.ifCond .eq 15, 3) := by decide +kernel
theorem dMO_owner_28 : decode bMO_owner 28 = .ok (.iconst 0, 1) := by decide +kernel
theorem dMO_owner_29 : decode bMO_owner 29 = .ok (.aload_n 0, 1) := by decide +kernel
theorem dMO_owner_30 : decode bMO_owner 30 = .ok (.getfield 135, 3) := by decide +kernel
theorem dMO_owner_33 : decode bMO_owner 33 = .ok (.ifCond .ne 7, 3) := by decide +kernel
theorem dMO_owner_36 : decode bMO_owner 36 = .ok (.iconst 1, 1) := by decide +kernel
theorem dMO_owner_37 : decode bMO_owner 37 = .ok (.goto 4, 3) := by decide +kernel
theorem dMO_owner_41 : decode bMO_owner 41 = .ok (.invokevirtual 146, 3) := by decide +kernel
theorem dMO_owner_44 : decode bMO_owner 44 = .ok (.ifCond .eq 17, 3) := by decide +kernel
theorem dMO_owner_61 : decode bMO_owner 61 = .ok (.return_, 1) := by decide +kernel
theorem dMO_send_0 : decode bMO_send 0 = .ok (.iload_n 1, 1) := by decide +kernel
theorem dMO_send_1 : decode bMO_send 1 = .ok (.ifCond .lt 37, 3) := by decide +kernel
theorem dMO_send_4 : decode bMO_send 4 = .ok (.iload_n 1, 1) := by decide +kernel
theorem dMO_send_5 : decode bMO_send 5 = .ok (.bipush 64, 2) := by decide +kernel
theorem dMO_send_7 : decode bMO_send 7 = .ok (.if_icmp .ge 31, 3) := by decide +kernel
theorem dMO_send_10 : decode bMO_send 10 = .ok (.iload_n 2, 1) := by decide +kernel
theorem dMO_send_11 : decode bMO_send 11 = .ok (.ifCond .lt 27, 3) := by decide +kernel
theorem dMO_send_14 : decode bMO_send 14 = .ok (.iload_n 2, 1) := by decide +kernel
theorem dMO_send_15 : decode bMO_send 15 = .ok (.bipush 64, 2) := by decide +kernel
theorem dMO_send_17 : decode bMO_send 17 = .ok (.if_icmp .ge 21, 3) := by decide +kernel
theorem dMO_send_20 : decode bMO_send 20 = .ok (.iload_n 3, 1) := by decide +kernel
theorem dMO_send_21 : decode bMO_send 21 = .ok (.ifCond .lt 17, 3) := by decide +kernel
theorem dMO_send_24 : decode bMO_send 24 = .ok (.iload_n 3, 1) := by decide +kernel
theorem dMO_send_25 : decode bMO_send 25 = .ok (.iconst 4, 1) := by decide +kernel
theorem dMO_send_26 : decode bMO_send 26 = .ok (.if_icmp .ge 12, 3) := by decide +kernel
theorem dMO_send_29 : decode bMO_send 29 = .ok (.iload_n 1, 1) := by decide +kernel
theorem dMO_send_30 : decode bMO_send 30 = .ok (.iload_n 2, 1) := by decide +kernel
theorem dMO_send_31 : decode bMO_send 31 = .ok (.if_icmp .eq 7, 3) := by decide +kernel
theorem dMO_send_34 : decode bMO_send 34 = .ok (.iconst 1, 1) := by decide +kernel
theorem dMO_send_35 : decode bMO_send 35 = .ok (.goto 4, 3) := by decide +kernel
theorem dMO_send_38 : decode bMO_send 38 = .ok (.iconst 0, 1) := by decide +kernel
theorem dMO_send_39 : decode bMO_send 39 = .ok (.istore 4, 2) := by decide +kernel
theorem dMO_send_41 : decode bMO_send 41 = .ok (.aload_n 0, 1) := by decide +kernel
theorem dMO_send_42 : decode bMO_send 42 = .ok (.iload 4, 2) := by decide +kernel
theorem dMO_send_44 : decode bMO_send 44 = .ok (.ifCond .eq 27, 3) := by decide +kernel
theorem dMO_send_47 : decode bMO_send 47 = .ok (.aload_n 0, 1) := by decide +kernel
theorem dMO_send_48 : decode bMO_send 48 = .ok (.getfield 77, 3) := by decide +kernel
theorem dMO_send_51 : decode bMO_send 51 = .ok (.iload_n 1, 1) := by decide +kernel
theorem dMO_send_52 : decode bMO_send 52 = .ok (.iaload, 1) := by decide +kernel
theorem dMO_send_53 : decode bMO_send 53 = .ok (.iconst (-1), 1) := by decide +kernel
theorem dMO_send_54 : decode bMO_send 54 = .ok (.if_icmp .eq 17, 3) := by decide +kernel
theorem dMO_send_71 : decode bMO_send 71 = .ok (.iconst 0, 1) := by decide +kernel
theorem dMO_send_72 : decode bMO_send 72 = .ok (.aload_n 0, 1) := by decide +kernel
theorem dMO_send_73 : decode bMO_send 73 = .ok (.getfield 135, 3) := by decide +kernel
theorem dMO_send_76 : decode bMO_send 76 = .ok (.invokevirtual 146, 3) := by decide +kernel
theorem dMO_send_79 : decode bMO_send 79 = .ok (.ifCond .ne 5, 3) := by decide +kernel
theorem dMO_send_82 : decode bMO_send 82 = .ok (.iconst 0, 1) := by decide +kernel
theorem dMO_send_83 : decode bMO_send 83 = .ok (.ireturn, 1) := by decide +kernel
theorem dMO_start_0 : decode bMO_start 0 = .ok (.aload_n 0, 1) := by decide +kernel
theorem dMO_start_1 : decode bMO_start 1 = .ok (.aload_n 0, 1) := by decide +kernel
theorem dMO_start_2 : decode bMO_start 2 = .ok (.getfield 135, 3) := by decide +kernel
theorem dMO_start_5 : decode bMO_start 5 = .ok (.ifCond .eq 7, 3) := by decide +kernel
theorem dMO_start_12 : decode bMO_start 12 = .ok (.iconst 0, 1) := by decide +kernel
theorem dMO_start_13 : decode bMO_start 13 = .ok (.putfield 125, 3) := by decide +kernel
theorem dMO_start_16 : decode bMO_start 16 = .ok (.aload_n 0, 1) := by decide +kernel
theorem dMO_start_17 : decode bMO_start 17 = .ok (.getfield 125, 3) := by decide +kernel
theorem dMO_start_20 : decode bMO_start 20 = .ok (.ifCond .le 5, 3) := by decide +kernel
theorem dMO_start_25 : decode bMO_start 25 = .ok (.aload_n 0, 1) := by decide +kernel
theorem dMO_start_26 : decode bMO_start 26 = .ok (.invokevirtual 181, 3) := by decide +kernel
theorem dMO_start_29 : decode bMO_start 29 = .ok (.istore_n 1, 1) := by decide +kernel
theorem dMO_start_30 : decode bMO_start 30 = .ok (.iload_n 1, 1) := by decide +kernel
theorem dMO_start_31 : decode bMO_start 31 = .ok (.ifCond .le 5, 3) := by decide +kernel
theorem dMO_start_34 : decode bMO_start 34 = .ok (.iload_n 1, 1) := by decide +kernel
theorem dMO_start_35 : decode bMO_start 35 = .ok (.ireturn, 1) := by decide +kernel
theorem dMO_thrown_0 : decode bMO_thrown 0 = .ok (.aload_n 0, 1) := by decide +kernel
theorem dMO_thrown_1 : decode bMO_thrown 1 = .ok (.getfield 125, 3) := by decide +kernel
theorem dMO_thrown_4 : decode bMO_thrown 4 = .ok (.ireturn, 1) := by decide +kernel
theorem dMO_ticks_0 : decode bMO_ticks 0 = .ok (.aload_n 0, 1) := by decide +kernel
theorem dMO_ticks_1 : decode bMO_ticks 1 = .ok (.iload_n 1, 1) := by decide +kernel
theorem dMO_ticks_2 : decode bMO_ticks 2 = .ok (.iconst 1, 1) := by decide +kernel
theorem dMO_ticks_3 : decode bMO_ticks 3 = .ok (.if_icmp .lt 14, 3) := by decide +kernel
theorem dMO_ticks_6 : decode bMO_ticks 6 = .ok (.iload_n 1, 1) := by decide +kernel
theorem dMO_ticks_7 : decode bMO_ticks 7 = .ok (.sipush 200, 3) := by decide +kernel
theorem dMO_ticks_10 : decode bMO_ticks 10 = .ok (.if_icmp .gt 7, 3) := by decide +kernel
theorem dMO_ticks_13 : decode bMO_ticks 13 = .ok (.iconst 1, 1) := by decide +kernel
theorem dMO_ticks_14 : decode bMO_ticks 14 = .ok (.goto 4, 3) := by decide +kernel
theorem dMO_ticks_17 : decode bMO_ticks 17 = .ok (.iconst 0, 1) := by decide +kernel
theorem dMO_ticks_18 : decode bMO_ticks 18 = .ok (.aload_n 0, 1) := by decide +kernel
theorem dMO_ticks_19 : decode bMO_ticks 19 = .ok (.getfield 135, 3) := by decide +kernel
theorem dMO_ticks_22 : decode bMO_ticks 22 = .ok (.ifCond .eq 19, 3) := by decide +kernel
theorem dMO_ticks_41 : decode bMO_ticks 41 = .ok (.iconst 0, 1) := by decide +kernel
theorem dMO_ticks_42 : decode bMO_ticks 42 = .ok (.invokevirtual 146, 3) := by decide +kernel
theorem dMO_ticks_45 : decode bMO_ticks 45 = .ok (.ifCond .ne 5, 3) := by decide +kernel
theorem dMO_ticks_48 : decode bMO_ticks 48 = .ok (.iconst 0, 1) := by decide +kernel
theorem dMO_ticks_49 : decode bMO_ticks 49 = .ok (.ireturn, 1) := by decide +kernel
theorem dMO_told_0 : decode bMO_told 0 = .ok (.aload_n 0, 1) := by decide +kernel
theorem dMO_told_1 : decode bMO_told 1 = .ok (.aload_n 0, 1) := by decide +kernel
theorem dMO_told_2 : decode bMO_told 2 = .ok (.iload_n 1, 1) := by decide +kernel
theorem dMO_told_3 : decode bMO_told 3 = .ok (.invokevirtual 139, 3) := by decide +kernel
theorem dMO_told_6 : decode bMO_told 6 = .ok (.ifCond .eq 23, 3) := by decide +kernel
theorem dMO_told_29 : decode bMO_told 29 = .ok (.iconst 1, 1) := by decide +kernel
theorem dMO_told_30 : decode bMO_told 30 = .ok (.putfield 125, 3) := by decide +kernel
theorem dMO_told_33 : decode bMO_told 33 = .ok (.aload_n 0, 1) := by decide +kernel
theorem dMO_told_34 : decode bMO_told 34 = .ok (.getfield 125, 3) := by decide +kernel
theorem dMO_told_37 : decode bMO_told 37 = .ok (.ifCond .le 5, 3) := by decide +kernel
theorem dMO_told_40 : decode bMO_told 40 = .ok (.iconst 0, 1) := by decide +kernel
theorem dMO_told_41 : decode bMO_told 41 = .ok (.ireturn, 1) := by decide +kernel
theorem dMO_visits_0 : decode bMO_visits 0 = .ok (.aload_n 0, 1) := by decide +kernel
theorem dMO_visits_1 : decode bMO_visits 1 = .ok (.iconst 0, 1) := by decide +kernel
theorem dMO_visits_2 : decode bMO_visits 2 = .ok (.putfield 125, 3) := by decide +kernel
theorem dMO_visits_5 : decode bMO_visits 5 = .ok (.aload_n 0, 1) := by decide +kernel
theorem dMO_visits_6 : decode bMO_visits 6 = .ok (.getfield 293, 3) := by decide +kernel
theorem dMO_visits_9 : decode bMO_visits 9 = .ok (.ireturn, 1) := by decide +kernel
theorem dAR_fill_0 : decode bAR_fill 0 = .ok (.iconst 0, 1) := by decide +kernel
theorem dAR_fill_1 : decode bAR_fill 1 = .ok (.istore_n 2, 1) := by decide +kernel
theorem dAR_fill_2 : decode bAR_fill 2 = .ok (.aload_n 0, 1) := by decide +kernel
theorem dAR_fill_3 : decode bAR_fill 3 = .ok (.arraylength, 1) := by decide +kernel
theorem dAR_fill_4 : decode bAR_fill 4 = .ok (.istore_n 3, 1) := by decide +kernel
theorem dAR_fill_5 : decode bAR_fill 5 = .ok (.iload_n 2, 1) := by decide +kernel
theorem dAR_fill_6 : decode bAR_fill 6 = .ok (.iload_n 3, 1) := by decide +kernel
theorem dAR_fill_7 : decode bAR_fill 7 = .ok (.if_icmp .ge 13, 3) := by decide +kernel
theorem dAR_fill_10 : decode bAR_fill 10 = .ok (.aload_n 0, 1) := by decide +kernel
theorem dAR_fill_11 : decode bAR_fill 11 = .ok (.iload_n 2, 1) := by decide +kernel
theorem dAR_fill_12 : decode bAR_fill 12 = .ok (.iload_n 1, 1) := by decide +kernel
theorem dAR_fill_13 : decode bAR_fill 13 = .ok (.iastore, 1) := by decide +kernel
theorem dAR_fill_14 : decode bAR_fill 14 = .ok (.iinc 2 1, 3) := by decide +kernel
theorem dAR_fill_17 : decode bAR_fill 17 = .ok (.goto (-12), 3) := by decide +kernel
theorem dAR_fill_20 : decode bAR_fill 20 = .ok (.return_, 1) := by decide +kernel
theorem zfor {N : Nat} (P : Nat → Prop) (step : ∀ k, k < N → P (k + 1) → P k) (last : P N) : P 0 := by
  have h : ∀ n, n ≤ N → P (N - n) := by
    intro n
    induction n with
    | zero => intro _; exact last
    | succ n ih =>
      intro hn
      have e : N - n = (N - (n + 1)) + 1 := by omega
      have h1 := ih (by omega)
      rw [e] at h1
      exact step _ (by omega) h1
  have h0 := h N (Nat.le_refl _)
  rwa [Nat.sub_self] at h0
theorem zupd {f : Nat → Int32} {k : Nat} {v : Int32} (hk : k < 2 ^ 31) (hf : ∀ j, j < k → f j = v) : ∀ j, j < k + 1 → upd f (nI k).toNatClampNeg v j = v := fun j hj => by
  rw [nI_clamp hk]
  unfold upd
  by_cases e : j = k
  · rw [if_pos e]
  · rw [if_neg e]; exact hf j (by omega)
theorem zno_ISE : Cond.not (.castable "java/lang/IllegalStateException" "java/lang/IllegalArgumentException") ∈ zT := List.mem_append_right _ (List.mem_cons_of_mem _ (List.mem_cons_of_mem _ List.mem_cons_self))
theorem zgoodW {y : MethodName} {b : ByteArray} {n : Nat} {r : Option FieldType} {hs : List (Nat × Nat × Nat × Nat)} : GoodIn [Cond.codeWith y b n r hs] [Cond.codeWith y b n r hs] := fun w h => ⟨h, by rw [List.mem_singleton.mp h]; exact Or.inl rfl⟩
theorem zlt {v : Int32} {n : Nat} (h0 : ¬ v < 0) (h1 : v < nI n) (hn : n < 2 ^ 31 := by decide) : v.toNatClampNeg < n := by
  obtain ⟨j, hj, rfl⟩ := nI_of h0
  rw [nI_clamp hj]
  exact (nI_ltI hj hn).mp h1
theorem zin {v : Int32} {n : Nat} (h0 : ¬ v < 0) (h1 : v < nI n) (hn : n < 2 ^ 31 := by decide) : vp_in v n := by
  rintro (h | h)
  · exact h0 h
  · exact absurd (zlt h0 h1 hn) (Nat.not_lt.mpr h)
