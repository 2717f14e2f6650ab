def T_RG : u_T := fun k => match k with
  | 0 => ("RingGuard", "plan", "LRingGuard$Plan;", true)
  | 1 => ("RingGuard", "wires", "LRingGuard$Wires;", true)
  | 2 => ("RingGuard", "tables", "LRingGuard$Tables;", true)
  | 3 => ("RingGuard", "protocol", "LRingGuard$Protocol;", true)
  | 4 => ("RingGuard", "frames", "LRingGuard$Frames;", true)
  | 5 => ("RingGuard", "groups", "LRingGuard$Groups;", true)
  | 6 => ("RingGuard", "started", "Z", false)
  | 7 => ("RingGuard", "ticksInAll", "I", false)
  | 8 => ("RingGuard", "calmTicks", "I", false)
  | 9 => ("RingGuard", "stirsSeen", "I", false)
  | 10 => ("RingGuard", "circleNow", "Z", false)
  | 11 => ("RingGuard", "circleCount", "I", false)
  | _ => ("RingGuard", "apartCount", "I", false)
def ty_RG : Nat → FieldType := fun k => match k with
  | 0 => .object "RingGuard$Plan"
  | 1 => .object "RingGuard$Wires"
  | 2 => .object "RingGuard$Tables"
  | 3 => .object "RingGuard$Protocol"
  | 4 => .object "RingGuard$Frames"
  | 5 => .object "RingGuard$Groups"
  | 6 => .boolean
  | 7 => .int
  | 8 => .int
  | 9 => .int
  | 10 => .boolean
  | 11 => .int
  | _ => .int
theorem nm_RG : ∀ a, a < 13 → ∀ b, b < 13 → a ≠ b → (T_RG a).2.1 ≠ (T_RG b).2.1 := by decide +kernel
theorem ok_RG : ∀ k, k < 13 → parseFieldDescriptor (T_RG k).2.2.1 = some (ty_RG k) := by decide +kernel
theorem zU_RG : (u_ws "RingGuard" T_RG 13).all (fun w => decide (w ∈ zT) && tq_ok w) = true := by decide +kernel
def T_PL : u_T := fun k => match k with
  | 0 => ("RingGuard$Plan", "bridgeCount", "I", false)
  | 1 => ("RingGuard$Plan", "linkCount", "I", false)
  | 2 => ("RingGuard$Plan", "firstOf", "[I", true)
  | 3 => ("RingGuard$Plan", "secondOf", "[I", true)
  | 4 => ("RingGuard$Plan", "ringOf", "[I", true)
  | 5 => ("RingGuard$Plan", "ownerBridge", "[I", true)
  | 6 => ("RingGuard$Plan", "ownerLink", "[I", true)
  | 7 => ("RingGuard$Plan", "placeOf", "[I", true)
  | 8 => ("RingGuard$Plan", "ownerPort", "[I", true)
  | 9 => ("RingGuard$Plan", "portsAt", "[I", true)
  | _ => ("RingGuard$Plan", "closedRing", "[Z", true)
def ty_PL : Nat → FieldType := fun k => match k with
  | 0 => .int
  | 1 => .int
  | 2 => .array .int
  | 3 => .array .int
  | 4 => .array .int
  | 5 => .array .int
  | 6 => .array .int
  | 7 => .array .int
  | 8 => .array .int
  | 9 => .array .int
  | _ => .array .boolean
theorem nm_PL : ∀ a, a < 11 → ∀ b, b < 11 → a ≠ b → (T_PL a).2.1 ≠ (T_PL b).2.1 := by decide +kernel
theorem ok_PL : ∀ k, k < 11 → parseFieldDescriptor (T_PL k).2.2.1 = some (ty_PL k) := by decide +kernel
theorem zU_PL : (u_ws "RingGuard$Plan" T_PL 11).all (fun w => decide (w ∈ zT) && tq_ok w) = true := by decide +kernel
def T_WI : u_T := fun k => match k with
  | 0 => ("RingGuard$Wires", "arriving", "[I", false)
  | 1 => ("RingGuard$Wires", "arrivingCount", "[I", false)
  | 2 => ("RingGuard$Wires", "leaving", "[I", false)
  | 3 => ("RingGuard$Wires", "leavingCount", "[I", false)
  | 4 => ("RingGuard$Wires", "toLose", "[I", true)
  | _ => ("RingGuard$Wires", "lostCount", "I", false)
def ty_WI : Nat → FieldType := fun k => match k with
  | 0 => .array .int
  | 1 => .array .int
  | 2 => .array .int
  | 3 => .array .int
  | 4 => .array .int
  | _ => .int
theorem nm_WI : ∀ a, a < 6 → ∀ b, b < 6 → a ≠ b → (T_WI a).2.1 ≠ (T_WI b).2.1 := by decide +kernel
theorem ok_WI : ∀ k, k < 6 → parseFieldDescriptor (T_WI k).2.2.1 = some (ty_WI k) := by decide +kernel
theorem zU_WI : (u_ws "RingGuard$Wires" T_WI 6).all (fun w => decide (w ∈ zT) && tq_ok w) = true := by decide +kernel
def T_TA : u_T := fun k => match k with
  | _ => ("RingGuard$Tables", "entries", "[[I", true)
def ty_TA : Nat → FieldType := fun k => match k with
  | _ => .array (.array .int)
theorem nm_TA : ∀ a, a < 1 → ∀ b, b < 1 → a ≠ b → (T_TA a).2.1 ≠ (T_TA b).2.1 := by decide +kernel
theorem ok_TA : ∀ k, k < 1 → parseFieldDescriptor (T_TA k).2.2.1 = some (ty_TA k) := by decide +kernel
theorem zU_TA : (u_ws "RingGuard$Tables" T_TA 1).all (fun w => decide (w ∈ zT) && tq_ok w) = true := by decide +kernel
def T_PR : u_T := fun k => match k with
  | 0 => ("RingGuard$Protocol", "plan", "LRingGuard$Plan;", true)
  | 1 => ("RingGuard$Protocol", "wires", "LRingGuard$Wires;", true)
  | 2 => ("RingGuard$Protocol", "tables", "LRingGuard$Tables;", true)
  | 3 => ("RingGuard$Protocol", "holdsOf", "[I", true)
  | 4 => ("RingGuard$Protocol", "guard", "[I", true)
  | 5 => ("RingGuard$Protocol", "phase", "[I", true)
  | 6 => ("RingGuard$Protocol", "clock", "[I", true)
  | 7 => ("RingGuard$Protocol", "timesTaken", "[I", true)
  | 8 => ("RingGuard$Protocol", "timesFailed", "[I", true)
  | 9 => ("RingGuard$Protocol", "timesCommanded", "[I", true)
  | 10 => ("RingGuard$Protocol", "greatestTold", "[I", true)
  | 11 => ("RingGuard$Protocol", "flushCount", "[I", true)
  | 12 => ("RingGuard$Protocol", "stirs", "I", false)
  | _ => ("RingGuard$Protocol", "holdsChanged", "Z", false)
def ty_PR : Nat → FieldType := fun k => match k with
  | 0 => .object "RingGuard$Plan"
  | 1 => .object "RingGuard$Wires"
  | 2 => .object "RingGuard$Tables"
  | 3 => .array .int
  | 4 => .array .int
  | 5 => .array .int
  | 6 => .array .int
  | 7 => .array .int
  | 8 => .array .int
  | 9 => .array .int
  | 10 => .array .int
  | 11 => .array .int
  | 12 => .int
  | _ => .boolean
theorem nm_PR : ∀ a, a < 14 → ∀ b, b < 14 → a ≠ b → (T_PR a).2.1 ≠ (T_PR b).2.1 := by decide +kernel
theorem ok_PR : ∀ k, k < 14 → parseFieldDescriptor (T_PR k).2.2.1 = some (ty_PR k) := by decide +kernel
theorem zU_PR : (u_ws "RingGuard$Protocol" T_PR 14).all (fun w => decide (w ∈ zT) && tq_ok w) = true := by decide +kernel
def T_FR : u_T := fun k => match k with
  | 0 => ("RingGuard$Frames", "plan", "LRingGuard$Plan;", true)
  | 1 => ("RingGuard$Frames", "protocol", "LRingGuard$Protocol;", true)
  | 2 => ("RingGuard$Frames", "tables", "LRingGuard$Tables;", true)
  | 3 => ("RingGuard$Frames", "bridgeOfHost", "[I", true)
  | 4 => ("RingGuard$Frames", "stepBridge", "[I", true)
  | 5 => ("RingGuard$Frames", "stepLink", "[I", true)
  | 6 => ("RingGuard$Frames", "stepCount", "I", false)
  | 7 => ("RingGuard$Frames", "passes", "[I", true)
  | _ => ("RingGuard$Frames", "mostPasses", "I", false)
def ty_FR : Nat → FieldType := fun k => match k with
  | 0 => .object "RingGuard$Plan"
  | 1 => .object "RingGuard$Protocol"
  | 2 => .object "RingGuard$Tables"
  | 3 => .array .int
  | 4 => .array .int
  | 5 => .array .int
  | 6 => .int
  | 7 => .array .int
  | _ => .int
theorem nm_FR : ∀ a, a < 9 → ∀ b, b < 9 → a ≠ b → (T_FR a).2.1 ≠ (T_FR b).2.1 := by decide +kernel
theorem ok_FR : ∀ k, k < 9 → parseFieldDescriptor (T_FR k).2.2.1 = some (ty_FR k) := by decide +kernel
theorem zU_FR : (u_ws "RingGuard$Frames" T_FR 9).all (fun w => decide (w ∈ zT) && tq_ok w) = true := by decide +kernel
def T_GR : u_T := fun k => match k with
  | 0 => ("RingGuard$Groups", "group", "[I", true)
  | 1 => ("RingGuard$Groups", "groupCount", "I", false)
  | _ => ("RingGuard$Groups", "size", "I", false)
def ty_GR : Nat → FieldType := fun k => match k with
  | 0 => .array .int
  | 1 => .int
  | _ => .int
theorem nm_GR : ∀ a, a < 3 → ∀ b, b < 3 → a ≠ b → (T_GR a).2.1 ≠ (T_GR b).2.1 := by decide +kernel
theorem ok_GR : ∀ k, k < 3 → parseFieldDescriptor (T_GR k).2.2.1 = some (ty_GR k) := by decide +kernel
theorem zU_GR : (u_ws "RingGuard$Groups" T_GR 3).all (fun w => decide (w ∈ zT) && tq_ok w) = true := by decide +kernel
def T_MO : u_T := fun k => match k with
  | 0 => ("RingGuardModel", "code", "I", false)
  | 1 => ("RingGuardModel", "started", "Z", false)
  | 2 => ("RingGuardModel", "bridges", "I", false)
  | 3 => ("RingGuardModel", "links", "I", false)
  | 4 => ("RingGuardModel", "first", "[I", true)
  | 5 => ("RingGuardModel", "second", "[I", true)
  | 6 => ("RingGuardModel", "ringOf", "[I", true)
  | 7 => ("RingGuardModel", "failed", "[Z", true)
  | 8 => ("RingGuardModel", "failures", "[I", true)
  | 9 => ("RingGuardModel", "toLose", "[I", true)
  | 10 => ("RingGuardModel", "hold", "[I", true)
  | 11 => ("RingGuardModel", "owner", "[I", true)
  | 12 => ("RingGuardModel", "protection", "[I", true)
  | 13 => ("RingGuardModel", "isClosed", "[Z", true)
  | 14 => ("RingGuardModel", "clock", "[I", true)
  | 15 => ("RingGuardModel", "taken", "[I", true)
  | 16 => ("RingGuardModel", "portLink", "[I", true)
  | 17 => ("RingGuardModel", "guard", "[I", true)
  | 18 => ("RingGuardModel", "phase", "[I", true)
  | 19 => ("RingGuardModel", "command", "[I", true)
  | 20 => ("RingGuardModel", "commandLink", "[I", true)
  | 21 => ("RingGuardModel", "commands", "[I", true)
  | 22 => ("RingGuardModel", "flushes", "[I", true)
  | 23 => ("RingGuardModel", "told", "[I", true)
  | 24 => ("RingGuardModel", "over", "[I", true)
  | 25 => ("RingGuardModel", "when", "[I", true)
  | 26 => ("RingGuardModel", "places", "[I", true)
  | 27 => ("RingGuardModel", "count", "[I", true)
  | 28 => ("RingGuardModel", "kinds", "[I", true)
  | 29 => ("RingGuardModel", "sources", "[I", true)
  | 30 => ("RingGuardModel", "names", "[I", true)
  | 31 => ("RingGuardModel", "numbers", "[I", true)
  | 32 => ("RingGuardModel", "comingCount", "[I", true)
  | 33 => ("RingGuardModel", "comingKinds", "[I", true)
  | 34 => ("RingGuardModel", "comingSources", "[I", true)
  | 35 => ("RingGuardModel", "comingNames", "[I", true)
  | 36 => ("RingGuardModel", "comingNumbers", "[I", true)
  | 37 => ("RingGuardModel", "now", "I", false)
  | 38 => ("RingGuardModel", "lost", "I", false)
  | 39 => ("RingGuardModel", "visits", "I", false)
  | 40 => ("RingGuardModel", "quiet", "I", false)
  | 41 => ("RingGuardModel", "stirred", "Z", false)
  | 42 => ("RingGuardModel", "circles", "I", false)
  | 43 => ("RingGuardModel", "apart", "I", false)
  | 44 => ("RingGuardModel", "group", "[I", true)
  | 45 => ("RingGuardModel", "degree", "[I", true)
  | 46 => ("RingGuardModel", "wayBridge", "[I", true)
  | 47 => ("RingGuardModel", "wayLink", "[I", true)
  | 48 => ("RingGuardModel", "saidKind", "I", false)
  | 49 => ("RingGuardModel", "saidSource", "I", false)
  | 50 => ("RingGuardModel", "saidName", "I", false)
  | 51 => ("RingGuardModel", "saidNumber", "I", false)
  | _ => ("RingGuardModel", "crossed", "[I", true)
def ty_MO : Nat → FieldType := fun k => match k with
  | 0 => .int
  | 1 => .boolean
  | 2 => .int
  | 3 => .int
  | 4 => .array .int
  | 5 => .array .int
  | 6 => .array .int
  | 7 => .array .boolean
  | 8 => .array .int
  | 9 => .array .int
  | 10 => .array .int
  | 11 => .array .int
  | 12 => .array .int
  | 13 => .array .boolean
  | 14 => .array .int
  | 15 => .array .int
  | 16 => .array .int
  | 17 => .array .int
  | 18 => .array .int
  | 19 => .array .int
  | 20 => .array .int
  | 21 => .array .int
  | 22 => .array .int
  | 23 => .array .int
  | 24 => .array .int
  | 25 => .array .int
  | 26 => .array .int
  | 27 => .array .int
  | 28 => .array .int
  | 29 => .array .int
  | 30 => .array .int
  | 31 => .array .int
  | 32 => .array .int
  | 33 => .array .int
  | 34 => .array .int
  | 35 => .array .int
  | 36 => .array .int
  | 37 => .int
  | 38 => .int
  | 39 => .int
  | 40 => .int
  | 41 => .boolean
  | 42 => .int
  | 43 => .int
  | 44 => .array .int
  | 45 => .array .int
  | 46 => .array .int
  | 47 => .array .int
  | 48 => .int
  | 49 => .int
  | 50 => .int
  | 51 => .int
  | _ => .array .int
theorem nm_MO : ∀ a, a < 53 → ∀ b, b < 53 → a ≠ b → (T_MO a).2.1 ≠ (T_MO b).2.1 := by decide +kernel
theorem ok_MO : ∀ k, k < 53 → parseFieldDescriptor (T_MO k).2.2.1 = some (ty_MO k) := by decide +kernel
theorem zU_MO : (u_ws "RingGuardModel" T_MO 53).all (fun w => decide (w ∈ zT) && tq_ok w) = true := by decide +kernel
abbrev zCl : List vw_C := [("RingGuard", T_RG, 13), ("RingGuard$Plan", T_PL, 11), ("RingGuard$Wires", T_WI, 6), ("RingGuard$Tables", T_TA, 1), ("RingGuard$Protocol", T_PR, 14), ("RingGuard$Frames", T_FR, 9), ("RingGuard$Groups", T_GR, 3), ("RingGuardModel", T_MO, 53)]
