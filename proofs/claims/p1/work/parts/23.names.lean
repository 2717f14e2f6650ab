theorem k1_17 : tables_1_1[17]? = some (Jvm.Cond.classLink "RingGuardLaw" (8 : Nat) "RingGuard") := by decide +kernel
theorem k1_19 : tables_1_1[19]? = some (Jvm.Cond.methodLink "RingGuardLaw" (69 : Nat) ({ cls := "RingGuard", name := "<init>", desc := "()V" } : Jvm.MethodName)) := by decide +kernel
theorem k1_20 : tables_1_1[20]? = some (Jvm.Cond.instanceMethod ({ cls := "RingGuard", name := "<init>", desc := "()V" } : Jvm.MethodName)) := by decide +kernel
theorem k1_21 : tables_1_1[21]? = some (Jvm.Cond.code ({ cls := "RingGuard", name := "<init>", desc := "()V" } : Jvm.MethodName) prog_1_method_1_code (1 : Nat) (Option.none : Option Jvm.ClassFile.FieldType)) := rfl
theorem k4_108 : tables_1_4[108]? = some (Jvm.Cond.classLink "RingGuardLaw" (70 : Nat) "RingGuardModel") := by decide +kernel
theorem k4_110 : tables_1_4[110]? = some (Jvm.Cond.methodLink "RingGuardLaw" (72 : Nat) ({ cls := "RingGuardModel", name := "<init>", desc := "()V" } : Jvm.MethodName)) := by decide +kernel
theorem k4_111 : tables_1_4[111]? = some (Jvm.Cond.instanceMethod ({ cls := "RingGuardModel", name := "<init>", desc := "()V" } : Jvm.MethodName)) := by decide +kernel
theorem k4_112 : tables_1_4[112]? = some (Jvm.Cond.code ({ cls := "RingGuardModel", name := "<init>", desc := "()V" } : Jvm.MethodName) prog_10_method_1_code (2 : Nat) (Option.none : Option Jvm.ClassFile.FieldType)) := rfl
theorem dLA_law_0 : decode bLA_law 0 = .ok (.new 8, 3) := by decide +kernel
theorem dLA_law_3 : decode bLA_law 3 = .ok (.dup, 1) := by decide +kernel
theorem dLA_law_4 : decode bLA_law 4 = .ok (.invokespecial 69, 3) := by decide +kernel
theorem dLA_law_7 : decode bLA_law 7 = .ok (.astore_n 1, 1) := by decide +kernel
theorem dLA_law_8 : decode bLA_law 8 = .ok (.new 70, 3) := by decide +kernel
theorem dLA_law_11 : decode bLA_law 11 = .ok (.dup, 1) := by decide +kernel
theorem dLA_law_12 : decode bLA_law 12 = .ok (.invokespecial 72, 3) := by decide +kernel
theorem dLA_law_15 : decode bLA_law 15 = .ok (.astore_n 2, 1) := by decide +kernel
theorem dLA_law_16 : decode bLA_law 16 = .ok (.iconst 1, 1) := by decide +kernel
theorem dLA_law_17 : decode bLA_law 17 = .ok (.newarray .long, 2) := by decide +kernel
theorem dLA_law_19 : decode bLA_law 19 = .ok (.astore_n 3, 1) := by decide +kernel
theorem dLA_law_20 : decode bLA_law 20 = .ok (.iconst 0, 1) := by decide +kernel
theorem dLA_law_21 : decode bLA_law 21 = .ok (.istore 4, 2) := by decide +kernel
theorem dLA_law_32 : decode bLA_law 32 = .ok (.aload_n 0, 1) := by decide +kernel
theorem dLA_law_33 : decode bLA_law 33 = .ok (.iload 4, 2) := by decide +kernel
theorem dLA_law_35 : decode bLA_law 35 = .ok (.iaload, 1) := by decide +kernel
theorem dLA_law_36 : decode bLA_law 36 = .ok (.bipush 31, 2) := by decide +kernel
theorem dLA_law_38 : decode bLA_law 38 = .ok (.iand, 1) := by decide +kernel
