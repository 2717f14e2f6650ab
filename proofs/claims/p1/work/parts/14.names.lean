theorem k1_5 : tables_1_1[5]? = some (Jvm.Cond.initialized "RingGuard$Tables") := by decide +kernel
theorem k1_6 : tables_1_1[6]? = some (Jvm.Cond.initialized "RingGuard$Protocol") := by decide +kernel
theorem k1_7 : tables_1_1[7]? = some (Jvm.Cond.initialized "RingGuard$Frames") := by decide +kernel
theorem k1_8 : tables_1_1[8]? = some (Jvm.Cond.initialized "RingGuard$Groups") := by decide +kernel
theorem k1_22 : tables_1_1[22]? = some (Jvm.Cond.methodLink "RingGuard" (3 : Nat) ({ cls := "java/lang/Object", name := "<init>", desc := "()V" } : Jvm.MethodName)) := by decide +kernel
theorem k1_25 : tables_1_1[25]? = some (Jvm.Cond.classLink "RingGuard" (9 : Nat) "RingGuard$Plan") := by decide +kernel
theorem k1_26 : tables_1_1[26]? = some (Jvm.Cond.instantiable "RingGuard$Plan" (11 : Nat)) := by decide +kernel
theorem k1_27 : tables_1_1[27]? = some (Jvm.Cond.methodLink "RingGuard" (11 : Nat) ({ cls := "RingGuard$Plan", name := "<init>", desc := "()V" } : Jvm.MethodName)) := by decide +kernel
theorem k1_28 : tables_1_1[28]? = some (Jvm.Cond.instanceMethod ({ cls := "RingGuard$Plan", name := "<init>", desc := "()V" } : Jvm.MethodName)) := by decide +kernel
theorem k1_29 : tables_1_1[29]? = some (Jvm.Cond.code ({ cls := "RingGuard$Plan", name := "<init>", desc := "()V" } : Jvm.MethodName) prog_5_method_1_code (1 : Nat) (Option.none : Option Jvm.ClassFile.FieldType)) := rfl
theorem k1_84 : tables_1_1[84]? = some (Jvm.Cond.classLink "RingGuard" (16 : Nat) "RingGuard$Wires") := by decide +kernel
theorem k1_85 : tables_1_1[85]? = some (Jvm.Cond.instantiable "RingGuard$Wires" (6 : Nat)) := by decide +kernel
theorem k1_86 : tables_1_1[86]? = some (Jvm.Cond.methodLinkNest "RingGuard" (18 : Nat) ({ cls := "RingGuard$Wires", name := "<init>", desc := "()V" } : Jvm.MethodName) "RingGuard") := by decide +kernel
theorem k1_87 : tables_1_1[87]? = some (Jvm.Cond.instanceMethod ({ cls := "RingGuard$Wires", name := "<init>", desc := "()V" } : Jvm.MethodName)) := by decide +kernel
theorem k1_88 : tables_1_1[88]? = some (Jvm.Cond.code ({ cls := "RingGuard$Wires", name := "<init>", desc := "()V" } : Jvm.MethodName) prog_8_method_1_code (1 : Nat) (Option.none : Option Jvm.ClassFile.FieldType)) := rfl
theorem k1_111 : tables_1_1[111]? = some (Jvm.Cond.classLink "RingGuard" (23 : Nat) "RingGuard$Tables") := by decide +kernel
theorem k1_112 : tables_1_1[112]? = some (Jvm.Cond.instantiable "RingGuard$Tables" (1 : Nat)) := by decide +kernel
theorem k1_113 : tables_1_1[113]? = some (Jvm.Cond.methodLink "RingGuard" (25 : Nat) ({ cls := "RingGuard$Tables", name := "<init>", desc := "()V" } : Jvm.MethodName)) := by decide +kernel
theorem k1_114 : tables_1_1[114]? = some (Jvm.Cond.instanceMethod ({ cls := "RingGuard$Tables", name := "<init>", desc := "()V" } : Jvm.MethodName)) := by decide +kernel
theorem k1_115 : tables_1_1[115]? = some (Jvm.Cond.code ({ cls := "RingGuard$Tables", name := "<init>", desc := "()V" } : Jvm.MethodName) prog_7_method_1_code (2 : Nat) (Option.none : Option Jvm.ClassFile.FieldType)) := rfl
theorem k1_116 : tables_1_1[116]? = some (Jvm.Cond.methodLink "RingGuard$Tables" (3 : Nat) ({ cls := "java/lang/Object", name := "<init>", desc := "()V" } : Jvm.MethodName)) := by decide +kernel
theorem k1_117 : tables_1_1[117]? = some (Jvm.Cond.classLink "RingGuard$Tables" (9 : Nat) "[[I") := by decide +kernel
theorem k1_118 : tables_1_1[118]? = some (Jvm.Cond.arrayOver (Jvm.ClassFile.FieldType.array Jvm.ClassFile.FieldType.int)) := by decide +kernel
theorem k1_119 : tables_1_1[119]? = some (Jvm.Cond.methodLink "RingGuard$Tables" (16 : Nat) ({ cls := "java/util/Arrays", name := "fill", desc := "([II)V" } : Jvm.MethodName)) := by decide +kernel
theorem k1_120 : tables_1_1[120]? = some (Jvm.Cond.fieldLink "RingGuard$Tables" (11 : Nat) "RingGuard$Tables" "entries" "[[I") := by decide +kernel
theorem k1_124 : tables_1_1[124]? = some (Jvm.Cond.classLink "RingGuard" (30 : Nat) "RingGuard$Protocol") := by decide +kernel
theorem k1_125 : tables_1_1[125]? = some (Jvm.Cond.instantiable "RingGuard$Protocol" (14 : Nat)) := by decide +kernel
theorem k1_126 : tables_1_1[126]? = some (Jvm.Cond.methodLink "RingGuard" (32 : Nat) ({ cls := "RingGuard$Protocol", name := "<init>", desc := "(LRingGuard$Plan;LRingGuard$Wires;LRingGuard$Tables;)V" } : Jvm.MethodName)) := by decide +kernel
theorem k1_127 : tables_1_1[127]? = some (Jvm.Cond.instanceMethod ({ cls := "RingGuard$Protocol", name := "<init>", desc := "(LRingGuard$Plan;LRingGuard$Wires;LRingGuard$Tables;)V" } : Jvm.MethodName)) := by decide +kernel
theorem k1_128 : tables_1_1[128]? = some (Jvm.Cond.code ({ cls := "RingGuard$Protocol", name := "<init>", desc := "(LRingGuard$Plan;LRingGuard$Wires;LRingGuard$Tables;)V" } : Jvm.MethodName) prog_6_method_1_code (4 : Nat) (Option.none : Option Jvm.ClassFile.FieldType)) := rfl
theorem k1_179 : tables_1_1[179]? = some (Jvm.Cond.classLink "RingGuard" (39 : Nat) "RingGuard$Frames") := by decide +kernel
theorem k1_180 : tables_1_1[180]? = some (Jvm.Cond.instantiable "RingGuard$Frames" (9 : Nat)) := by decide +kernel
theorem k1_181 : tables_1_1[181]? = some (Jvm.Cond.methodLink "RingGuard" (41 : Nat) ({ cls := "RingGuard$Frames", name := "<init>", desc := "(LRingGuard$Plan;LRingGuard$Protocol;LRingGuard$Tables;)V" } : Jvm.MethodName)) := by decide +kernel
theorem k1_182 : tables_1_1[182]? = some (Jvm.Cond.instanceMethod ({ cls := "RingGuard$Frames", name := "<init>", desc := "(LRingGuard$Plan;LRingGuard$Protocol;LRingGuard$Tables;)V" } : Jvm.MethodName)) := by decide +kernel
theorem k1_183 : tables_1_1[183]? = some (Jvm.Cond.code ({ cls := "RingGuard$Frames", name := "<init>", desc := "(LRingGuard$Plan;LRingGuard$Protocol;LRingGuard$Tables;)V" } : Jvm.MethodName) prog_3_method_1_code (4 : Nat) (Option.none : Option Jvm.ClassFile.FieldType)) := rfl
theorem k1_216 : tables_1_1[216]? = some (Jvm.Cond.classLink "RingGuard" (48 : Nat) "RingGuard$Groups") := by decide +kernel
theorem k1_217 : tables_1_1[217]? = some (Jvm.Cond.instantiable "RingGuard$Groups" (3 : Nat)) := by decide +kernel
theorem k1_218 : tables_1_1[218]? = some (Jvm.Cond.methodLinkNest "RingGuard" (50 : Nat) ({ cls := "RingGuard$Groups", name := "<init>", desc := "()V" } : Jvm.MethodName) "RingGuard") := by decide +kernel
theorem k1_219 : tables_1_1[219]? = some (Jvm.Cond.instanceMethod ({ cls := "RingGuard$Groups", name := "<init>", desc := "()V" } : Jvm.MethodName)) := by decide +kernel
theorem k1_220 : tables_1_1[220]? = some (Jvm.Cond.code ({ cls := "RingGuard$Groups", name := "<init>", desc := "()V" } : Jvm.MethodName) prog_4_method_1_code (1 : Nat) (Option.none : Option Jvm.ClassFile.FieldType)) := rfl
theorem k1_237 : tables_1_1[237]? = some (Jvm.Cond.fieldLink "RingGuard" (26 : Nat) "RingGuard" "tables" "LRingGuard$Tables;") := by decide +kernel
theorem k1_238 : tables_1_1[238]? = some (Jvm.Cond.fieldLink "RingGuard" (35 : Nat) "RingGuard" "protocol" "LRingGuard$Protocol;") := by decide +kernel
theorem k4_113 : tables_1_4[113]? = some (Jvm.Cond.methodLink "RingGuardModel" (1 : Nat) ({ cls := "java/lang/Object", name := "<init>", desc := "()V" } : Jvm.MethodName)) := by decide +kernel
theorem k4_118 : tables_1_4[118]? = some (Jvm.Cond.fieldLink "RingGuardModel" (7 : Nat) "RingGuardModel" "first" "[I") := by decide +kernel
theorem k4_119 : tables_1_4[119]? = some (Jvm.Cond.fieldLink "RingGuardModel" (13 : Nat) "RingGuardModel" "second" "[I") := by decide +kernel
theorem k4_120 : tables_1_4[120]? = some (Jvm.Cond.fieldLink "RingGuardModel" (16 : Nat) "RingGuardModel" "ringOf" "[I") := by decide +kernel
theorem k4_121 : tables_1_4[121]? = some (Jvm.Cond.fieldLink "RingGuardModel" (19 : Nat) "RingGuardModel" "failed" "[Z") := by decide +kernel
theorem k4_122 : tables_1_4[122]? = some (Jvm.Cond.fieldLink "RingGuardModel" (23 : Nat) "RingGuardModel" "failures" "[I") := by decide +kernel
theorem k4_123 : tables_1_4[123]? = some (Jvm.Cond.fieldLink "RingGuardModel" (26 : Nat) "RingGuardModel" "toLose" "[I") := by decide +kernel
theorem k4_124 : tables_1_4[124]? = some (Jvm.Cond.fieldLink "RingGuardModel" (29 : Nat) "RingGuardModel" "hold" "[I") := by decide +kernel
theorem k4_125 : tables_1_4[125]? = some (Jvm.Cond.fieldLink "RingGuardModel" (32 : Nat) "RingGuardModel" "owner" "[I") := by decide +kernel
theorem k4_126 : tables_1_4[126]? = some (Jvm.Cond.fieldLink "RingGuardModel" (35 : Nat) "RingGuardModel" "protection" "[I") := by decide +kernel
theorem k4_127 : tables_1_4[127]? = some (Jvm.Cond.fieldLink "RingGuardModel" (38 : Nat) "RingGuardModel" "isClosed" "[Z") := by decide +kernel
theorem k4_128 : tables_1_4[128]? = some (Jvm.Cond.fieldLink "RingGuardModel" (41 : Nat) "RingGuardModel" "clock" "[I") := by decide +kernel
theorem k4_129 : tables_1_4[129]? = some (Jvm.Cond.fieldLink "RingGuardModel" (44 : Nat) "RingGuardModel" "taken" "[I") := by decide +kernel
theorem k4_130 : tables_1_4[130]? = some (Jvm.Cond.fieldLink "RingGuardModel" (47 : Nat) "RingGuardModel" "portLink" "[I") := by decide +kernel
theorem k4_131 : tables_1_4[131]? = some (Jvm.Cond.fieldLink "RingGuardModel" (50 : Nat) "RingGuardModel" "guard" "[I") := by decide +kernel
theorem k4_132 : tables_1_4[132]? = some (Jvm.Cond.fieldLink "RingGuardModel" (53 : Nat) "RingGuardModel" "phase" "[I") := by decide +kernel
theorem k4_133 : tables_1_4[133]? = some (Jvm.Cond.fieldLink "RingGuardModel" (56 : Nat) "RingGuardModel" "command" "[I") := by decide +kernel
theorem k4_134 : tables_1_4[134]? = some (Jvm.Cond.fieldLink "RingGuardModel" (59 : Nat) "RingGuardModel" "commandLink" "[I") := by decide +kernel
theorem k4_135 : tables_1_4[135]? = some (Jvm.Cond.fieldLink "RingGuardModel" (62 : Nat) "RingGuardModel" "commands" "[I") := by decide +kernel
theorem k4_136 : tables_1_4[136]? = some (Jvm.Cond.fieldLink "RingGuardModel" (65 : Nat) "RingGuardModel" "flushes" "[I") := by decide +kernel
theorem k4_137 : tables_1_4[137]? = some (Jvm.Cond.fieldLink "RingGuardModel" (68 : Nat) "RingGuardModel" "told" "[I") := by decide +kernel
theorem k4_138 : tables_1_4[138]? = some (Jvm.Cond.fieldLink "RingGuardModel" (71 : Nat) "RingGuardModel" "over" "[I") := by decide +kernel
theorem k4_139 : tables_1_4[139]? = some (Jvm.Cond.fieldLink "RingGuardModel" (74 : Nat) "RingGuardModel" "when" "[I") := by decide +kernel
theorem k4_142 : tables_1_4[142]? = some (Jvm.Cond.fieldLink "RingGuardModel" (83 : Nat) "RingGuardModel" "kinds" "[I") := by decide +kernel
theorem k4_143 : tables_1_4[143]? = some (Jvm.Cond.fieldLink "RingGuardModel" (86 : Nat) "RingGuardModel" "sources" "[I") := by decide +kernel
theorem k4_144 : tables_1_4[144]? = some (Jvm.Cond.fieldLink "RingGuardModel" (89 : Nat) "RingGuardModel" "names" "[I") := by decide +kernel
theorem k4_145 : tables_1_4[145]? = some (Jvm.Cond.fieldLink "RingGuardModel" (92 : Nat) "RingGuardModel" "numbers" "[I") := by decide +kernel
theorem k4_146 : tables_1_4[146]? = some (Jvm.Cond.fieldLink "RingGuardModel" (95 : Nat) "RingGuardModel" "comingCount" "[I") := by decide +kernel
theorem k4_147 : tables_1_4[147]? = some (Jvm.Cond.fieldLink "RingGuardModel" (98 : Nat) "RingGuardModel" "comingKinds" "[I") := by decide +kernel
theorem k4_148 : tables_1_4[148]? = some (Jvm.Cond.fieldLink "RingGuardModel" (101 : Nat) "RingGuardModel" "comingSources" "[I") := by decide +kernel
theorem k4_149 : tables_1_4[149]? = some (Jvm.Cond.fieldLink "RingGuardModel" (104 : Nat) "RingGuardModel" "comingNames" "[I") := by decide +kernel
theorem k4_150 : tables_1_4[150]? = some (Jvm.Cond.fieldLink "RingGuardModel" (107 : Nat) "RingGuardModel" "comingNumbers" "[I") := by decide +kernel
theorem k4_158 : tables_1_4[158]? = some (Jvm.Cond.fieldLink "RingGuardModel" (110 : Nat) "RingGuardModel" "group" "[I") := by decide +kernel
theorem k4_159 : tables_1_4[159]? = some (Jvm.Cond.fieldLink "RingGuardModel" (113 : Nat) "RingGuardModel" "degree" "[I") := by decide +kernel
theorem k4_160 : tables_1_4[160]? = some (Jvm.Cond.fieldLink "RingGuardModel" (116 : Nat) "RingGuardModel" "wayBridge" "[I") := by decide +kernel
theorem k4_161 : tables_1_4[161]? = some (Jvm.Cond.fieldLink "RingGuardModel" (119 : Nat) "RingGuardModel" "wayLink" "[I") := by decide +kernel
theorem k4_166 : tables_1_4[166]? = some (Jvm.Cond.fieldLink "RingGuardModel" (122 : Nat) "RingGuardModel" "crossed" "[I") := by decide +kernel
abbrev yTA_init : MethodName := ⟨"RingGuard$Tables", "<init>", "()V"⟩
abbrev bTA_init : ByteArray := prog_7_method_1_code
abbrev yRG_init : MethodName := ⟨"RingGuard", "<init>", "()V"⟩
abbrev bRG_init : ByteArray := prog_1_method_1_code
abbrev yMO_init : MethodName := ⟨"RingGuardModel", "<init>", "()V"⟩
abbrev bMO_init : ByteArray := prog_10_method_1_code
theorem dRG_init_0 : decode bRG_init 0 = .ok (.aload_n 0, 1) := by decide +kernel
theorem dRG_init_1 : decode bRG_init 1 = .ok (.invokespecial 3, 3) := by decide +kernel
theorem dRG_init_4 : decode bRG_init 4 = .ok (.aload_n 0, 1) := by decide +kernel
theorem dRG_init_5 : decode bRG_init 5 = .ok (.new 9, 3) := by decide +kernel
theorem dRG_init_8 : decode bRG_init 8 = .ok (.dup, 1) := by decide +kernel
theorem dRG_init_9 : decode bRG_init 9 = .ok (.invokespecial 11, 3) := by decide +kernel
theorem dRG_init_12 : decode bRG_init 12 = .ok (.putfield 12, 3) := by decide +kernel
theorem dRG_init_15 : decode bRG_init 15 = .ok (.aload_n 0, 1) := by decide +kernel
theorem dRG_init_16 : decode bRG_init 16 = .ok (.new 16, 3) := by decide +kernel
theorem dRG_init_19 : decode bRG_init 19 = .ok (.dup, 1) := by decide +kernel
theorem dRG_init_20 : decode bRG_init 20 = .ok (.invokespecial 18, 3) := by decide +kernel
theorem dRG_init_23 : decode bRG_init 23 = .ok (.putfield 19, 3) := by decide +kernel
theorem dRG_init_26 : decode bRG_init 26 = .ok (.aload_n 0, 1) := by decide +kernel
theorem dRG_init_27 : decode bRG_init 27 = .ok (.new 23, 3) := by decide +kernel
theorem dRG_init_30 : decode bRG_init 30 = .ok (.dup, 1) := by decide +kernel
theorem dRG_init_31 : decode bRG_init 31 = .ok (.invokespecial 25, 3) := by decide +kernel
theorem dRG_init_34 : decode bRG_init 34 = .ok (.putfield 26, 3) := by decide +kernel
theorem dRG_init_37 : decode bRG_init 37 = .ok (.aload_n 0, 1) := by decide +kernel
theorem dRG_init_38 : decode bRG_init 38 = .ok (.new 30, 3) := by decide +kernel
theorem dRG_init_41 : decode bRG_init 41 = .ok (.dup, 1) := by decide +kernel
theorem dRG_init_42 : decode bRG_init 42 = .ok (.aload_n 0, 1) := by decide +kernel
theorem dRG_init_43 : decode bRG_init 43 = .ok (.getfield 12, 3) := by decide +kernel
theorem dRG_init_46 : decode bRG_init 46 = .ok (.aload_n 0, 1) := by decide +kernel
theorem dRG_init_47 : decode bRG_init 47 = .ok (.getfield 19, 3) := by decide +kernel
theorem dRG_init_50 : decode bRG_init 50 = .ok (.aload_n 0, 1) := by decide +kernel
theorem dRG_init_51 : decode bRG_init 51 = .ok (.getfield 26, 3) := by decide +kernel
theorem dRG_init_54 : decode bRG_init 54 = .ok (.invokespecial 32, 3) := by decide +kernel
theorem dRG_init_57 : decode bRG_init 57 = .ok (.putfield 35, 3) := by decide +kernel
theorem dRG_init_60 : decode bRG_init 60 = .ok (.aload_n 0, 1) := by decide +kernel
theorem dRG_init_61 : decode bRG_init 61 = .ok (.new 39, 3) := by decide +kernel
theorem dRG_init_64 : decode bRG_init 64 = .ok (.dup, 1) := by decide +kernel
theorem dRG_init_65 : decode bRG_init 65 = .ok (.aload_n 0, 1) := by decide +kernel
theorem dRG_init_66 : decode bRG_init 66 = .ok (.getfield 12, 3) := by decide +kernel
theorem dRG_init_69 : decode bRG_init 69 = .ok (.aload_n 0, 1) := by decide +kernel
theorem dRG_init_70 : decode bRG_init 70 = .ok (.getfield 35, 3) := by decide +kernel
theorem dRG_init_73 : decode bRG_init 73 = .ok (.aload_n 0, 1) := by decide +kernel
theorem dRG_init_74 : decode bRG_init 74 = .ok (.getfield 26, 3) := by decide +kernel
theorem dRG_init_77 : decode bRG_init 77 = .ok (.invokespecial 41, 3) := by decide +kernel
theorem dRG_init_80 : decode bRG_init 80 = .ok (.putfield 44, 3) := by decide +kernel
theorem dRG_init_83 : decode bRG_init 83 = .ok (.aload_n 0, 1) := by decide +kernel
theorem dRG_init_84 : decode bRG_init 84 = .ok (.new 48, 3) := by decide +kernel
theorem dRG_init_87 : decode bRG_init 87 = .ok (.dup, 1) := by decide +kernel
theorem dRG_init_88 : decode bRG_init 88 = .ok (.invokespecial 50, 3) := by decide +kernel
theorem dRG_init_91 : decode bRG_init 91 = .ok (.putfield 51, 3) := by decide +kernel
theorem dRG_init_94 : decode bRG_init 94 = .ok (.return_, 1) := by decide +kernel
theorem dTA_init_0 : decode bTA_init 0 = .ok (.aload_n 0, 1) := by decide +kernel
theorem dTA_init_1 : decode bTA_init 1 = .ok (.invokespecial 3, 3) := by decide +kernel
theorem dTA_init_4 : decode bTA_init 4 = .ok (.aload_n 0, 1) := by decide +kernel
theorem dTA_init_5 : decode bTA_init 5 = .ok (.bipush 48, 2) := by decide +kernel
theorem dTA_init_7 : decode bTA_init 7 = .ok (.sipush 256, 3) := by decide +kernel
theorem dTA_init_10 : decode bTA_init 10 = .ok (.multianewarray 9 2, 4) := by decide +kernel
theorem dTA_init_14 : decode bTA_init 14 = .ok (.putfield 11, 3) := by decide +kernel
theorem dTA_init_17 : decode bTA_init 17 = .ok (.iconst 0, 1) := by decide +kernel
theorem dTA_init_18 : decode bTA_init 18 = .ok (.istore_n 1, 1) := by decide +kernel
theorem dTA_init_19 : decode bTA_init 19 = .ok (.iload_n 1, 1) := by decide +kernel
theorem dTA_init_20 : decode bTA_init 20 = .ok (.bipush 48, 2) := by decide +kernel
theorem dTA_init_22 : decode bTA_init 22 = .ok (.if_icmp .ge 19, 3) := by decide +kernel
theorem dTA_init_25 : decode bTA_init 25 = .ok (.aload_n 0, 1) := by decide +kernel
theorem dTA_init_26 : decode bTA_init 26 = .ok (.getfield 11, 3) := by decide +kernel
theorem dTA_init_29 : decode bTA_init 29 = .ok (.iload_n 1, 1) := by decide +kernel
theorem dTA_init_30 : decode bTA_init 30 = .ok (.aaload, 1) := by decide +kernel
theorem dTA_init_31 : decode bTA_init 31 = .ok (.iconst (-1), 1) := by decide +kernel
theorem dTA_init_32 : decode bTA_init 32 = .ok (.invokestatic 16, 3) := by decide +kernel
theorem dTA_init_35 : decode bTA_init 35 = .ok (.iinc 1 1, 3) := by decide +kernel
theorem dTA_init_38 : decode bTA_init 38 = .ok (.goto (-19), 3) := by decide +kernel
theorem dTA_init_41 : decode bTA_init 41 = .ok (.return_, 1) := by decide +kernel
theorem dMO_init_0 : decode bMO_init 0 = .ok (.aload_n 0, 1) := by decide +kernel
theorem dMO_init_1 : decode bMO_init 1 = .ok (.invokespecial 1, 3) := by decide +kernel
theorem dMO_init_4 : decode bMO_init 4 = .ok (.aload_n 0, 1) := by decide +kernel
theorem dMO_init_5 : decode bMO_init 5 = .ok (.bipush 60, 2) := by decide +kernel
theorem dMO_init_7 : decode bMO_init 7 = .ok (.newarray .int, 2) := by decide +kernel
theorem dMO_init_9 : decode bMO_init 9 = .ok (.putfield 7, 3) := by decide +kernel
theorem dMO_init_12 : decode bMO_init 12 = .ok (.aload_n 0, 1) := by decide +kernel
theorem dMO_init_13 : decode bMO_init 13 = .ok (.bipush 60, 2) := by decide +kernel
theorem dMO_init_15 : decode bMO_init 15 = .ok (.newarray .int, 2) := by decide +kernel
theorem dMO_init_17 : decode bMO_init 17 = .ok (.putfield 13, 3) := by decide +kernel
theorem dMO_init_20 : decode bMO_init 20 = .ok (.aload_n 0, 1) := by decide +kernel
theorem dMO_init_21 : decode bMO_init 21 = .ok (.bipush 60, 2) := by decide +kernel
theorem dMO_init_23 : decode bMO_init 23 = .ok (.newarray .int, 2) := by decide +kernel
theorem dMO_init_25 : decode bMO_init 25 = .ok (.putfield 16, 3) := by decide +kernel
theorem dMO_init_28 : decode bMO_init 28 = .ok (.aload_n 0, 1) := by decide +kernel
theorem dMO_init_29 : decode bMO_init 29 = .ok (.bipush 60, 2) := by decide +kernel
theorem dMO_init_31 : decode bMO_init 31 = .ok (.newarray .boolean, 2) := by decide +kernel
theorem dMO_init_33 : decode bMO_init 33 = .ok (.putfield 19, 3) := by decide +kernel
theorem dMO_init_36 : decode bMO_init 36 = .ok (.aload_n 0, 1) := by decide +kernel
theorem dMO_init_37 : decode bMO_init 37 = .ok (.bipush 60, 2) := by decide +kernel
theorem dMO_init_39 : decode bMO_init 39 = .ok (.newarray .int, 2) := by decide +kernel
theorem dMO_init_41 : decode bMO_init 41 = .ok (.putfield 23, 3) := by decide +kernel
theorem dMO_init_44 : decode bMO_init 44 = .ok (.aload_n 0, 1) := by decide +kernel
theorem dMO_init_45 : decode bMO_init 45 = .ok (.bipush 60, 2) := by decide +kernel
theorem dMO_init_47 : decode bMO_init 47 = .ok (.newarray .int, 2) := by decide +kernel
theorem dMO_init_49 : decode bMO_init 49 = .ok (.putfield 26, 3) := by decide +kernel
theorem dMO_init_52 : decode bMO_init 52 = .ok (.aload_n 0, 1) := by decide +kernel
theorem dMO_init_53 : decode bMO_init 53 = .ok (.bipush 120, 2) := by decide +kernel
theorem dMO_init_55 : decode bMO_init 55 = .ok (.newarray .int, 2) := by decide +kernel
theorem dMO_init_57 : decode bMO_init 57 = .ok (.putfield 29, 3) := by decide +kernel
theorem dMO_init_60 : decode bMO_init 60 = .ok (.aload_n 0, 1) := by decide +kernel
theorem dMO_init_61 : decode bMO_init 61 = .ok (.bipush 6, 2) := by decide +kernel
theorem dMO_init_63 : decode bMO_init 63 = .ok (.newarray .int, 2) := by decide +kernel
theorem dMO_init_65 : decode bMO_init 65 = .ok (.putfield 32, 3) := by decide +kernel
theorem dMO_init_68 : decode bMO_init 68 = .ok (.aload_n 0, 1) := by decide +kernel
theorem dMO_init_69 : decode bMO_init 69 = .ok (.bipush 6, 2) := by decide +kernel
theorem dMO_init_71 : decode bMO_init 71 = .ok (.newarray .int, 2) := by decide +kernel
theorem dMO_init_73 : decode bMO_init 73 = .ok (.putfield 35, 3) := by decide +kernel
theorem dMO_init_76 : decode bMO_init 76 = .ok (.aload_n 0, 1) := by decide +kernel
theorem dMO_init_77 : decode bMO_init 77 = .ok (.bipush 6, 2) := by decide +kernel
theorem dMO_init_79 : decode bMO_init 79 = .ok (.newarray .boolean, 2) := by decide +kernel
theorem dMO_init_81 : decode bMO_init 81 = .ok (.putfield 38, 3) := by decide +kernel
theorem dMO_init_84 : decode bMO_init 84 = .ok (.aload_n 0, 1) := by decide +kernel
theorem dMO_init_85 : decode bMO_init 85 = .ok (.bipush 6, 2) := by decide +kernel
theorem dMO_init_87 : decode bMO_init 87 = .ok (.newarray .int, 2) := by decide +kernel
theorem dMO_init_89 : decode bMO_init 89 = .ok (.putfield 41, 3) := by decide +kernel
theorem dMO_init_92 : decode bMO_init 92 = .ok (.aload_n 0, 1) := by decide +kernel
theorem dMO_init_93 : decode bMO_init 93 = .ok (.bipush 6, 2) := by decide +kernel
theorem dMO_init_95 : decode bMO_init 95 = .ok (.newarray .int, 2) := by decide +kernel
theorem dMO_init_97 : decode bMO_init 97 = .ok (.putfield 44, 3) := by decide +kernel
theorem dMO_init_100 : decode bMO_init 100 = .ok (.aload_n 0, 1) := by decide +kernel
theorem dMO_init_101 : decode bMO_init 101 = .ok (.sipush 576, 3) := by decide +kernel
theorem dMO_init_104 : decode bMO_init 104 = .ok (.newarray .int, 2) := by decide +kernel
theorem dMO_init_106 : decode bMO_init 106 = .ok (.putfield 47, 3) := by decide +kernel
theorem dMO_init_109 : decode bMO_init 109 = .ok (.aload_n 0, 1) := by decide +kernel
theorem dMO_init_110 : decode bMO_init 110 = .ok (.sipush 288, 3) := by decide +kernel
theorem dMO_init_113 : decode bMO_init 113 = .ok (.newarray .int, 2) := by decide +kernel
theorem dMO_init_115 : decode bMO_init 115 = .ok (.putfield 50, 3) := by decide +kernel
theorem dMO_init_118 : decode bMO_init 118 = .ok (.aload_n 0, 1) := by decide +kernel
theorem dMO_init_119 : decode bMO_init 119 = .ok (.sipush 288, 3) := by decide +kernel
theorem dMO_init_122 : decode bMO_init 122 = .ok (.newarray .int, 2) := by decide +kernel
theorem dMO_init_124 : decode bMO_init 124 = .ok (.putfield 53, 3) := by decide +kernel
theorem dMO_init_127 : decode bMO_init 127 = .ok (.aload_n 0, 1) := by decide +kernel
theorem dMO_init_128 : decode bMO_init 128 = .ok (.sipush 288, 3) := by decide +kernel
theorem dMO_init_131 : decode bMO_init 131 = .ok (.newarray .int, 2) := by decide +kernel
theorem dMO_init_133 : decode bMO_init 133 = .ok (.putfield 56, 3) := by decide +kernel
theorem dMO_init_136 : decode bMO_init 136 = .ok (.aload_n 0, 1) := by decide +kernel
theorem dMO_init_137 : decode bMO_init 137 = .ok (.sipush 288, 3) := by decide +kernel
theorem dMO_init_140 : decode bMO_init 140 = .ok (.newarray .int, 2) := by decide +kernel
theorem dMO_init_142 : decode bMO_init 142 = .ok (.putfield 59, 3) := by decide +kernel
theorem dMO_init_145 : decode bMO_init 145 = .ok (.aload_n 0, 1) := by decide +kernel
theorem dMO_init_146 : decode bMO_init 146 = .ok (.bipush 48, 2) := by decide +kernel
theorem dMO_init_148 : decode bMO_init 148 = .ok (.newarray .int, 2) := by decide +kernel
theorem dMO_init_150 : decode bMO_init 150 = .ok (.putfield 62, 3) := by decide +kernel
theorem dMO_init_153 : decode bMO_init 153 = .ok (.aload_n 0, 1) := by decide +kernel
theorem dMO_init_154 : decode bMO_init 154 = .ok (.bipush 48, 2) := by decide +kernel
theorem dMO_init_156 : decode bMO_init 156 = .ok (.newarray .int, 2) := by decide +kernel
theorem dMO_init_158 : decode bMO_init 158 = .ok (.putfield 65, 3) := by decide +kernel
theorem dMO_init_161 : decode bMO_init 161 = .ok (.aload_n 0, 1) := by decide +kernel
theorem dMO_init_162 : decode bMO_init 162 = .ok (.sipush 5472, 3) := by decide +kernel
theorem dMO_init_165 : decode bMO_init 165 = .ok (.newarray .int, 2) := by decide +kernel
theorem dMO_init_167 : decode bMO_init 167 = .ok (.putfield 68, 3) := by decide +kernel
theorem dMO_init_170 : decode bMO_init 170 = .ok (.aload_n 0, 1) := by decide +kernel
theorem dMO_init_171 : decode bMO_init 171 = .ok (.sipush 12288, 3) := by decide +kernel
theorem dMO_init_174 : decode bMO_init 174 = .ok (.newarray .int, 2) := by decide +kernel
theorem dMO_init_176 : decode bMO_init 176 = .ok (.putfield 71, 3) := by decide +kernel
theorem dMO_init_179 : decode bMO_init 179 = .ok (.aload_n 0, 1) := by decide +kernel
theorem dMO_init_180 : decode bMO_init 180 = .ok (.sipush 12288, 3) := by decide +kernel
theorem dMO_init_183 : decode bMO_init 183 = .ok (.newarray .int, 2) := by decide +kernel
theorem dMO_init_185 : decode bMO_init 185 = .ok (.putfield 74, 3) := by decide +kernel
theorem dMO_init_188 : decode bMO_init 188 = .ok (.aload_n 0, 1) := by decide +kernel
theorem dMO_init_189 : decode bMO_init 189 = .ok (.bipush 64, 2) := by decide +kernel
theorem dMO_init_191 : decode bMO_init 191 = .ok (.newarray .int, 2) := by decide +kernel
theorem dMO_init_193 : decode bMO_init 193 = .ok (.putfield 77, 3) := by decide +kernel
theorem dMO_init_196 : decode bMO_init 196 = .ok (.aload_n 0, 1) := by decide +kernel
theorem dMO_init_197 : decode bMO_init 197 = .ok (.bipush 120, 2) := by decide +kernel
theorem dMO_init_199 : decode bMO_init 199 = .ok (.newarray .int, 2) := by decide +kernel
theorem dMO_init_201 : decode bMO_init 201 = .ok (.putfield 80, 3) := by decide +kernel
theorem dMO_init_204 : decode bMO_init 204 = .ok (.aload_n 0, 1) := by decide +kernel
theorem dMO_init_205 : decode bMO_init 205 = .ok (.sipush 7680, 3) := by decide +kernel
theorem dMO_init_208 : decode bMO_init 208 = .ok (.newarray .int, 2) := by decide +kernel
theorem dMO_init_210 : decode bMO_init 210 = .ok (.putfield 83, 3) := by decide +kernel
theorem dMO_init_213 : decode bMO_init 213 = .ok (.aload_n 0, 1) := by decide +kernel
theorem dMO_init_214 : decode bMO_init 214 = .ok (.sipush 7680, 3) := by decide +kernel
theorem dMO_init_217 : decode bMO_init 217 = .ok (.newarray .int, 2) := by decide +kernel
theorem dMO_init_219 : decode bMO_init 219 = .ok (.putfield 86, 3) := by decide +kernel
theorem dMO_init_222 : decode bMO_init 222 = .ok (.aload_n 0, 1) := by decide +kernel
theorem dMO_init_223 : decode bMO_init 223 = .ok (.sipush 7680, 3) := by decide +kernel
theorem dMO_init_226 : decode bMO_init 226 = .ok (.newarray .int, 2) := by decide +kernel
theorem dMO_init_228 : decode bMO_init 228 = .ok (.putfield 89, 3) := by decide +kernel
theorem dMO_init_231 : decode bMO_init 231 = .ok (.aload_n 0, 1) := by decide +kernel
theorem dMO_init_232 : decode bMO_init 232 = .ok (.sipush 7680, 3) := by decide +kernel
theorem dMO_init_235 : decode bMO_init 235 = .ok (.newarray .int, 2) := by decide +kernel
theorem dMO_init_237 : decode bMO_init 237 = .ok (.putfield 92, 3) := by decide +kernel
theorem dMO_init_240 : decode bMO_init 240 = .ok (.aload_n 0, 1) := by decide +kernel
theorem dMO_init_241 : decode bMO_init 241 = .ok (.bipush 120, 2) := by decide +kernel
theorem dMO_init_243 : decode bMO_init 243 = .ok (.newarray .int, 2) := by decide +kernel
theorem dMO_init_245 : decode bMO_init 245 = .ok (.putfield 95, 3) := by decide +kernel
theorem dMO_init_248 : decode bMO_init 248 = .ok (.aload_n 0, 1) := by decide +kernel
theorem dMO_init_249 : decode bMO_init 249 = .ok (.sipush 7680, 3) := by decide +kernel
theorem dMO_init_252 : decode bMO_init 252 = .ok (.newarray .int, 2) := by decide +kernel
theorem dMO_init_254 : decode bMO_init 254 = .ok (.putfield 98, 3) := by decide +kernel
theorem dMO_init_257 : decode bMO_init 257 = .ok (.aload_n 0, 1) := by decide +kernel
theorem dMO_init_258 : decode bMO_init 258 = .ok (.sipush 7680, 3) := by decide +kernel
theorem dMO_init_261 : decode bMO_init 261 = .ok (.newarray .int, 2) := by decide +kernel
theorem dMO_init_263 : decode bMO_init 263 = .ok (.putfield 101, 3) := by decide +kernel
theorem dMO_init_266 : decode bMO_init 266 = .ok (.aload_n 0, 1) := by decide +kernel
theorem dMO_init_267 : decode bMO_init 267 = .ok (.sipush 7680, 3) := by decide +kernel
theorem dMO_init_270 : decode bMO_init 270 = .ok (.newarray .int, 2) := by decide +kernel
theorem dMO_init_272 : decode bMO_init 272 = .ok (.putfield 104, 3) := by decide +kernel
theorem dMO_init_275 : decode bMO_init 275 = .ok (.aload_n 0, 1) := by decide +kernel
theorem dMO_init_276 : decode bMO_init 276 = .ok (.sipush 7680, 3) := by decide +kernel
theorem dMO_init_279 : decode bMO_init 279 = .ok (.newarray .int, 2) := by decide +kernel
theorem dMO_init_281 : decode bMO_init 281 = .ok (.putfield 107, 3) := by decide +kernel
theorem dMO_init_284 : decode bMO_init 284 = .ok (.aload_n 0, 1) := by decide +kernel
theorem dMO_init_285 : decode bMO_init 285 = .ok (.bipush 48, 2) := by decide +kernel
theorem dMO_init_287 : decode bMO_init 287 = .ok (.newarray .int, 2) := by decide +kernel
theorem dMO_init_289 : decode bMO_init 289 = .ok (.putfield 110, 3) := by decide +kernel
theorem dMO_init_292 : decode bMO_init 292 = .ok (.aload_n 0, 1) := by decide +kernel
theorem dMO_init_293 : decode bMO_init 293 = .ok (.bipush 48, 2) := by decide +kernel
theorem dMO_init_295 : decode bMO_init 295 = .ok (.newarray .int, 2) := by decide +kernel
theorem dMO_init_297 : decode bMO_init 297 = .ok (.putfield 113, 3) := by decide +kernel
theorem dMO_init_300 : decode bMO_init 300 = .ok (.aload_n 0, 1) := by decide +kernel
theorem dMO_init_301 : decode bMO_init 301 = .ok (.sipush 4096, 3) := by decide +kernel
theorem dMO_init_304 : decode bMO_init 304 = .ok (.newarray .int, 2) := by decide +kernel
theorem dMO_init_306 : decode bMO_init 306 = .ok (.putfield 116, 3) := by decide +kernel
theorem dMO_init_309 : decode bMO_init 309 = .ok (.aload_n 0, 1) := by decide +kernel
theorem dMO_init_310 : decode bMO_init 310 = .ok (.sipush 4096, 3) := by decide +kernel
theorem dMO_init_313 : decode bMO_init 313 = .ok (.newarray .int, 2) := by decide +kernel
theorem dMO_init_315 : decode bMO_init 315 = .ok (.putfield 119, 3) := by decide +kernel
theorem dMO_init_318 : decode bMO_init 318 = .ok (.aload_n 0, 1) := by decide +kernel
theorem dMO_init_319 : decode bMO_init 319 = .ok (.bipush 120, 2) := by decide +kernel
theorem dMO_init_321 : decode bMO_init 321 = .ok (.newarray .int, 2) := by decide +kernel
theorem dMO_init_323 : decode bMO_init 323 = .ok (.putfield 122, 3) := by decide +kernel
theorem dMO_init_326 : decode bMO_init 326 = .ok (.iconst 0, 1) := by decide +kernel
theorem dMO_init_327 : decode bMO_init 327 = .ok (.istore_n 1, 1) := by decide +kernel
theorem dMO_init_328 : decode bMO_init 328 = .ok (.iload_n 1, 1) := by decide +kernel
theorem dMO_init_329 : decode bMO_init 329 = .ok (.bipush 6, 2) := by decide +kernel
theorem dMO_init_331 : decode bMO_init 331 = .ok (.if_icmp .ge 23, 3) := by decide +kernel
theorem dMO_init_334 : decode bMO_init 334 = .ok (.aload_n 0, 1) := by decide +kernel
theorem dMO_init_335 : decode bMO_init 335 = .ok (.getfield 32, 3) := by decide +kernel
theorem dMO_init_338 : decode bMO_init 338 = .ok (.iload_n 1, 1) := by decide +kernel
theorem dMO_init_339 : decode bMO_init 339 = .ok (.iconst (-1), 1) := by decide +kernel
theorem dMO_init_340 : decode bMO_init 340 = .ok (.iastore, 1) := by decide +kernel
theorem dMO_init_341 : decode bMO_init 341 = .ok (.aload_n 0, 1) := by decide +kernel
theorem dMO_init_342 : decode bMO_init 342 = .ok (.getfield 35, 3) := by decide +kernel
theorem dMO_init_345 : decode bMO_init 345 = .ok (.iload_n 1, 1) := by decide +kernel
theorem dMO_init_346 : decode bMO_init 346 = .ok (.iconst (-1), 1) := by decide +kernel
theorem dMO_init_347 : decode bMO_init 347 = .ok (.iastore, 1) := by decide +kernel
theorem dMO_init_348 : decode bMO_init 348 = .ok (.iinc 1 1, 3) := by decide +kernel
theorem dMO_init_351 : decode bMO_init 351 = .ok (.goto (-23), 3) := by decide +kernel
theorem dMO_init_354 : decode bMO_init 354 = .ok (.iconst 0, 1) := by decide +kernel
theorem dMO_init_355 : decode bMO_init 355 = .ok (.istore_n 1, 1) := by decide +kernel
theorem dMO_init_356 : decode bMO_init 356 = .ok (.iload_n 1, 1) := by decide +kernel
theorem dMO_init_357 : decode bMO_init 357 = .ok (.sipush 576, 3) := by decide +kernel
theorem dMO_init_360 : decode bMO_init 360 = .ok (.if_icmp .ge 16, 3) := by decide +kernel
theorem dMO_init_363 : decode bMO_init 363 = .ok (.aload_n 0, 1) := by decide +kernel
theorem dMO_init_364 : decode bMO_init 364 = .ok (.getfield 47, 3) := by decide +kernel
theorem dMO_init_367 : decode bMO_init 367 = .ok (.iload_n 1, 1) := by decide +kernel
theorem dMO_init_368 : decode bMO_init 368 = .ok (.iconst (-1), 1) := by decide +kernel
theorem dMO_init_369 : decode bMO_init 369 = .ok (.iastore, 1) := by decide +kernel
theorem dMO_init_370 : decode bMO_init 370 = .ok (.iinc 1 1, 3) := by decide +kernel
theorem dMO_init_373 : decode bMO_init 373 = .ok (.goto (-17), 3) := by decide +kernel
theorem dMO_init_376 : decode bMO_init 376 = .ok (.iconst 0, 1) := by decide +kernel
theorem dMO_init_377 : decode bMO_init 377 = .ok (.istore_n 1, 1) := by decide +kernel
theorem dMO_init_378 : decode bMO_init 378 = .ok (.iload_n 1, 1) := by decide +kernel
theorem dMO_init_379 : decode bMO_init 379 = .ok (.bipush 64, 2) := by decide +kernel
theorem dMO_init_381 : decode bMO_init 381 = .ok (.if_icmp .ge 16, 3) := by decide +kernel
theorem dMO_init_384 : decode bMO_init 384 = .ok (.aload_n 0, 1) := by decide +kernel
theorem dMO_init_385 : decode bMO_init 385 = .ok (.getfield 77, 3) := by decide +kernel
theorem dMO_init_388 : decode bMO_init 388 = .ok (.iload_n 1, 1) := by decide +kernel
theorem dMO_init_389 : decode bMO_init 389 = .ok (.iconst (-1), 1) := by decide +kernel
theorem dMO_init_390 : decode bMO_init 390 = .ok (.iastore, 1) := by decide +kernel
theorem dMO_init_391 : decode bMO_init 391 = .ok (.iinc 1 1, 3) := by decide +kernel
theorem dMO_init_394 : decode bMO_init 394 = .ok (.goto (-16), 3) := by decide +kernel
theorem dMO_init_397 : decode bMO_init 397 = .ok (.iconst 0, 1) := by decide +kernel
theorem dMO_init_398 : decode bMO_init 398 = .ok (.istore_n 1, 1) := by decide +kernel
theorem dMO_init_399 : decode bMO_init 399 = .ok (.iload_n 1, 1) := by decide +kernel
theorem dMO_init_400 : decode bMO_init 400 = .ok (.sipush 12288, 3) := by decide +kernel
theorem dMO_init_403 : decode bMO_init 403 = .ok (.if_icmp .ge 16, 3) := by decide +kernel
theorem dMO_init_406 : decode bMO_init 406 = .ok (.aload_n 0, 1) := by decide +kernel
theorem dMO_init_407 : decode bMO_init 407 = .ok (.getfield 71, 3) := by decide +kernel
theorem dMO_init_410 : decode bMO_init 410 = .ok (.iload_n 1, 1) := by decide +kernel
theorem dMO_init_411 : decode bMO_init 411 = .ok (.iconst (-1), 1) := by decide +kernel
theorem dMO_init_412 : decode bMO_init 412 = .ok (.iastore, 1) := by decide +kernel
theorem dMO_init_413 : decode bMO_init 413 = .ok (.iinc 1 1, 3) := by decide +kernel
theorem dMO_init_416 : decode bMO_init 416 = .ok (.goto (-17), 3) := by decide +kernel
theorem dMO_init_419 : decode bMO_init 419 = .ok (.return_, 1) := by decide +kernel
