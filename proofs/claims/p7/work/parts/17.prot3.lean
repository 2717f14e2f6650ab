theorem k3_167 : tables_1_3[167]? = some (Jvm.Cond.methodLink "RingGuard$Protocol" (119 : Nat) ({ cls := "RingGuard$Wires", name := "turn", desc := "()V" } : Jvm.MethodName)) := by decide +kernel
theorem k3_168 : tables_1_3[168]? = some (Jvm.Cond.instanceMethod ({ cls := "RingGuard$Wires", name := "turn", desc := "()V" } : Jvm.MethodName)) := by decide +kernel
theorem k3_169 : tables_1_3[169]? = some (Jvm.Cond.selects "RingGuard$Wires" ({ cls := "RingGuard$Wires", name := "turn", desc := "()V" } : Jvm.MethodName) ({ cls := "RingGuard$Wires", name := "turn", desc := "()V" } : Jvm.MethodName)) := by decide +kernel
theorem k3_170 : tables_1_3[170]? = some (Jvm.Cond.code ({ cls := "RingGuard$Wires", name := "turn", desc := "()V" } : Jvm.MethodName) prog_8_method_3_code (3 : Nat) (Option.none : Option Jvm.ClassFile.FieldType)) := rfl
theorem k3_172 : tables_1_3[172]? = some (Jvm.Cond.methodLink "RingGuard$Protocol" (124 : Nat) ({ cls := "RingGuard$Wires", name := "countArriving", desc := "(I)I" } : Jvm.MethodName)) := by decide +kernel
theorem k3_173 : tables_1_3[173]? = some (Jvm.Cond.instanceMethod ({ cls := "RingGuard$Wires", name := "countArriving", desc := "(I)I" } : Jvm.MethodName)) := by decide +kernel
theorem k3_174 : tables_1_3[174]? = some (Jvm.Cond.selects "RingGuard$Wires" ({ cls := "RingGuard$Wires", name := "countArriving", desc := "(I)I" } : Jvm.MethodName) ({ cls := "RingGuard$Wires", name := "countArriving", desc := "(I)I" } : Jvm.MethodName)) := by decide +kernel
theorem k3_175 : tables_1_3[175]? = some (Jvm.Cond.code ({ cls := "RingGuard$Wires", name := "countArriving", desc := "(I)I" } : Jvm.MethodName) prog_8_method_4_code (2 : Nat) (Option.some Jvm.ClassFile.FieldType.int)) := rfl
theorem k3_176 : tables_1_3[176]? = some (Jvm.Cond.methodLink "RingGuard$Protocol" (127 : Nat) ({ cls := "RingGuard$Wires", name := "arrivingCast", desc := "(II)I" } : Jvm.MethodName)) := by decide +kernel
theorem k3_177 : tables_1_3[177]? = some (Jvm.Cond.instanceMethod ({ cls := "RingGuard$Wires", name := "arrivingCast", desc := "(II)I" } : Jvm.MethodName)) := by decide +kernel
theorem k3_178 : tables_1_3[178]? = some (Jvm.Cond.selects "RingGuard$Wires" ({ cls := "RingGuard$Wires", name := "arrivingCast", desc := "(II)I" } : Jvm.MethodName) ({ cls := "RingGuard$Wires", name := "arrivingCast", desc := "(II)I" } : Jvm.MethodName)) := by decide +kernel
theorem k3_179 : tables_1_3[179]? = some (Jvm.Cond.code ({ cls := "RingGuard$Wires", name := "arrivingCast", desc := "(II)I" } : Jvm.MethodName) prog_8_method_5_code (3 : Nat) (Option.some Jvm.ClassFile.FieldType.int)) := rfl
theorem k3_180 : tables_1_3[180]? = some (Jvm.Cond.methodLink "RingGuard$Protocol" (131 : Nat) ({ cls := "RingGuard$Protocol", name := "arrive", desc := "(II)V" } : Jvm.MethodName)) := by decide +kernel
theorem k3_181 : tables_1_3[181]? = some (Jvm.Cond.privateMethod ({ cls := "RingGuard$Protocol", name := "arrive", desc := "(II)V" } : Jvm.MethodName)) := by decide +kernel
theorem k3_182 : tables_1_3[182]? = some (Jvm.Cond.instanceMethod ({ cls := "RingGuard$Protocol", name := "arrive", desc := "(II)V" } : Jvm.MethodName)) := by decide +kernel
theorem k3_183 : tables_1_3[183]? = some (Jvm.Cond.code ({ cls := "RingGuard$Protocol", name := "arrive", desc := "(II)V" } : Jvm.MethodName) prog_6_method_21_code (5 : Nat) (Option.none : Option Jvm.ClassFile.FieldType)) := rfl
theorem k3_228 : tables_1_3[228]? = some (Jvm.Cond.methodLink "RingGuard$Protocol" (182 : Nat) ({ cls := "RingGuard$Protocol", name := "runClock", desc := "(I)V" } : Jvm.MethodName)) := by decide +kernel
theorem k3_229 : tables_1_3[229]? = some (Jvm.Cond.privateMethod ({ cls := "RingGuard$Protocol", name := "runClock", desc := "(I)V" } : Jvm.MethodName)) := by decide +kernel
theorem k3_230 : tables_1_3[230]? = some (Jvm.Cond.instanceMethod ({ cls := "RingGuard$Protocol", name := "runClock", desc := "(I)V" } : Jvm.MethodName)) := by decide +kernel
theorem k3_231 : tables_1_3[231]? = some (Jvm.Cond.code ({ cls := "RingGuard$Protocol", name := "runClock", desc := "(I)V" } : Jvm.MethodName) prog_6_method_28_code (4 : Nat) (Option.none : Option Jvm.ClassFile.FieldType)) := rfl
theorem k3_232 : tables_1_3[232]? = some (Jvm.Cond.methodLink "RingGuard$Protocol" (185 : Nat) ({ cls := "RingGuard$Protocol", name := "isSendingPhase", desc := "(I)Z" } : Jvm.MethodName)) := by decide +kernel
theorem k3_233 : tables_1_3[233]? = some (Jvm.Cond.static ({ cls := "RingGuard$Protocol", name := "isSendingPhase", desc := "(I)Z" } : Jvm.MethodName)) := by decide +kernel
theorem k3_234 : tables_1_3[234]? = some (Jvm.Cond.code ({ cls := "RingGuard$Protocol", name := "isSendingPhase", desc := "(I)Z" } : Jvm.MethodName) prog_6_method_29_code (1 : Nat) (Option.some Jvm.ClassFile.FieldType.boolean)) := rfl
theorem k3_235 : tables_1_3[235]? = some (Jvm.Cond.methodLink "RingGuard$Protocol" (188 : Nat) ({ cls := "RingGuard$Protocol", name := "speak", desc := "(I)V" } : Jvm.MethodName)) := by decide +kernel
theorem k3_236 : tables_1_3[236]? = some (Jvm.Cond.privateMethod ({ cls := "RingGuard$Protocol", name := "speak", desc := "(I)V" } : Jvm.MethodName)) := by decide +kernel
theorem k3_237 : tables_1_3[237]? = some (Jvm.Cond.instanceMethod ({ cls := "RingGuard$Protocol", name := "speak", desc := "(I)V" } : Jvm.MethodName)) := by decide +kernel
theorem k3_238 : tables_1_3[238]? = some (Jvm.Cond.code ({ cls := "RingGuard$Protocol", name := "speak", desc := "(I)V" } : Jvm.MethodName) prog_6_method_30_code (3 : Nat) (Option.none : Option Jvm.ClassFile.FieldType)) := rfl
theorem k3_239 : tables_1_3[239]? = some (Jvm.Cond.methodLink "RingGuard$Protocol" (191 : Nat) ({ cls := "RingGuard$Protocol", name := "castToSend", desc := "(I)I" } : Jvm.MethodName)) := by decide +kernel
theorem k4_0 : tables_1_4[0]? = some (Jvm.Cond.privateMethod ({ cls := "RingGuard$Protocol", name := "castToSend", desc := "(I)I" } : Jvm.MethodName)) := by decide +kernel
theorem k4_1 : tables_1_4[1]? = some (Jvm.Cond.instanceMethod ({ cls := "RingGuard$Protocol", name := "castToSend", desc := "(I)I" } : Jvm.MethodName)) := by decide +kernel
theorem k4_2 : tables_1_4[2]? = some (Jvm.Cond.code ({ cls := "RingGuard$Protocol", name := "castToSend", desc := "(I)I" } : Jvm.MethodName) prog_6_method_31_code (6 : Nat) (Option.some Jvm.ClassFile.FieldType.int)) := rfl
theorem k4_3 : tables_1_4[3]? = some (Jvm.Cond.methodLink "RingGuard$Protocol" (194 : Nat) ({ cls := "RingGuard$Protocol", name := "lesserFailedLink", desc := "(I)I" } : Jvm.MethodName)) := by decide +kernel
theorem k4_4 : tables_1_4[4]? = some (Jvm.Cond.privateMethod ({ cls := "RingGuard$Protocol", name := "lesserFailedLink", desc := "(I)I" } : Jvm.MethodName)) := by decide +kernel
theorem k4_5 : tables_1_4[5]? = some (Jvm.Cond.instanceMethod ({ cls := "RingGuard$Protocol", name := "lesserFailedLink", desc := "(I)I" } : Jvm.MethodName)) := by decide +kernel
theorem k4_6 : tables_1_4[6]? = some (Jvm.Cond.code ({ cls := "RingGuard$Protocol", name := "lesserFailedLink", desc := "(I)I" } : Jvm.MethodName) prog_6_method_32_code (3 : Nat) (Option.some Jvm.ClassFile.FieldType.int)) := rfl
abbrev yPR_arriveAll : MethodName := ⟨"RingGuard$Protocol", "arriveAll", "()V"⟩
abbrev bPR_arriveAll : ByteArray := prog_6_method_20_code
abbrev yPR_runClock : MethodName := ⟨"RingGuard$Protocol", "runClock", "(I)V"⟩
abbrev bPR_runClock : ByteArray := prog_6_method_28_code
abbrev yPR_isSendingPhase : MethodName := ⟨"RingGuard$Protocol", "isSendingPhase", "(I)Z"⟩
abbrev bPR_isSendingPhase : ByteArray := prog_6_method_29_code
abbrev yPR_lesserFailedLink : MethodName := ⟨"RingGuard$Protocol", "lesserFailedLink", "(I)I"⟩
abbrev bPR_lesserFailedLink : ByteArray := prog_6_method_32_code
abbrev yPR_castToSend : MethodName := ⟨"RingGuard$Protocol", "castToSend", "(I)I"⟩
abbrev bPR_castToSend : ByteArray := prog_6_method_31_code
abbrev yPR_speak : MethodName := ⟨"RingGuard$Protocol", "speak", "(I)V"⟩
abbrev bPR_speak : ByteArray := prog_6_method_30_code
abbrev yPR_turnAll : MethodName := ⟨"RingGuard$Protocol", "turnAll", "()V"⟩
abbrev bPR_turnAll : ByteArray := prog_6_method_27_code
theorem dPR_arriveAll_0 : decode bPR_arriveAll 0 = .ok (.aload_n 0, 1) := by decide +kernel
theorem dPR_arriveAll_1 : decode bPR_arriveAll 1 = .ok (.getfield 49, 3) := by decide +kernel
theorem dPR_arriveAll_4 : decode bPR_arriveAll 4 = .ok (.invokevirtual 119, 3) := by decide +kernel
theorem dPR_arriveAll_7 : decode bPR_arriveAll 7 = .ok (.iconst 0, 1) := by decide +kernel
theorem dPR_arriveAll_8 : decode bPR_arriveAll 8 = .ok (.istore_n 1, 1) := by decide +kernel
theorem dPR_arriveAll_9 : decode bPR_arriveAll 9 = .ok (.iload_n 1, 1) := by decide +kernel
theorem dPR_arriveAll_10 : decode bPR_arriveAll 10 = .ok (.iconst 2, 1) := by decide +kernel
theorem dPR_arriveAll_11 : decode bPR_arriveAll 11 = .ok (.aload_n 0, 1) := by decide +kernel
theorem dPR_arriveAll_12 : decode bPR_arriveAll 12 = .ok (.getfield 45, 3) := by decide +kernel
theorem dPR_arriveAll_15 : decode bPR_arriveAll 15 = .ok (.getfield 110, 3) := by decide +kernel
theorem dPR_arriveAll_18 : decode bPR_arriveAll 18 = .ok (.imul, 1) := by decide +kernel
theorem dPR_arriveAll_19 : decode bPR_arriveAll 19 = .ok (.if_icmp .ge 45, 3) := by decide +kernel
theorem dPR_arriveAll_22 : decode bPR_arriveAll 22 = .ok (.aload_n 0, 1) := by decide +kernel
theorem dPR_arriveAll_23 : decode bPR_arriveAll 23 = .ok (.getfield 49, 3) := by decide +kernel
theorem dPR_arriveAll_26 : decode bPR_arriveAll 26 = .ok (.iload_n 1, 1) := by decide +kernel
theorem dPR_arriveAll_27 : decode bPR_arriveAll 27 = .ok (.invokevirtual 124, 3) := by decide +kernel
theorem dPR_arriveAll_30 : decode bPR_arriveAll 30 = .ok (.istore_n 2, 1) := by decide +kernel
theorem dPR_arriveAll_31 : decode bPR_arriveAll 31 = .ok (.iconst 0, 1) := by decide +kernel
theorem dPR_arriveAll_32 : decode bPR_arriveAll 32 = .ok (.istore_n 3, 1) := by decide +kernel
theorem dPR_arriveAll_33 : decode bPR_arriveAll 33 = .ok (.iload_n 3, 1) := by decide +kernel
theorem dPR_arriveAll_34 : decode bPR_arriveAll 34 = .ok (.iload_n 2, 1) := by decide +kernel
theorem dPR_arriveAll_35 : decode bPR_arriveAll 35 = .ok (.if_icmp .ge 23, 3) := by decide +kernel
theorem dPR_arriveAll_38 : decode bPR_arriveAll 38 = .ok (.aload_n 0, 1) := by decide +kernel
theorem dPR_arriveAll_39 : decode bPR_arriveAll 39 = .ok (.iload_n 1, 1) := by decide +kernel
theorem dPR_arriveAll_40 : decode bPR_arriveAll 40 = .ok (.aload_n 0, 1) := by decide +kernel
theorem dPR_arriveAll_41 : decode bPR_arriveAll 41 = .ok (.getfield 49, 3) := by decide +kernel
theorem dPR_arriveAll_44 : decode bPR_arriveAll 44 = .ok (.iload_n 1, 1) := by decide +kernel
theorem dPR_arriveAll_45 : decode bPR_arriveAll 45 = .ok (.iload_n 3, 1) := by decide +kernel
theorem dPR_arriveAll_46 : decode bPR_arriveAll 46 = .ok (.invokevirtual 127, 3) := by decide +kernel
theorem dPR_arriveAll_49 : decode bPR_arriveAll 49 = .ok (.invokevirtual 131, 3) := by decide +kernel
theorem dPR_arriveAll_52 : decode bPR_arriveAll 52 = .ok (.iinc 3 1, 3) := by decide +kernel
theorem dPR_arriveAll_55 : decode bPR_arriveAll 55 = .ok (.goto (-22), 3) := by decide +kernel
theorem dPR_arriveAll_58 : decode bPR_arriveAll 58 = .ok (.iinc 1 1, 3) := by decide +kernel
theorem dPR_arriveAll_61 : decode bPR_arriveAll 61 = .ok (.goto (-52), 3) := by decide +kernel
theorem dPR_arriveAll_64 : decode bPR_arriveAll 64 = .ok (.return_, 1) := by decide +kernel
theorem dPR_castToSend_0 : decode bPR_castToSend 0 = .ok (.iload_n 1, 1) := by decide +kernel
theorem dPR_castToSend_1 : decode bPR_castToSend 1 = .ok (.bipush 6, 2) := by decide +kernel
theorem dPR_castToSend_3 : decode bPR_castToSend 3 = .ok (.idiv, 1) := by decide +kernel
theorem dPR_castToSend_4 : decode bPR_castToSend 4 = .ok (.istore_n 2, 1) := by decide +kernel
theorem dPR_castToSend_5 : decode bPR_castToSend 5 = .ok (.iload_n 1, 1) := by decide +kernel
theorem dPR_castToSend_6 : decode bPR_castToSend 6 = .ok (.bipush 6, 2) := by decide +kernel
theorem dPR_castToSend_8 : decode bPR_castToSend 8 = .ok (.irem, 1) := by decide +kernel
theorem dPR_castToSend_9 : decode bPR_castToSend 9 = .ok (.istore_n 3, 1) := by decide +kernel
theorem dPR_castToSend_10 : decode bPR_castToSend 10 = .ok (.aload_n 0, 1) := by decide +kernel
theorem dPR_castToSend_11 : decode bPR_castToSend 11 = .ok (.iload_n 1, 1) := by decide +kernel
theorem dPR_castToSend_12 : decode bPR_castToSend 12 = .ok (.invokevirtual 167, 3) := by decide +kernel
theorem dPR_castToSend_15 : decode bPR_castToSend 15 = .ok (.istore 4, 2) := by decide +kernel
theorem dPR_castToSend_17 : decode bPR_castToSend 17 = .ok (.iload 4, 2) := by decide +kernel
theorem dPR_castToSend_19 : decode bPR_castToSend 19 = .ok (.iconst 2, 1) := by decide +kernel
theorem dPR_castToSend_20 : decode bPR_castToSend 20 = .ok (.iand, 1) := by decide +kernel
theorem dPR_castToSend_21 : decode bPR_castToSend 21 = .ok (.ifCond .eq 19, 3) := by decide +kernel
theorem dPR_castToSend_24 : decode bPR_castToSend 24 = .ok (.iconst 1, 1) := by decide +kernel
theorem dPR_castToSend_25 : decode bPR_castToSend 25 = .ok (.iload_n 2, 1) := by decide +kernel
theorem dPR_castToSend_26 : decode bPR_castToSend 26 = .ok (.bipush 60, 2) := by decide +kernel
theorem dPR_castToSend_28 : decode bPR_castToSend 28 = .ok (.iload_n 2, 1) := by decide +kernel
theorem dPR_castToSend_29 : decode bPR_castToSend 29 = .ok (.iadd, 1) := by decide +kernel
theorem dPR_castToSend_30 : decode bPR_castToSend 30 = .ok (.aload_n 0, 1) := by decide +kernel
theorem dPR_castToSend_31 : decode bPR_castToSend 31 = .ok (.getfield 30, 3) := by decide +kernel
theorem dPR_castToSend_34 : decode bPR_castToSend 34 = .ok (.iload_n 2, 1) := by decide +kernel
theorem dPR_castToSend_35 : decode bPR_castToSend 35 = .ok (.iaload, 1) := by decide +kernel
theorem dPR_castToSend_36 : decode bPR_castToSend 36 = .ok (.invokestatic 175, 3) := by decide +kernel
theorem dPR_castToSend_39 : decode bPR_castToSend 39 = .ok (.ireturn, 1) := by decide +kernel
theorem dPR_castToSend_40 : decode bPR_castToSend 40 = .ok (.iload 4, 2) := by decide +kernel
theorem dPR_castToSend_42 : decode bPR_castToSend 42 = .ok (.iconst 1, 1) := by decide +kernel
theorem dPR_castToSend_43 : decode bPR_castToSend 43 = .ok (.iand, 1) := by decide +kernel
theorem dPR_castToSend_44 : decode bPR_castToSend 44 = .ok (.ifCond .eq 25, 3) := by decide +kernel
theorem dPR_castToSend_47 : decode bPR_castToSend 47 = .ok (.aload_n 0, 1) := by decide +kernel
theorem dPR_castToSend_48 : decode bPR_castToSend 48 = .ok (.iload_n 1, 1) := by decide +kernel
theorem dPR_castToSend_49 : decode bPR_castToSend 49 = .ok (.invokevirtual 194, 3) := by decide +kernel
theorem dPR_castToSend_52 : decode bPR_castToSend 52 = .ok (.istore 5, 2) := by decide +kernel
theorem dPR_castToSend_54 : decode bPR_castToSend 54 = .ok (.iconst 0, 1) := by decide +kernel
theorem dPR_castToSend_55 : decode bPR_castToSend 55 = .ok (.iload_n 2, 1) := by decide +kernel
theorem dPR_castToSend_56 : decode bPR_castToSend 56 = .ok (.iload 5, 2) := by decide +kernel
theorem dPR_castToSend_58 : decode bPR_castToSend 58 = .ok (.aload_n 0, 1) := by decide +kernel
theorem dPR_castToSend_59 : decode bPR_castToSend 59 = .ok (.getfield 27, 3) := by decide +kernel
theorem dPR_castToSend_62 : decode bPR_castToSend 62 = .ok (.iload 5, 2) := by decide +kernel
theorem dPR_castToSend_64 : decode bPR_castToSend 64 = .ok (.iaload, 1) := by decide +kernel
theorem dPR_castToSend_65 : decode bPR_castToSend 65 = .ok (.invokestatic 175, 3) := by decide +kernel
theorem dPR_castToSend_68 : decode bPR_castToSend 68 = .ok (.ireturn, 1) := by decide +kernel
theorem dPR_castToSend_69 : decode bPR_castToSend 69 = .ok (.iload 4, 2) := by decide +kernel
theorem dPR_castToSend_71 : decode bPR_castToSend 71 = .ok (.iconst 4, 1) := by decide +kernel
theorem dPR_castToSend_72 : decode bPR_castToSend 72 = .ok (.iand, 1) := by decide +kernel
theorem dPR_castToSend_73 : decode bPR_castToSend 73 = .ok (.ifCond .eq 19, 3) := by decide +kernel
theorem dPR_castToSend_76 : decode bPR_castToSend 76 = .ok (.iconst 2, 1) := by decide +kernel
theorem dPR_castToSend_77 : decode bPR_castToSend 77 = .ok (.iload_n 2, 1) := by decide +kernel
theorem dPR_castToSend_78 : decode bPR_castToSend 78 = .ok (.bipush 60, 2) := by decide +kernel
theorem dPR_castToSend_80 : decode bPR_castToSend 80 = .ok (.iload_n 2, 1) := by decide +kernel
theorem dPR_castToSend_81 : decode bPR_castToSend 81 = .ok (.iadd, 1) := by decide +kernel
theorem dPR_castToSend_82 : decode bPR_castToSend 82 = .ok (.aload_n 0, 1) := by decide +kernel
theorem dPR_castToSend_83 : decode bPR_castToSend 83 = .ok (.getfield 30, 3) := by decide +kernel
theorem dPR_castToSend_86 : decode bPR_castToSend 86 = .ok (.iload_n 2, 1) := by decide +kernel
theorem dPR_castToSend_87 : decode bPR_castToSend 87 = .ok (.iaload, 1) := by decide +kernel
theorem dPR_castToSend_88 : decode bPR_castToSend 88 = .ok (.invokestatic 175, 3) := by decide +kernel
theorem dPR_castToSend_91 : decode bPR_castToSend 91 = .ok (.ireturn, 1) := by decide +kernel
theorem dPR_castToSend_92 : decode bPR_castToSend 92 = .ok (.iload 4, 2) := by decide +kernel
theorem dPR_castToSend_94 : decode bPR_castToSend 94 = .ok (.bipush 8, 2) := by decide +kernel
theorem dPR_castToSend_96 : decode bPR_castToSend 96 = .ok (.iand, 1) := by decide +kernel
theorem dPR_castToSend_97 : decode bPR_castToSend 97 = .ok (.ifCond .eq 11, 3) := by decide +kernel
theorem dPR_castToSend_100 : decode bPR_castToSend 100 = .ok (.iconst 3, 1) := by decide +kernel
theorem dPR_castToSend_101 : decode bPR_castToSend 101 = .ok (.iload_n 2, 1) := by decide +kernel
theorem dPR_castToSend_102 : decode bPR_castToSend 102 = .ok (.iconst 0, 1) := by decide +kernel
theorem dPR_castToSend_103 : decode bPR_castToSend 103 = .ok (.iconst 0, 1) := by decide +kernel
theorem dPR_castToSend_104 : decode bPR_castToSend 104 = .ok (.invokestatic 175, 3) := by decide +kernel
theorem dPR_castToSend_107 : decode bPR_castToSend 107 = .ok (.ireturn, 1) := by decide +kernel
theorem dPR_castToSend_108 : decode bPR_castToSend 108 = .ok (.iload 4, 2) := by decide +kernel
theorem dPR_castToSend_110 : decode bPR_castToSend 110 = .ok (.bipush 16, 2) := by decide +kernel
theorem dPR_castToSend_112 : decode bPR_castToSend 112 = .ok (.iand, 1) := by decide +kernel
theorem dPR_castToSend_113 : decode bPR_castToSend 113 = .ok (.ifCond .eq 19, 3) := by decide +kernel
theorem dPR_castToSend_116 : decode bPR_castToSend 116 = .ok (.iconst 4, 1) := by decide +kernel
theorem dPR_castToSend_117 : decode bPR_castToSend 117 = .ok (.iload_n 2, 1) := by decide +kernel
theorem dPR_castToSend_118 : decode bPR_castToSend 118 = .ok (.bipush 108, 2) := by decide +kernel
theorem dPR_castToSend_120 : decode bPR_castToSend 120 = .ok (.iload_n 3, 1) := by decide +kernel
theorem dPR_castToSend_121 : decode bPR_castToSend 121 = .ok (.iadd, 1) := by decide +kernel
theorem dPR_castToSend_122 : decode bPR_castToSend 122 = .ok (.aload_n 0, 1) := by decide +kernel
theorem dPR_castToSend_123 : decode bPR_castToSend 123 = .ok (.getfield 24, 3) := by decide +kernel
theorem dPR_castToSend_126 : decode bPR_castToSend 126 = .ok (.iload_n 3, 1) := by decide +kernel
theorem dPR_castToSend_127 : decode bPR_castToSend 127 = .ok (.iaload, 1) := by decide +kernel
theorem dPR_castToSend_128 : decode bPR_castToSend 128 = .ok (.invokestatic 175, 3) := by decide +kernel
theorem dPR_castToSend_131 : decode bPR_castToSend 131 = .ok (.ireturn, 1) := by decide +kernel
theorem dPR_castToSend_132 : decode bPR_castToSend 132 = .ok (.iconst (-1), 1) := by decide +kernel
theorem dPR_castToSend_133 : decode bPR_castToSend 133 = .ok (.ireturn, 1) := by decide +kernel
theorem dPR_isSendingPhase_0 : decode bPR_isSendingPhase 0 = .ok (.iload_n 0, 1) := by decide +kernel
theorem dPR_isSendingPhase_1 : decode bPR_isSendingPhase 1 = .ok (.iconst 1, 1) := by decide +kernel
theorem dPR_isSendingPhase_2 : decode bPR_isSendingPhase 2 = .ok (.if_icmp .eq 15, 3) := by decide +kernel
theorem dPR_isSendingPhase_5 : decode bPR_isSendingPhase 5 = .ok (.iload_n 0, 1) := by decide +kernel
theorem dPR_isSendingPhase_6 : decode bPR_isSendingPhase 6 = .ok (.iconst 2, 1) := by decide +kernel
theorem dPR_isSendingPhase_7 : decode bPR_isSendingPhase 7 = .ok (.if_icmp .eq 10, 3) := by decide +kernel
theorem dPR_isSendingPhase_10 : decode bPR_isSendingPhase 10 = .ok (.iload_n 0, 1) := by decide +kernel
theorem dPR_isSendingPhase_11 : decode bPR_isSendingPhase 11 = .ok (.iconst 5, 1) := by decide +kernel
theorem dPR_isSendingPhase_12 : decode bPR_isSendingPhase 12 = .ok (.irem, 1) := by decide +kernel
theorem dPR_isSendingPhase_13 : decode bPR_isSendingPhase 13 = .ok (.iconst 3, 1) := by decide +kernel
theorem dPR_isSendingPhase_14 : decode bPR_isSendingPhase 14 = .ok (.if_icmp .ne 7, 3) := by decide +kernel
theorem dPR_isSendingPhase_17 : decode bPR_isSendingPhase 17 = .ok (.iconst 1, 1) := by decide +kernel
theorem dPR_isSendingPhase_18 : decode bPR_isSendingPhase 18 = .ok (.goto 4, 3) := by decide +kernel
theorem dPR_isSendingPhase_21 : decode bPR_isSendingPhase 21 = .ok (.iconst 0, 1) := by decide +kernel
theorem dPR_isSendingPhase_22 : decode bPR_isSendingPhase 22 = .ok (.ireturn, 1) := by decide +kernel
theorem dPR_lesserFailedLink_0 : decode bPR_lesserFailedLink 0 = .ok (.aload_n 0, 1) := by decide +kernel
theorem dPR_lesserFailedLink_1 : decode bPR_lesserFailedLink 1 = .ok (.getfield 45, 3) := by decide +kernel
theorem dPR_lesserFailedLink_4 : decode bPR_lesserFailedLink 4 = .ok (.getfield 94, 3) := by decide +kernel
theorem dPR_lesserFailedLink_7 : decode bPR_lesserFailedLink 7 = .ok (.iconst 2, 1) := by decide +kernel
theorem dPR_lesserFailedLink_8 : decode bPR_lesserFailedLink 8 = .ok (.iload_n 1, 1) := by decide +kernel
theorem dPR_lesserFailedLink_9 : decode bPR_lesserFailedLink 9 = .ok (.imul, 1) := by decide +kernel
theorem dPR_lesserFailedLink_10 : decode bPR_lesserFailedLink 10 = .ok (.iaload, 1) := by decide +kernel
theorem dPR_lesserFailedLink_11 : decode bPR_lesserFailedLink 11 = .ok (.istore_n 2, 1) := by decide +kernel
theorem dPR_lesserFailedLink_12 : decode bPR_lesserFailedLink 12 = .ok (.aload_n 0, 1) := by decide +kernel
theorem dPR_lesserFailedLink_13 : decode bPR_lesserFailedLink 13 = .ok (.iload_n 2, 1) := by decide +kernel
theorem dPR_lesserFailedLink_14 : decode bPR_lesserFailedLink 14 = .ok (.invokevirtual 57, 3) := by decide +kernel
theorem dPR_lesserFailedLink_17 : decode bPR_lesserFailedLink 17 = .ok (.ifCond .eq 7, 3) := by decide +kernel
theorem dPR_lesserFailedLink_20 : decode bPR_lesserFailedLink 20 = .ok (.iload_n 2, 1) := by decide +kernel
theorem dPR_lesserFailedLink_21 : decode bPR_lesserFailedLink 21 = .ok (.goto 16, 3) := by decide +kernel
theorem dPR_lesserFailedLink_24 : decode bPR_lesserFailedLink 24 = .ok (.aload_n 0, 1) := by decide +kernel
theorem dPR_lesserFailedLink_25 : decode bPR_lesserFailedLink 25 = .ok (.getfield 45, 3) := by decide +kernel
theorem dPR_lesserFailedLink_28 : decode bPR_lesserFailedLink 28 = .ok (.getfield 94, 3) := by decide +kernel
theorem dPR_lesserFailedLink_31 : decode bPR_lesserFailedLink 31 = .ok (.iconst 2, 1) := by decide +kernel
theorem dPR_lesserFailedLink_32 : decode bPR_lesserFailedLink 32 = .ok (.iload_n 1, 1) := by decide +kernel
theorem dPR_lesserFailedLink_33 : decode bPR_lesserFailedLink 33 = .ok (.imul, 1) := by decide +kernel
theorem dPR_lesserFailedLink_34 : decode bPR_lesserFailedLink 34 = .ok (.iconst 1, 1) := by decide +kernel
theorem dPR_lesserFailedLink_35 : decode bPR_lesserFailedLink 35 = .ok (.iadd, 1) := by decide +kernel
theorem dPR_lesserFailedLink_36 : decode bPR_lesserFailedLink 36 = .ok (.iaload, 1) := by decide +kernel
theorem dPR_lesserFailedLink_37 : decode bPR_lesserFailedLink 37 = .ok (.iconst 2, 1) := by decide +kernel
theorem dPR_lesserFailedLink_38 : decode bPR_lesserFailedLink 38 = .ok (.idiv, 1) := by decide +kernel
theorem dPR_lesserFailedLink_39 : decode bPR_lesserFailedLink 39 = .ok (.ireturn, 1) := by decide +kernel
theorem dPR_runClock_0 : decode bPR_runClock 0 = .ok (.iload_n 1, 1) := by decide +kernel
theorem dPR_runClock_1 : decode bPR_runClock 1 = .ok (.bipush 6, 2) := by decide +kernel
theorem dPR_runClock_3 : decode bPR_runClock 3 = .ok (.irem, 1) := by decide +kernel
theorem dPR_runClock_4 : decode bPR_runClock 4 = .ok (.istore_n 2, 1) := by decide +kernel
theorem dPR_runClock_5 : decode bPR_runClock 5 = .ok (.aload_n 0, 1) := by decide +kernel
theorem dPR_runClock_6 : decode bPR_runClock 6 = .ok (.iload_n 1, 1) := by decide +kernel
theorem dPR_runClock_7 : decode bPR_runClock 7 = .ok (.invokevirtual 167, 3) := by decide +kernel
theorem dPR_runClock_10 : decode bPR_runClock 10 = .ok (.istore_n 3, 1) := by decide +kernel
theorem dPR_runClock_11 : decode bPR_runClock 11 = .ok (.iload_n 3, 1) := by decide +kernel
theorem dPR_runClock_12 : decode bPR_runClock 12 = .ok (.bipush 23, 2) := by decide +kernel
theorem dPR_runClock_14 : decode bPR_runClock 14 = .ok (.iand, 1) := by decide +kernel
theorem dPR_runClock_15 : decode bPR_runClock 15 = .ok (.ifCond .eq 4, 3) := by decide +kernel
theorem dPR_runClock_18 : decode bPR_runClock 18 = .ok (.return_, 1) := by decide +kernel
theorem dPR_runClock_19 : decode bPR_runClock 19 = .ok (.aload_n 0, 1) := by decide +kernel
theorem dPR_runClock_20 : decode bPR_runClock 20 = .ok (.getfield 21, 3) := by decide +kernel
theorem dPR_runClock_23 : decode bPR_runClock 23 = .ok (.iload_n 2, 1) := by decide +kernel
theorem dPR_runClock_24 : decode bPR_runClock 24 = .ok (.iaload, 1) := by decide +kernel
theorem dPR_runClock_25 : decode bPR_runClock 25 = .ok (.ifCond .ne 23, 3) := by decide +kernel
theorem dPR_runClock_28 : decode bPR_runClock 28 = .ok (.aload_n 0, 1) := by decide +kernel
theorem dPR_runClock_29 : decode bPR_runClock 29 = .ok (.getfield 21, 3) := by decide +kernel
theorem dPR_runClock_32 : decode bPR_runClock 32 = .ok (.iload_n 2, 1) := by decide +kernel
theorem dPR_runClock_33 : decode bPR_runClock 33 = .ok (.iload_n 3, 1) := by decide +kernel
theorem dPR_runClock_34 : decode bPR_runClock 34 = .ok (.bipush 8, 2) := by decide +kernel
theorem dPR_runClock_36 : decode bPR_runClock 36 = .ok (.iand, 1) := by decide +kernel
theorem dPR_runClock_37 : decode bPR_runClock 37 = .ok (.ifCond .eq 8, 3) := by decide +kernel
theorem dPR_runClock_40 : decode bPR_runClock 40 = .ok (.bipush 60, 2) := by decide +kernel
theorem dPR_runClock_42 : decode bPR_runClock 42 = .ok (.goto 4, 3) := by decide +kernel
theorem dPR_runClock_45 : decode bPR_runClock 45 = .ok (.iconst 0, 1) := by decide +kernel
theorem dPR_runClock_46 : decode bPR_runClock 46 = .ok (.iastore, 1) := by decide +kernel
theorem dPR_runClock_47 : decode bPR_runClock 47 = .ok (.return_, 1) := by decide +kernel
theorem dPR_runClock_48 : decode bPR_runClock 48 = .ok (.aload_n 0, 1) := by decide +kernel
theorem dPR_runClock_49 : decode bPR_runClock 49 = .ok (.getfield 21, 3) := by decide +kernel
theorem dPR_runClock_52 : decode bPR_runClock 52 = .ok (.iload_n 2, 1) := by decide +kernel
theorem dPR_runClock_53 : decode bPR_runClock 53 = .ok (.dup2, 1) := by decide +kernel
theorem dPR_runClock_54 : decode bPR_runClock 54 = .ok (.iaload, 1) := by decide +kernel
theorem dPR_runClock_55 : decode bPR_runClock 55 = .ok (.iconst 1, 1) := by decide +kernel
theorem dPR_runClock_56 : decode bPR_runClock 56 = .ok (.isub, 1) := by decide +kernel
theorem dPR_runClock_57 : decode bPR_runClock 57 = .ok (.iastore, 1) := by decide +kernel
theorem dPR_runClock_58 : decode bPR_runClock 58 = .ok (.aload_n 0, 1) := by decide +kernel
theorem dPR_runClock_59 : decode bPR_runClock 59 = .ok (.getfield 21, 3) := by decide +kernel
theorem dPR_runClock_62 : decode bPR_runClock 62 = .ok (.iload_n 2, 1) := by decide +kernel
theorem dPR_runClock_63 : decode bPR_runClock 63 = .ok (.iaload, 1) := by decide +kernel
theorem dPR_runClock_64 : decode bPR_runClock 64 = .ok (.ifCond .ne 8, 3) := by decide +kernel
theorem dPR_runClock_67 : decode bPR_runClock 67 = .ok (.aload_n 0, 1) := by decide +kernel
theorem dPR_runClock_68 : decode bPR_runClock 68 = .ok (.iload_n 2, 1) := by decide +kernel
theorem dPR_runClock_69 : decode bPR_runClock 69 = .ok (.invokevirtual 66, 3) := by decide +kernel
theorem dPR_runClock_72 : decode bPR_runClock 72 = .ok (.return_, 1) := by decide +kernel
theorem dPR_speak_0 : decode bPR_speak 0 = .ok (.aload_n 0, 1) := by decide +kernel
theorem dPR_speak_1 : decode bPR_speak 1 = .ok (.iload_n 1, 1) := by decide +kernel
theorem dPR_speak_2 : decode bPR_speak 2 = .ok (.invokevirtual 191, 3) := by decide +kernel
theorem dPR_speak_5 : decode bPR_speak 5 = .ok (.istore_n 2, 1) := by decide +kernel
theorem dPR_speak_6 : decode bPR_speak 6 = .ok (.iload_n 2, 1) := by decide +kernel
theorem dPR_speak_7 : decode bPR_speak 7 = .ok (.iconst (-1), 1) := by decide +kernel
theorem dPR_speak_8 : decode bPR_speak 8 = .ok (.if_icmp .eq 9, 3) := by decide +kernel
theorem dPR_speak_11 : decode bPR_speak 11 = .ok (.aload_n 0, 1) := by decide +kernel
theorem dPR_speak_12 : decode bPR_speak 12 = .ok (.iload_n 1, 1) := by decide +kernel
theorem dPR_speak_13 : decode bPR_speak 13 = .ok (.iload_n 2, 1) := by decide +kernel
theorem dPR_speak_14 : decode bPR_speak 14 = .ok (.invokevirtual 179, 3) := by decide +kernel
theorem dPR_speak_17 : decode bPR_speak 17 = .ok (.return_, 1) := by decide +kernel
theorem dPR_turnAll_0 : decode bPR_turnAll 0 = .ok (.iconst 0, 1) := by decide +kernel
theorem dPR_turnAll_1 : decode bPR_turnAll 1 = .ok (.istore_n 1, 1) := by decide +kernel
theorem dPR_turnAll_2 : decode bPR_turnAll 2 = .ok (.iload_n 1, 1) := by decide +kernel
theorem dPR_turnAll_3 : decode bPR_turnAll 3 = .ok (.aload_n 0, 1) := by decide +kernel
theorem dPR_turnAll_4 : decode bPR_turnAll 4 = .ok (.getfield 45, 3) := by decide +kernel
theorem dPR_turnAll_7 : decode bPR_turnAll 7 = .ok (.getfield 104, 3) := by decide +kernel
theorem dPR_turnAll_10 : decode bPR_turnAll 10 = .ok (.bipush 6, 2) := by decide +kernel
theorem dPR_turnAll_12 : decode bPR_turnAll 12 = .ok (.imul, 1) := by decide +kernel
theorem dPR_turnAll_13 : decode bPR_turnAll 13 = .ok (.if_icmp .ge 114, 3) := by decide +kernel
theorem dPR_turnAll_16 : decode bPR_turnAll 16 = .ok (.aload_n 0, 1) := by decide +kernel
theorem dPR_turnAll_17 : decode bPR_turnAll 17 = .ok (.getfield 45, 3) := by decide +kernel
theorem dPR_turnAll_20 : decode bPR_turnAll 20 = .ok (.getfield 94, 3) := by decide +kernel
theorem dPR_turnAll_23 : decode bPR_turnAll 23 = .ok (.iconst 2, 1) := by decide +kernel
theorem dPR_turnAll_24 : decode bPR_turnAll 24 = .ok (.iload_n 1, 1) := by decide +kernel
theorem dPR_turnAll_25 : decode bPR_turnAll 25 = .ok (.imul, 1) := by decide +kernel
theorem dPR_turnAll_26 : decode bPR_turnAll 26 = .ok (.iaload, 1) := by decide +kernel
theorem dPR_turnAll_27 : decode bPR_turnAll 27 = .ok (.iconst (-1), 1) := by decide +kernel
theorem dPR_turnAll_28 : decode bPR_turnAll 28 = .ok (.if_icmp .ne 6, 3) := by decide +kernel
theorem dPR_turnAll_31 : decode bPR_turnAll 31 = .ok (.goto 90, 3) := by decide +kernel
theorem dPR_turnAll_34 : decode bPR_turnAll 34 = .ok (.aload_n 0, 1) := by decide +kernel
theorem dPR_turnAll_35 : decode bPR_turnAll 35 = .ok (.getfield 15, 3) := by decide +kernel
theorem dPR_turnAll_38 : decode bPR_turnAll 38 = .ok (.iload_n 1, 1) := by decide +kernel
theorem dPR_turnAll_39 : decode bPR_turnAll 39 = .ok (.iaload, 1) := by decide +kernel
theorem dPR_turnAll_40 : decode bPR_turnAll 40 = .ok (.ifCond .le 13, 3) := by decide +kernel
theorem dPR_turnAll_43 : decode bPR_turnAll 43 = .ok (.aload_n 0, 1) := by decide +kernel
theorem dPR_turnAll_44 : decode bPR_turnAll 44 = .ok (.getfield 15, 3) := by decide +kernel
theorem dPR_turnAll_47 : decode bPR_turnAll 47 = .ok (.iload_n 1, 1) := by decide +kernel
theorem dPR_turnAll_48 : decode bPR_turnAll 48 = .ok (.dup2, 1) := by decide +kernel
theorem dPR_turnAll_49 : decode bPR_turnAll 49 = .ok (.iaload, 1) := by decide +kernel
theorem dPR_turnAll_50 : decode bPR_turnAll 50 = .ok (.iconst 1, 1) := by decide +kernel
theorem dPR_turnAll_51 : decode bPR_turnAll 51 = .ok (.isub, 1) := by decide +kernel
theorem dPR_turnAll_52 : decode bPR_turnAll 52 = .ok (.iastore, 1) := by decide +kernel
theorem dPR_turnAll_53 : decode bPR_turnAll 53 = .ok (.aload_n 0, 1) := by decide +kernel
theorem dPR_turnAll_54 : decode bPR_turnAll 54 = .ok (.getfield 45, 3) := by decide +kernel
theorem dPR_turnAll_57 : decode bPR_turnAll 57 = .ok (.iload_n 1, 1) := by decide +kernel
theorem dPR_turnAll_58 : decode bPR_turnAll 58 = .ok (.invokevirtual 107, 3) := by decide +kernel
theorem dPR_turnAll_61 : decode bPR_turnAll 61 = .ok (.ifCond .eq 8, 3) := by decide +kernel
theorem dPR_turnAll_64 : decode bPR_turnAll 64 = .ok (.aload_n 0, 1) := by decide +kernel
theorem dPR_turnAll_65 : decode bPR_turnAll 65 = .ok (.iload_n 1, 1) := by decide +kernel
theorem dPR_turnAll_66 : decode bPR_turnAll 66 = .ok (.invokevirtual 182, 3) := by decide +kernel
theorem dPR_turnAll_69 : decode bPR_turnAll 69 = .ok (.aload_n 0, 1) := by decide +kernel
theorem dPR_turnAll_70 : decode bPR_turnAll 70 = .ok (.getfield 15, 3) := by decide +kernel
theorem dPR_turnAll_73 : decode bPR_turnAll 73 = .ok (.iload_n 1, 1) := by decide +kernel
theorem dPR_turnAll_74 : decode bPR_turnAll 74 = .ok (.iaload, 1) := by decide +kernel
theorem dPR_turnAll_75 : decode bPR_turnAll 75 = .ok (.ifCond .ne 19, 3) := by decide +kernel
theorem dPR_turnAll_78 : decode bPR_turnAll 78 = .ok (.aload_n 0, 1) := by decide +kernel
theorem dPR_turnAll_79 : decode bPR_turnAll 79 = .ok (.iload_n 1, 1) := by decide +kernel
theorem dPR_turnAll_80 : decode bPR_turnAll 80 = .ok (.invokevirtual 167, 3) := by decide +kernel
theorem dPR_turnAll_83 : decode bPR_turnAll 83 = .ok (.bipush 23, 2) := by decide +kernel
theorem dPR_turnAll_85 : decode bPR_turnAll 85 = .ok (.iand, 1) := by decide +kernel
theorem dPR_turnAll_86 : decode bPR_turnAll 86 = .ok (.ifCond .eq 8, 3) := by decide +kernel
theorem dPR_turnAll_89 : decode bPR_turnAll 89 = .ok (.aload_n 0, 1) := by decide +kernel
theorem dPR_turnAll_90 : decode bPR_turnAll 90 = .ok (.iload_n 1, 1) := by decide +kernel
theorem dPR_turnAll_91 : decode bPR_turnAll 91 = .ok (.invokevirtual 164, 3) := by decide +kernel
theorem dPR_turnAll_94 : decode bPR_turnAll 94 = .ok (.aload_n 0, 1) := by decide +kernel
theorem dPR_turnAll_95 : decode bPR_turnAll 95 = .ok (.getfield 18, 3) := by decide +kernel
theorem dPR_turnAll_98 : decode bPR_turnAll 98 = .ok (.iload_n 1, 1) := by decide +kernel
theorem dPR_turnAll_99 : decode bPR_turnAll 99 = .ok (.dup2, 1) := by decide +kernel
theorem dPR_turnAll_100 : decode bPR_turnAll 100 = .ok (.iaload, 1) := by decide +kernel
theorem dPR_turnAll_101 : decode bPR_turnAll 101 = .ok (.iconst 1, 1) := by decide +kernel
theorem dPR_turnAll_102 : decode bPR_turnAll 102 = .ok (.iadd, 1) := by decide +kernel
theorem dPR_turnAll_103 : decode bPR_turnAll 103 = .ok (.iastore, 1) := by decide +kernel
theorem dPR_turnAll_104 : decode bPR_turnAll 104 = .ok (.aload_n 0, 1) := by decide +kernel
theorem dPR_turnAll_105 : decode bPR_turnAll 105 = .ok (.getfield 18, 3) := by decide +kernel
theorem dPR_turnAll_108 : decode bPR_turnAll 108 = .ok (.iload_n 1, 1) := by decide +kernel
theorem dPR_turnAll_109 : decode bPR_turnAll 109 = .ok (.iaload, 1) := by decide +kernel
theorem dPR_turnAll_110 : decode bPR_turnAll 110 = .ok (.invokestatic 185, 3) := by decide +kernel
theorem dPR_turnAll_113 : decode bPR_turnAll 113 = .ok (.ifCond .eq 8, 3) := by decide +kernel
theorem dPR_turnAll_116 : decode bPR_turnAll 116 = .ok (.aload_n 0, 1) := by decide +kernel
theorem dPR_turnAll_117 : decode bPR_turnAll 117 = .ok (.iload_n 1, 1) := by decide +kernel
theorem dPR_turnAll_118 : decode bPR_turnAll 118 = .ok (.invokevirtual 188, 3) := by decide +kernel
theorem dPR_turnAll_121 : decode bPR_turnAll 121 = .ok (.iinc 1 1, 3) := by decide +kernel
theorem dPR_turnAll_124 : decode bPR_turnAll 124 = .ok (.goto (-122), 3) := by decide +kernel
theorem dPR_turnAll_127 : decode bPR_turnAll 127 = .ok (.return_, 1) := by decide +kernel
def CWrO (r1 r2 r3 r4 : Nat) (cA : ClassId) (o b : Nat → Nat) (P S : ZS) : va_W := [(o 0, .inr (0, [.ref (o 1), .ref (o 2), .ref (o 3), .ref (o 4), .ref (o 5), .ref (o 6), .int (P.I 2), .int (S.I 3), .int (S.I 4), .int (S.I 5), .int (S.I 6), .int (S.I 7), .int (S.I 8)])), (o 1, .inr (1, [.int (P.I 0), .int (P.I 1), .ref (b 0), .ref (b 1), .ref (b 2), .ref (b 3), .ref (b 4), .ref (b 5), .ref (b 6), .ref (b 7), .ref (b 8)])), (o 2, .inr (2, [.ref (b r1), .ref (b r2), .ref (b r3), .ref (b r4), .ref (b 13), .int (S.I 9)])), (o 3, .inr (3, [.ref (o 7)])), (o 4, .inr (4, [.ref (o 1), .ref (o 2), .ref (o 3), .ref (b 14), .ref (b 15), .ref (b 16), .ref (b 17), .ref (b 18), .ref (b 19), .ref (b 20), .ref (b 21), .ref (b 22), .int (S.I 10), .int (S.I 11)])), (o 5, .inr (5, [.ref (o 1), .ref (o 4), .ref (o 3), .ref (b 23), .ref (b 24), .ref (b 25), .int (S.I 12), .ref (b 26), .int (S.I 13)])), (o 6, .inr (6, [.ref (b 27), .int (S.I 14), .int (S.I 15)])), (o 7, .inl (cA, 48, .inr (.inr (.inr (.inr (fun j => some (b (28 + j))))))))]
def CWr (r1 r2 r3 r4 : Nat) (cI cZ cA : ClassId) (o b : Nat → Nat) (P S : ZS) : va_W := CWrO r1 r2 r3 r4 cA o b P S ++ CWA cI cZ b P S
def zsw (b : Nat → Nat) (k : Nat) : Nat := match k with
  | 9 => b 11
  | 10 => b 12
  | 11 => b 9
  | 12 => b 10
  | k => b k
def zpi (k : Nat) : Nat := match k with
  | 17 => 19
  | 18 => 20
  | 19 => 17
  | 20 => 18
  | k => k
def zturnF (S : ZS) (k : Nat) : Nat → Int32 := match k with
  | 9 => S.F 11
  | 10 => S.F 12
  | 11 => S.F 9
  | 12 => S.F 10
  | k => S.F k
def zturn0 (S : ZS) : ZS := ZS.mk (zturnF S) S.I
def zturn (S : ZS) : ZS := (zturn0 S).row 12 (fun _ => 0)
theorem zsw_ne {b : Nat → Nat} {k : Nat} (h : k < 9 ∨ 12 < k) : zsw b k = b k := by
  unfold zsw
  split <;> first | omega | rfl
theorem zpi_ne {k : Nat} (h : k < 17 ∨ 20 < k) : zpi k = k := by
  unfold zpi
  split <;> first | omega | rfl
theorem zturn0_ne {S : ZS} {k : Nat} (h : k < 9 ∨ 12 < k) : (zturn0 S).F k = S.F k := by
  show zturnF S k = S.F k
  unfold zturnF
  split <;> first | omega | rfl
theorem zpi_pi (k : Nat) : zpi (zpi k) = k := by
  by_cases h : k < 17 ∨ 20 < k
  · rw [zpi_ne h, zpi_ne h]
  · rcases (show k = 17 ∨ k = 18 ∨ k = 19 ∨ k = 20 by omega) with rfl | rfl | rfl | rfl <;> rfl
theorem CWr_at {r1 r2 r3 r4 : Nat} {cI cZ cA : ClassId} {o b : Nat → Nat} {P S : ZS} {k : Nat} (hk : k < 76) : (CWr r1 r2 r3 r4 cI cZ cA o b P S)[8 + k]? = some (b k, .inl (cC cI cZ k, cL k, .inl (cF P S k))) := by
  unfold CWr
  have hl : (CWrO r1 r2 r3 r4 cA o b P S).length = 8 := rfl
  rw [List.getElem?_append_right (by rw [hl]; omega), hl, Nat.add_sub_cancel_left]
  unfold CWA
  rw [List.getElem?_map, List.getElem?_range hk]
  rfl
theorem CWr_len {r1 r2 r3 r4 : Nat} {cI cZ cA : ClassId} {o b : Nat → Nat} {P S : ZS} : (CWr r1 r2 r3 r4 cI cZ cA o b P S).length = 84 := by
  unfold CWr CWA
  rw [List.length_append, List.length_map, List.length_range]
  rfl
theorem zturnO {cA : ClassId} {o b : Nat → Nat} {P S : ZS} : CWO cA o (zsw b) P (zturn0 S) = CWrO 11 12 9 10 cA o b P S := by
  have e : (fun j => some (zsw b (28 + j))) = fun j => some (b (28 + j)) := funext fun j => by rw [zsw_ne (Or.inr (by omega))]
  unfold CWO CWrO
  rw [e]
  rfl
theorem zturn_el {cI cZ cA : ClassId} {o b : Nat → Nat} {P S : ZS} (k : Nat) : (CW cI cZ cA o (zsw b) P (zturn0 S))[k]? = (CWr 11 12 9 10 cI cZ cA o b P S)[zpi k]? := by
  by_cases h8 : k < 8
  · rw [zpi_ne (Or.inl (by omega))]
    unfold CW CWr
    rw [List.getElem?_append_left (by show k < 8; exact h8), List.getElem?_append_left (by show k < 8; exact h8), zturnO]
  · obtain ⟨j, rfl⟩ : ∃ j, k = 8 + j := ⟨k - 8, by omega⟩
    by_cases hj : j < 76
    · rw [CW_at hj]
      by_cases h : j < 9 ∨ 12 < j
      · rw [zpi_ne (by omega), CWr_at hj, zsw_ne h]
        unfold cF
        rw [zturn0_ne h]
      · rcases (show j = 9 ∨ j = 10 ∨ j = 11 ∨ j = 12 by omega) with rfl | rfl | rfl | rfl
        · exact (CWr_at (k := 11) (by decide)).symm
        · exact (CWr_at (k := 12) (by decide)).symm
        · exact (CWr_at (k := 9) (by decide)).symm
        · exact (CWr_at (k := 10) (by decide)).symm
    · rw [List.getElem?_eq_none (by rw [CW_len]; omega), zpi_ne (by omega), List.getElem?_eq_none (by rw [CWr_len]; omega)]
theorem zturn_P {D : va_G} {cl : List vw_C} {cI cZ cA : ClassId} {o b : Nat → Nat} {P S : ZS} {H : Heap} (h : va_P D cl (CWr 11 12 9 10 cI cZ cA o b P S) H) : va_P D cl (CW cI cZ cA o (zsw b) P (zturn0 S)) H := fun k q hq => h (zpi k) q (by rw [← zturn_el]; exact hq)
theorem zturn_D {A : Nat → Prop} {cI cZ cA : ClassId} {o b : Nat → Nat} {P S : ZS} (h : va_D A (CWr 11 12 9 10 cI cZ cA o b P S)) : va_D A (CW cI cZ cA o (zsw b) P (zturn0 S)) := by
  refine ⟨fun i j p q hi hj hpq => ?_, fun k q hq => ?_⟩
  · rw [zturn_el] at hi hj
    have e := h.1 _ _ _ _ hi hj hpq
    rw [← zpi_pi i, ← zpi_pi j, e]
  · rw [zturn_el] at hq
    exact h.2 _ _ hq
theorem zturn_ok {S : ZS} (h : cok S) : cok (zturn S) := by
  have h0 : cok (zturn0 S) := by
    refine ⟨fun k j => ?_, h.2.1, fun k hk j => ?_⟩
    · by_cases e : k < 9 ∨ 12 < k
      · rw [zturn0_ne e]; exact h.1 k j
      · rcases (show k = 9 ∨ k = 10 ∨ k = 11 ∨ k = 12 by omega) with rfl | rfl | rfl | rfl
        · exact h.1 11 j
        · exact h.1 12 j
        · exact h.1 9 j
        · exact h.1 10 j
    · by_cases e : k < 9 ∨ 12 < k
      · rw [zturn0_ne e]; exact h.2.2 k hk j
      · rcases (show k = 9 ∨ k = 10 ∨ k = 11 ∨ k = 12 by omega) with rfl | rfl | rfl | rfl
        · exact h.2.2 11 rfl j
        · cases hk
        · exact h.2.2 9 rfl j
        · cases hk
  exact h0.row (k := 12) (fun _ => by decide) (Or.inl rfl)
def zturnf (P S : ZS) : ZS := zturn S
set_option maxHeartbeats 4000000 in
set_option maxRecDepth 100000 in
theorem tWI_turn (l : Launch) (dC : Nat → ClassId) (dI : Nat → Nat → Nat) (cI cZ cJ cA : ClassId) (a0 : Array Value) (s0 : State) (o b : Nat → Nat) (P S : ZS) (sz : Nat) (gP : cok P) (gS : cok S) : Met l yWI_turn [Cond.code yWI_turn bWI_turn 3 none] ({ frames := 1, cells := 0, slots := 0, locals := 23 } : Room) (zP zCl dC dI (zTZ cI cZ cJ cA) a0 s0 [.ref (o 2)] sz (CW cI cZ cA o b P S)) (zQG zCl dC dI (fun (x9 : ZS) => x9 = zturnf P S ∧ cok x9) (fun x9 : ZS => CW cI cZ cA o (zsw b) P x9) (va_A (CW cI cZ cA o b P S) sz)) 0 0 (va_A (CW cI cZ cA o b P S) sz) := by
  refine Met.ofW (cc := bWI_turn) (maxL := 3) (ret := none) (by decide) rfl ?_
  intro p e s m args below meth c s₁ B hml hv
  obtain ⟨rfl, hsz, hP, hK, hD0, hB⟩ := hv
  have hx := B.exec
  have hb := B.bytes
  have hr := B.returns
  have hown : s.vm.findClass "RingGuard$Wires" = some m.cls := findClass_of_methodNamed B.named
  have hlocks := B.notSynchronized
  subst hsz
  have hD := hD0.self (sz := s.heap.size)
  have hA0 := zA0 hD0 hB
  generalize hAe : va_A (CW cI cZ cA o b P S) s.heap.size = A at hD hA0 ⊢
  have hAD := hA0
  have hA : ∀ q : Nat, s.heap.size ≤ q → A q := fun q h => by rw [← hAe]; exact Or.inr h
  have hS : va_S A s.heap s.heap [] := va_S.rf
  have hl := lv_entry ([.ref (o 2)]) (n := 3) (Nat.le_of_ble_eq_true rfl)
  rw [lg_entry_eq]
  generalize (lg_sl ([.ref (o 2)]) ++ List.replicate (3 - (lg_sl ([.ref (o 2)])).length) Slot.unset).toArray = ls at hl ⊢
  have hl : lv_has ls 3 [(0, .ref (o 2))] := hl
  have hP : va_P (dC, dI) zCl (CWr 9 10 11 12 cI cZ cA o b P S) s.heap := hP
  have hD : va_D A (CWr 9 10 11 12 cI cZ cA o b P S) := hD
  refine lv_aload_n hx hb dWI_turn_0 rfl (lv_at hl 0 rfl) ?_
  refine va_get (D := (dC, dI)) (ci := 2) (v := .ref (b 9)) (C := "RingGuard$Wires") (T := T_WI) (N := 6) hx hb (hB.words zU_WI) zid hown hK hP 2 rfl rfl 0 (by decide) (hB.word (zm1 k1_90) rfl) (fun _ h9 => h9) rfl dWI_turn_1 ?_
  refine lv_astore_n (lv' := [(1, .ref (b 9)), (0, .ref (o 2))]) hx hb dWI_turn_4 rfl hl (by decide) rfl (fun ls hl => ?_)
  refine lv_aload_n hx hb dWI_turn_5 rfl (lv_at hl 1 rfl) ?_
  refine lv_aload_n hx hb dWI_turn_6 rfl (lv_at hl 1 rfl) ?_
  refine va_get (D := (dC, dI)) (ci := 2) (v := .ref (b 11)) (C := "RingGuard$Wires") (T := T_WI) (N := 6) hx hb (hB.words zU_WI) zid hown hK hP 2 rfl rfl 2 (by decide) (hB.word (zm1 k1_92) rfl) (fun _ h9 => h9) rfl dWI_turn_7 ?_
  refine va_put (D := (dC, dI)) (ci := 2) (v := .ref (b 11)) (ty := .array .int) (C := "RingGuard$Wires") (T := T_WI) (N := 6) hx hb (hB.words zU_WI) zid ty_WI ok_WI nm_WI hown hK hP hD hS 2 rfl rfl 0 (by decide) (hB.word (zm1 k1_90) rfl) (fun _ h9 => h9) rfl (by decide +kernel) rfl rfl (Nat.le_of_ble_eq_true rfl) dWI_turn_10 (fun H locs hP hD hS => ?_)
  have hP : va_P (dC, dI) zCl (CWr 11 10 11 12 cI cZ cA o b P S) H := hP
  have hD : va_D A (CWr 11 10 11 12 cI cZ cA o b P S) := hD
  refine lv_aload_n hx hb dWI_turn_13 rfl (lv_at hl 1 rfl) ?_
  refine lv_aload_n hx hb dWI_turn_14 rfl (lv_at hl 0 rfl) ?_
  refine va_put (D := (dC, dI)) (ci := 2) (v := .ref (b 9)) (ty := .array .int) (C := "RingGuard$Wires") (T := T_WI) (N := 6) hx hb (hB.words zU_WI) zid ty_WI ok_WI nm_WI hown hK hP hD hS 2 rfl rfl 2 (by decide) (hB.word (zm1 k1_92) rfl) (fun _ h9 => h9) rfl (by decide +kernel) rfl rfl (Nat.le_of_ble_eq_true rfl) dWI_turn_15 (fun H locs hP hD hS => ?_)
  have hP : va_P (dC, dI) zCl (CWr 11 10 9 12 cI cZ cA o b P S) H := hP
  have hD : va_D A (CWr 11 10 9 12 cI cZ cA o b P S) := hD
  refine lv_aload_n hx hb dWI_turn_18 rfl (lv_at hl 1 rfl) ?_
  refine va_get (D := (dC, dI)) (ci := 2) (v := .ref (b 10)) (C := "RingGuard$Wires") (T := T_WI) (N := 6) hx hb (hB.words zU_WI) zid hown hK hP 2 rfl rfl 1 (by decide) (hB.word (zm1 k1_91) rfl) (fun _ h9 => h9) rfl dWI_turn_19 ?_
  refine lv_astore_n (lv' := [(2, .ref (b 10)), (1, .ref (b 9)), (0, .ref (o 2))]) hx hb dWI_turn_22 rfl hl (by decide) rfl (fun ls hl => ?_)
  refine lv_aload_n hx hb dWI_turn_23 rfl (lv_at hl 2 rfl) ?_
  refine lv_aload_n hx hb dWI_turn_24 rfl (lv_at hl 2 rfl) ?_
  refine va_get (D := (dC, dI)) (ci := 2) (v := .ref (b 12)) (C := "RingGuard$Wires") (T := T_WI) (N := 6) hx hb (hB.words zU_WI) zid hown hK hP 2 rfl rfl 3 (by decide) (hB.word (zm1 k1_93) rfl) (fun _ h9 => h9) rfl dWI_turn_25 ?_
  refine va_put (D := (dC, dI)) (ci := 2) (v := .ref (b 12)) (ty := .array .int) (C := "RingGuard$Wires") (T := T_WI) (N := 6) hx hb (hB.words zU_WI) zid ty_WI ok_WI nm_WI hown hK hP hD hS 2 rfl rfl 1 (by decide) (hB.word (zm1 k1_91) rfl) (fun _ h9 => h9) rfl (by decide +kernel) rfl rfl (Nat.le_of_ble_eq_true rfl) dWI_turn_28 (fun H locs hP hD hS => ?_)
  have hP : va_P (dC, dI) zCl (CWr 11 12 9 12 cI cZ cA o b P S) H := hP
  have hD : va_D A (CWr 11 12 9 12 cI cZ cA o b P S) := hD
  refine lv_aload_n hx hb dWI_turn_31 rfl (lv_at hl 2 rfl) ?_
  refine lv_aload_n hx hb dWI_turn_32 rfl (lv_at hl 0 rfl) ?_
  refine va_put (D := (dC, dI)) (ci := 2) (v := .ref (b 10)) (ty := .array .int) (C := "RingGuard$Wires") (T := T_WI) (N := 6) hx hb (hB.words zU_WI) zid ty_WI ok_WI nm_WI hown hK hP hD hS 2 rfl rfl 3 (by decide) (hB.word (zm1 k1_93) rfl) (fun _ h9 => h9) rfl (by decide +kernel) rfl rfl (Nat.le_of_ble_eq_true rfl) dWI_turn_33 (fun H locs hP hD hS => ?_)
  have hP : va_P (dC, dI) zCl (CWr 11 12 9 10 cI cZ cA o b P S) H := hP
  have hD : va_D A (CWr 11 12 9 10 cI cZ cA o b P S) := hD
  refine lv_aload_n hx hb dWI_turn_36 rfl (lv_at hl 2 rfl) ?_
  refine va_get (D := (dC, dI)) (ci := 2) (v := .ref (b 10)) (C := "RingGuard$Wires") (T := T_WI) (N := 6) hx hb (hB.words zU_WI) zid hown hK hP 2 rfl rfl 3 (by decide) (hB.word (zm1 k1_93) rfl) (fun _ h9 => h9) rfl dWI_turn_37 ?_
  have hP := zturn_P hP
  have hD := zturn_D hD
  refine lv_iconst (v := 0) hx hb dWI_turn_40 (by decide) ?_
  have gS9 : cok (zturn S) := zturn_ok gS
  have E : zl ((zturn0 S).row 12 (fun _ => 0)) (fun x => x) = zl ((zturn0 S).row 12 (fun _ => 0)) (fun x => x) := rfl
  refine W.eq (g2 := F0 m 41 ls [.int 0, .ref (zsw b 12)]) rfl ?_
  have hkF : 9 ≤ 12 ∧ 12 < 76 := (by decide)
  have hPF := c_fillP (N := 120) (cI := cI) (cZ := cZ) hkF rfl rfl hP
  have hDF := c_fillD (N := 120) (cI := cI) (cZ := cZ) hkF rfl rfl hD
  refine c_fill (k := 12) (N := 120) (v := 0) hkF rfl rfl hP hD hS hA (va_runS (As := [.ref ((zsw b) 12), .int 0]) (rest := []) ⟨hx, hb, hml, hown, zno⟩ (zw_fill l dC dI cI cZ cJ cA a0 s0 ((zsw b) 12) 120 H.size ((zturn0 S).F 12) 0 (by decide)) ⟨zcb 2 (hB.word (zm1 k1_33) rfl) (hB.word (zm1 k1_3) rfl) (hB.word (zm3 k3_171) rfl) rfl rfl (by decide +kernel) ⟨Nat.le_of_ble_eq_true rfl, Nat.le_of_ble_eq_true rfl⟩, hB.word (zm1 k1_32) rfl⟩ ⟨zP_blind, zP_pre hPF hK hDF hAD (zB_on hB hA0 hS)⟩ rfl rfl hl.1 rfl (lv_room (Nat.le_of_ble_eq_true rfl)) dWI_turn_41 ⟨Nat.le_of_ble_eq_true rfl, Nat.le_of_ble_eq_true rfl⟩) E (fun S1 H2 locs eS1 E hP hD hS => ?_)
  exact W.vret hx hb hr (fun t ht hW => ⟨⟨S1, rfl, ⟨eS1, by rw [eS1]; exact gS9⟩, by rw [ht]; exact hP, hD⟩, hS.F ht⟩) hS.2.2 dWI_turn_44
noncomputable def fPR_arriveAll_33 (P : ZS) (rc9 : ZS → Int32 → (ZS)) (rc33 : ZS → Int32 → Int32 → Int32 → (ZS)) (S_33 : ZS) (x33_1 : Int32) (x33_2 : Int32) (x33_3 : Int32) : ZS := (if x33_2 ≤ x33_3 then zl (x33_1 + 1) (fun k1 => rc9 S_33 k1) else zl (fWI_arrivingCast P S_33 x33_1 x33_3) (fun k3 => zl (fPR_arrive P S_33 x33_1 k3) (fun S5 => zl (x33_3 + 1) (fun k7 => rc33 S5 x33_1 x33_2 k7))))
noncomputable def fPR_arriveAll_9 (P : ZS) (rc9 : ZS → Int32 → (ZS)) (S_9 : ZS) (x9_1 : Int32) : ZS := zl (P.I 1) (fun k8 => zl (2 * k8) (fun k9 => (if k9 ≤ x9_1 then S_9 else zl (fWI_countArriving P S_9 x9_1) (fun k11 => zfix (fun S9 _ _ _ => S9) (fPR_arriveAll_33 P rc9) 65 S_9 x9_1 k11 0))))
noncomputable def fPR_arriveAll (P S : ZS) : ZS := zl (zturnf P S) (fun S13 => zfix (fun S9 _ => S9) (fPR_arriveAll_9 P) 121 S13 0)
set_option maxHeartbeats 4000000 in
set_option maxRecDepth 100000 in
theorem tPR_arriveAll (l : Launch) (dC : Nat → ClassId) (dI : Nat → Nat → Nat) (cI cZ cJ cA : ClassId) (a0 : Array Value) (s0 : State) (o b : Nat → Nat) (P S : ZS) (sz : Nat) (gP : cok P) (gS : cok S) (gQ : zQ P) : Met l yPR_arriveAll [Cond.code yPR_arriveAll bPR_arriveAll 4 none] ({ frames := 5, cells := 0, slots := 0, locals := 121 } : Room) (zP zCl dC dI (zTZ cI cZ cJ cA) a0 s0 [.ref (o 4)] sz (CW cI cZ cA o b P S)) (zQG zCl dC dI (fun (x9 : ZS) => x9 = fPR_arriveAll P S  ∧ cok x9) (fun x9 : ZS => (CW cI cZ cA o (zsw b) P x9)) (va_A (CW cI cZ cA o b P S) sz)) 0 0 (va_A (CW cI cZ cA o b P S) sz) := by
  refine Met.ofW (cc := bPR_arriveAll) (maxL := 4) (ret := none) (by decide) rfl ?_
  intro p e s m args below meth c s₁ B hml hv
  obtain ⟨rfl, hsz, hP, hK, hD0, hB⟩ := hv
  have hx := B.exec
  have hb := B.bytes
  have hr := B.returns
  have hown : s.vm.findClass "RingGuard$Protocol" = some m.cls := findClass_of_methodNamed B.named
  have hlocks := B.notSynchronized
  subst hsz
  have hD := hD0.self (sz := s.heap.size)
  have hA0 := zA0 hD0 hB
  generalize hAe : va_A (CW cI cZ cA o b P S) s.heap.size = A at hD hA0 ⊢
  have hAD := hA0
  have hA : ∀ q : Nat, s.heap.size ≤ q → A q := fun q h => by rw [← hAe]; exact Or.inr h
  have hS : va_S A s.heap s.heap [] := va_S.rf
  have hl := lv_entry ([.ref (o 4)]) (n := 4) (Nat.le_of_ble_eq_true rfl)
  rw [lg_entry_eq]
  generalize (lg_sl ([.ref (o 4)]) ++ List.replicate (4 - (lg_sl ([.ref (o 4)])).length) Slot.unset).toArray = ls at hl ⊢
  have hl : lv_has ls 4 [(0, .ref (o 4))] := hl
  refine zgenQ (fun Q hQe => ?_)
  obtain ⟨tg, etg⟩ : ∃ z, z = fPR_arriveAll P S  := ⟨_, rfl⟩
  have E := etg
  unfold fPR_arriveAll at E
  have hL9 : ∀ (n9 : Nat) (H : Heap) (locs : List Loc) (ls : Array Slot) (S_9 : ZS) (x9_1 : Int32), zr 0 120 x9_1 → cok S_9 → 120 + 1 - x9_1.toInt ≤ (n9 : Int) → tg = zfix (fun S9 _ => S9) (fPR_arriveAll_9 P) n9 S_9 x9_1 → va_P (dC, dI) zCl (CW cI cZ cA o (zsw b) P S_9) H → va_D A (CW cI cZ cA o (zsw b) P S_9) → va_S A s.heap H locs → lv_has ls 4 [(0, .ref (o 4)), (1, .int x9_1)] → W p l e ({ frames := 5, cells := 0, slots := 0, locals := 121 } : Room) s m ([.ref (o 4)] : List Value).toArray below meth c H locs 0 0 Q (F0 m 9 ls []) := by
    intro n9
    induction n9 with
    | zero => intro H locs ls S_9 x9_1 r_x9_1 gS_9 hm9 E hP hD hS hl; exact absurd hm9 (zfuel0U r_x9_1)
    | succ n9 ih9 =>
      intro H locs ls S_9 x9_1 r_x9_1 gS_9 hm9 E hP hD hS hl
      rw [zfix_s] at E
      generalize zfix (fun S9 _ => S9) (fPR_arriveAll_9 P) n9 = rc9 at ih9 E
      unfold fPR_arriveAll_9 at E
      have hL33 : ∀ (n33 : Nat) (H : Heap) (locs : List Loc) (ls : Array Slot) (S_33 : ZS) (x33_1 : Int32) (x33_2 : Int32) (x33_3 : Int32), zr 0 119 x33_1 → (zgt P x33_1) → (x33_1 = -1 ∨ zgt P x33_1) → zr 0 64 x33_2 → zr 0 64 x33_3 → cok S_33 → 120 + 1 - x33_1.toInt ≤ ((n9 + 1 : Nat) : Int) → 64 + 1 - x33_3.toInt ≤ (n33 : Int) → tg = zfix (fun S9 _ _ _ => S9) (fPR_arriveAll_33 P rc9) n33 S_33 x33_1 x33_2 x33_3 → va_P (dC, dI) zCl (CW cI cZ cA o (zsw b) P S_33) H → va_D A (CW cI cZ cA o (zsw b) P S_33) → va_S A s.heap H locs → lv_has ls 4 [(0, .ref (o 4)), (1, .int x33_1), (2, .int x33_2), (3, .int x33_3)] → W p l e ({ frames := 5, cells := 0, slots := 0, locals := 121 } : Room) s m ([.ref (o 4)] : List Value).toArray below meth c H locs 0 0 Q (F0 m 33 ls []) := by
        intro n33
        induction n33 with
        | zero => intro H locs ls S_33 x33_1 x33_2 x33_3 r_x33_1 qgp_x33_1 qogp_x33_1 r_x33_2 r_x33_3 gS_33 hm9_33 hm33 E hP hD hS hl; exact absurd hm33 (zfuel0U r_x33_3)
        | succ n33 ih33 =>
          intro H locs ls S_33 x33_1 x33_2 x33_3 r_x33_1 qgp_x33_1 qogp_x33_1 r_x33_2 r_x33_3 gS_33 hm9_33 hm33 E hP hD hS hl
          rw [zfix_s] at E
          generalize zfix (fun S9 _ _ _ => S9) (fPR_arriveAll_33 P rc9) n33 = rc33 at ih33 E
          unfold fPR_arriveAll_33 at E
          refine lv_iload_n hx hb dPR_arriveAll_33 rfl (lv_at hl 3 rfl) ?_
          refine lv_iload_n hx hb dPR_arriveAll_34 rfl (lv_at hl 2 rfl) ?_
          refine z_icmp_ge (tgt := 58) hx hb dPR_arriveAll_35 (by decide) E (fun c_35 E => ?_) (fun c_35 E => ?_)
          · refine z_iinc (lv' := fun v9 => [(1, .int v9), (0, .ref (o 4)), (2, .int x33_2), (3, .int x33_3)]) (cst := 1) hx hb dPR_arriveAll_58 hl (k := 1) rfl (by decide) (by decide) (fun _ => rfl) E (fun k1 ls ek1 E hl => ?_)
            have r_k1 : zr 1 120 k1 := zr_add r_x33_1 (show zr 1 1 1 from by decide) ek1 (by decide)
            refine lv_goto (tgt := 9) hx hb dPR_arriveAll_61 (by decide) ?_
            exact ih9 H locs ls S_33 k1 (zr_mono r_k1 (by decide)) gS_33 (zstepU ek1 r_x33_1 (by decide) hm9_33) E hP hD hS (lv_sub hl [1, 0] rfl)
          · have r_x33_3 : zr 0 63 x33_3 := zlt_x r_x33_3 r_x33_2 (znle c_35) (by decide)
            have r_x33_2 : zr 1 64 x33_2 := zlt_y r_x33_3 r_x33_2 (znle c_35) (by decide)
            refine lv_aload_n hx hb dPR_arriveAll_38 rfl (lv_at hl 0 rfl) ?_
            refine lv_iload_n hx hb dPR_arriveAll_39 rfl (lv_at hl 1 rfl) ?_
            refine lv_aload_n hx hb dPR_arriveAll_40 rfl (lv_at hl 0 rfl) ?_
            refine c_getO_PR_wires hx hb (hB.words zU_PR) hown hK hP (hB.word (zm1 k1_131) rfl) dPR_arriveAll_41 ?_
            refine lv_iload_n hx hb dPR_arriveAll_44 rfl (lv_at hl 1 rfl) ?_
            refine lv_iload_n hx hb dPR_arriveAll_45 rfl (lv_at hl 3 rfl) ?_
            refine zcallp (va_runV (As := [.int x33_1, .int x33_3]) (rest := [.int x33_1, .ref (o 4)]) ⟨hx, hb, hml, hown, zno⟩ (tWI_arrivingCast l dC dI cI cZ cJ cA a0 s0 o (zsw b) P S_33 H.size x33_1 x33_3 gP gS_33 r_x33_1 r_x33_3) (zcw 2 (hB.word (zm3 k3_179) rfl) (hB.word (zm1 k1_4) rfl) (hB.word (zm3 k3_176) rfl) (hB.word (zm3 k3_177) rfl) (hB.word (zm3 k3_178) rfl) rfl rfl (by decide +kernel) ⟨Nat.le_of_ble_eq_true rfl, Nat.le_of_ble_eq_true rfl⟩) ⟨zP_blind, va_recv hK hP (ci := 2) (q0 := 2) rfl rfl, zP_pre hP hK hD hAD (zB_on hB hA0 hS)⟩ rfl rfl hl.1 rfl (lv_room (Nat.le_of_ble_eq_true rfl)) dPR_arriveAll_46 ⟨Nat.le_of_ble_eq_true rfl, Nat.le_of_ble_eq_true rfl⟩) hS hA (fun k3 H2 locs hk3 hz1 hk1 hS => ?_)
            have hP := zKeep hP hk1
            have E := zl_s E hk3.1
            refine zcV (va_runV (As := [.int x33_1, .int k3]) (rest := []) ⟨hx, hb, hml, hown, zno⟩ (tPR_arrive l dC dI cI cZ cJ cA a0 s0 o (zsw b) P S_33 H2.size x33_1 k3 gP gS_33 gQ r_x33_1 qgp_x33_1 hk3.2.2.1) (zcw 2 (hB.word (zm3 k3_183) rfl) (hB.word (zm1 k1_6) rfl) (hB.word (zm3 k3_180) rfl) (hB.word (zm3 k3_182) rfl) (k2_selects_private (by decide) (hB.word (zm1 k1_125) rfl) (hB.word (zm3 k3_181) rfl) (hB.word (zm3 k3_182) rfl)) rfl rfl (by decide +kernel) ⟨Nat.le_of_ble_eq_true rfl, Nat.le_of_ble_eq_true rfl⟩) ⟨zP_blind, va_recv hK hP (ci := 4) (q0 := 4) rfl rfl, zP_pre hP hK hD hAD (zB_on hB hA0 hS)⟩ rfl rfl hl.1 rfl (lv_room (Nat.le_of_ble_eq_true rfl)) dPR_arriveAll_49 ⟨Nat.le_of_ble_eq_true rfl, Nat.le_of_ble_eq_true rfl⟩) hD hS hA (fun S5 H4 locs h6 hP hD hS => ?_)
            have E := zl_s E h6.1
            have gS5 := h6.2
            refine z_iinc (lv' := fun v9 => [(3, .int v9), (0, .ref (o 4)), (1, .int x33_1), (2, .int x33_2)]) (cst := 1) hx hb dPR_arriveAll_52 hl (k := 3) rfl (by decide) (by decide) (fun _ => rfl) E (fun k7 ls ek7 E hl => ?_)
            have r_k7 : zr 1 64 k7 := zr_add r_x33_3 (show zr 1 1 1 from by decide) ek7 (by decide)
            refine lv_goto (tgt := 33) hx hb dPR_arriveAll_55 (by decide) ?_
            exact ih33 H4 locs ls S5 x33_1 x33_2 k7 r_x33_1 qgp_x33_1 qogp_x33_1 (zr_mono r_x33_2 (by decide)) (zr_mono r_k7 (by decide)) gS5 hm9_33 (zstepU ek7 r_x33_3 (by decide) hm33) E hP hD hS (lv_sub hl [1, 2, 3, 0] rfl)
      refine lv_iload_n hx hb dPR_arriveAll_9 rfl (lv_at hl 1 rfl) ?_
      refine lv_iconst (v := 2) hx hb dPR_arriveAll_10 (by decide) ?_
      refine lv_aload_n hx hb dPR_arriveAll_11 rfl (lv_at hl 0 rfl) ?_
      refine c_getO_PR_plan hx hb (hB.words zU_PR) hown hK hP (hB.word (zm1 k1_130) rfl) dPR_arriveAll_12 ?_
      refine c_get_1 hx hb (hB.words zU_PL) hown hK hP (hB.word (zm1 k1_40) rfl) dPR_arriveAll_15 E (fun k8 ek8 E => ?_)
      have r_k8 : zr 0 60 k8 := by rw [ek8]; exact gP.2.1 1
      refine z_imul hx hb dPR_arriveAll_18 E (fun k9 ek9 E => ?_)
      have r_k9 : zr 0 120 k9 := zr_mul (show zr 2 2 2 from by decide) r_k8 ek9 (by decide)
      refine z_icmp_ge (tgt := 64) hx hb dPR_arriveAll_19 (by decide) E (fun c_19 E => ?_) (fun c_19 E => ?_)
      · rw [hQe]
        exact W.vret hx hb hr (fun t ht hW => ⟨⟨S_9, rfl, ⟨E.symm.trans etg, gS_9⟩, by rw [ht]; exact hP, hD⟩, hS.F ht⟩) hS.2.2 dPR_arriveAll_64
      · have r_x9_1 : zr 0 119 x9_1 := zlt_x r_x9_1 r_k9 (znle c_19) (by decide)
        have r_k9 : zr 1 120 k9 := zlt_y r_x9_1 r_k9 (znle c_19) (by decide)
        have qgp_x9_1 : zgt P x9_1 := zgp_port gQ gP ek8 ek9 c_19 r_x9_1 (by decide)
        refine lv_aload_n hx hb dPR_arriveAll_22 rfl (lv_at hl 0 rfl) ?_
        refine c_getO_PR_wires hx hb (hB.words zU_PR) hown hK hP (hB.word (zm1 k1_131) rfl) dPR_arriveAll_23 ?_
        refine lv_iload_n hx hb dPR_arriveAll_26 rfl (lv_at hl 1 rfl) ?_
        refine zcallp (va_runV (As := [.int x9_1]) (rest := []) ⟨hx, hb, hml, hown, zno⟩ (tWI_countArriving l dC dI cI cZ cJ cA a0 s0 o (zsw b) P S_9 H.size x9_1 gP gS_9 r_x9_1) (zcw 1 (hB.word (zm3 k3_175) rfl) (hB.word (zm1 k1_4) rfl) (hB.word (zm3 k3_172) rfl) (hB.word (zm3 k3_173) rfl) (hB.word (zm3 k3_174) rfl) rfl rfl (by decide +kernel) ⟨Nat.le_of_ble_eq_true rfl, Nat.le_of_ble_eq_true rfl⟩) ⟨zP_blind, va_recv hK hP (ci := 2) (q0 := 2) rfl rfl, zP_pre hP hK hD hAD (zB_on hB hA0 hS)⟩ rfl rfl hl.1 rfl (lv_room (Nat.le_of_ble_eq_true rfl)) dPR_arriveAll_27 ⟨Nat.le_of_ble_eq_true rfl, Nat.le_of_ble_eq_true rfl⟩) hS hA (fun k11 H10 locs hk11 hz1 hk1 hS => ?_)
        have hP := zKeep hP hk1
        have E := zl_s E hk11.1
        refine lv_istore_n (lv' := [(2, .int k11), (0, .ref (o 4)), (1, .int x9_1)]) hx hb dPR_arriveAll_30 rfl hl (by decide) rfl (fun ls hl => ?_)
        refine lv_iconst (v := 0) hx hb dPR_arriveAll_31 (by decide) ?_
        refine lv_istore_n (lv' := [(3, .int 0), (2, .int k11), (0, .ref (o 4)), (1, .int x9_1)]) hx hb dPR_arriveAll_32 rfl hl (by decide) rfl (fun ls hl => ?_)
        exact hL33 65 H10 locs ls S_9 x9_1 k11 0 r_x9_1 qgp_x9_1 (Or.inr qgp_x9_1) hk11.2 (show zr 0 64 0 from by decide) gS_9 hm9 (by have h9 := (show zr 0 0 0 from by decide); exact zfuelU h9 (by decide)) E hP hD hS (lv_sub hl [2, 3, 1, 0] rfl)
  refine lv_aload_n hx hb dPR_arriveAll_0 rfl (lv_at hl 0 rfl) ?_
  refine c_getO_PR_wires hx hb (hB.words zU_PR) hown hK hP (hB.word (zm1 k1_131) rfl) dPR_arriveAll_1 ?_
  refine zcV (va_runV (As := []) (rest := []) ⟨hx, hb, hml, hown, zno⟩ (tWI_turn l dC dI cI cZ cJ cA a0 s0 o b P S s.heap.size gP gS) (zcw 0 (hB.word (zm3 k3_170) rfl) (hB.word (zm1 k1_4) rfl) (hB.word (zm3 k3_167) rfl) (hB.word (zm3 k3_168) rfl) (hB.word (zm3 k3_169) rfl) rfl rfl (by decide +kernel) ⟨Nat.le_of_ble_eq_true rfl, Nat.le_of_ble_eq_true rfl⟩) ⟨zP_blind, va_recv hK hP (ci := 2) (q0 := 2) rfl rfl, zP_pre hP hK hD hAD (zB_on hB hA0 hS)⟩ rfl rfl hl.1 rfl (lv_room (Nat.le_of_ble_eq_true rfl)) dPR_arriveAll_4 ⟨Nat.le_of_ble_eq_true rfl, Nat.le_of_ble_eq_true rfl⟩) hD hS hA (fun S13 H12 locs h14 hP hD hS => ?_)
  have E := zl_s E h14.1
  have gS13 := h14.2
  refine lv_iconst (v := 0) hx hb dPR_arriveAll_7 (by decide) ?_
  refine lv_istore_n (lv' := [(1, .int 0), (0, .ref (o 4))]) hx hb dPR_arriveAll_8 rfl hl (by decide) rfl (fun ls hl => ?_)
  exact hL9 121 H12 locs ls S13 0 (show zr 0 120 0 from by decide) gS13 (by have h9 := (show zr 0 0 0 from by decide); exact zfuelU h9 (by decide)) E hP hD hS (lv_sub hl [1, 0] rfl)
noncomputable def fPR_runClock_46 (P : ZS) (S_46 : ZS) (y46_0 : Int32) (y46_1 : Int32) : ZS := zl (S_46.setF 17 (y46_1 : Int32).toNatClampNeg y46_0) (fun S1 => S1)
noncomputable def fPR_runClock (P S : ZS) (x0 : Int32) : ZS := zl (x0 - x0 / 6 * 6) (fun k3 => zl (fPR_allHolds P S x0) (fun k5 => zl (k5 &&& 23) (fun k6 => (if k6 = 0 then zl (S.F 17 (k3 : Int32).toNatClampNeg) (fun k7 => (if k7 = 0 then zl (k5 &&& 8) (fun k16 => (if k16 = 0 then fPR_runClock_46 P S 0 k3 else fPR_runClock_46 P S 60 k3)) else zl (S.F 17 (k3 : Int32).toNatClampNeg) (fun k8 => zl (k7 - 1) (fun k9 => zl (S.setF 17 (k3 : Int32).toNatClampNeg k9) (fun S10 => zl (S10.F 17 (k3 : Int32).toNatClampNeg) (fun k12 => (if k12 = 0 then zl (fPR_takeHold P S10 k3) (fun S14 => S14) else S10))))))) else S))))
set_option maxHeartbeats 4000000 in
set_option maxRecDepth 100000 in
theorem tPR_runClock (l : Launch) (dC : Nat → ClassId) (dI : Nat → Nat → Nat) (cI cZ cJ cA : ClassId) (a0 : Array Value) (s0 : State) (o b : Nat → Nat) (P S : ZS) (sz : Nat) (x0 : Int32) (gP : cok P) (gS : cok S) (gQ : zQ P) (r_x0 : zr 0 287 x0) (qgl_x0 : zgp P x0) : Met l yPR_runClock [Cond.code yPR_runClock bPR_runClock 4 none] ({ frames := 4, cells := 0, slots := 0, locals := 96 } : Room) (zP zCl dC dI (zTZ cI cZ cJ cA) a0 s0 [.ref (o 4), .int x0] sz (CW cI cZ cA o b P S)) (zQG zCl dC dI (fun (x9 : ZS) => x9 = fPR_runClock P S x0 ∧ cok x9) (fun x9 : ZS => (CW cI cZ cA o b P x9)) (va_A (CW cI cZ cA o b P S) sz)) 0 0 (va_A (CW cI cZ cA o b P S) sz) := by
  refine Met.ofW (cc := bPR_runClock) (maxL := 4) (ret := none) (by decide) rfl ?_
  intro p e s m args below meth c s₁ B hml hv
  obtain ⟨rfl, hsz, hP, hK, hD0, hB⟩ := hv
  have hx := B.exec
  have hb := B.bytes
  have hr := B.returns
  have hown : s.vm.findClass "RingGuard$Protocol" = some m.cls := findClass_of_methodNamed B.named
  have hlocks := B.notSynchronized
  subst hsz
  have hD := hD0.self (sz := s.heap.size)
  have hA0 := zA0 hD0 hB
  generalize hAe : va_A (CW cI cZ cA o b P S) s.heap.size = A at hD hA0 ⊢
  have hAD := hA0
  have hA : ∀ q : Nat, s.heap.size ≤ q → A q := fun q h => by rw [← hAe]; exact Or.inr h
  have hS : va_S A s.heap s.heap [] := va_S.rf
  have hl := lv_entry ([.ref (o 4), .int x0]) (n := 4) (Nat.le_of_ble_eq_true rfl)
  rw [lg_entry_eq]
  generalize (lg_sl ([.ref (o 4), .int x0]) ++ List.replicate (4 - (lg_sl ([.ref (o 4), .int x0])).length) Slot.unset).toArray = ls at hl ⊢
  have hl : lv_has ls 4 [(0, .ref (o 4)), (1, .int x0)] := hl
  refine zgenQ (fun Q hQe => ?_)
  obtain ⟨tg, etg⟩ : ∃ z, z = fPR_runClock P S x0 := ⟨_, rfl⟩
  have E := etg
  unfold fPR_runClock at E
  have hJ46 : ∀ (H : Heap) (locs : List Loc) (ls : Array Slot) (S_46 : ZS) (y46_0 : Int32) (y46_1 : Int32), zr 0 60 y46_0 → zr 0 5 y46_1 → (zgr P y46_1) → cok S_46 → tg = fPR_runClock_46 P S_46 y46_0 y46_1 → va_P (dC, dI) zCl (CW cI cZ cA o b P S_46) H → va_D A (CW cI cZ cA o b P S_46) → va_S A s.heap H locs → lv_has ls 4 [] → W p l e ({ frames := 4, cells := 0, slots := 0, locals := 96 } : Room) s m ([.ref (o 4), .int x0] : List Value).toArray below meth c H locs 0 0 Q (F0 m 46 ls [.int y46_0, .int y46_1, .ref (b 17)]) := by
    intro H locs ls S_46 y46_0 y46_1 r_y46_0 r_y46_1 qgr_y46_1 gS_46 E hP hD hS hl
    unfold fPR_runClock_46 at E
    refine c_astS hx hb hK hP hD hS 17 (by decide) rfl r_y46_1 (by decide) dPR_runClock_46 E (fun S1 H2 locs eS1 E hP hD hS => ?_)
    have gS1 : cok S1 := by rw [eS1]; exact gS_46.setF (k := 17) (zr_any y46_0) (Or.inl (by decide))
    rw [hQe]
    exact W.vret hx hb hr (fun t ht hW => ⟨⟨S1, rfl, ⟨E.symm.trans etg, gS1⟩, by rw [ht]; exact hP, hD⟩, hS.F ht⟩) hS.2.2 dPR_runClock_47
  refine lv_iload_n hx hb dPR_runClock_0 rfl (lv_at hl 1 rfl) ?_
  refine lv_bipush (v := 6) hx hb dPR_runClock_1 (by decide) ?_
  refine z_irem hx hb dPR_runClock_3 (by decide) E (fun k3 ek3 E => ?_)
  have r_k3 : zr 0 5 k3 := (zr_rem (lo := 0) (hi := 5) r_x0 (c := 6) (by decide) ek3 (by decide)).1
  have qgr_k3 : zgr P k3 := by rw [ek3]; exact qgl_x0
  refine lv_istore_n (lv' := [(2, .int k3), (0, .ref (o 4)), (1, .int x0)]) hx hb dPR_runClock_4 rfl hl (by decide) rfl (fun ls hl => ?_)
  refine lv_aload_n hx hb dPR_runClock_5 rfl (lv_at hl 1 rfl) ?_
  refine lv_iload_n hx hb dPR_runClock_6 rfl (lv_at hl 2 rfl) ?_
  refine zcallp (va_runV (As := [.int x0]) (rest := []) ⟨hx, hb, hml, hown, zno⟩ (tPR_allHolds l dC dI cI cZ cJ cA a0 s0 o b P S s.heap.size x0 gP gS r_x0) (zcw 1 (hB.word (zm3 k3_219) rfl) (hB.word (zm1 k1_6) rfl) (hB.word (zm3 k3_216) rfl) (hB.word (zm3 k3_218) rfl) (k2_selects_private (by decide) (hB.word (zm1 k1_125) rfl) (hB.word (zm3 k3_217) rfl) (hB.word (zm3 k3_218) rfl)) rfl rfl (by decide +kernel) ⟨Nat.le_of_ble_eq_true rfl, Nat.le_of_ble_eq_true rfl⟩) ⟨zP_blind, va_recv hK hP (ci := 4) (q0 := 4) rfl rfl, zP_pre hP hK hD hAD (zB_on hB hA0 hS)⟩ rfl rfl hl.1 rfl (lv_room (Nat.le_of_ble_eq_true rfl)) dPR_runClock_7 ⟨Nat.le_of_ble_eq_true rfl, Nat.le_of_ble_eq_true rfl⟩) hS hA (fun k5 H4 locs hk5 hz1 hk1 hS => ?_)
  have hP := zKeep hP hk1
  have E := zl_s E hk5.1
  refine lv_istore_n (lv' := [(3, .int k5), (2, .int k3), (0, .ref (o 4)), (1, .int x0)]) hx hb dPR_runClock_10 rfl hl (by decide) rfl (fun ls hl => ?_)
  refine lv_iload_n hx hb dPR_runClock_11 rfl (lv_at hl 0 rfl) ?_
  refine lv_bipush (v := 23) hx hb dPR_runClock_12 (by decide) ?_
  refine z_iand hx hb dPR_runClock_14 E (fun k6 ek6 E => ?_)
  have r_k6 : zr 0 23 k6 := zr_and (c := 23) (by decide) ek6 (by decide)
  refine z_if_eq (tgt := 19) hx hb dPR_runClock_15 (by decide) E (fun c_15 E => ?_) (fun c_15 E => ?_)
  · have r_k6 : zr 0 0 k6 := zeq_x (show zr 0 0 0 from by decide) c_15
    refine lv_aload_n hx hb dPR_runClock_19 rfl (lv_at hl 2 rfl) ?_
    refine c_getA_17 hx hb (hB.words zU_PR) hown hK hP (hB.word (zm1 k1_138) rfl) dPR_runClock_20 ?_
    refine lv_iload_n hx hb dPR_runClock_23 rfl (lv_at hl 1 rfl) ?_
    refine c_aldS hx hb hK hP 17 (by decide) rfl r_k3 (by decide) dPR_runClock_24 E (fun k7 ek7 E => ?_)
    refine z_if_ne (tgt := 48) hx hb dPR_runClock_25 (by decide) E (fun c_25 E => ?_) (fun c_25 E => ?_)
    · refine lv_aload_n hx hb dPR_runClock_48 rfl (lv_at hl 2 rfl) ?_
      refine c_getA_17 hx hb (hB.words zU_PR) hown hK hP (hB.word (zm1 k1_138) rfl) dPR_runClock_49 ?_
      refine lv_iload_n hx hb dPR_runClock_52 rfl (lv_at hl 1 rfl) ?_
      refine lv_dup2_11 hx hb dPR_runClock_53 rfl rfl ?_
      refine c_aldS hx hb hK hP 17 (by decide) rfl r_k3 (by decide) dPR_runClock_54 E (fun k8 ek8 E => ?_)
      have x9 : k7 = k8 := by rw [ek7, ek8]
      subst x9
      refine lv_iconst (v := 1) hx hb dPR_runClock_55 (by decide) ?_
      refine z_isub hx hb dPR_runClock_56 E (fun k9 ek9 E => ?_)
      refine c_astS hx hb hK hP hD hS 17 (by decide) rfl r_k3 (by decide) dPR_runClock_57 E (fun S10 H11 locs eS10 E hP hD hS => ?_)
      have gS10 : cok S10 := by rw [eS10]; exact gS.setF (k := 17) (zr_any k9) (Or.inl (by decide))
      refine lv_aload_n hx hb dPR_runClock_58 rfl (lv_at hl 2 rfl) ?_
      refine c_getA_17 hx hb (hB.words zU_PR) hown hK hP (hB.word (zm1 k1_138) rfl) dPR_runClock_59 ?_
      refine lv_iload_n hx hb dPR_runClock_62 rfl (lv_at hl 1 rfl) ?_
      refine c_aldS hx hb hK hP 17 (by decide) rfl r_k3 (by decide) dPR_runClock_63 E (fun k12 ek12 E => ?_)
      refine z_if_ne (tgt := 72) hx hb dPR_runClock_64 (by decide) E (fun c_64 E => ?_) (fun c_64 E => ?_)
      · rw [hQe]
        exact W.vret hx hb hr (fun t ht hW => ⟨⟨S10, rfl, ⟨E.symm.trans etg, gS10⟩, by rw [ht]; exact hP, hD⟩, hS.F ht⟩) hS.2.2 dPR_runClock_72
      · have r_k12 : zr 0 0 k12 := zeq_x (show zr 0 0 0 from by decide) c_64
        refine lv_aload_n hx hb dPR_runClock_67 rfl (lv_at hl 2 rfl) ?_
        refine lv_iload_n hx hb dPR_runClock_68 rfl (lv_at hl 1 rfl) ?_
        refine zcV (va_runV (As := [.int k3]) (rest := []) ⟨hx, hb, hml, hown, zno⟩ (tPR_takeHold l dC dI cI cZ cJ cA a0 s0 o b P S10 H11.size k3 gP gS10 gQ r_k3 qgr_k3) (zcw 1 (hB.word (zm3 k3_20) rfl) (hB.word (zm1 k1_6) rfl) (hB.word (zm3 k3_17) rfl) (hB.word (zm3 k3_19) rfl) (k2_selects_private (by decide) (hB.word (zm1 k1_125) rfl) (hB.word (zm3 k3_18) rfl) (hB.word (zm3 k3_19) rfl)) rfl rfl (by decide +kernel) ⟨Nat.le_of_ble_eq_true rfl, Nat.le_of_ble_eq_true rfl⟩) ⟨zP_blind, va_recv hK hP (ci := 4) (q0 := 4) rfl rfl, zP_pre hP hK hD hAD (zB_on hB hA0 hS)⟩ rfl rfl hl.1 rfl (lv_room (Nat.le_of_ble_eq_true rfl)) dPR_runClock_69 ⟨Nat.le_of_ble_eq_true rfl, Nat.le_of_ble_eq_true rfl⟩) hD hS hA (fun S14 H13 locs h15 hP hD hS => ?_)
        have E := zl_s E h15.1
        have gS14 := h15.2
        rw [hQe]
        exact W.vret hx hb hr (fun t ht hW => ⟨⟨S14, rfl, ⟨E.symm.trans etg, gS14⟩, by rw [ht]; exact hP, hD⟩, hS.F ht⟩) hS.2.2 dPR_runClock_72
    · have r_k7 : zr 0 0 k7 := zeq_x (show zr 0 0 0 from by decide) c_25
      refine lv_aload_n hx hb dPR_runClock_28 rfl (lv_at hl 2 rfl) ?_
      refine c_getA_17 hx hb (hB.words zU_PR) hown hK hP (hB.word (zm1 k1_138) rfl) dPR_runClock_29 ?_
      refine lv_iload_n hx hb dPR_runClock_32 rfl (lv_at hl 1 rfl) ?_
      refine lv_iload_n hx hb dPR_runClock_33 rfl (lv_at hl 0 rfl) ?_
      refine lv_bipush (v := 8) hx hb dPR_runClock_34 (by decide) ?_
      refine z_iand hx hb dPR_runClock_36 E (fun k16 ek16 E => ?_)
      have r_k16 : zr 0 8 k16 := zr_and (c := 8) (by decide) ek16 (by decide)
      refine z_if_eq (tgt := 45) hx hb dPR_runClock_37 (by decide) E (fun c_37 E => ?_) (fun c_37 E => ?_)
      · have r_k16 : zr 0 0 k16 := zeq_x (show zr 0 0 0 from by decide) c_37
        refine lv_iconst (v := 0) hx hb dPR_runClock_45 (by decide) ?_
        exact hJ46 H4 locs ls S 0 k3 (show zr 0 60 0 from by decide) r_k3 qgr_k3 gS E hP hD hS (lv_sub hl [] rfl)
      · have r_k16 : zr 1 8 k16 := zne_lo r_k16 c_37 (by decide)
        refine lv_bipush (v := 60) hx hb dPR_runClock_40 (by decide) ?_
        refine lv_goto (tgt := 46) hx hb dPR_runClock_42 (by decide) ?_
        exact hJ46 H4 locs ls S 60 k3 (show zr 0 60 60 from by decide) r_k3 qgr_k3 gS E hP hD hS (lv_sub hl [] rfl)
  · have r_k6 : zr 1 23 k6 := zne_lo r_k6 c_15 (by decide)
    rw [hQe]
    exact W.vret hx hb hr (fun t ht hW => ⟨⟨S, rfl, ⟨E.symm.trans etg, gS⟩, by rw [ht]; exact hP, hD⟩, hS.F ht⟩) hS.2.2 dPR_runClock_18
noncomputable def fPR_isSendingPhase_17 (P : ZS) (S : ZS) : Int32 := 1
noncomputable def fPR_isSendingPhase (P S : ZS) (x0 : Int32) : Int32 := (if x0 = 1 then fPR_isSendingPhase_17 P S else (if x0 = 2 then fPR_isSendingPhase_17 P S else zl (x0 - x0 / 5 * 5) (fun k1 => (if k1 = 3 then fPR_isSendingPhase_17 P S else 0))))
set_option maxHeartbeats 4000000 in
set_option maxRecDepth 100000 in
theorem tPR_isSendingPhase (l : Launch) (dC : Nat → ClassId) (dI : Nat → Nat → Nat) (cI cZ cJ cA : ClassId) (a0 : Array Value) (s0 : State) (o b : Nat → Nat) (P S : ZS) (sz : Nat) (x0 : Int32) (gP : cok P) (gS : cok S) : Met l yPR_isSendingPhase [Cond.code yPR_isSendingPhase bPR_isSendingPhase 1 (some .boolean)] ({ frames := 0, cells := 0, slots := 0, locals := 0 } : Room) (zP zCl dC dI (zTZ cI cZ cJ cA) a0 s0 [.int x0] sz (CW cI cZ cA o b P S)) (zQp (fun r => r = fPR_isSendingPhase P S x0 ∧ zr 0 1 r) sz) 0 0 (zN sz) := by
  refine Met.ofW (cc := bPR_isSendingPhase) (maxL := 1) (ret := (some .boolean)) (by decide) rfl ?_
  intro p e s m args below meth c s₁ B hml hv
  obtain ⟨rfl, hsz, hP, hK, hD0, hB⟩ := hv
  have hx := B.exec
  have hb := B.bytes
  have hr := B.returns
  have hown : s.vm.findClass "RingGuard$Protocol" = some m.cls := findClass_of_methodNamed B.named
  have hlocks := B.notSynchronized
  subst hsz
  have hD := hD0
  have hA0 : ∀ q, zN s.heap.size q → s0.heap.size ≤ q := zA1 hB
  have hAD : ∀ q, zN s0.heap.size q → s0.heap.size ≤ q := fun _ h => h
  have hA : ∀ q : Nat, s.heap.size ≤ q → zN s.heap.size q := fun _ h => h
  have hS : va_S (zN s.heap.size) s.heap s.heap [] := va_S.rf
  have hl := lv_entry ([.int x0]) (n := 1) (Nat.le_of_ble_eq_true rfl)
  rw [lg_entry_eq]
  generalize (lg_sl ([.int x0]) ++ List.replicate (1 - (lg_sl ([.int x0])).length) Slot.unset).toArray = ls at hl ⊢
  have hl : lv_has ls 1 [(0, .int x0)] := hl
  refine zgenQ (fun Q hQe => ?_)
  obtain ⟨tg, etg⟩ : ∃ z, z = fPR_isSendingPhase P S x0 := ⟨_, rfl⟩
  have E := etg
  unfold fPR_isSendingPhase at E
  have hJ17 : ∀ (H : Heap) (locs : List Loc) (ls : Array Slot), tg = fPR_isSendingPhase_17 P S  → va_P (dC, dI) zCl (CW cI cZ cA o b P S) H → va_S (zN s.heap.size) s.heap H locs → lv_has ls 1 [] → W p l e ({ frames := 0, cells := 0, slots := 0, locals := 0 } : Room) s m ([.int x0] : List Value).toArray below meth c H locs 0 0 Q (F0 m 17 ls []) := by
    intro H locs ls E hP hS hl
    unfold fPR_isSendingPhase_17 at E
    refine lv_iconst (v := 1) hx hb dPR_isSendingPhase_17 (by decide) ?_
    refine lv_goto (tgt := 22) hx hb dPR_isSendingPhase_18 (by decide) ?_
    rw [hQe]
    exact W.zret (v := 1) (ty := .boolean) hx hb hr (znar (show zr 0 1 1 from by decide)) (fun t ht hW => ⟨⟨1, (), rfl, ⟨E.symm.trans etg, (show zr 0 1 1 from by decide)⟩, trivial⟩, hS.F ht⟩) hS.2.2 dPR_isSendingPhase_22
  refine lv_iload_n hx hb dPR_isSendingPhase_0 rfl (lv_at hl 0 rfl) ?_
  refine lv_iconst (v := 1) hx hb dPR_isSendingPhase_1 (by decide) ?_
  refine z_icmp_eq (tgt := 17) hx hb dPR_isSendingPhase_2 (by decide) E (fun c_2 E => ?_) (fun c_2 E => ?_)
  · have r_x0 : zr 1 1 x0 := zeq_x (show zr 1 1 1 from by decide) c_2
    exact hJ17 s.heap [] ls  E hP hS (lv_sub hl [] rfl)
  · refine lv_iload_n hx hb dPR_isSendingPhase_5 rfl (lv_at hl 0 rfl) ?_
    refine lv_iconst (v := 2) hx hb dPR_isSendingPhase_6 (by decide) ?_
    refine z_icmp_eq (tgt := 17) hx hb dPR_isSendingPhase_7 (by decide) E (fun c_7 E => ?_) (fun c_7 E => ?_)
    · have r_x0 : zr 2 2 x0 := zeq_x (show zr 2 2 2 from by decide) c_7
      exact hJ17 s.heap [] ls  E hP hS (lv_sub hl [] rfl)
    · refine lv_iload_n hx hb dPR_isSendingPhase_10 rfl (lv_at hl 0 rfl) ?_
      refine lv_iconst (v := 5) hx hb dPR_isSendingPhase_11 (by decide) ?_
      refine z_irem hx hb dPR_isSendingPhase_12 (by decide) E (fun k1 ek1 E => ?_)
      refine lv_iconst (v := 3) hx hb dPR_isSendingPhase_13 (by decide) ?_
      refine z_icmp_ne (tgt := 21) hx hb dPR_isSendingPhase_14 (by decide) E (fun c_14 E => ?_) (fun c_14 E => ?_)
      · refine lv_iconst (v := 0) hx hb dPR_isSendingPhase_21 (by decide) ?_
        rw [hQe]
        exact W.zret (v := 0) (ty := .boolean) hx hb hr (znar (show zr 0 1 0 from by decide)) (fun t ht hW => ⟨⟨0, (), rfl, ⟨E.symm.trans etg, (show zr 0 1 0 from by decide)⟩, trivial⟩, hS.F ht⟩) hS.2.2 dPR_isSendingPhase_22
      · have r_k1 : zr 3 3 k1 := zeq_x (show zr 3 3 3 from by decide) c_14
        exact hJ17 s.heap [] ls  E hP hS (lv_sub hl [] rfl)
noncomputable def fPR_lesserFailedLink_37 (P : ZS) (S : ZS) (y37_0 : Int32) : Int32 := zl (y37_0 / 2) (fun k1 => k1)
noncomputable def fPR_lesserFailedLink (P S : ZS) (x0 : Int32) : Int32 := zl (2 * x0) (fun k2 => zl (P.F 7 (k2 : Int32).toNatClampNeg) (fun k3 => zl (fPR_isDown P S k3) (fun k5 => (if k5 = 0 then zl (2 * x0) (fun k6 => zl (k6 + 1) (fun k7 => zl (P.F 7 (k7 : Int32).toNatClampNeg) (fun k8 => fPR_lesserFailedLink_37 P S k8))) else fPR_lesserFailedLink_37 P S k3))))
set_option maxHeartbeats 4000000 in
set_option maxRecDepth 100000 in
theorem tPR_lesserFailedLink (l : Launch) (dC : Nat → ClassId) (dI : Nat → Nat → Nat) (cI cZ cJ cA : ClassId) (a0 : Array Value) (s0 : State) (o b : Nat → Nat) (P S : ZS) (sz : Nat) (x0 : Int32) (gP : cok P) (gS : cok S) (r_x0 : zr 0 287 x0) (qhp_x0 : ¬ P.F 7 (2 * x0).toNatClampNeg = -1) (h1 : fPR_isDown P S (P.F 7 (2 * x0).toNatClampNeg) = 0 → ¬ P.F 7 (2 * x0 + 1).toNatClampNeg = -1) : Met l yPR_lesserFailedLink [Cond.code yPR_lesserFailedLink bPR_lesserFailedLink 3 (some .int)] ({ frames := 1, cells := 0, slots := 0, locals := 21 } : Room) (zP zCl dC dI (zTZ cI cZ cJ cA) a0 s0 [.ref (o 4), .int x0] sz (CW cI cZ cA o b P S)) (zQp (fun r => r = fPR_lesserFailedLink P S x0 ∧ zr 0 59 r) sz) 0 0 (zN sz) := by
  refine Met.ofW (cc := bPR_lesserFailedLink) (maxL := 3) (ret := (some .int)) (by decide) rfl ?_
  intro p e s m args below meth c s₁ B hml hv
  obtain ⟨rfl, hsz, hP, hK, hD0, hB⟩ := hv
  have hx := B.exec
  have hb := B.bytes
  have hr := B.returns
  have hown : s.vm.findClass "RingGuard$Protocol" = some m.cls := findClass_of_methodNamed B.named
  have hlocks := B.notSynchronized
  subst hsz
  have hD := hD0
  have hA0 : ∀ q, zN s.heap.size q → s0.heap.size ≤ q := zA1 hB
  have hAD : ∀ q, zN s0.heap.size q → s0.heap.size ≤ q := fun _ h => h
  have hA : ∀ q : Nat, s.heap.size ≤ q → zN s.heap.size q := fun _ h => h
  have hS : va_S (zN s.heap.size) s.heap s.heap [] := va_S.rf
  have hl := lv_entry ([.ref (o 4), .int x0]) (n := 3) (Nat.le_of_ble_eq_true rfl)
  rw [lg_entry_eq]
  generalize (lg_sl ([.ref (o 4), .int x0]) ++ List.replicate (3 - (lg_sl ([.ref (o 4), .int x0])).length) Slot.unset).toArray = ls at hl ⊢
  have hl : lv_has ls 3 [(0, .ref (o 4)), (1, .int x0)] := hl
  refine zgenQ (fun Q hQe => ?_)
  obtain ⟨tg, etg⟩ : ∃ z, z = fPR_lesserFailedLink P S x0 := ⟨_, rfl⟩
  have E := etg
  unfold fPR_lesserFailedLink at E
  have hJ37 : ∀ (H : Heap) (locs : List Loc) (ls : Array Slot) (y37_0 : Int32), zr 0 119 y37_0 → tg = fPR_lesserFailedLink_37 P S y37_0 → va_P (dC, dI) zCl (CW cI cZ cA o b P S) H → va_S (zN s.heap.size) s.heap H locs → lv_has ls 3 [] → W p l e ({ frames := 1, cells := 0, slots := 0, locals := 21 } : Room) s m ([.ref (o 4), .int x0] : List Value).toArray below meth c H locs 0 0 Q (F0 m 37 ls [.int y37_0]) := by
    intro H locs ls y37_0 r_y37_0 E hP hS hl
    unfold fPR_lesserFailedLink_37 at E
    refine lv_iconst (v := 2) hx hb dPR_lesserFailedLink_37 (by decide) ?_
    refine z_idiv hx hb dPR_lesserFailedLink_38 (by decide) E (fun k1 ek1 E => ?_)
    have r_k1 : zr 0 59 k1 := zr_div r_y37_0 (c := 2) (by decide) ek1 (by decide)
    rw [hQe]
    exact W.iret (v := k1) hx hb hr (fun t ht hW => ⟨⟨k1, (), rfl, ⟨E.symm.trans etg, r_k1⟩, trivial⟩, hS.F ht⟩) hS.2.2 dPR_lesserFailedLink_39
  refine lv_aload_n hx hb dPR_lesserFailedLink_0 rfl (lv_at hl 0 rfl) ?_
  refine c_getO_PR_plan hx hb (hB.words zU_PR) hown hK hP (hB.word (zm1 k1_130) rfl) dPR_lesserFailedLink_1 ?_
  refine c_getA_7 hx hb (hB.words zU_PL) hown hK hP (hB.word (zm1 k1_57) rfl) dPR_lesserFailedLink_4 ?_
  refine lv_iconst (v := 2) hx hb dPR_lesserFailedLink_7 (by decide) ?_
  refine lv_iload_n hx hb dPR_lesserFailedLink_8 rfl (lv_at hl 1 rfl) ?_
  refine z_imul hx hb dPR_lesserFailedLink_9 E (fun k2 ek2 E => ?_)
  have r_k2 : zr 0 574 k2 := zr_mul (show zr 2 2 2 from by decide) r_x0 ek2 (by decide)
  refine c_aldP hx hb hK hP 7 (by decide) rfl r_k2 (by decide) dPR_lesserFailedLink_10 E (fun k3 ek3 E => ?_)
  have r_k3 : zr (-1) 119 k3 := by rw [ek3]; exact gP.1 7 _
  have r_k32 : zr 0 119 k3 := zne_lo r_k3 (by rw [ek3, ek2]; exact qhp_x0) (by decide)
  refine lv_istore_n (lv' := [(2, .int k3), (0, .ref (o 4)), (1, .int x0)]) hx hb dPR_lesserFailedLink_11 rfl hl (by decide) rfl (fun ls hl => ?_)
  refine lv_aload_n hx hb dPR_lesserFailedLink_12 rfl (lv_at hl 1 rfl) ?_
  refine lv_iload_n hx hb dPR_lesserFailedLink_13 rfl (lv_at hl 0 rfl) ?_
  refine zcallp (va_runV (As := [.int k3]) (rest := []) ⟨hx, hb, hml, hown, zno⟩ (tPR_isDown l dC dI cI cZ cJ cA a0 s0 o b P S s.heap.size k3 gP gS r_k32) (zcw 1 (hB.word (zm3 k3_43) rfl) (hB.word (zm1 k1_6) rfl) (hB.word (zm3 k3_40) rfl) (hB.word (zm3 k3_42) rfl) (k2_selects_private (by decide) (hB.word (zm1 k1_125) rfl) (hB.word (zm3 k3_41) rfl) (hB.word (zm3 k3_42) rfl)) rfl rfl (by decide +kernel) ⟨Nat.le_of_ble_eq_true rfl, Nat.le_of_ble_eq_true rfl⟩) ⟨zP_blind, va_recv hK hP (ci := 4) (q0 := 4) rfl rfl, zP_pre hP hK hD hAD (zB_on hB hA0 hS)⟩ rfl rfl hl.1 rfl (lv_room (Nat.le_of_ble_eq_true rfl)) dPR_lesserFailedLink_14 ⟨Nat.le_of_ble_eq_true rfl, Nat.le_of_ble_eq_true rfl⟩) hS hA (fun k5 H4 locs hk5 hz1 hk1 hS => ?_)
  have hP := zKeep hP hk1
  have E := zl_s E hk5.1
  refine z_if_eq (tgt := 24) hx hb dPR_lesserFailedLink_17 (by decide) E (fun c_17 E => ?_) (fun c_17 E => ?_)
  · have r_k5 : zr 0 0 k5 := zeq_x (show zr 0 0 0 from by decide) c_17
    refine lv_aload_n hx hb dPR_lesserFailedLink_24 rfl (lv_at hl 1 rfl) ?_
    refine c_getO_PR_plan hx hb (hB.words zU_PR) hown hK hP (hB.word (zm1 k1_130) rfl) dPR_lesserFailedLink_25 ?_
    refine c_getA_7 hx hb (hB.words zU_PL) hown hK hP (hB.word (zm1 k1_57) rfl) dPR_lesserFailedLink_28 ?_
    refine lv_iconst (v := 2) hx hb dPR_lesserFailedLink_31 (by decide) ?_
    refine lv_iload_n hx hb dPR_lesserFailedLink_32 rfl (lv_at hl 2 rfl) ?_
    refine z_imul hx hb dPR_lesserFailedLink_33 E (fun k6 ek6 E => ?_)
    have r_k6 : zr 0 574 k6 := zr_mul (show zr 2 2 2 from by decide) r_x0 ek6 (by decide)
    refine lv_iconst (v := 1) hx hb dPR_lesserFailedLink_34 (by decide) ?_
    refine z_iadd hx hb dPR_lesserFailedLink_35 E (fun k7 ek7 E => ?_)
    have r_k7 : zr 1 575 k7 := zr_add r_k6 (show zr 1 1 1 from by decide) ek7 (by decide)
    refine c_aldP hx hb hK hP 7 (by decide) rfl r_k7 (by decide) dPR_lesserFailedLink_36 E (fun k8 ek8 E => ?_)
    have r_k8 : zr (-1) 119 k8 := by rw [ek8]; exact gP.1 7 _
    have r_k82 : zr 0 119 k8 := zne_lo r_k8 (by rw [ek8, ek7, ek6]; exact h1 (by have h9 := hk5.1; rw [ek3, ek2] at h9; rw [← h9]; exact c_17)) (by decide)
    exact hJ37 H4 locs ls k8 r_k82 E hP hS (lv_sub hl [] rfl)
  · have r_k5 : zr 1 1 k5 := zne_lo hk5.2 c_17 (by decide)
    refine lv_iload_n hx hb dPR_lesserFailedLink_20 rfl (lv_at hl 0 rfl) ?_
    refine lv_goto (tgt := 37) hx hb dPR_lesserFailedLink_21 (by decide) ?_
    exact hJ37 H4 locs ls k3 r_k32 E hP hS (lv_sub hl [] rfl)
theorem zlt_irr (x : Int32) : ¬ x < x := fun h => by have := Int32.lt_iff_toInt_lt.mp h; omega
theorem z2x {x : Int32} (r : zr 0 287 x) : (2 * x).toInt = 2 * x.toInt := by
  have z : (2 : Int32).toInt = 2 := by decide
  have r1 := r.1
  have r2 := r.2
  rw [Int32.toInt_mul, z, zbm ⟨by omega, by omega⟩]
theorem zx1 {x : Int32} {a b : Int} (r : zr a b x) (h : -2147483648 ≤ a ∧ b ≤ 2147483646) : (x + 1).toInt = x.toInt + 1 := by
  have z : (1 : Int32).toInt = 1 := by decide
  have r1 := r.1
  have r2 := r.2
  rw [Int32.toInt_add, z, zbm ⟨by omega, by omega⟩]
/-- the holds of a place's two ports together -/
theorem zall_eq {P S : ZS} {x : Int32} (r : zr 0 287 x) : fPR_allHolds P S x = (0 ||| (if P.F 7 (2 * x).toNatClampNeg = -1 then 0 else S.F 14 (P.F 7 (2 * x).toNatClampNeg).toNatClampNeg)) ||| (if P.F 7 (2 * x + 1).toNatClampNeg = -1 then 0 else S.F 14 (P.F 7 (2 * x + 1).toNatClampNeg).toNatClampNeg) := by
  have e0 := z2x r
  have r1 := r.1
  have r2 := r.2
  have e1 : (2 * x + 1).toInt = 2 * x.toInt + 1 := by rw [zx1 (a := 0) (b := 1000) ⟨by omega, by omega⟩ (by decide), e0]
  have e2 : (2 * x + 1 + 1).toInt = 2 * x.toInt + 2 := by rw [zx1 (a := 0) (b := 1000) ⟨by omega, by omega⟩ (by decide), e1]; omega
  have c1 : ¬ 2 * x + 1 < 2 * x := fun h => by have := Int32.lt_iff_toInt_lt.mp h; omega
  have c2 : ¬ 2 * x + 1 < 2 * x + 1 := zlt_irr _
  have c3 : 2 * x + 1 < 2 * x + 1 + 1 := Int32.lt_iff_toInt_lt.mpr (by omega)
  unfold fPR_allHolds zl
  show zfix (fun _ _ _ => 0) (fPR_allHolds_6 P S) (574 + 1 + 1 + 1) x 0 (2 * x) = _
  rw [zfix_s, zfix_s, zfix_s]
  simp only [fPR_allHolds_6, fPR_allHolds_44, zl, if_neg c1, if_neg c2, if_pos c3]
  split <;> split <;> rfl
theorem zall_down {P S : ZS} {x a k : Int32} (r : zr 0 287 x) (hp : ¬ P.F 7 (2 * x).toNatClampNeg = -1) (e : k = a &&& 1) (ha : a = fPR_allHolds P S x) (c : ¬ k = 0) : fPR_isDown P S (P.F 7 (2 * x).toNatClampNeg) = 0 → ¬ P.F 7 (2 * x + 1).toNatClampNeg = -1 := by
  intro hd hq
  apply c
  rw [e, ha, zall_eq r, if_neg hp, if_pos hq]
  have h1 : S.F 14 (P.F 7 (2 * x).toNatClampNeg).toNatClampNeg &&& 1 = 0 := by
    simp only [fPR_isDown, zl] at hd
    split at hd
    · rename_i h; exact h
    · cases hd
  have e1 : ∀ h : Int32, ((0 ||| h) ||| 0) = h := fun h => by rw [Int32.zero_or, Int32.or_zero]
  rw [e1, h1]
noncomputable def fPR_castToSend (P S : ZS) (x0 : Int32) : Int32 := zl (x0 / 6) (fun k1 => zl (x0 - x0 / 6 * 6) (fun k2 => zl (fPR_allHolds P S x0) (fun k4 => zl (k4 &&& 2) (fun k5 => (if k5 = 0 then zl (k4 &&& 1) (fun k6 => (if k6 = 0 then zl (k4 &&& 4) (fun k7 => (if k7 = 0 then zl (k4 &&& 8) (fun k8 => (if k8 = 0 then zl (k4 &&& 16) (fun k9 => (if k9 = 0 then (-1) else zl (108 + k2) (fun k10 => zl (S.F 18 (k2 : Int32).toNatClampNeg) (fun k11 => zl (fCA_of P S 4 k1 k10 k11) (fun k13 => k13))))) else zl (fCA_of P S 3 k1 0 0) (fun k15 => k15))) else zl (60 + k1) (fun k16 => zl (S.F 20 (k1 : Int32).toNatClampNeg) (fun k17 => zl (fCA_of P S 2 k1 k16 k17) (fun k19 => k19))))) else zl (fPR_lesserFailedLink P S x0) (fun k21 => zl (S.F 19 (k21 : Int32).toNatClampNeg) (fun k22 => zl (fCA_of P S 0 k1 k21 k22) (fun k24 => k24))))) else zl (60 + k1) (fun k25 => zl (S.F 20 (k1 : Int32).toNatClampNeg) (fun k26 => zl (fCA_of P S 1 k1 k25 k26) (fun k28 => k28))))))))
set_option maxHeartbeats 4000000 in
set_option maxRecDepth 100000 in
theorem tPR_castToSend (l : Launch) (dC : Nat → ClassId) (dI : Nat → Nat → Nat) (cI cZ cJ cA : ClassId) (a0 : Array Value) (s0 : State) (o b : Nat → Nat) (P S : ZS) (sz : Nat) (x0 : Int32) (gP : cok P) (gS : cok S) (r_x0 : zr 0 287 x0) (qhp_x0 : ¬ P.F 7 (2 * x0).toNatClampNeg = -1) : Met l yPR_castToSend [Cond.code yPR_castToSend bPR_castToSend 6 (some .int)] ({ frames := 2, cells := 0, slots := 0, locals := 43 } : Room) (zP zCl dC dI (zTZ cI cZ cJ cA) a0 s0 [.ref (o 4), .int x0] sz (CW cI cZ cA o b P S)) (zQp (fun r => r = fPR_castToSend P S x0 ∧ True ∧ (r = -1 ∨ zck r)) sz) 0 0 (zN sz) := by
  refine Met.ofW (cc := bPR_castToSend) (maxL := 6) (ret := (some .int)) (by decide) rfl ?_
  intro p e s m args below meth c s₁ B hml hv
  obtain ⟨rfl, hsz, hP, hK, hD0, hB⟩ := hv
  have hx := B.exec
  have hb := B.bytes
  have hr := B.returns
  have hown : s.vm.findClass "RingGuard$Protocol" = some m.cls := findClass_of_methodNamed B.named
  have hlocks := B.notSynchronized
  subst hsz
  have hD := hD0
  have hA0 : ∀ q, zN s.heap.size q → s0.heap.size ≤ q := zA1 hB
  have hAD : ∀ q, zN s0.heap.size q → s0.heap.size ≤ q := fun _ h => h
  have hA : ∀ q : Nat, s.heap.size ≤ q → zN s.heap.size q := fun _ h => h
  have hS : va_S (zN s.heap.size) s.heap s.heap [] := va_S.rf
  have hl := lv_entry ([.ref (o 4), .int x0]) (n := 6) (Nat.le_of_ble_eq_true rfl)
  rw [lg_entry_eq]
  generalize (lg_sl ([.ref (o 4), .int x0]) ++ List.replicate (6 - (lg_sl ([.ref (o 4), .int x0])).length) Slot.unset).toArray = ls at hl ⊢
  have hl : lv_has ls 6 [(0, .ref (o 4)), (1, .int x0)] := hl
  refine zgenQ (fun Q hQe => ?_)
  obtain ⟨tg, etg⟩ : ∃ z, z = fPR_castToSend P S x0 := ⟨_, rfl⟩
  have E := etg
  unfold fPR_castToSend at E
  refine lv_iload_n hx hb dPR_castToSend_0 rfl (lv_at hl 1 rfl) ?_
  refine lv_bipush (v := 6) hx hb dPR_castToSend_1 (by decide) ?_
  refine z_idiv hx hb dPR_castToSend_3 (by decide) E (fun k1 ek1 E => ?_)
  have r_k1 : zr 0 47 k1 := zr_div r_x0 (c := 6) (by decide) ek1 (by decide)
  refine lv_istore_n (lv' := [(2, .int k1), (0, .ref (o 4)), (1, .int x0)]) hx hb dPR_castToSend_4 rfl hl (by decide) rfl (fun ls hl => ?_)
  refine lv_iload_n hx hb dPR_castToSend_5 rfl (lv_at hl 2 rfl) ?_
  refine lv_bipush (v := 6) hx hb dPR_castToSend_6 (by decide) ?_
  refine z_irem hx hb dPR_castToSend_8 (by decide) E (fun k2 ek2 E => ?_)
  have r_k2 : zr 0 5 k2 := (zr_rem (lo := 0) (hi := 5) r_x0 (c := 6) (by decide) ek2 (by decide)).1
  refine lv_istore_n (lv' := [(3, .int k2), (2, .int k1), (0, .ref (o 4)), (1, .int x0)]) hx hb dPR_castToSend_9 rfl hl (by decide) rfl (fun ls hl => ?_)
  refine lv_aload_n hx hb dPR_castToSend_10 rfl (lv_at hl 2 rfl) ?_
  refine lv_iload_n hx hb dPR_castToSend_11 rfl (lv_at hl 3 rfl) ?_
  refine zcallp (va_runV (As := [.int x0]) (rest := []) ⟨hx, hb, hml, hown, zno⟩ (tPR_allHolds l dC dI cI cZ cJ cA a0 s0 o b P S s.heap.size x0 gP gS r_x0) (zcw 1 (hB.word (zm3 k3_219) rfl) (hB.word (zm1 k1_6) rfl) (hB.word (zm3 k3_216) rfl) (hB.word (zm3 k3_218) rfl) (k2_selects_private (by decide) (hB.word (zm1 k1_125) rfl) (hB.word (zm3 k3_217) rfl) (hB.word (zm3 k3_218) rfl)) rfl rfl (by decide +kernel) ⟨Nat.le_of_ble_eq_true rfl, Nat.le_of_ble_eq_true rfl⟩) ⟨zP_blind, va_recv hK hP (ci := 4) (q0 := 4) rfl rfl, zP_pre hP hK hD hAD (zB_on hB hA0 hS)⟩ rfl rfl hl.1 rfl (lv_room (Nat.le_of_ble_eq_true rfl)) dPR_castToSend_12 ⟨Nat.le_of_ble_eq_true rfl, Nat.le_of_ble_eq_true rfl⟩) hS hA (fun k4 H3 locs hk4 hz1 hk1 hS => ?_)
  have hP := zKeep hP hk1
  have E := zl_s E hk4.1
  have ha9 := hk4.1
  refine lv_istore (lv' := [(4, .int k4), (3, .int k2), (2, .int k1), (0, .ref (o 4)), (1, .int x0)]) hx hb dPR_castToSend_15 hl (by decide) rfl (fun ls hl => ?_)
  refine lv_iload hx hb dPR_castToSend_17 (lv_at hl 0 rfl) ?_
  refine lv_iconst (v := 2) hx hb dPR_castToSend_19 (by decide) ?_
  refine z_iand hx hb dPR_castToSend_20 E (fun k5 ek5 E => ?_)
  have r_k5 : zr 0 2 k5 := zr_and (c := 2) (by decide) ek5 (by decide)
  refine z_if_eq (tgt := 40) hx hb dPR_castToSend_21 (by decide) E (fun c_21 E => ?_) (fun c_21 E => ?_)
  · have r_k5 : zr 0 0 k5 := zeq_x (show zr 0 0 0 from by decide) c_21
    refine lv_iload hx hb dPR_castToSend_40 (lv_at hl 0 rfl) ?_
    refine lv_iconst (v := 1) hx hb dPR_castToSend_42 (by decide) ?_
    refine z_iand hx hb dPR_castToSend_43 E (fun k6 ek6 E => ?_)
    have r_k6 : zr 0 1 k6 := zr_and (c := 1) (by decide) ek6 (by decide)
    refine z_if_eq (tgt := 69) hx hb dPR_castToSend_44 (by decide) E (fun c_44 E => ?_) (fun c_44 E => ?_)
    · have r_k6 : zr 0 0 k6 := zeq_x (show zr 0 0 0 from by decide) c_44
      refine lv_iload hx hb dPR_castToSend_69 (lv_at hl 0 rfl) ?_
      refine lv_iconst (v := 4) hx hb dPR_castToSend_71 (by decide) ?_
      refine z_iand hx hb dPR_castToSend_72 E (fun k7 ek7 E => ?_)
      have r_k7 : zr 0 4 k7 := zr_and (c := 4) (by decide) ek7 (by decide)
      refine z_if_eq (tgt := 92) hx hb dPR_castToSend_73 (by decide) E (fun c_73 E => ?_) (fun c_73 E => ?_)
      · have r_k7 : zr 0 0 k7 := zeq_x (show zr 0 0 0 from by decide) c_73
        refine lv_iload hx hb dPR_castToSend_92 (lv_at hl 0 rfl) ?_
        refine lv_bipush (v := 8) hx hb dPR_castToSend_94 (by decide) ?_
        refine z_iand hx hb dPR_castToSend_96 E (fun k8 ek8 E => ?_)
        have r_k8 : zr 0 8 k8 := zr_and (c := 8) (by decide) ek8 (by decide)
        refine z_if_eq (tgt := 108) hx hb dPR_castToSend_97 (by decide) E (fun c_97 E => ?_) (fun c_97 E => ?_)
        · have r_k8 : zr 0 0 k8 := zeq_x (show zr 0 0 0 from by decide) c_97
          refine lv_iload hx hb dPR_castToSend_108 (lv_at hl 0 rfl) ?_
          refine lv_bipush (v := 16) hx hb dPR_castToSend_110 (by decide) ?_
          refine z_iand hx hb dPR_castToSend_112 E (fun k9 ek9 E => ?_)
          have r_k9 : zr 0 16 k9 := zr_and (c := 16) (by decide) ek9 (by decide)
          refine z_if_eq (tgt := 132) hx hb dPR_castToSend_113 (by decide) E (fun c_113 E => ?_) (fun c_113 E => ?_)
          · have r_k9 : zr 0 0 k9 := zeq_x (show zr 0 0 0 from by decide) c_113
            refine lv_iconst (v := (-1)) hx hb dPR_castToSend_132 (by decide) ?_
            rw [hQe]
            exact W.iret (v := (-1)) hx hb hr (fun t ht hW => ⟨⟨(-1), (), rfl, ⟨E.symm.trans etg, trivial, (Or.inl rfl)⟩, trivial⟩, hS.F ht⟩) hS.2.2 dPR_castToSend_133
          · have r_k9 : zr 1 16 k9 := zne_lo r_k9 c_113 (by decide)
            refine lv_iconst (v := 4) hx hb dPR_castToSend_116 (by decide) ?_
            refine lv_iload_n hx hb dPR_castToSend_117 rfl (lv_at hl 2 rfl) ?_
            refine lv_bipush (v := 108) hx hb dPR_castToSend_118 (by decide) ?_
            refine lv_iload_n hx hb dPR_castToSend_120 rfl (lv_at hl 1 rfl) ?_
            refine z_iadd hx hb dPR_castToSend_121 E (fun k10 ek10 E => ?_)
            have r_k10 : zr 108 113 k10 := zr_add (show zr 108 108 108 from by decide) r_k2 ek10 (by decide)
            refine lv_aload_n hx hb dPR_castToSend_122 rfl (lv_at hl 3 rfl) ?_
            refine c_getA_18 hx hb (hB.words zU_PR) hown hK hP (hB.word (zm1 k1_140) rfl) dPR_castToSend_123 ?_
            refine lv_iload_n hx hb dPR_castToSend_126 rfl (lv_at hl 1 rfl) ?_
            refine c_aldS hx hb hK hP 18 (by decide) rfl r_k2 (by decide) dPR_castToSend_127 E (fun k11 ek11 E => ?_)
            refine zcallp (va_runS (As := [.int 4, .int k1, .int k10, .int k11]) (rest := []) ⟨hx, hb, hml, hown, zno⟩ (tCA_of l dC dI cI cZ cJ cA a0 s0 o b P S H3.size 4 k1 k10 k11 gP gS (show zr 0 7 4 from by decide) (zr_mono r_k1 (by decide)) (zr_mono r_k10 (by decide))) ⟨zcb 4 (hB.word (zm3 k3_35) rfl) (hB.word (zm1 k1_15) rfl) (hB.word (zm3 k3_33) rfl) rfl rfl (by decide +kernel) ⟨Nat.le_of_ble_eq_true rfl, Nat.le_of_ble_eq_true rfl⟩, hB.word (zm3 k3_34) rfl⟩ ⟨zP_blind, zP_pre hP hK hD hAD (zB_on hB hA0 hS)⟩ rfl rfl hl.1 rfl (lv_room (Nat.le_of_ble_eq_true rfl)) dPR_castToSend_128 ⟨Nat.le_of_ble_eq_true rfl, Nat.le_of_ble_eq_true rfl⟩) hS hA (fun k13 H12 locs hk13 hz1 hk1 hS => ?_)
            have hP := zKeep hP hk1
            have E := zl_s E hk13.1
            rw [hQe]
            exact W.iret (v := k13) hx hb hr (fun t ht hW => ⟨⟨k13, (), rfl, ⟨E.symm.trans etg, trivial, hk13.2.2.2⟩, trivial⟩, hS.F ht⟩) hS.2.2 dPR_castToSend_131
        · have r_k8 : zr 1 8 k8 := zne_lo r_k8 c_97 (by decide)
          refine lv_iconst (v := 3) hx hb dPR_castToSend_100 (by decide) ?_
          refine lv_iload_n hx hb dPR_castToSend_101 rfl (lv_at hl 2 rfl) ?_
          refine lv_iconst (v := 0) hx hb dPR_castToSend_102 (by decide) ?_
          refine lv_iconst (v := 0) hx hb dPR_castToSend_103 (by decide) ?_
          refine zcallp (va_runS (As := [.int 3, .int k1, .int 0, .int 0]) (rest := []) ⟨hx, hb, hml, hown, zno⟩ (tCA_of l dC dI cI cZ cJ cA a0 s0 o b P S H3.size 3 k1 0 0 gP gS (show zr 0 7 3 from by decide) (zr_mono r_k1 (by decide)) (show zr 0 113 0 from by decide)) ⟨zcb 4 (hB.word (zm3 k3_35) rfl) (hB.word (zm1 k1_15) rfl) (hB.word (zm3 k3_33) rfl) rfl rfl (by decide +kernel) ⟨Nat.le_of_ble_eq_true rfl, Nat.le_of_ble_eq_true rfl⟩, hB.word (zm3 k3_34) rfl⟩ ⟨zP_blind, zP_pre hP hK hD hAD (zB_on hB hA0 hS)⟩ rfl rfl hl.1 rfl (lv_room (Nat.le_of_ble_eq_true rfl)) dPR_castToSend_104 ⟨Nat.le_of_ble_eq_true rfl, Nat.le_of_ble_eq_true rfl⟩) hS hA (fun k15 H14 locs hk15 hz1 hk1 hS => ?_)
          have hP := zKeep hP hk1
          have E := zl_s E hk15.1
          rw [hQe]
          exact W.iret (v := k15) hx hb hr (fun t ht hW => ⟨⟨k15, (), rfl, ⟨E.symm.trans etg, trivial, hk15.2.2.2⟩, trivial⟩, hS.F ht⟩) hS.2.2 dPR_castToSend_107
      · have r_k7 : zr 1 4 k7 := zne_lo r_k7 c_73 (by decide)
        refine lv_iconst (v := 2) hx hb dPR_castToSend_76 (by decide) ?_
        refine lv_iload_n hx hb dPR_castToSend_77 rfl (lv_at hl 2 rfl) ?_
        refine lv_bipush (v := 60) hx hb dPR_castToSend_78 (by decide) ?_
        refine lv_iload_n hx hb dPR_castToSend_80 rfl (lv_at hl 2 rfl) ?_
        refine z_iadd hx hb dPR_castToSend_81 E (fun k16 ek16 E => ?_)
        have r_k16 : zr 60 107 k16 := zr_add (show zr 60 60 60 from by decide) r_k1 ek16 (by decide)
        refine lv_aload_n hx hb dPR_castToSend_82 rfl (lv_at hl 3 rfl) ?_
        refine c_getA_20 hx hb (hB.words zU_PR) hown hK hP (hB.word (zm1 k1_142) rfl) dPR_castToSend_83 ?_
        refine lv_iload_n hx hb dPR_castToSend_86 rfl (lv_at hl 2 rfl) ?_
        refine c_aldS hx hb hK hP 20 (by decide) rfl r_k1 (by decide) dPR_castToSend_87 E (fun k17 ek17 E => ?_)
        refine zcallp (va_runS (As := [.int 2, .int k1, .int k16, .int k17]) (rest := []) ⟨hx, hb, hml, hown, zno⟩ (tCA_of l dC dI cI cZ cJ cA a0 s0 o b P S H3.size 2 k1 k16 k17 gP gS (show zr 0 7 2 from by decide) (zr_mono r_k1 (by decide)) (zr_mono r_k16 (by decide))) ⟨zcb 4 (hB.word (zm3 k3_35) rfl) (hB.word (zm1 k1_15) rfl) (hB.word (zm3 k3_33) rfl) rfl rfl (by decide +kernel) ⟨Nat.le_of_ble_eq_true rfl, Nat.le_of_ble_eq_true rfl⟩, hB.word (zm3 k3_34) rfl⟩ ⟨zP_blind, zP_pre hP hK hD hAD (zB_on hB hA0 hS)⟩ rfl rfl hl.1 rfl (lv_room (Nat.le_of_ble_eq_true rfl)) dPR_castToSend_88 ⟨Nat.le_of_ble_eq_true rfl, Nat.le_of_ble_eq_true rfl⟩) hS hA (fun k19 H18 locs hk19 hz1 hk1 hS => ?_)
        have hP := zKeep hP hk1
        have E := zl_s E hk19.1
        rw [hQe]
        exact W.iret (v := k19) hx hb hr (fun t ht hW => ⟨⟨k19, (), rfl, ⟨E.symm.trans etg, trivial, hk19.2.2.2⟩, trivial⟩, hS.F ht⟩) hS.2.2 dPR_castToSend_91
    · have r_k6 : zr 1 1 k6 := zne_lo r_k6 c_44 (by decide)
      refine lv_aload_n hx hb dPR_castToSend_47 rfl (lv_at hl 3 rfl) ?_
      refine lv_iload_n hx hb dPR_castToSend_48 rfl (lv_at hl 4 rfl) ?_
      refine zcallp (va_runV (As := [.int x0]) (rest := []) ⟨hx, hb, hml, hown, zno⟩ (tPR_lesserFailedLink l dC dI cI cZ cJ cA a0 s0 o b P S H3.size x0 gP gS r_x0 qhp_x0 (zall_down r_x0 qhp_x0 ek6 ha9 c_44)) (zcw 1 (hB.word (zm4 k4_6) rfl) (hB.word (zm1 k1_6) rfl) (hB.word (zm4 k4_3) rfl) (hB.word (zm4 k4_5) rfl) (k2_selects_private (by decide) (hB.word (zm1 k1_125) rfl) (hB.word (zm4 k4_4) rfl) (hB.word (zm4 k4_5) rfl)) rfl rfl (by decide +kernel) ⟨Nat.le_of_ble_eq_true rfl, Nat.le_of_ble_eq_true rfl⟩) ⟨zP_blind, va_recv hK hP (ci := 4) (q0 := 4) rfl rfl, zP_pre hP hK hD hAD (zB_on hB hA0 hS)⟩ rfl rfl hl.1 rfl (lv_room (Nat.le_of_ble_eq_true rfl)) dPR_castToSend_49 ⟨Nat.le_of_ble_eq_true rfl, Nat.le_of_ble_eq_true rfl⟩) hS hA (fun k21 H20 locs hk21 hz1 hk1 hS => ?_)
      have hP := zKeep hP hk1
      have E := zl_s E hk21.1
      refine lv_istore (lv' := [(5, .int k21), (4, .int k4), (3, .int k2), (2, .int k1), (0, .ref (o 4)), (1, .int x0)]) hx hb dPR_castToSend_52 hl (by decide) rfl (fun ls hl => ?_)
      refine lv_iconst (v := 0) hx hb dPR_castToSend_54 (by decide) ?_
      refine lv_iload_n hx hb dPR_castToSend_55 rfl (lv_at hl 3 rfl) ?_
      refine lv_iload hx hb dPR_castToSend_56 (lv_at hl 0 rfl) ?_
      refine lv_aload_n hx hb dPR_castToSend_58 rfl (lv_at hl 4 rfl) ?_
      refine c_getA_19 hx hb (hB.words zU_PR) hown hK hP (hB.word (zm1 k1_141) rfl) dPR_castToSend_59 ?_
      refine lv_iload hx hb dPR_castToSend_62 (lv_at hl 0 rfl) ?_
      refine c_aldS hx hb hK hP 19 (by decide) rfl hk21.2 (by decide) dPR_castToSend_64 E (fun k22 ek22 E => ?_)
      refine zcallp (va_runS (As := [.int 0, .int k1, .int k21, .int k22]) (rest := []) ⟨hx, hb, hml, hown, zno⟩ (tCA_of l dC dI cI cZ cJ cA a0 s0 o b P S H20.size 0 k1 k21 k22 gP gS (show zr 0 7 0 from by decide) (zr_mono r_k1 (by decide)) (zr_mono hk21.2 (by decide))) ⟨zcb 4 (hB.word (zm3 k3_35) rfl) (hB.word (zm1 k1_15) rfl) (hB.word (zm3 k3_33) rfl) rfl rfl (by decide +kernel) ⟨Nat.le_of_ble_eq_true rfl, Nat.le_of_ble_eq_true rfl⟩, hB.word (zm3 k3_34) rfl⟩ ⟨zP_blind, zP_pre hP hK hD hAD (zB_on hB hA0 hS)⟩ rfl rfl hl.1 rfl (lv_room (Nat.le_of_ble_eq_true rfl)) dPR_castToSend_65 ⟨Nat.le_of_ble_eq_true rfl, Nat.le_of_ble_eq_true rfl⟩) hS hA (fun k24 H23 locs hk24 hz1 hk1 hS => ?_)
      have hP := zKeep hP hk1
      have E := zl_s E hk24.1
      rw [hQe]
      exact W.iret (v := k24) hx hb hr (fun t ht hW => ⟨⟨k24, (), rfl, ⟨E.symm.trans etg, trivial, hk24.2.2.2⟩, trivial⟩, hS.F ht⟩) hS.2.2 dPR_castToSend_68
  · have r_k5 : zr 1 2 k5 := zne_lo r_k5 c_21 (by decide)
    refine lv_iconst (v := 1) hx hb dPR_castToSend_24 (by decide) ?_
    refine lv_iload_n hx hb dPR_castToSend_25 rfl (lv_at hl 2 rfl) ?_
    refine lv_bipush (v := 60) hx hb dPR_castToSend_26 (by decide) ?_
    refine lv_iload_n hx hb dPR_castToSend_28 rfl (lv_at hl 2 rfl) ?_
    refine z_iadd hx hb dPR_castToSend_29 E (fun k25 ek25 E => ?_)
    have r_k25 : zr 60 107 k25 := zr_add (show zr 60 60 60 from by decide) r_k1 ek25 (by decide)
    refine lv_aload_n hx hb dPR_castToSend_30 rfl (lv_at hl 3 rfl) ?_
    refine c_getA_20 hx hb (hB.words zU_PR) hown hK hP (hB.word (zm1 k1_142) rfl) dPR_castToSend_31 ?_
    refine lv_iload_n hx hb dPR_castToSend_34 rfl (lv_at hl 2 rfl) ?_
    refine c_aldS hx hb hK hP 20 (by decide) rfl r_k1 (by decide) dPR_castToSend_35 E (fun k26 ek26 E => ?_)
    refine zcallp (va_runS (As := [.int 1, .int k1, .int k25, .int k26]) (rest := []) ⟨hx, hb, hml, hown, zno⟩ (tCA_of l dC dI cI cZ cJ cA a0 s0 o b P S H3.size 1 k1 k25 k26 gP gS (show zr 0 7 1 from by decide) (zr_mono r_k1 (by decide)) (zr_mono r_k25 (by decide))) ⟨zcb 4 (hB.word (zm3 k3_35) rfl) (hB.word (zm1 k1_15) rfl) (hB.word (zm3 k3_33) rfl) rfl rfl (by decide +kernel) ⟨Nat.le_of_ble_eq_true rfl, Nat.le_of_ble_eq_true rfl⟩, hB.word (zm3 k3_34) rfl⟩ ⟨zP_blind, zP_pre hP hK hD hAD (zB_on hB hA0 hS)⟩ rfl rfl hl.1 rfl (lv_room (Nat.le_of_ble_eq_true rfl)) dPR_castToSend_36 ⟨Nat.le_of_ble_eq_true rfl, Nat.le_of_ble_eq_true rfl⟩) hS hA (fun k28 H27 locs hk28 hz1 hk1 hS => ?_)
    have hP := zKeep hP hk1
    have E := zl_s E hk28.1
    rw [hQe]
    exact W.iret (v := k28) hx hb hr (fun t ht hW => ⟨⟨k28, (), rfl, ⟨E.symm.trans etg, trivial, hk28.2.2.2⟩, trivial⟩, hS.F ht⟩) hS.2.2 dPR_castToSend_39
noncomputable def fPR_speak (P S : ZS) (x0 : Int32) : ZS := zl (fPR_castToSend P S x0) (fun k2 => (if k2 = (-1) then S else zl (fPR_putFromPorts P S x0 k2) (fun S4 => S4)))
set_option maxHeartbeats 4000000 in
set_option maxRecDepth 100000 in
theorem tPR_speak (l : Launch) (dC : Nat → ClassId) (dI : Nat → Nat → Nat) (cI cZ cJ cA : ClassId) (a0 : Array Value) (s0 : State) (o b : Nat → Nat) (P S : ZS) (sz : Nat) (x0 : Int32) (gP : cok P) (gS : cok S) (r_x0 : zr 0 287 x0) (qhp_x0 : ¬ P.F 7 (2 * x0).toNatClampNeg = -1) : Met l yPR_speak [Cond.code yPR_speak bPR_speak 3 none] ({ frames := 3, cells := 0, slots := 0, locals := 68 } : Room) (zP zCl dC dI (zTZ cI cZ cJ cA) a0 s0 [.ref (o 4), .int x0] sz (CW cI cZ cA o b P S)) (zQG zCl dC dI (fun (x9 : ZS) => x9 = fPR_speak P S x0 ∧ cok x9) (fun x9 : ZS => (CW cI cZ cA o b P x9)) (va_A (CW cI cZ cA o b P S) sz)) 0 0 (va_A (CW cI cZ cA o b P S) sz) := by
  refine Met.ofW (cc := bPR_speak) (maxL := 3) (ret := none) (by decide) rfl ?_
  intro p e s m args below meth c s₁ B hml hv
  obtain ⟨rfl, hsz, hP, hK, hD0, hB⟩ := hv
  have hx := B.exec
  have hb := B.bytes
  have hr := B.returns
  have hown : s.vm.findClass "RingGuard$Protocol" = some m.cls := findClass_of_methodNamed B.named
  have hlocks := B.notSynchronized
  subst hsz
  have hD := hD0.self (sz := s.heap.size)
  have hA0 := zA0 hD0 hB
  generalize hAe : va_A (CW cI cZ cA o b P S) s.heap.size = A at hD hA0 ⊢
  have hAD := hA0
  have hA : ∀ q : Nat, s.heap.size ≤ q → A q := fun q h => by rw [← hAe]; exact Or.inr h
  have hS : va_S A s.heap s.heap [] := va_S.rf
  have hl := lv_entry ([.ref (o 4), .int x0]) (n := 3) (Nat.le_of_ble_eq_true rfl)
  rw [lg_entry_eq]
  generalize (lg_sl ([.ref (o 4), .int x0]) ++ List.replicate (3 - (lg_sl ([.ref (o 4), .int x0])).length) Slot.unset).toArray = ls at hl ⊢
  have hl : lv_has ls 3 [(0, .ref (o 4)), (1, .int x0)] := hl
  refine zgenQ (fun Q hQe => ?_)
  obtain ⟨tg, etg⟩ : ∃ z, z = fPR_speak P S x0 := ⟨_, rfl⟩
  have E := etg
  unfold fPR_speak at E
  refine lv_aload_n hx hb dPR_speak_0 rfl (lv_at hl 0 rfl) ?_
  refine lv_iload_n hx hb dPR_speak_1 rfl (lv_at hl 1 rfl) ?_
  refine zcallp (va_runV (As := [.int x0]) (rest := []) ⟨hx, hb, hml, hown, zno⟩ (tPR_castToSend l dC dI cI cZ cJ cA a0 s0 o b P S s.heap.size x0 gP gS r_x0 qhp_x0) (zcw 1 (hB.word (zm4 k4_2) rfl) (hB.word (zm1 k1_6) rfl) (hB.word (zm3 k3_239) rfl) (hB.word (zm4 k4_1) rfl) (k2_selects_private (by decide) (hB.word (zm1 k1_125) rfl) (hB.word (zm4 k4_0) rfl) (hB.word (zm4 k4_1) rfl)) rfl rfl (by decide +kernel) ⟨Nat.le_of_ble_eq_true rfl, Nat.le_of_ble_eq_true rfl⟩) ⟨zP_blind, va_recv hK hP (ci := 4) (q0 := 4) rfl rfl, zP_pre hP hK hD hAD (zB_on hB hA0 hS)⟩ rfl rfl hl.1 rfl (lv_room (Nat.le_of_ble_eq_true rfl)) dPR_speak_2 ⟨Nat.le_of_ble_eq_true rfl, Nat.le_of_ble_eq_true rfl⟩) hS hA (fun k2 H1 locs hk2 hz1 hk1 hS => ?_)
  have hP := zKeep hP hk1
  have E := zl_s E hk2.1
  refine lv_istore_n (lv' := [(2, .int k2), (0, .ref (o 4)), (1, .int x0)]) hx hb dPR_speak_5 rfl hl (by decide) rfl (fun ls hl => ?_)
  refine lv_iload_n hx hb dPR_speak_6 rfl (lv_at hl 0 rfl) ?_
  refine lv_iconst (v := (-1)) hx hb dPR_speak_7 (by decide) ?_
  refine z_icmp_eq (tgt := 17) hx hb dPR_speak_8 (by decide) E (fun c_8 E => ?_) (fun c_8 E => ?_)
  · have r_k2 : zr (-1) (-1) k2 := zeq_x (show zr (-1) (-1) (-1) from by decide) c_8
    rw [hQe]
    exact W.vret hx hb hr (fun t ht hW => ⟨⟨S, rfl, ⟨E.symm.trans etg, gS⟩, by rw [ht]; exact hP, hD⟩, hS.F ht⟩) hS.2.2 dPR_speak_17
  · have qck_k2 : zck k2 := (hk2.2.2).resolve_left c_8
    refine lv_aload_n hx hb dPR_speak_11 rfl (lv_at hl 1 rfl) ?_
    refine lv_iload_n hx hb dPR_speak_12 rfl (lv_at hl 2 rfl) ?_
    refine lv_iload_n hx hb dPR_speak_13 rfl (lv_at hl 0 rfl) ?_
    refine zcV (va_runV (As := [.int x0, .int k2]) (rest := []) ⟨hx, hb, hml, hown, zno⟩ (tPR_putFromPorts l dC dI cI cZ cJ cA a0 s0 o b P S H1.size x0 k2 gP gS r_x0 qck_k2) (zcw 2 (hB.word (zm3 k3_39) rfl) (hB.word (zm1 k1_6) rfl) (hB.word (zm3 k3_36) rfl) (hB.word (zm3 k3_38) rfl) (k2_selects_private (by decide) (hB.word (zm1 k1_125) rfl) (hB.word (zm3 k3_37) rfl) (hB.word (zm3 k3_38) rfl)) rfl rfl (by decide +kernel) ⟨Nat.le_of_ble_eq_true rfl, Nat.le_of_ble_eq_true rfl⟩) ⟨zP_blind, va_recv hK hP (ci := 4) (q0 := 4) rfl rfl, zP_pre hP hK hD hAD (zB_on hB hA0 hS)⟩ rfl rfl hl.1 rfl (lv_room (Nat.le_of_ble_eq_true rfl)) dPR_speak_14 ⟨Nat.le_of_ble_eq_true rfl, Nat.le_of_ble_eq_true rfl⟩) hD hS hA (fun S4 H3 locs h5 hP hD hS => ?_)
    have E := zl_s E h5.1
    have gS4 := h5.2
    rw [hQe]
    exact W.vret hx hb hr (fun t ht hW => ⟨⟨S4, rfl, ⟨E.symm.trans etg, gS4⟩, by rw [ht]; exact hP, hD⟩, hS.F ht⟩) hS.2.2 dPR_speak_17
noncomputable def fPR_turnAll_121 (P : ZS) (rc2 : ZS → Int32 → (ZS)) (S_121 : ZS) (x121_1 : Int32) : ZS := zl (x121_1 + 1) (fun k1 => rc2 S_121 k1)
noncomputable def fPR_turnAll_94 (P : ZS) (rc2 : ZS → Int32 → (ZS)) (S_94 : ZS) (x94_1 : Int32) : ZS := zl (S_94.F 16 (x94_1 : Int32).toNatClampNeg) (fun k2 => zl (k2 + 1) (fun k3 => zl (S_94.setF 16 (x94_1 : Int32).toNatClampNeg k3) (fun S4 => zl (S4.F 16 (x94_1 : Int32).toNatClampNeg) (fun k6 => zl (fPR_isSendingPhase P S4 k6) (fun k8 => (if k8 = 0 then fPR_turnAll_121 P rc2 S4 x94_1 else zl (fPR_speak P S4 x94_1) (fun S10 => fPR_turnAll_121 P rc2 S10 x94_1)))))))
noncomputable def fPR_turnAll_69 (P : ZS) (rc2 : ZS → Int32 → (ZS)) (S_69 : ZS) (x69_1 : Int32) : ZS := zl (S_69.F 15 (x69_1 : Int32).toNatClampNeg) (fun k12 => (if k12 = 0 then zl (fPR_allHolds P S_69 x69_1) (fun k14 => zl (k14 &&& 23) (fun k15 => (if k15 = 0 then fPR_turnAll_94 P rc2 S_69 x69_1 else zl (fPR_endWaiting P S_69 x69_1) (fun S17 => fPR_turnAll_94 P rc2 S17 x69_1)))) else fPR_turnAll_94 P rc2 S_69 x69_1))
noncomputable def fPR_turnAll_53 (P : ZS) (rc2 : ZS → Int32 → (ZS)) (S_53 : ZS) (x53_1 : Int32) : ZS := zl (fPL_isOwner P S_53 x53_1) (fun k20 => (if k20 = 0 then fPR_turnAll_69 P rc2 S_53 x53_1 else zl (fPR_runClock P S_53 x53_1) (fun S22 => fPR_turnAll_69 P rc2 S22 x53_1)))
noncomputable def fPR_turnAll_2 (P : ZS) (rc2 : ZS → Int32 → (ZS)) (S_2 : ZS) (x2_1 : Int32) : ZS := zl (P.I 0) (fun k24 => zl (k24 * 6) (fun k25 => (if k25 ≤ x2_1 then S_2 else zl (2 * x2_1) (fun k26 => zl (P.F 7 (k26 : Int32).toNatClampNeg) (fun k27 => (if k27 = (-1) then fPR_turnAll_121 P rc2 S_2 x2_1 else zl (S_2.F 15 (x2_1 : Int32).toNatClampNeg) (fun k28 => (if k28 ≤ 0 then fPR_turnAll_53 P rc2 S_2 x2_1 else zl (S_2.F 15 (x2_1 : Int32).toNatClampNeg) (fun k29 => zl (k28 - 1) (fun k30 => zl (S_2.setF 15 (x2_1 : Int32).toNatClampNeg k30) (fun S31 => fPR_turnAll_53 P rc2 S31 x2_1)))))))))))
noncomputable def fPR_turnAll (P S : ZS) : ZS := zfix (fun S9 _ => S9) (fPR_turnAll_2 P) 289 S 0
set_option maxHeartbeats 4000000 in
set_option maxRecDepth 100000 in
theorem tPR_turnAll (l : Launch) (dC : Nat → ClassId) (dI : Nat → Nat → Nat) (cI cZ cJ cA : ClassId) (a0 : Array Value) (s0 : State) (o b : Nat → Nat) (P S : ZS) (sz : Nat) (gP : cok P) (gS : cok S) (gQ : zQ P) : Met l yPR_turnAll [Cond.code yPR_turnAll bPR_turnAll 2 none] ({ frames := 5, cells := 0, slots := 0, locals := 119 } : Room) (zP zCl dC dI (zTZ cI cZ cJ cA) a0 s0 [.ref (o 4)] sz (CW cI cZ cA o b P S)) (zQG zCl dC dI (fun (x9 : ZS) => x9 = fPR_turnAll P S  ∧ cok x9) (fun x9 : ZS => (CW cI cZ cA o b P x9)) (va_A (CW cI cZ cA o b P S) sz)) 0 0 (va_A (CW cI cZ cA o b P S) sz) := by
  refine Met.ofW (cc := bPR_turnAll) (maxL := 2) (ret := none) (by decide) rfl ?_
  intro p e s m args below meth c s₁ B hml hv
  obtain ⟨rfl, hsz, hP, hK, hD0, hB⟩ := hv
  have hx := B.exec
  have hb := B.bytes
  have hr := B.returns
  have hown : s.vm.findClass "RingGuard$Protocol" = some m.cls := findClass_of_methodNamed B.named
  have hlocks := B.notSynchronized
  subst hsz
  have hD := hD0.self (sz := s.heap.size)
  have hA0 := zA0 hD0 hB
  generalize hAe : va_A (CW cI cZ cA o b P S) s.heap.size = A at hD hA0 ⊢
  have hAD := hA0
  have hA : ∀ q : Nat, s.heap.size ≤ q → A q := fun q h => by rw [← hAe]; exact Or.inr h
  have hS : va_S A s.heap s.heap [] := va_S.rf
  have hl := lv_entry ([.ref (o 4)]) (n := 2) (Nat.le_of_ble_eq_true rfl)
  rw [lg_entry_eq]
  generalize (lg_sl ([.ref (o 4)]) ++ List.replicate (2 - (lg_sl ([.ref (o 4)])).length) Slot.unset).toArray = ls at hl ⊢
  have hl : lv_has ls 2 [(0, .ref (o 4))] := hl
  refine zgenQ (fun Q hQe => ?_)
  obtain ⟨tg, etg⟩ : ∃ z, z = fPR_turnAll P S  := ⟨_, rfl⟩
  have E := etg
  unfold fPR_turnAll at E
  have hL2 : ∀ (n2 : Nat) (H : Heap) (locs : List Loc) (ls : Array Slot) (S_2 : ZS) (x2_1 : Int32), zr 0 288 x2_1 → cok S_2 → 288 + 1 - x2_1.toInt ≤ (n2 : Int) → tg = zfix (fun S9 _ => S9) (fPR_turnAll_2 P) n2 S_2 x2_1 → va_P (dC, dI) zCl (CW cI cZ cA o b P S_2) H → va_D A (CW cI cZ cA o b P S_2) → va_S A s.heap H locs → lv_has ls 2 [(0, .ref (o 4)), (1, .int x2_1)] → W p l e ({ frames := 5, cells := 0, slots := 0, locals := 119 } : Room) s m ([.ref (o 4)] : List Value).toArray below meth c H locs 0 0 Q (F0 m 2 ls []) := by
    intro n2
    induction n2 with
    | zero => intro H locs ls S_2 x2_1 r_x2_1 gS_2 hm2 E hP hD hS hl; exact absurd hm2 (zfuel0U r_x2_1)
    | succ n2 ih2 =>
      intro H locs ls S_2 x2_1 r_x2_1 gS_2 hm2 E hP hD hS hl
      rw [zfix_s] at E
      generalize zfix (fun S9 _ => S9) (fPR_turnAll_2 P) n2 = rc2 at ih2 E
      unfold fPR_turnAll_2 at E
      have hJ121 : ∀ (H : Heap) (locs : List Loc) (ls : Array Slot) (S_121 : ZS) (x121_1 : Int32), zr 0 287 x121_1 → cok S_121 → 288 + 1 - x121_1.toInt ≤ ((n2 + 1 : Nat) : Int) → tg = fPR_turnAll_121 P rc2 S_121 x121_1 → va_P (dC, dI) zCl (CW cI cZ cA o b P S_121) H → va_D A (CW cI cZ cA o b P S_121) → va_S A s.heap H locs → lv_has ls 2 [(0, .ref (o 4)), (1, .int x121_1)] → W p l e ({ frames := 5, cells := 0, slots := 0, locals := 119 } : Room) s m ([.ref (o 4)] : List Value).toArray below meth c H locs 0 0 Q (F0 m 121 ls []) := by
        intro H locs ls S_121 x121_1 r_x121_1 gS_121 hm2_121 E hP hD hS hl
        unfold fPR_turnAll_121 at E
        refine z_iinc (lv' := fun v9 => [(1, .int v9), (0, .ref (o 4))]) (cst := 1) hx hb dPR_turnAll_121 hl (k := 1) rfl (by decide) (by decide) (fun _ => rfl) E (fun k1 ls ek1 E hl => ?_)
        have r_k1 : zr 1 288 k1 := zr_add r_x121_1 (show zr 1 1 1 from by decide) ek1 (by decide)
        refine lv_goto (tgt := 2) hx hb dPR_turnAll_124 (by decide) ?_
        exact ih2 H locs ls S_121 k1 (zr_mono r_k1 (by decide)) gS_121 (zstepU ek1 r_x121_1 (by decide) hm2_121) E hP hD hS (lv_sub hl [1, 0] rfl)
      have hJ53 : ∀ (H : Heap) (locs : List Loc) (ls : Array Slot) (S_53 : ZS) (x53_1 : Int32), zr 0 287 x53_1 → (zgp P x53_1) → (¬ P.F 7 (2 * x53_1).toNatClampNeg = -1) → cok S_53 → 288 + 1 - x53_1.toInt ≤ ((n2 + 1 : Nat) : Int) → tg = fPR_turnAll_53 P rc2 S_53 x53_1 → va_P (dC, dI) zCl (CW cI cZ cA o b P S_53) H → va_D A (CW cI cZ cA o b P S_53) → va_S A s.heap H locs → lv_has ls 2 [(0, .ref (o 4)), (1, .int x53_1)] → W p l e ({ frames := 5, cells := 0, slots := 0, locals := 119 } : Room) s m ([.ref (o 4)] : List Value).toArray below meth c H locs 0 0 Q (F0 m 53 ls []) := by
        intro H locs ls S_53 x53_1 r_x53_1 qgl_x53_1 qhp_x53_1 gS_53 hm2_53 E hP hD hS hl
        unfold fPR_turnAll_53 at E
        have hJ69 : ∀ (H : Heap) (locs : List Loc) (ls : Array Slot) (S_69 : ZS) (x69_1 : Int32), zr 0 287 x69_1 → (zgp P x69_1) → (¬ P.F 7 (2 * x69_1).toNatClampNeg = -1) → cok S_69 → 288 + 1 - x69_1.toInt ≤ ((n2 + 1 : Nat) : Int) → tg = fPR_turnAll_69 P rc2 S_69 x69_1 → va_P (dC, dI) zCl (CW cI cZ cA o b P S_69) H → va_D A (CW cI cZ cA o b P S_69) → va_S A s.heap H locs → lv_has ls 2 [(0, .ref (o 4)), (1, .int x69_1)] → W p l e ({ frames := 5, cells := 0, slots := 0, locals := 119 } : Room) s m ([.ref (o 4)] : List Value).toArray below meth c H locs 0 0 Q (F0 m 69 ls []) := by
          intro H locs ls S_69 x69_1 r_x69_1 qgl_x69_1 qhp_x69_1 gS_69 hm2_69 E hP hD hS hl
          unfold fPR_turnAll_69 at E
          have hJ94 : ∀ (H : Heap) (locs : List Loc) (ls : Array Slot) (S_94 : ZS) (x94_1 : Int32), zr 0 287 x94_1 → (zgp P x94_1) → (¬ P.F 7 (2 * x94_1).toNatClampNeg = -1) → cok S_94 → 288 + 1 - x94_1.toInt ≤ ((n2 + 1 : Nat) : Int) → tg = fPR_turnAll_94 P rc2 S_94 x94_1 → va_P (dC, dI) zCl (CW cI cZ cA o b P S_94) H → va_D A (CW cI cZ cA o b P S_94) → va_S A s.heap H locs → lv_has ls 2 [(0, .ref (o 4)), (1, .int x94_1)] → W p l e ({ frames := 5, cells := 0, slots := 0, locals := 119 } : Room) s m ([.ref (o 4)] : List Value).toArray below meth c H locs 0 0 Q (F0 m 94 ls []) := by
            intro H locs ls S_94 x94_1 r_x94_1 qgl_x94_1 qhp_x94_1 gS_94 hm2_94 E hP hD hS hl
            unfold fPR_turnAll_94 at E
            refine lv_aload_n hx hb dPR_turnAll_94 rfl (lv_at hl 0 rfl) ?_
            refine c_getA_16 hx hb (hB.words zU_PR) hown hK hP (hB.word (zm1 k1_137) rfl) dPR_turnAll_95 ?_
            refine lv_iload_n hx hb dPR_turnAll_98 rfl (lv_at hl 1 rfl) ?_
            refine lv_dup2_11 hx hb dPR_turnAll_99 rfl rfl ?_
            refine c_aldS hx hb hK hP 16 (by decide) rfl r_x94_1 (by decide) dPR_turnAll_100 E (fun k2 ek2 E => ?_)
            refine lv_iconst (v := 1) hx hb dPR_turnAll_101 (by decide) ?_
            refine z_iadd hx hb dPR_turnAll_102 E (fun k3 ek3 E => ?_)
            refine c_astS hx hb hK hP hD hS 16 (by decide) rfl r_x94_1 (by decide) dPR_turnAll_103 E (fun S4 H5 locs eS4 E hP hD hS => ?_)
            have gS4 : cok S4 := by rw [eS4]; exact gS_94.setF (k := 16) (zr_any k3) (Or.inl (by decide))
            refine lv_aload_n hx hb dPR_turnAll_104 rfl (lv_at hl 0 rfl) ?_
            refine c_getA_16 hx hb (hB.words zU_PR) hown hK hP (hB.word (zm1 k1_137) rfl) dPR_turnAll_105 ?_
            refine lv_iload_n hx hb dPR_turnAll_108 rfl (lv_at hl 1 rfl) ?_
            refine c_aldS hx hb hK hP 16 (by decide) rfl r_x94_1 (by decide) dPR_turnAll_109 E (fun k6 ek6 E => ?_)
            refine zcallp (va_runS (As := [.int k6]) (rest := []) ⟨hx, hb, hml, hown, zno⟩ (tPR_isSendingPhase l dC dI cI cZ cJ cA a0 s0 o b P S4 H5.size k6 gP gS4) ⟨zcb 1 (hB.word (zm3 k3_234) rfl) (hB.word (zm1 k1_6) rfl) (hB.word (zm3 k3_232) rfl) rfl rfl (by decide +kernel) ⟨Nat.le_of_ble_eq_true rfl, Nat.le_of_ble_eq_true rfl⟩, hB.word (zm3 k3_233) rfl⟩ ⟨zP_blind, zP_pre hP hK hD hAD (zB_on hB hA0 hS)⟩ rfl rfl hl.1 rfl (lv_room (Nat.le_of_ble_eq_true rfl)) dPR_turnAll_110 ⟨Nat.le_of_ble_eq_true rfl, Nat.le_of_ble_eq_true rfl⟩) hS hA (fun k8 H7 locs hk8 hz1 hk1 hS => ?_)
            have hP := zKeep hP hk1
            have E := zl_s E hk8.1
            refine z_if_eq (tgt := 121) hx hb dPR_turnAll_113 (by decide) E (fun c_113 E => ?_) (fun c_113 E => ?_)
            · have r_k8 : zr 0 0 k8 := zeq_x (show zr 0 0 0 from by decide) c_113
              exact hJ121 H7 locs ls S4 x94_1 r_x94_1 gS4 hm2_94 E hP hD hS (lv_sub hl [0, 1] rfl)
            · have r_k8 : zr 1 1 k8 := zne_lo hk8.2 c_113 (by decide)
              refine lv_aload_n hx hb dPR_turnAll_116 rfl (lv_at hl 0 rfl) ?_
              refine lv_iload_n hx hb dPR_turnAll_117 rfl (lv_at hl 1 rfl) ?_
              refine zcV (va_runV (As := [.int x94_1]) (rest := []) ⟨hx, hb, hml, hown, zno⟩ (tPR_speak l dC dI cI cZ cJ cA a0 s0 o b P S4 H7.size x94_1 gP gS4 r_x94_1 qhp_x94_1) (zcw 1 (hB.word (zm3 k3_238) rfl) (hB.word (zm1 k1_6) rfl) (hB.word (zm3 k3_235) rfl) (hB.word (zm3 k3_237) rfl) (k2_selects_private (by decide) (hB.word (zm1 k1_125) rfl) (hB.word (zm3 k3_236) rfl) (hB.word (zm3 k3_237) rfl)) rfl rfl (by decide +kernel) ⟨Nat.le_of_ble_eq_true rfl, Nat.le_of_ble_eq_true rfl⟩) ⟨zP_blind, va_recv hK hP (ci := 4) (q0 := 4) rfl rfl, zP_pre hP hK hD hAD (zB_on hB hA0 hS)⟩ rfl rfl hl.1 rfl (lv_room (Nat.le_of_ble_eq_true rfl)) dPR_turnAll_118 ⟨Nat.le_of_ble_eq_true rfl, Nat.le_of_ble_eq_true rfl⟩) hD hS hA (fun S10 H9 locs h11 hP hD hS => ?_)
              have E := zl_s E h11.1
              have gS10 := h11.2
              exact hJ121 H9 locs ls S10 x94_1 r_x94_1 gS10 hm2_94 E hP hD hS (lv_sub hl [0, 1] rfl)
          refine lv_aload_n hx hb dPR_turnAll_69 rfl (lv_at hl 0 rfl) ?_
          refine c_getA_15 hx hb (hB.words zU_PR) hown hK hP (hB.word (zm1 k1_135) rfl) dPR_turnAll_70 ?_
          refine lv_iload_n hx hb dPR_turnAll_73 rfl (lv_at hl 1 rfl) ?_
          refine c_aldS hx hb hK hP 15 (by decide) rfl r_x69_1 (by decide) dPR_turnAll_74 E (fun k12 ek12 E => ?_)
          refine z_if_ne (tgt := 94) hx hb dPR_turnAll_75 (by decide) E (fun c_75 E => ?_) (fun c_75 E => ?_)
          · exact hJ94 H locs ls S_69 x69_1 r_x69_1 qgl_x69_1 qhp_x69_1 gS_69 hm2_69 E hP hD hS (lv_sub hl [0, 1] rfl)
          · have r_k12 : zr 0 0 k12 := zeq_x (show zr 0 0 0 from by decide) c_75
            refine lv_aload_n hx hb dPR_turnAll_78 rfl (lv_at hl 0 rfl) ?_
            refine lv_iload_n hx hb dPR_turnAll_79 rfl (lv_at hl 1 rfl) ?_
            refine zcallp (va_runV (As := [.int x69_1]) (rest := []) ⟨hx, hb, hml, hown, zno⟩ (tPR_allHolds l dC dI cI cZ cJ cA a0 s0 o b P S_69 H.size x69_1 gP gS_69 r_x69_1) (zcw 1 (hB.word (zm3 k3_219) rfl) (hB.word (zm1 k1_6) rfl) (hB.word (zm3 k3_216) rfl) (hB.word (zm3 k3_218) rfl) (k2_selects_private (by decide) (hB.word (zm1 k1_125) rfl) (hB.word (zm3 k3_217) rfl) (hB.word (zm3 k3_218) rfl)) rfl rfl (by decide +kernel) ⟨Nat.le_of_ble_eq_true rfl, Nat.le_of_ble_eq_true rfl⟩) ⟨zP_blind, va_recv hK hP (ci := 4) (q0 := 4) rfl rfl, zP_pre hP hK hD hAD (zB_on hB hA0 hS)⟩ rfl rfl hl.1 rfl (lv_room (Nat.le_of_ble_eq_true rfl)) dPR_turnAll_80 ⟨Nat.le_of_ble_eq_true rfl, Nat.le_of_ble_eq_true rfl⟩) hS hA (fun k14 H13 locs hk14 hz1 hk1 hS => ?_)
            have hP := zKeep hP hk1
            have E := zl_s E hk14.1
            refine lv_bipush (v := 23) hx hb dPR_turnAll_83 (by decide) ?_
            refine z_iand hx hb dPR_turnAll_85 E (fun k15 ek15 E => ?_)
            have r_k15 : zr 0 23 k15 := zr_and (c := 23) (by decide) ek15 (by decide)
            refine z_if_eq (tgt := 94) hx hb dPR_turnAll_86 (by decide) E (fun c_86 E => ?_) (fun c_86 E => ?_)
            · have r_k15 : zr 0 0 k15 := zeq_x (show zr 0 0 0 from by decide) c_86
              exact hJ94 H13 locs ls S_69 x69_1 r_x69_1 qgl_x69_1 qhp_x69_1 gS_69 hm2_69 E hP hD hS (lv_sub hl [0, 1] rfl)
            · have r_k15 : zr 1 23 k15 := zne_lo r_k15 c_86 (by decide)
              refine lv_aload_n hx hb dPR_turnAll_89 rfl (lv_at hl 0 rfl) ?_
              refine lv_iload_n hx hb dPR_turnAll_90 rfl (lv_at hl 1 rfl) ?_
              refine zcV (va_runV (As := [.int x69_1]) (rest := []) ⟨hx, hb, hml, hown, zno⟩ (tPR_endWaiting l dC dI cI cZ cJ cA a0 s0 o b P S_69 H13.size x69_1 gP gS_69 r_x69_1) (zcw 1 (hB.word (zm3 k3_211) rfl) (hB.word (zm1 k1_6) rfl) (hB.word (zm3 k3_208) rfl) (hB.word (zm3 k3_210) rfl) (k2_selects_private (by decide) (hB.word (zm1 k1_125) rfl) (hB.word (zm3 k3_209) rfl) (hB.word (zm3 k3_210) rfl)) rfl rfl (by decide +kernel) ⟨Nat.le_of_ble_eq_true rfl, Nat.le_of_ble_eq_true rfl⟩) ⟨zP_blind, va_recv hK hP (ci := 4) (q0 := 4) rfl rfl, zP_pre hP hK hD hAD (zB_on hB hA0 hS)⟩ rfl rfl hl.1 rfl (lv_room (Nat.le_of_ble_eq_true rfl)) dPR_turnAll_91 ⟨Nat.le_of_ble_eq_true rfl, Nat.le_of_ble_eq_true rfl⟩) hD hS hA (fun S17 H16 locs h18 hP hD hS => ?_)
              have E := zl_s E h18.1
              have gS17 := h18.2
              exact hJ94 H16 locs ls S17 x69_1 r_x69_1 qgl_x69_1 qhp_x69_1 gS17 hm2_69 E hP hD hS (lv_sub hl [0, 1] rfl)
        refine lv_aload_n hx hb dPR_turnAll_53 rfl (lv_at hl 0 rfl) ?_
        refine c_getO_PR_plan hx hb (hB.words zU_PR) hown hK hP (hB.word (zm1 k1_130) rfl) dPR_turnAll_54 ?_
        refine lv_iload_n hx hb dPR_turnAll_57 rfl (lv_at hl 1 rfl) ?_
        refine zcallp (va_runV (As := [.int x53_1]) (rest := []) ⟨hx, hb, hml, hown, zno⟩ (tPL_isOwner l dC dI cI cZ cJ cA a0 s0 o b P S_53 H.size x53_1 gP gS_53 r_x53_1) (zcw 1 (hB.word (zm3 k3_79) rfl) (hB.word (zm1 k1_2) rfl) (hB.word (zm3 k3_76) rfl) (hB.word (zm3 k3_77) rfl) (hB.word (zm3 k3_78) rfl) rfl rfl (by decide +kernel) ⟨Nat.le_of_ble_eq_true rfl, Nat.le_of_ble_eq_true rfl⟩) ⟨zP_blind, va_recv hK hP (ci := 1) (q0 := 1) rfl rfl, zP_pre hP hK hD hAD (zB_on hB hA0 hS)⟩ rfl rfl hl.1 rfl (lv_room (Nat.le_of_ble_eq_true rfl)) dPR_turnAll_58 ⟨Nat.le_of_ble_eq_true rfl, Nat.le_of_ble_eq_true rfl⟩) hS hA (fun k20 H19 locs hk20 hz1 hk1 hS => ?_)
        have hP := zKeep hP hk1
        have E := zl_s E hk20.1
        refine z_if_eq (tgt := 69) hx hb dPR_turnAll_61 (by decide) E (fun c_61 E => ?_) (fun c_61 E => ?_)
        · have r_k20 : zr 0 0 k20 := zeq_x (show zr 0 0 0 from by decide) c_61
          exact hJ69 H19 locs ls S_53 x53_1 r_x53_1 qgl_x53_1 qhp_x53_1 gS_53 hm2_53 E hP hD hS (lv_sub hl [0, 1] rfl)
        · have r_k20 : zr 1 1 k20 := zne_lo hk20.2 c_61 (by decide)
          refine lv_aload_n hx hb dPR_turnAll_64 rfl (lv_at hl 0 rfl) ?_
          refine lv_iload_n hx hb dPR_turnAll_65 rfl (lv_at hl 1 rfl) ?_
          refine zcV (va_runV (As := [.int x53_1]) (rest := []) ⟨hx, hb, hml, hown, zno⟩ (tPR_runClock l dC dI cI cZ cJ cA a0 s0 o b P S_53 H19.size x53_1 gP gS_53 gQ r_x53_1 qgl_x53_1) (zcw 1 (hB.word (zm3 k3_231) rfl) (hB.word (zm1 k1_6) rfl) (hB.word (zm3 k3_228) rfl) (hB.word (zm3 k3_230) rfl) (k2_selects_private (by decide) (hB.word (zm1 k1_125) rfl) (hB.word (zm3 k3_229) rfl) (hB.word (zm3 k3_230) rfl)) rfl rfl (by decide +kernel) ⟨Nat.le_of_ble_eq_true rfl, Nat.le_of_ble_eq_true rfl⟩) ⟨zP_blind, va_recv hK hP (ci := 4) (q0 := 4) rfl rfl, zP_pre hP hK hD hAD (zB_on hB hA0 hS)⟩ rfl rfl hl.1 rfl (lv_room (Nat.le_of_ble_eq_true rfl)) dPR_turnAll_66 ⟨Nat.le_of_ble_eq_true rfl, Nat.le_of_ble_eq_true rfl⟩) hD hS hA (fun S22 H21 locs h23 hP hD hS => ?_)
          have E := zl_s E h23.1
          have gS22 := h23.2
          exact hJ69 H21 locs ls S22 x53_1 r_x53_1 qgl_x53_1 qhp_x53_1 gS22 hm2_53 E hP hD hS (lv_sub hl [0, 1] rfl)
      refine lv_iload_n hx hb dPR_turnAll_2 rfl (lv_at hl 1 rfl) ?_
      refine lv_aload_n hx hb dPR_turnAll_3 rfl (lv_at hl 0 rfl) ?_
      refine c_getO_PR_plan hx hb (hB.words zU_PR) hown hK hP (hB.word (zm1 k1_130) rfl) dPR_turnAll_4 ?_
      refine c_get_0 hx hb (hB.words zU_PL) hown hK hP (hB.word (zm1 k1_36) rfl) dPR_turnAll_7 E (fun k24 ek24 E => ?_)
      have r_k24 : zr 0 48 k24 := by rw [ek24]; exact gP.2.1 0
      refine lv_bipush (v := 6) hx hb dPR_turnAll_10 (by decide) ?_
      refine z_imul hx hb dPR_turnAll_12 E (fun k25 ek25 E => ?_)
      have r_k25 : zr 0 288 k25 := zr_mul r_k24 (show zr 6 6 6 from by decide) ek25 (by decide)
      refine z_icmp_ge (tgt := 127) hx hb dPR_turnAll_13 (by decide) E (fun c_13 E => ?_) (fun c_13 E => ?_)
      · rw [hQe]
        exact W.vret hx hb hr (fun t ht hW => ⟨⟨S_2, rfl, ⟨E.symm.trans etg, gS_2⟩, by rw [ht]; exact hP, hD⟩, hS.F ht⟩) hS.2.2 dPR_turnAll_127
      · have r_x2_1 : zr 0 287 x2_1 := zlt_x r_x2_1 r_k25 (znle c_13) (by decide)
        have r_k25 : zr 1 288 k25 := zlt_y r_x2_1 r_k25 (znle c_13) (by decide)
        refine lv_aload_n hx hb dPR_turnAll_16 rfl (lv_at hl 0 rfl) ?_
        refine c_getO_PR_plan hx hb (hB.words zU_PR) hown hK hP (hB.word (zm1 k1_130) rfl) dPR_turnAll_17 ?_
        refine c_getA_7 hx hb (hB.words zU_PL) hown hK hP (hB.word (zm1 k1_57) rfl) dPR_turnAll_20 ?_
        refine lv_iconst (v := 2) hx hb dPR_turnAll_23 (by decide) ?_
        refine lv_iload_n hx hb dPR_turnAll_24 rfl (lv_at hl 1 rfl) ?_
        refine z_imul hx hb dPR_turnAll_25 E (fun k26 ek26 E => ?_)
        have r_k26 : zr 0 574 k26 := zr_mul (show zr 2 2 2 from by decide) r_x2_1 ek26 (by decide)
        refine c_aldP hx hb hK hP 7 (by decide) rfl r_k26 (by decide) dPR_turnAll_26 E (fun k27 ek27 E => ?_)
        have r_k27 : zr (-1) 119 k27 := by rw [ek27]; exact gP.1 7 _
        have qogp_k27 : k27 = -1 ∨ zgt P k27 := by rw [ek27]; exact gQ.1 _
        refine lv_iconst (v := (-1)) hx hb dPR_turnAll_27 (by decide) ?_
        refine z_icmp_ne (tgt := 34) hx hb dPR_turnAll_28 (by decide) E (fun c_28 E => ?_) (fun c_28 E => ?_)
        · have qgp_k27 : zgt P k27 := (qogp_k27).resolve_left c_28
          have r_k27 : zr 0 119 k27 := zne_lo r_k27 c_28 (by decide)
          have qhp_x2_1 : ¬ P.F 7 (2 * x2_1).toNatClampNeg = -1 := by rw [← ek26, ← ek27]; exact c_28
          have qgl_x2_1 : zgp P x2_1 := gQ.2.2.2 _ r_x2_1 qhp_x2_1
          refine lv_aload_n hx hb dPR_turnAll_34 rfl (lv_at hl 0 rfl) ?_
          refine c_getA_15 hx hb (hB.words zU_PR) hown hK hP (hB.word (zm1 k1_135) rfl) dPR_turnAll_35 ?_
          refine lv_iload_n hx hb dPR_turnAll_38 rfl (lv_at hl 1 rfl) ?_
          refine c_aldS hx hb hK hP 15 (by decide) rfl r_x2_1 (by decide) dPR_turnAll_39 E (fun k28 ek28 E => ?_)
          refine z_if_le (tgt := 53) hx hb dPR_turnAll_40 (by decide) E (fun c_40 E => ?_) (fun c_40 E => ?_)
          · have r_k28 : zr (-2147483648) 0 k28 := zle_x (zr_any k28) (show zr 0 0 0 from by decide) c_40 (by decide)
            exact hJ53 H locs ls S_2 x2_1 r_x2_1 qgl_x2_1 qhp_x2_1 gS_2 hm2 E hP hD hS (lv_sub hl [0, 1] rfl)
          · have r_k28 : zr 1 2147483647 k28 := zlt_y (show zr 0 0 0 from by decide) (zr_any k28) (znle c_40) (by decide)
            refine lv_aload_n hx hb dPR_turnAll_43 rfl (lv_at hl 0 rfl) ?_
            refine c_getA_15 hx hb (hB.words zU_PR) hown hK hP (hB.word (zm1 k1_135) rfl) dPR_turnAll_44 ?_
            refine lv_iload_n hx hb dPR_turnAll_47 rfl (lv_at hl 1 rfl) ?_
            refine lv_dup2_11 hx hb dPR_turnAll_48 rfl rfl ?_
            refine c_aldS hx hb hK hP 15 (by decide) rfl r_x2_1 (by decide) dPR_turnAll_49 E (fun k29 ek29 E => ?_)
            have x9 : k28 = k29 := by rw [ek28, ek29]
            subst x9
            refine lv_iconst (v := 1) hx hb dPR_turnAll_50 (by decide) ?_
            refine z_isub hx hb dPR_turnAll_51 E (fun k30 ek30 E => ?_)
            have r_k30 : zr 0 2147483646 k30 := zr_sub r_k28 (show zr 1 1 1 from by decide) ek30 (by decide)
            refine c_astS hx hb hK hP hD hS 15 (by decide) rfl r_x2_1 (by decide) dPR_turnAll_52 E (fun S31 H32 locs eS31 E hP hD hS => ?_)
            have gS31 : cok S31 := by rw [eS31]; exact gS_2.setF (k := 15) (zr_any k30) (Or.inl (by decide))
            exact hJ53 H32 locs ls S31 x2_1 r_x2_1 qgl_x2_1 qhp_x2_1 gS31 hm2 E hP hD hS (lv_sub hl [0, 1] rfl)
        · have r_k27 : zr (-1) (-1) k27 := zeq_x (show zr (-1) (-1) (-1) from by decide) c_28
          refine lv_goto (tgt := 121) hx hb dPR_turnAll_31 (by decide) ?_
          exact hJ121 H locs ls S_2 x2_1 r_x2_1 gS_2 hm2 E hP hD hS (lv_sub hl [0, 1] rfl)
  refine lv_iconst (v := 0) hx hb dPR_turnAll_0 (by decide) ?_
  refine lv_istore_n (lv' := [(1, .int 0), (0, .ref (o 4))]) hx hb dPR_turnAll_1 rfl hl (by decide) rfl (fun ls hl => ?_)
  exact hL2 289 s.heap [] ls S 0 (show zr 0 288 0 from by decide) gS (by have h9 := (show zr 0 0 0 from by decide); exact zfuelU h9 (by decide)) E hP hD hS (lv_sub hl [1, 0] rfl)
