theorem k1_140 : tables_1_1[140]? = some (Jvm.Cond.fieldLink "RingGuard$Protocol" (24 : Nat) "RingGuard$Protocol" "timesTaken" "[I") := by decide +kernel
theorem k1_141 : tables_1_1[141]? = some (Jvm.Cond.fieldLink "RingGuard$Protocol" (27 : Nat) "RingGuard$Protocol" "timesFailed" "[I") := by decide +kernel
theorem k1_142 : tables_1_1[142]? = some (Jvm.Cond.fieldLink "RingGuard$Protocol" (30 : Nat) "RingGuard$Protocol" "timesCommanded" "[I") := by decide +kernel
theorem k3_17 : tables_1_3[17]? = some (Jvm.Cond.methodLink "RingGuard$Protocol" (66 : Nat) ({ cls := "RingGuard$Protocol", name := "takeHold", desc := "(I)V" } : Jvm.MethodName)) := by decide +kernel
theorem k3_18 : tables_1_3[18]? = some (Jvm.Cond.privateMethod ({ cls := "RingGuard$Protocol", name := "takeHold", desc := "(I)V" } : Jvm.MethodName)) := by decide +kernel
theorem k3_19 : tables_1_3[19]? = some (Jvm.Cond.instanceMethod ({ cls := "RingGuard$Protocol", name := "takeHold", desc := "(I)V" } : Jvm.MethodName)) := by decide +kernel
theorem k3_20 : tables_1_3[20]? = some (Jvm.Cond.code ({ cls := "RingGuard$Protocol", name := "takeHold", desc := "(I)V" } : Jvm.MethodName) prog_6_method_6_code (3 : Nat) (Option.none : Option Jvm.ClassFile.FieldType)) := rfl
theorem k3_25 : tables_1_3[25]? = some (Jvm.Cond.methodLink "RingGuard$Protocol" (77 : Nat) ({ cls := "RingGuard$Protocol", name := "takeNews", desc := "(III)V" } : Jvm.MethodName)) := by decide +kernel
theorem k3_26 : tables_1_3[26]? = some (Jvm.Cond.privateMethod ({ cls := "RingGuard$Protocol", name := "takeNews", desc := "(III)V" } : Jvm.MethodName)) := by decide +kernel
theorem k3_27 : tables_1_3[27]? = some (Jvm.Cond.instanceMethod ({ cls := "RingGuard$Protocol", name := "takeNews", desc := "(III)V" } : Jvm.MethodName)) := by decide +kernel
theorem k3_28 : tables_1_3[28]? = some (Jvm.Cond.code ({ cls := "RingGuard$Protocol", name := "takeNews", desc := "(III)V" } : Jvm.MethodName) prog_6_method_25_code (8 : Nat) (Option.none : Option Jvm.ClassFile.FieldType)) := rfl
theorem k3_68 : tables_1_3[68]? = some (Jvm.Cond.methodLink "RingGuard$Protocol" (81 : Nat) ({ cls := "RingGuard$Protocol", name := "beginHold", desc := "(II)V" } : Jvm.MethodName)) := by decide +kernel
theorem k3_69 : tables_1_3[69]? = some (Jvm.Cond.privateMethod ({ cls := "RingGuard$Protocol", name := "beginHold", desc := "(II)V" } : Jvm.MethodName)) := by decide +kernel
theorem k3_70 : tables_1_3[70]? = some (Jvm.Cond.instanceMethod ({ cls := "RingGuard$Protocol", name := "beginHold", desc := "(II)V" } : Jvm.MethodName)) := by decide +kernel
theorem k3_71 : tables_1_3[71]? = some (Jvm.Cond.code ({ cls := "RingGuard$Protocol", name := "beginHold", desc := "(II)V" } : Jvm.MethodName) prog_6_method_13_code (3 : Nat) (Option.none : Option Jvm.ClassFile.FieldType)) := rfl
theorem k3_134 : tables_1_3[134]? = some (Jvm.Cond.methodLink "RingGuard$Protocol" (87 : Nat) ({ cls := "RingGuard$Protocol", name := "endCommand", desc := "(I)Z" } : Jvm.MethodName)) := by decide +kernel
theorem k3_135 : tables_1_3[135]? = some (Jvm.Cond.instanceMethod ({ cls := "RingGuard$Protocol", name := "endCommand", desc := "(I)Z" } : Jvm.MethodName)) := by decide +kernel
theorem k3_136 : tables_1_3[136]? = some (Jvm.Cond.selects "RingGuard$Protocol" ({ cls := "RingGuard$Protocol", name := "endCommand", desc := "(I)Z" } : Jvm.MethodName) ({ cls := "RingGuard$Protocol", name := "endCommand", desc := "(I)Z" } : Jvm.MethodName)) := by decide +kernel
theorem k3_137 : tables_1_3[137]? = some (Jvm.Cond.code ({ cls := "RingGuard$Protocol", name := "endCommand", desc := "(I)Z" } : Jvm.MethodName) prog_6_method_10_code (3 : Nat) (Option.some Jvm.ClassFile.FieldType.boolean)) := rfl
theorem k3_171 : tables_1_3[171]? = some (Jvm.Cond.methodLink "RingGuard$Wires" (31 : Nat) ({ cls := "java/util/Arrays", name := "fill", desc := "([II)V" } : Jvm.MethodName)) := by decide +kernel
theorem k3_184 : tables_1_3[184]? = some (Jvm.Cond.methodLink "RingGuard$Protocol" (134 : Nat) ({ cls := "RingGuard$Wires", name := "losesOne", desc := "(I)Z" } : Jvm.MethodName)) := by decide +kernel
theorem k3_185 : tables_1_3[185]? = some (Jvm.Cond.instanceMethod ({ cls := "RingGuard$Wires", name := "losesOne", desc := "(I)Z" } : Jvm.MethodName)) := by decide +kernel
theorem k3_186 : tables_1_3[186]? = some (Jvm.Cond.selects "RingGuard$Wires" ({ cls := "RingGuard$Wires", name := "losesOne", desc := "(I)Z" } : Jvm.MethodName) ({ cls := "RingGuard$Wires", name := "losesOne", desc := "(I)Z" } : Jvm.MethodName)) := by decide +kernel
theorem k3_187 : tables_1_3[187]? = some (Jvm.Cond.code ({ cls := "RingGuard$Wires", name := "losesOne", desc := "(I)Z" } : Jvm.MethodName) prog_8_method_6_code (2 : Nat) (Option.some Jvm.ClassFile.FieldType.boolean)) := rfl
theorem k3_188 : tables_1_3[188]? = some (Jvm.Cond.methodLink "RingGuard$Protocol" (137 : Nat) ({ cls := "RingGuard$Cast", name := "sourceOf", desc := "(I)I" } : Jvm.MethodName)) := by decide +kernel
theorem k3_189 : tables_1_3[189]? = some (Jvm.Cond.static ({ cls := "RingGuard$Cast", name := "sourceOf", desc := "(I)I" } : Jvm.MethodName)) := by decide +kernel
theorem k3_190 : tables_1_3[190]? = some (Jvm.Cond.code ({ cls := "RingGuard$Cast", name := "sourceOf", desc := "(I)I" } : Jvm.MethodName) prog_2_method_4_code (1 : Nat) (Option.some Jvm.ClassFile.FieldType.int)) := rfl
theorem k3_191 : tables_1_3[191]? = some (Jvm.Cond.methodLink "RingGuard$Protocol" (140 : Nat) ({ cls := "RingGuard$Protocol", name := "hear", desc := "(II)V" } : Jvm.MethodName)) := by decide +kernel
theorem k3_192 : tables_1_3[192]? = some (Jvm.Cond.privateMethod ({ cls := "RingGuard$Protocol", name := "hear", desc := "(II)V" } : Jvm.MethodName)) := by decide +kernel
theorem k3_193 : tables_1_3[193]? = some (Jvm.Cond.instanceMethod ({ cls := "RingGuard$Protocol", name := "hear", desc := "(II)V" } : Jvm.MethodName)) := by decide +kernel
theorem k3_194 : tables_1_3[194]? = some (Jvm.Cond.code ({ cls := "RingGuard$Protocol", name := "hear", desc := "(II)V" } : Jvm.MethodName) prog_6_method_22_code (4 : Nat) (Option.none : Option Jvm.ClassFile.FieldType)) := rfl
theorem k3_195 : tables_1_3[195]? = some (Jvm.Cond.methodLink "RingGuard$Protocol" (149 : Nat) ({ cls := "RingGuard$Cast", name := "kindOf", desc := "(I)I" } : Jvm.MethodName)) := by decide +kernel
theorem k3_196 : tables_1_3[196]? = some (Jvm.Cond.static ({ cls := "RingGuard$Cast", name := "kindOf", desc := "(I)I" } : Jvm.MethodName)) := by decide +kernel
theorem k3_197 : tables_1_3[197]? = some (Jvm.Cond.code ({ cls := "RingGuard$Cast", name := "kindOf", desc := "(I)I" } : Jvm.MethodName) prog_2_method_3_code (1 : Nat) (Option.some Jvm.ClassFile.FieldType.int)) := rfl
theorem k3_198 : tables_1_3[198]? = some (Jvm.Cond.methodLink "RingGuard$Protocol" (152 : Nat) ({ cls := "RingGuard$Cast", name := "nameOf", desc := "(I)I" } : Jvm.MethodName)) := by decide +kernel
theorem k3_199 : tables_1_3[199]? = some (Jvm.Cond.static ({ cls := "RingGuard$Cast", name := "nameOf", desc := "(I)I" } : Jvm.MethodName)) := by decide +kernel
theorem k3_200 : tables_1_3[200]? = some (Jvm.Cond.code ({ cls := "RingGuard$Cast", name := "nameOf", desc := "(I)I" } : Jvm.MethodName) prog_2_method_5_code (1 : Nat) (Option.some Jvm.ClassFile.FieldType.int)) := rfl
theorem k3_201 : tables_1_3[201]? = some (Jvm.Cond.methodLink "RingGuard$Protocol" (155 : Nat) ({ cls := "RingGuard$Cast", name := "numberOf", desc := "(I)I" } : Jvm.MethodName)) := by decide +kernel
theorem k3_202 : tables_1_3[202]? = some (Jvm.Cond.static ({ cls := "RingGuard$Cast", name := "numberOf", desc := "(I)I" } : Jvm.MethodName)) := by decide +kernel
theorem k3_203 : tables_1_3[203]? = some (Jvm.Cond.code ({ cls := "RingGuard$Cast", name := "numberOf", desc := "(I)I" } : Jvm.MethodName) prog_2_method_6_code (1 : Nat) (Option.some Jvm.ClassFile.FieldType.int)) := rfl
theorem k3_204 : tables_1_3[204]? = some (Jvm.Cond.methodLink "RingGuard$Protocol" (158 : Nat) ({ cls := "RingGuard$Protocol", name := "hearOfBlock", desc := "(III)V" } : Jvm.MethodName)) := by decide +kernel
theorem k3_205 : tables_1_3[205]? = some (Jvm.Cond.privateMethod ({ cls := "RingGuard$Protocol", name := "hearOfBlock", desc := "(III)V" } : Jvm.MethodName)) := by decide +kernel
theorem k3_206 : tables_1_3[206]? = some (Jvm.Cond.instanceMethod ({ cls := "RingGuard$Protocol", name := "hearOfBlock", desc := "(III)V" } : Jvm.MethodName)) := by decide +kernel
theorem k3_207 : tables_1_3[207]? = some (Jvm.Cond.code ({ cls := "RingGuard$Protocol", name := "hearOfBlock", desc := "(III)V" } : Jvm.MethodName) prog_6_method_23_code (7 : Nat) (Option.none : Option Jvm.ClassFile.FieldType)) := rfl
theorem k3_208 : tables_1_3[208]? = some (Jvm.Cond.methodLink "RingGuard$Protocol" (164 : Nat) ({ cls := "RingGuard$Protocol", name := "endWaiting", desc := "(I)V" } : Jvm.MethodName)) := by decide +kernel
theorem k3_209 : tables_1_3[209]? = some (Jvm.Cond.privateMethod ({ cls := "RingGuard$Protocol", name := "endWaiting", desc := "(I)V" } : Jvm.MethodName)) := by decide +kernel
theorem k3_210 : tables_1_3[210]? = some (Jvm.Cond.instanceMethod ({ cls := "RingGuard$Protocol", name := "endWaiting", desc := "(I)V" } : Jvm.MethodName)) := by decide +kernel
theorem k3_211 : tables_1_3[211]? = some (Jvm.Cond.code ({ cls := "RingGuard$Protocol", name := "endWaiting", desc := "(I)V" } : Jvm.MethodName) prog_6_method_16_code (4 : Nat) (Option.none : Option Jvm.ClassFile.FieldType)) := rfl
theorem k3_212 : tables_1_3[212]? = some (Jvm.Cond.methodLink "RingGuard$Protocol" (161 : Nat) ({ cls := "RingGuard$Protocol", name := "hearOfHealing", desc := "(I)V" } : Jvm.MethodName)) := by decide +kernel
theorem k3_213 : tables_1_3[213]? = some (Jvm.Cond.privateMethod ({ cls := "RingGuard$Protocol", name := "hearOfHealing", desc := "(I)V" } : Jvm.MethodName)) := by decide +kernel
theorem k3_214 : tables_1_3[214]? = some (Jvm.Cond.instanceMethod ({ cls := "RingGuard$Protocol", name := "hearOfHealing", desc := "(I)V" } : Jvm.MethodName)) := by decide +kernel
theorem k3_215 : tables_1_3[215]? = some (Jvm.Cond.code ({ cls := "RingGuard$Protocol", name := "hearOfHealing", desc := "(I)V" } : Jvm.MethodName) prog_6_method_24_code (4 : Nat) (Option.none : Option Jvm.ClassFile.FieldType)) := rfl
theorem k3_216 : tables_1_3[216]? = some (Jvm.Cond.methodLink "RingGuard$Protocol" (167 : Nat) ({ cls := "RingGuard$Protocol", name := "allHolds", desc := "(I)I" } : Jvm.MethodName)) := by decide +kernel
theorem k3_217 : tables_1_3[217]? = some (Jvm.Cond.privateMethod ({ cls := "RingGuard$Protocol", name := "allHolds", desc := "(I)I" } : Jvm.MethodName)) := by decide +kernel
theorem k3_218 : tables_1_3[218]? = some (Jvm.Cond.instanceMethod ({ cls := "RingGuard$Protocol", name := "allHolds", desc := "(I)I" } : Jvm.MethodName)) := by decide +kernel
theorem k3_219 : tables_1_3[219]? = some (Jvm.Cond.code ({ cls := "RingGuard$Protocol", name := "allHolds", desc := "(I)I" } : Jvm.MethodName) prog_6_method_17_code (5 : Nat) (Option.some Jvm.ClassFile.FieldType.int)) := rfl
theorem k3_220 : tables_1_3[220]? = some (Jvm.Cond.methodLink "RingGuard$Protocol" (143 : Nat) ({ cls := "RingGuard$Plan", name := "otherPort", desc := "(I)I" } : Jvm.MethodName)) := by decide +kernel
theorem k3_221 : tables_1_3[221]? = some (Jvm.Cond.instanceMethod ({ cls := "RingGuard$Plan", name := "otherPort", desc := "(I)I" } : Jvm.MethodName)) := by decide +kernel
theorem k3_222 : tables_1_3[222]? = some (Jvm.Cond.selects "RingGuard$Plan" ({ cls := "RingGuard$Plan", name := "otherPort", desc := "(I)I" } : Jvm.MethodName) ({ cls := "RingGuard$Plan", name := "otherPort", desc := "(I)I" } : Jvm.MethodName)) := by decide +kernel
theorem k3_223 : tables_1_3[223]? = some (Jvm.Cond.code ({ cls := "RingGuard$Plan", name := "otherPort", desc := "(I)I" } : Jvm.MethodName) prog_5_method_4_code (3 : Nat) (Option.some Jvm.ClassFile.FieldType.int)) := rfl
abbrev yPR_takeHold : MethodName := ⟨"RingGuard$Protocol", "takeHold", "(I)V"⟩
abbrev bPR_takeHold : ByteArray := prog_6_method_6_code
abbrev yPR_takeAllHolds : MethodName := ⟨"RingGuard$Protocol", "takeAllHolds", "()V"⟩
abbrev bPR_takeAllHolds : ByteArray := prog_6_method_5_code
abbrev yPR_breakLink : MethodName := ⟨"RingGuard$Protocol", "breakLink", "(I)V"⟩
abbrev bPR_breakLink : ByteArray := prog_6_method_7_code
abbrev yPR_mendLink : MethodName := ⟨"RingGuard$Protocol", "mendLink", "(I)V"⟩
abbrev bPR_mendLink : ByteArray := prog_6_method_8_code
abbrev yPR_giveCommand : MethodName := ⟨"RingGuard$Protocol", "giveCommand", "(II)Z"⟩
abbrev bPR_giveCommand : ByteArray := prog_6_method_9_code
abbrev yPR_hearOfBlock : MethodName := ⟨"RingGuard$Protocol", "hearOfBlock", "(III)V"⟩
abbrev bPR_hearOfBlock : ByteArray := prog_6_method_23_code
abbrev yPR_hearOfHealing : MethodName := ⟨"RingGuard$Protocol", "hearOfHealing", "(I)V"⟩
abbrev bPR_hearOfHealing : ByteArray := prog_6_method_24_code
abbrev yPR_hear : MethodName := ⟨"RingGuard$Protocol", "hear", "(II)V"⟩
abbrev bPR_hear : ByteArray := prog_6_method_22_code
abbrev yPR_arrive : MethodName := ⟨"RingGuard$Protocol", "arrive", "(II)V"⟩
abbrev bPR_arrive : ByteArray := prog_6_method_21_code
abbrev yWI_turn : MethodName := ⟨"RingGuard$Wires", "turn", "()V"⟩
abbrev bWI_turn : ByteArray := prog_8_method_3_code
theorem dPR_arrive_0 : decode bPR_arrive 0 = .ok (.aload_n 0, 1) := by decide +kernel
theorem dPR_arrive_1 : decode bPR_arrive 1 = .ok (.iload_n 1, 1) := by decide +kernel
theorem dPR_arrive_2 : decode bPR_arrive 2 = .ok (.invokevirtual 57, 3) := by decide +kernel
theorem dPR_arrive_5 : decode bPR_arrive 5 = .ok (.ifCond .ne 16, 3) := by decide +kernel
theorem dPR_arrive_8 : decode bPR_arrive 8 = .ok (.aload_n 0, 1) := by decide +kernel
theorem dPR_arrive_9 : decode bPR_arrive 9 = .ok (.getfield 49, 3) := by decide +kernel
theorem dPR_arrive_12 : decode bPR_arrive 12 = .ok (.iload_n 1, 1) := by decide +kernel
theorem dPR_arrive_13 : decode bPR_arrive 13 = .ok (.iconst 2, 1) := by decide +kernel
theorem dPR_arrive_14 : decode bPR_arrive 14 = .ok (.idiv, 1) := by decide +kernel
theorem dPR_arrive_15 : decode bPR_arrive 15 = .ok (.invokevirtual 134, 3) := by decide +kernel
theorem dPR_arrive_18 : decode bPR_arrive 18 = .ok (.ifCond .eq 4, 3) := by decide +kernel
theorem dPR_arrive_21 : decode bPR_arrive 21 = .ok (.return_, 1) := by decide +kernel
theorem dPR_arrive_22 : decode bPR_arrive 22 = .ok (.aload_n 0, 1) := by decide +kernel
theorem dPR_arrive_23 : decode bPR_arrive 23 = .ok (.getfield 45, 3) := by decide +kernel
theorem dPR_arrive_26 : decode bPR_arrive 26 = .ok (.getfield 74, 3) := by decide +kernel
theorem dPR_arrive_29 : decode bPR_arrive 29 = .ok (.iload_n 1, 1) := by decide +kernel
theorem dPR_arrive_30 : decode bPR_arrive 30 = .ok (.iaload, 1) := by decide +kernel
theorem dPR_arrive_31 : decode bPR_arrive 31 = .ok (.istore_n 3, 1) := by decide +kernel
theorem dPR_arrive_32 : decode bPR_arrive 32 = .ok (.iload_n 2, 1) := by decide +kernel
theorem dPR_arrive_33 : decode bPR_arrive 33 = .ok (.invokestatic 137, 3) := by decide +kernel
theorem dPR_arrive_36 : decode bPR_arrive 36 = .ok (.iload_n 3, 1) := by decide +kernel
theorem dPR_arrive_37 : decode bPR_arrive 37 = .ok (.bipush 6, 2) := by decide +kernel
theorem dPR_arrive_39 : decode bPR_arrive 39 = .ok (.idiv, 1) := by decide +kernel
theorem dPR_arrive_40 : decode bPR_arrive 40 = .ok (.if_icmp .ne 4, 3) := by decide +kernel
theorem dPR_arrive_43 : decode bPR_arrive 43 = .ok (.return_, 1) := by decide +kernel
theorem dPR_arrive_44 : decode bPR_arrive 44 = .ok (.aload_n 0, 1) := by decide +kernel
theorem dPR_arrive_45 : decode bPR_arrive 45 = .ok (.iload_n 3, 1) := by decide +kernel
theorem dPR_arrive_46 : decode bPR_arrive 46 = .ok (.iload_n 2, 1) := by decide +kernel
theorem dPR_arrive_47 : decode bPR_arrive 47 = .ok (.invokevirtual 140, 3) := by decide +kernel
theorem dPR_arrive_50 : decode bPR_arrive 50 = .ok (.aload_n 0, 1) := by decide +kernel
theorem dPR_arrive_51 : decode bPR_arrive 51 = .ok (.getfield 45, 3) := by decide +kernel
theorem dPR_arrive_54 : decode bPR_arrive 54 = .ok (.iload_n 1, 1) := by decide +kernel
theorem dPR_arrive_55 : decode bPR_arrive 55 = .ok (.invokevirtual 143, 3) := by decide +kernel
theorem dPR_arrive_58 : decode bPR_arrive 58 = .ok (.istore 4, 2) := by decide +kernel
theorem dPR_arrive_60 : decode bPR_arrive 60 = .ok (.iload 4, 2) := by decide +kernel
theorem dPR_arrive_62 : decode bPR_arrive 62 = .ok (.iconst (-1), 1) := by decide +kernel
theorem dPR_arrive_63 : decode bPR_arrive 63 = .ok (.if_icmp .eq 24, 3) := by decide +kernel
theorem dPR_arrive_66 : decode bPR_arrive 66 = .ok (.aload_n 0, 1) := by decide +kernel
theorem dPR_arrive_67 : decode bPR_arrive 67 = .ok (.iload 4, 2) := by decide +kernel
theorem dPR_arrive_69 : decode bPR_arrive 69 = .ok (.invokevirtual 57, 3) := by decide +kernel
theorem dPR_arrive_72 : decode bPR_arrive 72 = .ok (.ifCond .ne 15, 3) := by decide +kernel
theorem dPR_arrive_75 : decode bPR_arrive 75 = .ok (.aload_n 0, 1) := by decide +kernel
theorem dPR_arrive_76 : decode bPR_arrive 76 = .ok (.getfield 49, 3) := by decide +kernel
theorem dPR_arrive_79 : decode bPR_arrive 79 = .ok (.iload 4, 2) := by decide +kernel
theorem dPR_arrive_81 : decode bPR_arrive 81 = .ok (.iconst 1, 1) := by decide +kernel
theorem dPR_arrive_82 : decode bPR_arrive 82 = .ok (.ixor, 1) := by decide +kernel
theorem dPR_arrive_83 : decode bPR_arrive 83 = .ok (.iload_n 2, 1) := by decide +kernel
theorem dPR_arrive_84 : decode bPR_arrive 84 = .ok (.invokevirtual 146, 3) := by decide +kernel
theorem dPR_arrive_87 : decode bPR_arrive 87 = .ok (.return_, 1) := by decide +kernel
theorem dPR_breakLink_0 : decode bPR_breakLink 0 = .ok (.aload_n 0, 1) := by decide +kernel
theorem dPR_breakLink_1 : decode bPR_breakLink 1 = .ok (.getfield 27, 3) := by decide +kernel
theorem dPR_breakLink_4 : decode bPR_breakLink 4 = .ok (.iload_n 1, 1) := by decide +kernel
theorem dPR_breakLink_5 : decode bPR_breakLink 5 = .ok (.dup2, 1) := by decide +kernel
theorem dPR_breakLink_6 : decode bPR_breakLink 6 = .ok (.iaload, 1) := by decide +kernel
theorem dPR_breakLink_7 : decode bPR_breakLink 7 = .ok (.iconst 1, 1) := by decide +kernel
theorem dPR_breakLink_8 : decode bPR_breakLink 8 = .ok (.iadd, 1) := by decide +kernel
theorem dPR_breakLink_9 : decode bPR_breakLink 9 = .ok (.iastore, 1) := by decide +kernel
theorem dPR_breakLink_10 : decode bPR_breakLink 10 = .ok (.iconst 2, 1) := by decide +kernel
theorem dPR_breakLink_11 : decode bPR_breakLink 11 = .ok (.iload_n 1, 1) := by decide +kernel
theorem dPR_breakLink_12 : decode bPR_breakLink 12 = .ok (.imul, 1) := by decide +kernel
theorem dPR_breakLink_13 : decode bPR_breakLink 13 = .ok (.istore_n 2, 1) := by decide +kernel
theorem dPR_breakLink_14 : decode bPR_breakLink 14 = .ok (.iload_n 2, 1) := by decide +kernel
theorem dPR_breakLink_15 : decode bPR_breakLink 15 = .ok (.iconst 2, 1) := by decide +kernel
theorem dPR_breakLink_16 : decode bPR_breakLink 16 = .ok (.iload_n 1, 1) := by decide +kernel
theorem dPR_breakLink_17 : decode bPR_breakLink 17 = .ok (.imul, 1) := by decide +kernel
theorem dPR_breakLink_18 : decode bPR_breakLink 18 = .ok (.iconst 1, 1) := by decide +kernel
theorem dPR_breakLink_19 : decode bPR_breakLink 19 = .ok (.iadd, 1) := by decide +kernel
theorem dPR_breakLink_20 : decode bPR_breakLink 20 = .ok (.if_icmp .gt 49, 3) := by decide +kernel
theorem dPR_breakLink_23 : decode bPR_breakLink 23 = .ok (.aload_n 0, 1) := by decide +kernel
theorem dPR_breakLink_24 : decode bPR_breakLink 24 = .ok (.iload_n 2, 1) := by decide +kernel
theorem dPR_breakLink_25 : decode bPR_breakLink 25 = .ok (.aload_n 0, 1) := by decide +kernel
theorem dPR_breakLink_26 : decode bPR_breakLink 26 = .ok (.getfield 9, 3) := by decide +kernel
theorem dPR_breakLink_29 : decode bPR_breakLink 29 = .ok (.iload_n 2, 1) := by decide +kernel
theorem dPR_breakLink_30 : decode bPR_breakLink 30 = .ok (.iaload, 1) := by decide +kernel
theorem dPR_breakLink_31 : decode bPR_breakLink 31 = .ok (.bipush (-9), 2) := by decide +kernel
theorem dPR_breakLink_33 : decode bPR_breakLink 33 = .ok (.iand, 1) := by decide +kernel
theorem dPR_breakLink_34 : decode bPR_breakLink 34 = .ok (.invokevirtual 70, 3) := by decide +kernel
theorem dPR_breakLink_37 : decode bPR_breakLink 37 = .ok (.aload_n 0, 1) := by decide +kernel
theorem dPR_breakLink_38 : decode bPR_breakLink 38 = .ok (.iload_n 2, 1) := by decide +kernel
theorem dPR_breakLink_39 : decode bPR_breakLink 39 = .ok (.iconst 1, 1) := by decide +kernel
theorem dPR_breakLink_40 : decode bPR_breakLink 40 = .ok (.invokevirtual 81, 3) := by decide +kernel
theorem dPR_breakLink_43 : decode bPR_breakLink 43 = .ok (.aload_n 0, 1) := by decide +kernel
theorem dPR_breakLink_44 : decode bPR_breakLink 44 = .ok (.aload_n 0, 1) := by decide +kernel
theorem dPR_breakLink_45 : decode bPR_breakLink 45 = .ok (.getfield 45, 3) := by decide +kernel
theorem dPR_breakLink_48 : decode bPR_breakLink 48 = .ok (.getfield 74, 3) := by decide +kernel
theorem dPR_breakLink_51 : decode bPR_breakLink 51 = .ok (.iload_n 2, 1) := by decide +kernel
theorem dPR_breakLink_52 : decode bPR_breakLink 52 = .ok (.iaload, 1) := by decide +kernel
theorem dPR_breakLink_53 : decode bPR_breakLink 53 = .ok (.iload_n 1, 1) := by decide +kernel
theorem dPR_breakLink_54 : decode bPR_breakLink 54 = .ok (.aload_n 0, 1) := by decide +kernel
theorem dPR_breakLink_55 : decode bPR_breakLink 55 = .ok (.getfield 27, 3) := by decide +kernel
theorem dPR_breakLink_58 : decode bPR_breakLink 58 = .ok (.iload_n 1, 1) := by decide +kernel
theorem dPR_breakLink_59 : decode bPR_breakLink 59 = .ok (.iaload, 1) := by decide +kernel
theorem dPR_breakLink_60 : decode bPR_breakLink 60 = .ok (.invokevirtual 77, 3) := by decide +kernel
theorem dPR_breakLink_63 : decode bPR_breakLink 63 = .ok (.iinc 2 1, 3) := by decide +kernel
theorem dPR_breakLink_66 : decode bPR_breakLink 66 = .ok (.goto (-52), 3) := by decide +kernel
theorem dPR_breakLink_69 : decode bPR_breakLink 69 = .ok (.return_, 1) := by decide +kernel
theorem dPR_giveCommand_0 : decode bPR_giveCommand 0 = .ok (.aload_n 0, 1) := by decide +kernel
theorem dPR_giveCommand_1 : decode bPR_giveCommand 1 = .ok (.getfield 9, 3) := by decide +kernel
theorem dPR_giveCommand_4 : decode bPR_giveCommand 4 = .ok (.iload_n 1, 1) := by decide +kernel
theorem dPR_giveCommand_5 : decode bPR_giveCommand 5 = .ok (.iaload, 1) := by decide +kernel
theorem dPR_giveCommand_6 : decode bPR_giveCommand 6 = .ok (.iload_n 2, 1) := by decide +kernel
theorem dPR_giveCommand_7 : decode bPR_giveCommand 7 = .ok (.iand, 1) := by decide +kernel
theorem dPR_giveCommand_8 : decode bPR_giveCommand 8 = .ok (.ifCond .eq 5, 3) := by decide +kernel
theorem dPR_giveCommand_11 : decode bPR_giveCommand 11 = .ok (.iconst 0, 1) := by decide +kernel
theorem dPR_giveCommand_12 : decode bPR_giveCommand 12 = .ok (.ireturn, 1) := by decide +kernel
theorem dPR_giveCommand_13 : decode bPR_giveCommand 13 = .ok (.aload_n 0, 1) := by decide +kernel
theorem dPR_giveCommand_14 : decode bPR_giveCommand 14 = .ok (.getfield 45, 3) := by decide +kernel
theorem dPR_giveCommand_17 : decode bPR_giveCommand 17 = .ok (.getfield 74, 3) := by decide +kernel
theorem dPR_giveCommand_20 : decode bPR_giveCommand 20 = .ok (.iload_n 1, 1) := by decide +kernel
theorem dPR_giveCommand_21 : decode bPR_giveCommand 21 = .ok (.iaload, 1) := by decide +kernel
theorem dPR_giveCommand_22 : decode bPR_giveCommand 22 = .ok (.istore_n 3, 1) := by decide +kernel
theorem dPR_giveCommand_23 : decode bPR_giveCommand 23 = .ok (.iload_n 3, 1) := by decide +kernel
theorem dPR_giveCommand_24 : decode bPR_giveCommand 24 = .ok (.bipush 6, 2) := by decide +kernel
theorem dPR_giveCommand_26 : decode bPR_giveCommand 26 = .ok (.idiv, 1) := by decide +kernel
theorem dPR_giveCommand_27 : decode bPR_giveCommand 27 = .ok (.istore 4, 2) := by decide +kernel
theorem dPR_giveCommand_29 : decode bPR_giveCommand 29 = .ok (.aload_n 0, 1) := by decide +kernel
theorem dPR_giveCommand_30 : decode bPR_giveCommand 30 = .ok (.iload_n 3, 1) := by decide +kernel
theorem dPR_giveCommand_31 : decode bPR_giveCommand 31 = .ok (.invokevirtual 87, 3) := by decide +kernel
theorem dPR_giveCommand_34 : decode bPR_giveCommand 34 = .ok (.pop, 1) := by decide +kernel
theorem dPR_giveCommand_35 : decode bPR_giveCommand 35 = .ok (.aload_n 0, 1) := by decide +kernel
theorem dPR_giveCommand_36 : decode bPR_giveCommand 36 = .ok (.iload_n 1, 1) := by decide +kernel
theorem dPR_giveCommand_37 : decode bPR_giveCommand 37 = .ok (.iload_n 2, 1) := by decide +kernel
theorem dPR_giveCommand_38 : decode bPR_giveCommand 38 = .ok (.invokevirtual 81, 3) := by decide +kernel
theorem dPR_giveCommand_41 : decode bPR_giveCommand 41 = .ok (.aload_n 0, 1) := by decide +kernel
theorem dPR_giveCommand_42 : decode bPR_giveCommand 42 = .ok (.getfield 30, 3) := by decide +kernel
theorem dPR_giveCommand_45 : decode bPR_giveCommand 45 = .ok (.iload 4, 2) := by decide +kernel
theorem dPR_giveCommand_47 : decode bPR_giveCommand 47 = .ok (.dup2, 1) := by decide +kernel
theorem dPR_giveCommand_48 : decode bPR_giveCommand 48 = .ok (.iaload, 1) := by decide +kernel
theorem dPR_giveCommand_49 : decode bPR_giveCommand 49 = .ok (.iconst 1, 1) := by decide +kernel
theorem dPR_giveCommand_50 : decode bPR_giveCommand 50 = .ok (.iadd, 1) := by decide +kernel
theorem dPR_giveCommand_51 : decode bPR_giveCommand 51 = .ok (.iastore, 1) := by decide +kernel
theorem dPR_giveCommand_52 : decode bPR_giveCommand 52 = .ok (.aload_n 0, 1) := by decide +kernel
theorem dPR_giveCommand_53 : decode bPR_giveCommand 53 = .ok (.iload_n 3, 1) := by decide +kernel
theorem dPR_giveCommand_54 : decode bPR_giveCommand 54 = .ok (.bipush 60, 2) := by decide +kernel
theorem dPR_giveCommand_56 : decode bPR_giveCommand 56 = .ok (.iload 4, 2) := by decide +kernel
theorem dPR_giveCommand_58 : decode bPR_giveCommand 58 = .ok (.iadd, 1) := by decide +kernel
theorem dPR_giveCommand_59 : decode bPR_giveCommand 59 = .ok (.aload_n 0, 1) := by decide +kernel
theorem dPR_giveCommand_60 : decode bPR_giveCommand 60 = .ok (.getfield 30, 3) := by decide +kernel
theorem dPR_giveCommand_63 : decode bPR_giveCommand 63 = .ok (.iload 4, 2) := by decide +kernel
theorem dPR_giveCommand_65 : decode bPR_giveCommand 65 = .ok (.iaload, 1) := by decide +kernel
theorem dPR_giveCommand_66 : decode bPR_giveCommand 66 = .ok (.invokevirtual 77, 3) := by decide +kernel
theorem dPR_giveCommand_69 : decode bPR_giveCommand 69 = .ok (.iconst 1, 1) := by decide +kernel
theorem dPR_giveCommand_70 : decode bPR_giveCommand 70 = .ok (.ireturn, 1) := by decide +kernel
theorem dPR_hear_0 : decode bPR_hear 0 = .ok (.iload_n 2, 1) := by decide +kernel
theorem dPR_hear_1 : decode bPR_hear 1 = .ok (.invokestatic 149, 3) := by decide +kernel
theorem dPR_hear_4 : decode bPR_hear 4 = .ok (.istore_n 3, 1) := by decide +kernel
theorem dPR_hear_5 : decode bPR_hear 5 = .ok (.iload_n 3, 1) := by decide +kernel
theorem dPR_hear_6 : decode bPR_hear 6 = .ok (.iconst 3, 1) := by decide +kernel
theorem dPR_hear_7 : decode bPR_hear 7 = .ok (.if_icmp .eq 16, 3) := by decide +kernel
theorem dPR_hear_10 : decode bPR_hear 10 = .ok (.aload_n 0, 1) := by decide +kernel
theorem dPR_hear_11 : decode bPR_hear 11 = .ok (.iload_n 1, 1) := by decide +kernel
theorem dPR_hear_12 : decode bPR_hear 12 = .ok (.iload_n 2, 1) := by decide +kernel
theorem dPR_hear_13 : decode bPR_hear 13 = .ok (.invokestatic 152, 3) := by decide +kernel
theorem dPR_hear_16 : decode bPR_hear 16 = .ok (.iload_n 2, 1) := by decide +kernel
theorem dPR_hear_17 : decode bPR_hear 17 = .ok (.invokestatic 155, 3) := by decide +kernel
theorem dPR_hear_20 : decode bPR_hear 20 = .ok (.invokevirtual 77, 3) := by decide +kernel
theorem dPR_hear_23 : decode bPR_hear 23 = .ok (.aload_n 0, 1) := by decide +kernel
theorem dPR_hear_24 : decode bPR_hear 24 = .ok (.getfield 15, 3) := by decide +kernel
theorem dPR_hear_27 : decode bPR_hear 27 = .ok (.iload_n 1, 1) := by decide +kernel
theorem dPR_hear_28 : decode bPR_hear 28 = .ok (.iaload, 1) := by decide +kernel
theorem dPR_hear_29 : decode bPR_hear 29 = .ok (.ifCond .le 4, 3) := by decide +kernel
theorem dPR_hear_32 : decode bPR_hear 32 = .ok (.return_, 1) := by decide +kernel
theorem dPR_hear_33 : decode bPR_hear 33 = .ok (.iload_n 3, 1) := by decide +kernel
theorem dPR_hear_34 : decode bPR_hear 34 = .ok (.tableswitch 63 0 4 #[34, 34, 34, 47, 55], 34) := by decide +kernel
theorem dPR_hear_68 : decode bPR_hear 68 = .ok (.aload_n 0, 1) := by decide +kernel
theorem dPR_hear_69 : decode bPR_hear 69 = .ok (.iload_n 1, 1) := by decide +kernel
theorem dPR_hear_70 : decode bPR_hear 70 = .ok (.iload_n 3, 1) := by decide +kernel
theorem dPR_hear_71 : decode bPR_hear 71 = .ok (.iload_n 2, 1) := by decide +kernel
theorem dPR_hear_72 : decode bPR_hear 72 = .ok (.invokestatic 137, 3) := by decide +kernel
theorem dPR_hear_75 : decode bPR_hear 75 = .ok (.invokevirtual 158, 3) := by decide +kernel
theorem dPR_hear_78 : decode bPR_hear 78 = .ok (.goto 19, 3) := by decide +kernel
theorem dPR_hear_81 : decode bPR_hear 81 = .ok (.aload_n 0, 1) := by decide +kernel
theorem dPR_hear_82 : decode bPR_hear 82 = .ok (.iload_n 1, 1) := by decide +kernel
theorem dPR_hear_83 : decode bPR_hear 83 = .ok (.invokevirtual 161, 3) := by decide +kernel
theorem dPR_hear_86 : decode bPR_hear 86 = .ok (.goto 11, 3) := by decide +kernel
theorem dPR_hear_89 : decode bPR_hear 89 = .ok (.aload_n 0, 1) := by decide +kernel
theorem dPR_hear_90 : decode bPR_hear 90 = .ok (.iload_n 1, 1) := by decide +kernel
theorem dPR_hear_91 : decode bPR_hear 91 = .ok (.invokevirtual 164, 3) := by decide +kernel
theorem dPR_hear_94 : decode bPR_hear 94 = .ok (.goto 3, 3) := by decide +kernel
theorem dPR_hear_97 : decode bPR_hear 97 = .ok (.return_, 1) := by decide +kernel
theorem dPR_hearOfBlock_0 : decode bPR_hearOfBlock 0 = .ok (.aload_n 0, 1) := by decide +kernel
theorem dPR_hearOfBlock_1 : decode bPR_hearOfBlock 1 = .ok (.iload_n 1, 1) := by decide +kernel
theorem dPR_hearOfBlock_2 : decode bPR_hearOfBlock 2 = .ok (.invokevirtual 97, 3) := by decide +kernel
theorem dPR_hearOfBlock_5 : decode bPR_hearOfBlock 5 = .ok (.aload_n 0, 1) := by decide +kernel
theorem dPR_hearOfBlock_6 : decode bPR_hearOfBlock 6 = .ok (.iload_n 1, 1) := by decide +kernel
theorem dPR_hearOfBlock_7 : decode bPR_hearOfBlock 7 = .ok (.invokevirtual 164, 3) := by decide +kernel
theorem dPR_hearOfBlock_10 : decode bPR_hearOfBlock 10 = .ok (.aload_n 0, 1) := by decide +kernel
theorem dPR_hearOfBlock_11 : decode bPR_hearOfBlock 11 = .ok (.iload_n 1, 1) := by decide +kernel
theorem dPR_hearOfBlock_12 : decode bPR_hearOfBlock 12 = .ok (.invokevirtual 90, 3) := by decide +kernel
theorem dPR_hearOfBlock_15 : decode bPR_hearOfBlock 15 = .ok (.istore 4, 2) := by decide +kernel
theorem dPR_hearOfBlock_17 : decode bPR_hearOfBlock 17 = .ok (.iload 4, 2) := by decide +kernel
theorem dPR_hearOfBlock_19 : decode bPR_hearOfBlock 19 = .ok (.iconst (-1), 1) := by decide +kernel
theorem dPR_hearOfBlock_20 : decode bPR_hearOfBlock 20 = .ok (.if_icmp .ne 4, 3) := by decide +kernel
theorem dPR_hearOfBlock_23 : decode bPR_hearOfBlock 23 = .ok (.return_, 1) := by decide +kernel
theorem dPR_hearOfBlock_24 : decode bPR_hearOfBlock 24 = .ok (.aload_n 0, 1) := by decide +kernel
theorem dPR_hearOfBlock_25 : decode bPR_hearOfBlock 25 = .ok (.getfield 9, 3) := by decide +kernel
theorem dPR_hearOfBlock_28 : decode bPR_hearOfBlock 28 = .ok (.iload 4, 2) := by decide +kernel
theorem dPR_hearOfBlock_30 : decode bPR_hearOfBlock 30 = .ok (.iaload, 1) := by decide +kernel
theorem dPR_hearOfBlock_31 : decode bPR_hearOfBlock 31 = .ok (.iconst 2, 1) := by decide +kernel
theorem dPR_hearOfBlock_32 : decode bPR_hearOfBlock 32 = .ok (.iand, 1) := by decide +kernel
theorem dPR_hearOfBlock_33 : decode bPR_hearOfBlock 33 = .ok (.ifCond .eq 7, 3) := by decide +kernel
theorem dPR_hearOfBlock_36 : decode bPR_hearOfBlock 36 = .ok (.iconst 1, 1) := by decide +kernel
theorem dPR_hearOfBlock_37 : decode bPR_hearOfBlock 37 = .ok (.goto 4, 3) := by decide +kernel
theorem dPR_hearOfBlock_40 : decode bPR_hearOfBlock 40 = .ok (.iconst 2, 1) := by decide +kernel
theorem dPR_hearOfBlock_41 : decode bPR_hearOfBlock 41 = .ok (.istore 5, 2) := by decide +kernel
theorem dPR_hearOfBlock_43 : decode bPR_hearOfBlock 43 = .ok (.iload 5, 2) := by decide +kernel
theorem dPR_hearOfBlock_45 : decode bPR_hearOfBlock 45 = .ok (.iconst 2, 1) := by decide +kernel
theorem dPR_hearOfBlock_46 : decode bPR_hearOfBlock 46 = .ok (.if_icmp .ne 12, 3) := by decide +kernel
theorem dPR_hearOfBlock_49 : decode bPR_hearOfBlock 49 = .ok (.iload_n 2, 1) := by decide +kernel
theorem dPR_hearOfBlock_50 : decode bPR_hearOfBlock 50 = .ok (.iconst 2, 1) := by decide +kernel
theorem dPR_hearOfBlock_51 : decode bPR_hearOfBlock 51 = .ok (.if_icmp .eq 7, 3) := by decide +kernel
theorem dPR_hearOfBlock_54 : decode bPR_hearOfBlock 54 = .ok (.iconst 1, 1) := by decide +kernel
theorem dPR_hearOfBlock_55 : decode bPR_hearOfBlock 55 = .ok (.goto 4, 3) := by decide +kernel
theorem dPR_hearOfBlock_58 : decode bPR_hearOfBlock 58 = .ok (.iconst 0, 1) := by decide +kernel
theorem dPR_hearOfBlock_59 : decode bPR_hearOfBlock 59 = .ok (.istore 6, 2) := by decide +kernel
theorem dPR_hearOfBlock_61 : decode bPR_hearOfBlock 61 = .ok (.iload 6, 2) := by decide +kernel
theorem dPR_hearOfBlock_63 : decode bPR_hearOfBlock 63 = .ok (.ifCond .ne 17, 3) := by decide +kernel
theorem dPR_hearOfBlock_66 : decode bPR_hearOfBlock 66 = .ok (.iload 5, 2) := by decide +kernel
theorem dPR_hearOfBlock_68 : decode bPR_hearOfBlock 68 = .ok (.iload_n 2, 1) := by decide +kernel
theorem dPR_hearOfBlock_69 : decode bPR_hearOfBlock 69 = .ok (.if_icmp .ne 27, 3) := by decide +kernel
theorem dPR_hearOfBlock_72 : decode bPR_hearOfBlock 72 = .ok (.iload_n 3, 1) := by decide +kernel
theorem dPR_hearOfBlock_73 : decode bPR_hearOfBlock 73 = .ok (.iload_n 1, 1) := by decide +kernel
theorem dPR_hearOfBlock_74 : decode bPR_hearOfBlock 74 = .ok (.bipush 6, 2) := by decide +kernel
theorem dPR_hearOfBlock_76 : decode bPR_hearOfBlock 76 = .ok (.idiv, 1) := by decide +kernel
theorem dPR_hearOfBlock_77 : decode bPR_hearOfBlock 77 = .ok (.if_icmp .ge 19, 3) := by decide +kernel
theorem dPR_hearOfBlock_80 : decode bPR_hearOfBlock 80 = .ok (.aload_n 0, 1) := by decide +kernel
theorem dPR_hearOfBlock_81 : decode bPR_hearOfBlock 81 = .ok (.iload 4, 2) := by decide +kernel
theorem dPR_hearOfBlock_83 : decode bPR_hearOfBlock 83 = .ok (.aload_n 0, 1) := by decide +kernel
theorem dPR_hearOfBlock_84 : decode bPR_hearOfBlock 84 = .ok (.getfield 9, 3) := by decide +kernel
theorem dPR_hearOfBlock_87 : decode bPR_hearOfBlock 87 = .ok (.iload 4, 2) := by decide +kernel
theorem dPR_hearOfBlock_89 : decode bPR_hearOfBlock 89 = .ok (.iaload, 1) := by decide +kernel
theorem dPR_hearOfBlock_90 : decode bPR_hearOfBlock 90 = .ok (.bipush 6, 2) := by decide +kernel
theorem dPR_hearOfBlock_92 : decode bPR_hearOfBlock 92 = .ok (.iand, 1) := by decide +kernel
theorem dPR_hearOfBlock_93 : decode bPR_hearOfBlock 93 = .ok (.invokevirtual 84, 3) := by decide +kernel
theorem dPR_hearOfBlock_96 : decode bPR_hearOfBlock 96 = .ok (.return_, 1) := by decide +kernel
theorem dPR_hearOfHealing_0 : decode bPR_hearOfHealing 0 = .ok (.iload_n 1, 1) := by decide +kernel
theorem dPR_hearOfHealing_1 : decode bPR_hearOfHealing 1 = .ok (.bipush 6, 2) := by decide +kernel
theorem dPR_hearOfHealing_3 : decode bPR_hearOfHealing 3 = .ok (.irem, 1) := by decide +kernel
theorem dPR_hearOfHealing_4 : decode bPR_hearOfHealing 4 = .ok (.istore_n 2, 1) := by decide +kernel
theorem dPR_hearOfHealing_5 : decode bPR_hearOfHealing 5 = .ok (.aload_n 0, 1) := by decide +kernel
theorem dPR_hearOfHealing_6 : decode bPR_hearOfHealing 6 = .ok (.iload_n 1, 1) := by decide +kernel
theorem dPR_hearOfHealing_7 : decode bPR_hearOfHealing 7 = .ok (.invokevirtual 167, 3) := by decide +kernel
theorem dPR_hearOfHealing_10 : decode bPR_hearOfHealing 10 = .ok (.bipush 23, 2) := by decide +kernel
theorem dPR_hearOfHealing_12 : decode bPR_hearOfHealing 12 = .ok (.iand, 1) := by decide +kernel
theorem dPR_hearOfHealing_13 : decode bPR_hearOfHealing 13 = .ok (.ifCond .eq 7, 3) := by decide +kernel
theorem dPR_hearOfHealing_16 : decode bPR_hearOfHealing 16 = .ok (.iconst 1, 1) := by decide +kernel
theorem dPR_hearOfHealing_17 : decode bPR_hearOfHealing 17 = .ok (.goto 4, 3) := by decide +kernel
theorem dPR_hearOfHealing_20 : decode bPR_hearOfHealing 20 = .ok (.iconst 0, 1) := by decide +kernel
theorem dPR_hearOfHealing_21 : decode bPR_hearOfHealing 21 = .ok (.istore_n 3, 1) := by decide +kernel
theorem dPR_hearOfHealing_22 : decode bPR_hearOfHealing 22 = .ok (.aload_n 0, 1) := by decide +kernel
theorem dPR_hearOfHealing_23 : decode bPR_hearOfHealing 23 = .ok (.getfield 45, 3) := by decide +kernel
theorem dPR_hearOfHealing_26 : decode bPR_hearOfHealing 26 = .ok (.iload_n 1, 1) := by decide +kernel
theorem dPR_hearOfHealing_27 : decode bPR_hearOfHealing 27 = .ok (.invokevirtual 107, 3) := by decide +kernel
theorem dPR_hearOfHealing_30 : decode bPR_hearOfHealing 30 = .ok (.ifCond .eq 24, 3) := by decide +kernel
theorem dPR_hearOfHealing_33 : decode bPR_hearOfHealing 33 = .ok (.iload_n 3, 1) := by decide +kernel
theorem dPR_hearOfHealing_34 : decode bPR_hearOfHealing 34 = .ok (.ifCond .ne 20, 3) := by decide +kernel
theorem dPR_hearOfHealing_37 : decode bPR_hearOfHealing 37 = .ok (.aload_n 0, 1) := by decide +kernel
theorem dPR_hearOfHealing_38 : decode bPR_hearOfHealing 38 = .ok (.getfield 21, 3) := by decide +kernel
theorem dPR_hearOfHealing_41 : decode bPR_hearOfHealing 41 = .ok (.iload_n 2, 1) := by decide +kernel
theorem dPR_hearOfHealing_42 : decode bPR_hearOfHealing 42 = .ok (.iaload, 1) := by decide +kernel
theorem dPR_hearOfHealing_43 : decode bPR_hearOfHealing 43 = .ok (.ifCond .ne 11, 3) := by decide +kernel
theorem dPR_hearOfHealing_46 : decode bPR_hearOfHealing 46 = .ok (.aload_n 0, 1) := by decide +kernel
theorem dPR_hearOfHealing_47 : decode bPR_hearOfHealing 47 = .ok (.getfield 21, 3) := by decide +kernel
theorem dPR_hearOfHealing_50 : decode bPR_hearOfHealing 50 = .ok (.iload_n 2, 1) := by decide +kernel
theorem dPR_hearOfHealing_51 : decode bPR_hearOfHealing 51 = .ok (.bipush 60, 2) := by decide +kernel
theorem dPR_hearOfHealing_53 : decode bPR_hearOfHealing 53 = .ok (.iastore, 1) := by decide +kernel
theorem dPR_hearOfHealing_54 : decode bPR_hearOfHealing 54 = .ok (.return_, 1) := by decide +kernel
theorem dPR_mendLink_0 : decode bPR_mendLink 0 = .ok (.aload_n 0, 1) := by decide +kernel
theorem dPR_mendLink_1 : decode bPR_mendLink 1 = .ok (.iconst 2, 1) := by decide +kernel
theorem dPR_mendLink_2 : decode bPR_mendLink 2 = .ok (.iload_n 1, 1) := by decide +kernel
theorem dPR_mendLink_3 : decode bPR_mendLink 3 = .ok (.imul, 1) := by decide +kernel
theorem dPR_mendLink_4 : decode bPR_mendLink 4 = .ok (.iconst 1, 1) := by decide +kernel
theorem dPR_mendLink_5 : decode bPR_mendLink 5 = .ok (.invokevirtual 84, 3) := by decide +kernel
theorem dPR_mendLink_8 : decode bPR_mendLink 8 = .ok (.aload_n 0, 1) := by decide +kernel
theorem dPR_mendLink_9 : decode bPR_mendLink 9 = .ok (.iconst 2, 1) := by decide +kernel
theorem dPR_mendLink_10 : decode bPR_mendLink 10 = .ok (.iload_n 1, 1) := by decide +kernel
theorem dPR_mendLink_11 : decode bPR_mendLink 11 = .ok (.imul, 1) := by decide +kernel
theorem dPR_mendLink_12 : decode bPR_mendLink 12 = .ok (.iconst 1, 1) := by decide +kernel
theorem dPR_mendLink_13 : decode bPR_mendLink 13 = .ok (.iadd, 1) := by decide +kernel
theorem dPR_mendLink_14 : decode bPR_mendLink 14 = .ok (.iconst 1, 1) := by decide +kernel
theorem dPR_mendLink_15 : decode bPR_mendLink 15 = .ok (.invokevirtual 84, 3) := by decide +kernel
theorem dPR_mendLink_18 : decode bPR_mendLink 18 = .ok (.return_, 1) := by decide +kernel
theorem dPR_takeAllHolds_0 : decode bPR_takeAllHolds 0 = .ok (.iconst 0, 1) := by decide +kernel
theorem dPR_takeAllHolds_1 : decode bPR_takeAllHolds 1 = .ok (.istore_n 1, 1) := by decide +kernel
theorem dPR_takeAllHolds_2 : decode bPR_takeAllHolds 2 = .ok (.iload_n 1, 1) := by decide +kernel
theorem dPR_takeAllHolds_3 : decode bPR_takeAllHolds 3 = .ok (.bipush 6, 2) := by decide +kernel
theorem dPR_takeAllHolds_5 : decode bPR_takeAllHolds 5 = .ok (.if_icmp .ge 27, 3) := by decide +kernel
theorem dPR_takeAllHolds_8 : decode bPR_takeAllHolds 8 = .ok (.aload_n 0, 1) := by decide +kernel
theorem dPR_takeAllHolds_9 : decode bPR_takeAllHolds 9 = .ok (.getfield 45, 3) := by decide +kernel
theorem dPR_takeAllHolds_12 : decode bPR_takeAllHolds 12 = .ok (.getfield 61, 3) := by decide +kernel
theorem dPR_takeAllHolds_15 : decode bPR_takeAllHolds 15 = .ok (.iload_n 1, 1) := by decide +kernel
theorem dPR_takeAllHolds_16 : decode bPR_takeAllHolds 16 = .ok (.iaload, 1) := by decide +kernel
theorem dPR_takeAllHolds_17 : decode bPR_takeAllHolds 17 = .ok (.iconst (-1), 1) := by decide +kernel
theorem dPR_takeAllHolds_18 : decode bPR_takeAllHolds 18 = .ok (.if_icmp .eq 8, 3) := by decide +kernel
theorem dPR_takeAllHolds_21 : decode bPR_takeAllHolds 21 = .ok (.aload_n 0, 1) := by decide +kernel
theorem dPR_takeAllHolds_22 : decode bPR_takeAllHolds 22 = .ok (.iload_n 1, 1) := by decide +kernel
theorem dPR_takeAllHolds_23 : decode bPR_takeAllHolds 23 = .ok (.invokevirtual 66, 3) := by decide +kernel
theorem dPR_takeAllHolds_26 : decode bPR_takeAllHolds 26 = .ok (.iinc 1 1, 3) := by decide +kernel
theorem dPR_takeAllHolds_29 : decode bPR_takeAllHolds 29 = .ok (.goto (-27), 3) := by decide +kernel
theorem dPR_takeAllHolds_32 : decode bPR_takeAllHolds 32 = .ok (.return_, 1) := by decide +kernel
theorem dPR_takeHold_0 : decode bPR_takeHold 0 = .ok (.aload_n 0, 1) := by decide +kernel
theorem dPR_takeHold_1 : decode bPR_takeHold 1 = .ok (.getfield 45, 3) := by decide +kernel
theorem dPR_takeHold_4 : decode bPR_takeHold 4 = .ok (.getfield 61, 3) := by decide +kernel
theorem dPR_takeHold_7 : decode bPR_takeHold 7 = .ok (.iload_n 1, 1) := by decide +kernel
theorem dPR_takeHold_8 : decode bPR_takeHold 8 = .ok (.iaload, 1) := by decide +kernel
theorem dPR_takeHold_9 : decode bPR_takeHold 9 = .ok (.istore_n 2, 1) := by decide +kernel
theorem dPR_takeHold_10 : decode bPR_takeHold 10 = .ok (.aload_n 0, 1) := by decide +kernel
theorem dPR_takeHold_11 : decode bPR_takeHold 11 = .ok (.iload_n 2, 1) := by decide +kernel
theorem dPR_takeHold_12 : decode bPR_takeHold 12 = .ok (.aload_n 0, 1) := by decide +kernel
theorem dPR_takeHold_13 : decode bPR_takeHold 13 = .ok (.getfield 9, 3) := by decide +kernel
theorem dPR_takeHold_16 : decode bPR_takeHold 16 = .ok (.iload_n 2, 1) := by decide +kernel
theorem dPR_takeHold_17 : decode bPR_takeHold 17 = .ok (.iaload, 1) := by decide +kernel
theorem dPR_takeHold_18 : decode bPR_takeHold 18 = .ok (.bipush 16, 2) := by decide +kernel
theorem dPR_takeHold_20 : decode bPR_takeHold 20 = .ok (.ior, 1) := by decide +kernel
theorem dPR_takeHold_21 : decode bPR_takeHold 21 = .ok (.invokevirtual 70, 3) := by decide +kernel
theorem dPR_takeHold_24 : decode bPR_takeHold 24 = .ok (.aload_n 0, 1) := by decide +kernel
theorem dPR_takeHold_25 : decode bPR_takeHold 25 = .ok (.getfield 24, 3) := by decide +kernel
theorem dPR_takeHold_28 : decode bPR_takeHold 28 = .ok (.iload_n 1, 1) := by decide +kernel
theorem dPR_takeHold_29 : decode bPR_takeHold 29 = .ok (.dup2, 1) := by decide +kernel
theorem dPR_takeHold_30 : decode bPR_takeHold 30 = .ok (.iaload, 1) := by decide +kernel
theorem dPR_takeHold_31 : decode bPR_takeHold 31 = .ok (.iconst 1, 1) := by decide +kernel
theorem dPR_takeHold_32 : decode bPR_takeHold 32 = .ok (.iadd, 1) := by decide +kernel
theorem dPR_takeHold_33 : decode bPR_takeHold 33 = .ok (.iastore, 1) := by decide +kernel
theorem dPR_takeHold_34 : decode bPR_takeHold 34 = .ok (.aload_n 0, 1) := by decide +kernel
theorem dPR_takeHold_35 : decode bPR_takeHold 35 = .ok (.aload_n 0, 1) := by decide +kernel
theorem dPR_takeHold_36 : decode bPR_takeHold 36 = .ok (.getfield 45, 3) := by decide +kernel
theorem dPR_takeHold_39 : decode bPR_takeHold 39 = .ok (.getfield 74, 3) := by decide +kernel
theorem dPR_takeHold_42 : decode bPR_takeHold 42 = .ok (.iload_n 2, 1) := by decide +kernel
theorem dPR_takeHold_43 : decode bPR_takeHold 43 = .ok (.iaload, 1) := by decide +kernel
theorem dPR_takeHold_44 : decode bPR_takeHold 44 = .ok (.bipush 108, 2) := by decide +kernel
theorem dPR_takeHold_46 : decode bPR_takeHold 46 = .ok (.iload_n 1, 1) := by decide +kernel
theorem dPR_takeHold_47 : decode bPR_takeHold 47 = .ok (.iadd, 1) := by decide +kernel
theorem dPR_takeHold_48 : decode bPR_takeHold 48 = .ok (.aload_n 0, 1) := by decide +kernel
theorem dPR_takeHold_49 : decode bPR_takeHold 49 = .ok (.getfield 24, 3) := by decide +kernel
theorem dPR_takeHold_52 : decode bPR_takeHold 52 = .ok (.iload_n 1, 1) := by decide +kernel
theorem dPR_takeHold_53 : decode bPR_takeHold 53 = .ok (.iaload, 1) := by decide +kernel
theorem dPR_takeHold_54 : decode bPR_takeHold 54 = .ok (.invokevirtual 77, 3) := by decide +kernel
theorem dPR_takeHold_57 : decode bPR_takeHold 57 = .ok (.return_, 1) := by decide +kernel
theorem dWI_turn_0 : decode bWI_turn 0 = .ok (.aload_n 0, 1) := by decide +kernel
theorem dWI_turn_1 : decode bWI_turn 1 = .ok (.getfield 11, 3) := by decide +kernel
theorem dWI_turn_4 : decode bWI_turn 4 = .ok (.astore_n 1, 1) := by decide +kernel
theorem dWI_turn_5 : decode bWI_turn 5 = .ok (.aload_n 0, 1) := by decide +kernel
theorem dWI_turn_6 : decode bWI_turn 6 = .ok (.aload_n 0, 1) := by decide +kernel
theorem dWI_turn_7 : decode bWI_turn 7 = .ok (.getfield 18, 3) := by decide +kernel
theorem dWI_turn_10 : decode bWI_turn 10 = .ok (.putfield 11, 3) := by decide +kernel
theorem dWI_turn_13 : decode bWI_turn 13 = .ok (.aload_n 0, 1) := by decide +kernel
theorem dWI_turn_14 : decode bWI_turn 14 = .ok (.aload_n 1, 1) := by decide +kernel
theorem dWI_turn_15 : decode bWI_turn 15 = .ok (.putfield 18, 3) := by decide +kernel
theorem dWI_turn_18 : decode bWI_turn 18 = .ok (.aload_n 0, 1) := by decide +kernel
theorem dWI_turn_19 : decode bWI_turn 19 = .ok (.getfield 15, 3) := by decide +kernel
theorem dWI_turn_22 : decode bWI_turn 22 = .ok (.astore_n 2, 1) := by decide +kernel
theorem dWI_turn_23 : decode bWI_turn 23 = .ok (.aload_n 0, 1) := by decide +kernel
theorem dWI_turn_24 : decode bWI_turn 24 = .ok (.aload_n 0, 1) := by decide +kernel
theorem dWI_turn_25 : decode bWI_turn 25 = .ok (.getfield 21, 3) := by decide +kernel
theorem dWI_turn_28 : decode bWI_turn 28 = .ok (.putfield 15, 3) := by decide +kernel
theorem dWI_turn_31 : decode bWI_turn 31 = .ok (.aload_n 0, 1) := by decide +kernel
theorem dWI_turn_32 : decode bWI_turn 32 = .ok (.aload_n 2, 1) := by decide +kernel
theorem dWI_turn_33 : decode bWI_turn 33 = .ok (.putfield 21, 3) := by decide +kernel
theorem dWI_turn_36 : decode bWI_turn 36 = .ok (.aload_n 0, 1) := by decide +kernel
theorem dWI_turn_37 : decode bWI_turn 37 = .ok (.getfield 21, 3) := by decide +kernel
theorem dWI_turn_40 : decode bWI_turn 40 = .ok (.iconst 0, 1) := by decide +kernel
theorem dWI_turn_41 : decode bWI_turn 41 = .ok (.invokestatic 31, 3) := by decide +kernel
theorem dWI_turn_44 : decode bWI_turn 44 = .ok (.return_, 1) := by decide +kernel
noncomputable def fPR_takeHold (P S : ZS) (x0 : Int32) : ZS := zl (P.F 6 (x0 : Int32).toNatClampNeg) (fun k1 => zl (S.F 14 (k1 : Int32).toNatClampNeg) (fun k2 => zl (k2 ||| 16) (fun k3 => zl (fPR_setHolds P S k1 k3) (fun S5 => zl (S5.F 18 (x0 : Int32).toNatClampNeg) (fun k7 => zl (k7 + 1) (fun k8 => zl (S5.setF 18 (x0 : Int32).toNatClampNeg k8) (fun S9 => zl (P.F 5 (k1 : Int32).toNatClampNeg) (fun k11 => zl (108 + x0) (fun k12 => zl (S9.F 18 (x0 : Int32).toNatClampNeg) (fun k13 => zl (fPR_takeNews P S9 k11 k12 k13) (fun S15 => S15)))))))))))
set_option maxHeartbeats 4000000 in
set_option maxRecDepth 100000 in
theorem tPR_takeHold (l : Launch) (dC : Nat → ClassId) (dI : Nat → Nat → Nat) (cI cZ cJ cA : ClassId) (a0 : Array Value) (s0 : State) (o b : Nat → Nat) (P S : ZS) (sz : Nat) (x0 : Int32) (gP : cok P) (gS : cok S) (gQ : zQ P) (r_x0 : zr 0 5 x0) (qgr_x0 : zgr P x0) : Met l yPR_takeHold [Cond.code yPR_takeHold bPR_takeHold 3 none] ({ frames := 3, cells := 0, slots := 0, locals := 74 } : Room) (zP zCl dC dI (zTZ cI cZ cJ cA) a0 s0 [.ref (o 4), .int x0] sz (CW cI cZ cA o b P S)) (zQG zCl dC dI (fun (x9 : ZS) => x9 = fPR_takeHold P S x0 ∧ cok x9) (fun x9 : ZS => (CW cI cZ cA o b P x9)) (va_A (CW cI cZ cA o b P S) sz)) 0 0 (va_A (CW cI cZ cA o b P S) sz) := by
  refine Met.ofW (cc := bPR_takeHold) (maxL := 3) (ret := none) (by decide) rfl ?_
  intro p e s m args below meth c s₁ B hml hv
  obtain ⟨rfl, hsz, hP, hK, hD0, hB⟩ := hv
  have hx := B.exec
  have hb := B.bytes
  have hr := B.returns
  have hown : s.vm.findClass "RingGuard$Protocol" = some m.cls := findClass_of_methodNamed B.named
  have hlocks := B.notSynchronized
  subst hsz
  have hD := hD0.self (sz := s.heap.size)
  have hA0 := zA0 hD0 hB
  generalize hAe : va_A (CW cI cZ cA o b P S) s.heap.size = A at hD hA0 ⊢
  have hAD := hA0
  have hA : ∀ q : Nat, s.heap.size ≤ q → A q := fun q h => by rw [← hAe]; exact Or.inr h
  have hS : va_S A s.heap s.heap [] := va_S.rf
  have hl := lv_entry ([.ref (o 4), .int x0]) (n := 3) (Nat.le_of_ble_eq_true rfl)
  rw [lg_entry_eq]
  generalize (lg_sl ([.ref (o 4), .int x0]) ++ List.replicate (3 - (lg_sl ([.ref (o 4), .int x0])).length) Slot.unset).toArray = ls at hl ⊢
  have hl : lv_has ls 3 [(0, .ref (o 4)), (1, .int x0)] := hl
  refine zgenQ (fun Q hQe => ?_)
  obtain ⟨tg, etg⟩ : ∃ z, z = fPR_takeHold P S x0 := ⟨_, rfl⟩
  have E := etg
  unfold fPR_takeHold at E
  refine lv_aload_n hx hb dPR_takeHold_0 rfl (lv_at hl 0 rfl) ?_
  refine c_getO_PR_plan hx hb (hB.words zU_PR) hown hK hP (hB.word (zm1 k1_130) rfl) dPR_takeHold_1 ?_
  refine c_getA_6 hx hb (hB.words zU_PL) hown hK hP (hB.word (zm1 k1_55) rfl) dPR_takeHold_4 ?_
  refine lv_iload_n hx hb dPR_takeHold_7 rfl (lv_at hl 1 rfl) ?_
  refine c_aldP hx hb hK hP 6 (by decide) rfl r_x0 (by decide) dPR_takeHold_8 E (fun k1 ek1 E => ?_)
  have r_k1 : zr (-1) 119 k1 := by rw [ek1]; exact gP.1 6 _
  have r_k12 : zr 0 119 k1 := by rw [ek1]; exact qgr_x0
  have qgp_k1 : zgt P k1 := by rw [ek1]; exact zgr_gp gQ qgr_x0
  refine lv_istore_n (lv' := [(2, .int k1), (0, .ref (o 4)), (1, .int x0)]) hx hb dPR_takeHold_9 rfl hl (by decide) rfl (fun ls hl => ?_)
  refine lv_aload_n hx hb dPR_takeHold_10 rfl (lv_at hl 1 rfl) ?_
  refine lv_iload_n hx hb dPR_takeHold_11 rfl (lv_at hl 0 rfl) ?_
  refine lv_aload_n hx hb dPR_takeHold_12 rfl (lv_at hl 1 rfl) ?_
  refine c_getA_14 hx hb (hB.words zU_PR) hown hK hP (hB.word (zm1 k1_133) rfl) dPR_takeHold_13 ?_
  refine lv_iload_n hx hb dPR_takeHold_16 rfl (lv_at hl 0 rfl) ?_
  refine c_aldS hx hb hK hP 14 (by decide) rfl r_k12 (by decide) dPR_takeHold_17 E (fun k2 ek2 E => ?_)
  refine lv_bipush (v := 16) hx hb dPR_takeHold_18 (by decide) ?_
  refine z_ior hx hb dPR_takeHold_20 E (fun k3 ek3 E => ?_)
  refine zcV (va_runV (As := [.int k1, .int k3]) (rest := []) ⟨hx, hb, hml, hown, zno⟩ (tPR_setHolds l dC dI cI cZ cJ cA a0 s0 o b P S s.heap.size k1 k3 gP gS r_k12) (zcw 2 (hB.word (zm3 k3_24) rfl) (hB.word (zm1 k1_6) rfl) (hB.word (zm3 k3_21) rfl) (hB.word (zm3 k3_23) rfl) (k2_selects_private (by decide) (hB.word (zm1 k1_125) rfl) (hB.word (zm3 k3_22) rfl) (hB.word (zm3 k3_23) rfl)) rfl rfl (by decide +kernel) ⟨Nat.le_of_ble_eq_true rfl, Nat.le_of_ble_eq_true rfl⟩) ⟨zP_blind, va_recv hK hP (ci := 4) (q0 := 4) rfl rfl, zP_pre hP hK hD hAD (zB_on hB hA0 hS)⟩ rfl rfl hl.1 rfl (lv_room (Nat.le_of_ble_eq_true rfl)) dPR_takeHold_21 ⟨Nat.le_of_ble_eq_true rfl, Nat.le_of_ble_eq_true rfl⟩) hD hS hA (fun S5 H4 locs h6 hP hD hS => ?_)
  have E := zl_s E h6.1
  have gS5 := h6.2
  refine lv_aload_n hx hb dPR_takeHold_24 rfl (lv_at hl 1 rfl) ?_
  refine c_getA_18 hx hb (hB.words zU_PR) hown hK hP (hB.word (zm1 k1_140) rfl) dPR_takeHold_25 ?_
  refine lv_iload_n hx hb dPR_takeHold_28 rfl (lv_at hl 2 rfl) ?_
  refine lv_dup2_11 hx hb dPR_takeHold_29 rfl rfl ?_
  refine c_aldS hx hb hK hP 18 (by decide) rfl r_x0 (by decide) dPR_takeHold_30 E (fun k7 ek7 E => ?_)
  refine lv_iconst (v := 1) hx hb dPR_takeHold_31 (by decide) ?_
  refine z_iadd hx hb dPR_takeHold_32 E (fun k8 ek8 E => ?_)
  refine c_astS hx hb hK hP hD hS 18 (by decide) rfl r_x0 (by decide) dPR_takeHold_33 E (fun S9 H10 locs eS9 E hP hD hS => ?_)
  have gS9 : cok S9 := by rw [eS9]; exact gS5.setF (k := 18) (zr_any k8) (Or.inl (by decide))
  refine lv_aload_n hx hb dPR_takeHold_34 rfl (lv_at hl 1 rfl) ?_
  refine lv_aload_n hx hb dPR_takeHold_35 rfl (lv_at hl 1 rfl) ?_
  refine c_getO_PR_plan hx hb (hB.words zU_PR) hown hK hP (hB.word (zm1 k1_130) rfl) dPR_takeHold_36 ?_
  refine c_getA_5 hx hb (hB.words zU_PL) hown hK hP (hB.word (zm1 k1_53) rfl) dPR_takeHold_39 ?_
  refine lv_iload_n hx hb dPR_takeHold_42 rfl (lv_at hl 0 rfl) ?_
  refine c_aldP hx hb hK hP 5 (by decide) rfl r_k12 (by decide) dPR_takeHold_43 E (fun k11 ek11 E => ?_)
  have r_k11 : zr 0 287 k11 := by rw [ek11]; exact gP.1 5 _
  have qgl_k11 : zgp P k11 := by rw [ek11]; exact qgp_k1
  refine lv_bipush (v := 108) hx hb dPR_takeHold_44 (by decide) ?_
  refine lv_iload_n hx hb dPR_takeHold_46 rfl (lv_at hl 2 rfl) ?_
  refine z_iadd hx hb dPR_takeHold_47 E (fun k12 ek12 E => ?_)
  have r_k12 : zr 108 113 k12 := zr_add (show zr 108 108 108 from by decide) r_x0 ek12 (by decide)
  refine lv_aload_n hx hb dPR_takeHold_48 rfl (lv_at hl 1 rfl) ?_
  refine c_getA_18 hx hb (hB.words zU_PR) hown hK hP (hB.word (zm1 k1_140) rfl) dPR_takeHold_49 ?_
  refine lv_iload_n hx hb dPR_takeHold_52 rfl (lv_at hl 2 rfl) ?_
  refine c_aldS hx hb hK hP 18 (by decide) rfl r_x0 (by decide) dPR_takeHold_53 E (fun k13 ek13 E => ?_)
  refine zcV (va_runV (As := [.int k11, .int k12, .int k13]) (rest := []) ⟨hx, hb, hml, hown, zno⟩ (tPR_takeNews l dC dI cI cZ cJ cA a0 s0 o b P S9 H10.size k11 k12 k13 gP gS9 r_k11 (zr_mono r_k12 (by decide))) (zcw 3 (hB.word (zm3 k3_28) rfl) (hB.word (zm1 k1_6) rfl) (hB.word (zm3 k3_25) rfl) (hB.word (zm3 k3_27) rfl) (k2_selects_private (by decide) (hB.word (zm1 k1_125) rfl) (hB.word (zm3 k3_26) rfl) (hB.word (zm3 k3_27) rfl)) rfl rfl (by decide +kernel) ⟨Nat.le_of_ble_eq_true rfl, Nat.le_of_ble_eq_true rfl⟩) ⟨zP_blind, va_recv hK hP (ci := 4) (q0 := 4) rfl rfl, zP_pre hP hK hD hAD (zB_on hB hA0 hS)⟩ rfl rfl hl.1 rfl (lv_room (Nat.le_of_ble_eq_true rfl)) dPR_takeHold_54 ⟨Nat.le_of_ble_eq_true rfl, Nat.le_of_ble_eq_true rfl⟩) hD hS hA (fun S15 H14 locs h16 hP hD hS => ?_)
  have E := zl_s E h16.1
  have gS15 := h16.2
  rw [hQe]
  exact W.vret hx hb hr (fun t ht hW => ⟨⟨S15, rfl, ⟨E.symm.trans etg, gS15⟩, by rw [ht]; exact hP, hD⟩, hS.F ht⟩) hS.2.2 dPR_takeHold_57
noncomputable def fPR_takeAllHolds_26 (P : ZS) (rc2 : ZS → Int32 → (ZS)) (S_26 : ZS) (x26_1 : Int32) : ZS := zl (x26_1 + 1) (fun k1 => rc2 S_26 k1)
noncomputable def fPR_takeAllHolds_2 (P : ZS) (rc2 : ZS → Int32 → (ZS)) (S_2 : ZS) (x2_1 : Int32) : ZS := (if 6 ≤ x2_1 then S_2 else zl (P.F 6 (x2_1 : Int32).toNatClampNeg) (fun k2 => (if k2 = (-1) then fPR_takeAllHolds_26 P rc2 S_2 x2_1 else zl (fPR_takeHold P S_2 x2_1) (fun S4 => fPR_takeAllHolds_26 P rc2 S4 x2_1))))
noncomputable def fPR_takeAllHolds (P S : ZS) : ZS := zfix (fun S9 _ => S9) (fPR_takeAllHolds_2 P) 7 S 0
set_option maxHeartbeats 4000000 in
set_option maxRecDepth 100000 in
theorem tPR_takeAllHolds (l : Launch) (dC : Nat → ClassId) (dI : Nat → Nat → Nat) (cI cZ cJ cA : ClassId) (a0 : Array Value) (s0 : State) (o b : Nat → Nat) (P S : ZS) (sz : Nat) (gP : cok P) (gS : cok S) (gQ : zQ P) : Met l yPR_takeAllHolds [Cond.code yPR_takeAllHolds bPR_takeAllHolds 2 none] ({ frames := 4, cells := 0, slots := 0, locals := 96 } : Room) (zP zCl dC dI (zTZ cI cZ cJ cA) a0 s0 [.ref (o 4)] sz (CW cI cZ cA o b P S)) (zQG zCl dC dI (fun (x9 : ZS) => x9 = fPR_takeAllHolds P S  ∧ cok x9) (fun x9 : ZS => (CW cI cZ cA o b P x9)) (va_A (CW cI cZ cA o b P S) sz)) 0 0 (va_A (CW cI cZ cA o b P S) sz) := by
  refine Met.ofW (cc := bPR_takeAllHolds) (maxL := 2) (ret := none) (by decide) rfl ?_
  intro p e s m args below meth c s₁ B hml hv
  obtain ⟨rfl, hsz, hP, hK, hD0, hB⟩ := hv
  have hx := B.exec
  have hb := B.bytes
  have hr := B.returns
  have hown : s.vm.findClass "RingGuard$Protocol" = some m.cls := findClass_of_methodNamed B.named
  have hlocks := B.notSynchronized
  subst hsz
  have hD := hD0.self (sz := s.heap.size)
  have hA0 := zA0 hD0 hB
  generalize hAe : va_A (CW cI cZ cA o b P S) s.heap.size = A at hD hA0 ⊢
  have hAD := hA0
  have hA : ∀ q : Nat, s.heap.size ≤ q → A q := fun q h => by rw [← hAe]; exact Or.inr h
  have hS : va_S A s.heap s.heap [] := va_S.rf
  have hl := lv_entry ([.ref (o 4)]) (n := 2) (Nat.le_of_ble_eq_true rfl)
  rw [lg_entry_eq]
  generalize (lg_sl ([.ref (o 4)]) ++ List.replicate (2 - (lg_sl ([.ref (o 4)])).length) Slot.unset).toArray = ls at hl ⊢
  have hl : lv_has ls 2 [(0, .ref (o 4))] := hl
  refine zgenQ (fun Q hQe => ?_)
  obtain ⟨tg, etg⟩ : ∃ z, z = fPR_takeAllHolds P S  := ⟨_, rfl⟩
  have E := etg
  unfold fPR_takeAllHolds at E
  have hL2 : ∀ (n2 : Nat) (H : Heap) (locs : List Loc) (ls : Array Slot) (S_2 : ZS) (x2_1 : Int32), zr 0 6 x2_1 → cok S_2 → 6 + 1 - x2_1.toInt ≤ (n2 : Int) → tg = zfix (fun S9 _ => S9) (fPR_takeAllHolds_2 P) n2 S_2 x2_1 → va_P (dC, dI) zCl (CW cI cZ cA o b P S_2) H → va_D A (CW cI cZ cA o b P S_2) → va_S A s.heap H locs → lv_has ls 2 [(0, .ref (o 4)), (1, .int x2_1)] → W p l e ({ frames := 4, cells := 0, slots := 0, locals := 96 } : Room) s m ([.ref (o 4)] : List Value).toArray below meth c H locs 0 0 Q (F0 m 2 ls []) := by
    intro n2
    induction n2 with
    | zero => intro H locs ls S_2 x2_1 r_x2_1 gS_2 hm2 E hP hD hS hl; exact absurd hm2 (zfuel0U r_x2_1)
    | succ n2 ih2 =>
      intro H locs ls S_2 x2_1 r_x2_1 gS_2 hm2 E hP hD hS hl
      rw [zfix_s] at E
      generalize zfix (fun S9 _ => S9) (fPR_takeAllHolds_2 P) n2 = rc2 at ih2 E
      unfold fPR_takeAllHolds_2 at E
      have hJ26 : ∀ (H : Heap) (locs : List Loc) (ls : Array Slot) (S_26 : ZS) (x26_1 : Int32), zr 0 5 x26_1 → cok S_26 → 6 + 1 - x26_1.toInt ≤ ((n2 + 1 : Nat) : Int) → tg = fPR_takeAllHolds_26 P rc2 S_26 x26_1 → va_P (dC, dI) zCl (CW cI cZ cA o b P S_26) H → va_D A (CW cI cZ cA o b P S_26) → va_S A s.heap H locs → lv_has ls 2 [(0, .ref (o 4)), (1, .int x26_1)] → W p l e ({ frames := 4, cells := 0, slots := 0, locals := 96 } : Room) s m ([.ref (o 4)] : List Value).toArray below meth c H locs 0 0 Q (F0 m 26 ls []) := by
        intro H locs ls S_26 x26_1 r_x26_1 gS_26 hm2_26 E hP hD hS hl
        unfold fPR_takeAllHolds_26 at E
        refine z_iinc (lv' := fun v9 => [(1, .int v9), (0, .ref (o 4))]) (cst := 1) hx hb dPR_takeAllHolds_26 hl (k := 1) rfl (by decide) (by decide) (fun _ => rfl) E (fun k1 ls ek1 E hl => ?_)
        have r_k1 : zr 1 6 k1 := zr_add r_x26_1 (show zr 1 1 1 from by decide) ek1 (by decide)
        refine lv_goto (tgt := 2) hx hb dPR_takeAllHolds_29 (by decide) ?_
        exact ih2 H locs ls S_26 k1 (zr_mono r_k1 (by decide)) gS_26 (zstepU ek1 r_x26_1 (by decide) hm2_26) E hP hD hS (lv_sub hl [1, 0] rfl)
      refine lv_iload_n hx hb dPR_takeAllHolds_2 rfl (lv_at hl 1 rfl) ?_
      refine lv_bipush (v := 6) hx hb dPR_takeAllHolds_3 (by decide) ?_
      refine z_icmp_ge (tgt := 32) hx hb dPR_takeAllHolds_5 (by decide) E (fun c_5 E => ?_) (fun c_5 E => ?_)
      · have r_x2_1 : zr 6 6 x2_1 := zle_y (show zr 6 6 6 from by decide) r_x2_1 c_5 (by decide)
        rw [hQe]
        exact W.vret hx hb hr (fun t ht hW => ⟨⟨S_2, rfl, ⟨E.symm.trans etg, gS_2⟩, by rw [ht]; exact hP, hD⟩, hS.F ht⟩) hS.2.2 dPR_takeAllHolds_32
      · have r_x2_1 : zr 0 5 x2_1 := zlt_x r_x2_1 (show zr 6 6 6 from by decide) (znle c_5) (by decide)
        refine lv_aload_n hx hb dPR_takeAllHolds_8 rfl (lv_at hl 0 rfl) ?_
        refine c_getO_PR_plan hx hb (hB.words zU_PR) hown hK hP (hB.word (zm1 k1_130) rfl) dPR_takeAllHolds_9 ?_
        refine c_getA_6 hx hb (hB.words zU_PL) hown hK hP (hB.word (zm1 k1_55) rfl) dPR_takeAllHolds_12 ?_
        refine lv_iload_n hx hb dPR_takeAllHolds_15 rfl (lv_at hl 1 rfl) ?_
        refine c_aldP hx hb hK hP 6 (by decide) rfl r_x2_1 (by decide) dPR_takeAllHolds_16 E (fun k2 ek2 E => ?_)
        have r_k2 : zr (-1) 119 k2 := by rw [ek2]; exact gP.1 6 _
        have qogp_k2 : k2 = -1 ∨ zgt P k2 := by rw [ek2]; exact gQ.2.1 _
        refine lv_iconst (v := (-1)) hx hb dPR_takeAllHolds_17 (by decide) ?_
        refine z_icmp_eq (tgt := 26) hx hb dPR_takeAllHolds_18 (by decide) E (fun c_18 E => ?_) (fun c_18 E => ?_)
        · have r_k2 : zr (-1) (-1) k2 := zeq_x (show zr (-1) (-1) (-1) from by decide) c_18
          exact hJ26 H locs ls S_2 x2_1 r_x2_1 gS_2 hm2 E hP hD hS (lv_sub hl [0, 1] rfl)
        · have qgp_k2 : zgt P k2 := (qogp_k2).resolve_left c_18
          have r_k2 : zr 0 119 k2 := zne_lo r_k2 c_18 (by decide)
          have qgr_x2_1 : zgr P x2_1 := by unfold zgr; rw [← ek2]; exact r_k2
          refine lv_aload_n hx hb dPR_takeAllHolds_21 rfl (lv_at hl 0 rfl) ?_
          refine lv_iload_n hx hb dPR_takeAllHolds_22 rfl (lv_at hl 1 rfl) ?_
          refine zcV (va_runV (As := [.int x2_1]) (rest := []) ⟨hx, hb, hml, hown, zno⟩ (tPR_takeHold l dC dI cI cZ cJ cA a0 s0 o b P S_2 H.size x2_1 gP gS_2 gQ r_x2_1 qgr_x2_1) (zcw 1 (hB.word (zm3 k3_20) rfl) (hB.word (zm1 k1_6) rfl) (hB.word (zm3 k3_17) rfl) (hB.word (zm3 k3_19) rfl) (k2_selects_private (by decide) (hB.word (zm1 k1_125) rfl) (hB.word (zm3 k3_18) rfl) (hB.word (zm3 k3_19) rfl)) rfl rfl (by decide +kernel) ⟨Nat.le_of_ble_eq_true rfl, Nat.le_of_ble_eq_true rfl⟩) ⟨zP_blind, va_recv hK hP (ci := 4) (q0 := 4) rfl rfl, zP_pre hP hK hD hAD (zB_on hB hA0 hS)⟩ rfl rfl hl.1 rfl (lv_room (Nat.le_of_ble_eq_true rfl)) dPR_takeAllHolds_23 ⟨Nat.le_of_ble_eq_true rfl, Nat.le_of_ble_eq_true rfl⟩) hD hS hA (fun S4 H3 locs h5 hP hD hS => ?_)
          have E := zl_s E h5.1
          have gS4 := h5.2
          exact hJ26 H3 locs ls S4 x2_1 r_x2_1 gS4 hm2 E hP hD hS (lv_sub hl [0, 1] rfl)
  refine lv_iconst (v := 0) hx hb dPR_takeAllHolds_0 (by decide) ?_
  refine lv_istore_n (lv' := [(1, .int 0), (0, .ref (o 4))]) hx hb dPR_takeAllHolds_1 rfl hl (by decide) rfl (fun ls hl => ?_)
  exact hL2 7 s.heap [] ls S 0 (show zr 0 6 0 from by decide) gS (by have h9 := (show zr 0 0 0 from by decide); exact zfuelU h9 (by decide)) E hP hD hS (lv_sub hl [1, 0] rfl)
theorem zgp_link {P : ZS} (h : zQ P) {lk pt k1 k2 : Int32} {a b : Int} (hl : lk.toInt < (P.I 1).toInt) (r : zr 0 59 lk) (e1 : k1 = 2 * lk) (e2 : k2 = k1 + 1) (c : ¬ k2 < pt) (rp : zr a b pt) (hh : 0 ≤ a) : zgt P pt := by
  have z : (2 : Int32).toInt = 2 := by decide
  have z1 : (1 : Int32).toInt = 1 := by decide
  have r1 := r.1
  have r2 := r.2
  have q1 : k1.toInt = 2 * lk.toInt := by rw [e1, Int32.toInt_mul, z, zbm ⟨by omega, by omega⟩]
  have q2 : k2.toInt = 2 * lk.toInt + 1 := by rw [e2, Int32.toInt_add, z1, q1, zbm ⟨by omega, by omega⟩]
  have q3 := Int32.le_iff_toInt_le.mp (znlt c)
  have q4 := rp.1
  exact h.2.2.1 pt ⟨by omega, by omega⟩ (by omega)
theorem zgp_port {P : ZS} (h : zQ P) {pt k1 k2 : Int32} {a b : Int} (g : cok P) (e1 : k1 = P.I 1) (e2 : k2 = 2 * k1) (c : ¬ k2 ≤ pt) (rp : zr a b pt) (hh : 0 ≤ a) : zgt P pt := by
  have z : (2 : Int32).toInt = 2 := by decide
  have r : zr 0 60 (P.I 1) := g.2.1 1
  have r1 := r.1
  have r2 := r.2
  have q1 : k2.toInt = 2 * (P.I 1).toInt := by rw [e2, e1, Int32.toInt_mul, z, zbm ⟨by omega, by omega⟩]
  have q3 := Int32.lt_iff_toInt_lt.mp (znle c)
  have q4 := rp.1
  exact h.2.2.1 pt ⟨by omega, by omega⟩ (by omega)
noncomputable def fPR_breakLink_14 (P : ZS) (rc14 : ZS → Int32 → Int32 → (ZS)) (S_14 : ZS) (x14_1 : Int32) (x14_2 : Int32) : ZS := zl (2 * x14_1) (fun k1 => zl (k1 + 1) (fun k2 => (if k2 < x14_2 then S_14 else zl (S_14.F 14 (x14_2 : Int32).toNatClampNeg) (fun k3 => zl (k3 &&& (-9)) (fun k4 => zl (fPR_setHolds P S_14 x14_2 k4) (fun S6 => zl (fPR_beginHold P S6 x14_2 1) (fun S9 => zl (P.F 5 (x14_2 : Int32).toNatClampNeg) (fun k11 => zl (S9.F 19 (x14_1 : Int32).toNatClampNeg) (fun k12 => zl (fPR_takeNews P S9 k11 x14_1 k12) (fun S14 => zl (x14_2 + 1) (fun k16 => rc14 S14 x14_1 k16)))))))))))
noncomputable def fPR_breakLink (P S : ZS) (x0 : Int32) : ZS := zl (S.F 19 (x0 : Int32).toNatClampNeg) (fun k17 => zl (k17 + 1) (fun k18 => zl (S.setF 19 (x0 : Int32).toNatClampNeg k18) (fun S19 => zl (2 * x0) (fun k21 => zfix (fun S9 _ _ => S9) (fPR_breakLink_14 P) 121 S19 x0 k21))))
set_option maxHeartbeats 4000000 in
set_option maxRecDepth 100000 in
theorem tPR_breakLink (l : Launch) (dC : Nat → ClassId) (dI : Nat → Nat → Nat) (cI cZ cJ cA : ClassId) (a0 : Array Value) (s0 : State) (o b : Nat → Nat) (P S : ZS) (sz : Nat) (x0 : Int32) (gP : cok P) (gS : cok S) (gQ : zQ P) (r_x0 : zr 0 59 x0) (qll_x0 : x0.toInt < (P.I 1).toInt) : Met l yPR_breakLink [Cond.code yPR_breakLink bPR_breakLink 3 none] ({ frames := 3, cells := 0, slots := 0, locals := 74 } : Room) (zP zCl dC dI (zTZ cI cZ cJ cA) a0 s0 [.ref (o 4), .int x0] sz (CW cI cZ cA o b P S)) (zQG zCl dC dI (fun (x9 : ZS) => x9 = fPR_breakLink P S x0 ∧ cok x9) (fun x9 : ZS => (CW cI cZ cA o b P x9)) (va_A (CW cI cZ cA o b P S) sz)) 0 0 (va_A (CW cI cZ cA o b P S) sz) := by
  refine Met.ofW (cc := bPR_breakLink) (maxL := 3) (ret := none) (by decide) rfl ?_
  intro p e s m args below meth c s₁ B hml hv
  obtain ⟨rfl, hsz, hP, hK, hD0, hB⟩ := hv
  have hx := B.exec
  have hb := B.bytes
  have hr := B.returns
  have hown : s.vm.findClass "RingGuard$Protocol" = some m.cls := findClass_of_methodNamed B.named
  have hlocks := B.notSynchronized
  subst hsz
  have hD := hD0.self (sz := s.heap.size)
  have hA0 := zA0 hD0 hB
  generalize hAe : va_A (CW cI cZ cA o b P S) s.heap.size = A at hD hA0 ⊢
  have hAD := hA0
  have hA : ∀ q : Nat, s.heap.size ≤ q → A q := fun q h => by rw [← hAe]; exact Or.inr h
  have hS : va_S A s.heap s.heap [] := va_S.rf
  have hl := lv_entry ([.ref (o 4), .int x0]) (n := 3) (Nat.le_of_ble_eq_true rfl)
  rw [lg_entry_eq]
  generalize (lg_sl ([.ref (o 4), .int x0]) ++ List.replicate (3 - (lg_sl ([.ref (o 4), .int x0])).length) Slot.unset).toArray = ls at hl ⊢
  have hl : lv_has ls 3 [(0, .ref (o 4)), (1, .int x0)] := hl
  refine zgenQ (fun Q hQe => ?_)
  obtain ⟨tg, etg⟩ : ∃ z, z = fPR_breakLink P S x0 := ⟨_, rfl⟩
  have E := etg
  unfold fPR_breakLink at E
  have hL14 : ∀ (n14 : Nat) (H : Heap) (locs : List Loc) (ls : Array Slot) (S_14 : ZS) (x14_1 : Int32) (x14_2 : Int32), zr 0 59 x14_1 → (x14_1.toInt < (P.I 1).toInt) → zr 0 120 x14_2 → cok S_14 → 120 + 1 - x14_2.toInt ≤ (n14 : Int) → tg = zfix (fun S9 _ _ => S9) (fPR_breakLink_14 P) n14 S_14 x14_1 x14_2 → va_P (dC, dI) zCl (CW cI cZ cA o b P S_14) H → va_D A (CW cI cZ cA o b P S_14) → va_S A s.heap H locs → lv_has ls 3 [(0, .ref (o 4)), (1, .int x14_1), (2, .int x14_2)] → W p l e ({ frames := 3, cells := 0, slots := 0, locals := 74 } : Room) s m ([.ref (o 4), .int x0] : List Value).toArray below meth c H locs 0 0 Q (F0 m 14 ls []) := by
    intro n14
    induction n14 with
    | zero => intro H locs ls S_14 x14_1 x14_2 r_x14_1 qll_x14_1 r_x14_2 gS_14 hm14 E hP hD hS hl; exact absurd hm14 (zfuel0U r_x14_2)
    | succ n14 ih14 =>
      intro H locs ls S_14 x14_1 x14_2 r_x14_1 qll_x14_1 r_x14_2 gS_14 hm14 E hP hD hS hl
      rw [zfix_s] at E
      generalize zfix (fun S9 _ _ => S9) (fPR_breakLink_14 P) n14 = rc14 at ih14 E
      unfold fPR_breakLink_14 at E
      refine lv_iload_n hx hb dPR_breakLink_14 rfl (lv_at hl 2 rfl) ?_
      refine lv_iconst (v := 2) hx hb dPR_breakLink_15 (by decide) ?_
      refine lv_iload_n hx hb dPR_breakLink_16 rfl (lv_at hl 1 rfl) ?_
      refine z_imul hx hb dPR_breakLink_17 E (fun k1 ek1 E => ?_)
      have r_k1 : zr 0 118 k1 := zr_mul (show zr 2 2 2 from by decide) r_x14_1 ek1 (by decide)
      refine lv_iconst (v := 1) hx hb dPR_breakLink_18 (by decide) ?_
      refine z_iadd hx hb dPR_breakLink_19 E (fun k2 ek2 E => ?_)
      have r_k2 : zr 1 119 k2 := zr_add r_k1 (show zr 1 1 1 from by decide) ek2 (by decide)
      refine z_icmp_gt (tgt := 69) hx hb dPR_breakLink_20 (by decide) E (fun c_20 E => ?_) (fun c_20 E => ?_)
      · have r_x14_2 : zr 2 120 x14_2 := zlt_y r_k2 r_x14_2 c_20 (by decide)
        rw [hQe]
        exact W.vret hx hb hr (fun t ht hW => ⟨⟨S_14, rfl, ⟨E.symm.trans etg, gS_14⟩, by rw [ht]; exact hP, hD⟩, hS.F ht⟩) hS.2.2 dPR_breakLink_69
      · have r_x14_2 : zr 0 119 x14_2 := zle_x r_x14_2 r_k2 (znlt c_20) (by decide)
        have qgp_x14_2 : zgt P x14_2 := zgp_link gQ qll_x14_1 r_x14_1 ek1 ek2 c_20 r_x14_2 (by decide)
        refine lv_aload_n hx hb dPR_breakLink_23 rfl (lv_at hl 0 rfl) ?_
        refine lv_iload_n hx hb dPR_breakLink_24 rfl (lv_at hl 2 rfl) ?_
        refine lv_aload_n hx hb dPR_breakLink_25 rfl (lv_at hl 0 rfl) ?_
        refine c_getA_14 hx hb (hB.words zU_PR) hown hK hP (hB.word (zm1 k1_133) rfl) dPR_breakLink_26 ?_
        refine lv_iload_n hx hb dPR_breakLink_29 rfl (lv_at hl 2 rfl) ?_
        refine c_aldS hx hb hK hP 14 (by decide) rfl r_x14_2 (by decide) dPR_breakLink_30 E (fun k3 ek3 E => ?_)
        refine lv_bipush (v := (-9)) hx hb dPR_breakLink_31 (by decide) ?_
        refine z_iand hx hb dPR_breakLink_33 E (fun k4 ek4 E => ?_)
        refine zcV (va_runV (As := [.int x14_2, .int k4]) (rest := []) ⟨hx, hb, hml, hown, zno⟩ (tPR_setHolds l dC dI cI cZ cJ cA a0 s0 o b P S_14 H.size x14_2 k4 gP gS_14 r_x14_2) (zcw 2 (hB.word (zm3 k3_24) rfl) (hB.word (zm1 k1_6) rfl) (hB.word (zm3 k3_21) rfl) (hB.word (zm3 k3_23) rfl) (k2_selects_private (by decide) (hB.word (zm1 k1_125) rfl) (hB.word (zm3 k3_22) rfl) (hB.word (zm3 k3_23) rfl)) rfl rfl (by decide +kernel) ⟨Nat.le_of_ble_eq_true rfl, Nat.le_of_ble_eq_true rfl⟩) ⟨zP_blind, va_recv hK hP (ci := 4) (q0 := 4) rfl rfl, zP_pre hP hK hD hAD (zB_on hB hA0 hS)⟩ rfl rfl hl.1 rfl (lv_room (Nat.le_of_ble_eq_true rfl)) dPR_breakLink_34 ⟨Nat.le_of_ble_eq_true rfl, Nat.le_of_ble_eq_true rfl⟩) hD hS hA (fun S6 H5 locs h7 hP hD hS => ?_)
        have E := zl_s E h7.1
        have gS6 := h7.2
        refine lv_aload_n hx hb dPR_breakLink_37 rfl (lv_at hl 0 rfl) ?_
        refine lv_iload_n hx hb dPR_breakLink_38 rfl (lv_at hl 2 rfl) ?_
        refine lv_iconst (v := 1) hx hb dPR_breakLink_39 (by decide) ?_
        refine zcV (va_runV (As := [.int x14_2, .int 1]) (rest := []) ⟨hx, hb, hml, hown, zno⟩ (tPR_beginHold l dC dI cI cZ cJ cA a0 s0 o b P S6 H5.size x14_2 1 gP gS6 gQ r_x14_2 qgp_x14_2) (zcw 2 (hB.word (zm3 k3_71) rfl) (hB.word (zm1 k1_6) rfl) (hB.word (zm3 k3_68) rfl) (hB.word (zm3 k3_70) rfl) (k2_selects_private (by decide) (hB.word (zm1 k1_125) rfl) (hB.word (zm3 k3_69) rfl) (hB.word (zm3 k3_70) rfl)) rfl rfl (by decide +kernel) ⟨Nat.le_of_ble_eq_true rfl, Nat.le_of_ble_eq_true rfl⟩) ⟨zP_blind, va_recv hK hP (ci := 4) (q0 := 4) rfl rfl, zP_pre hP hK hD hAD (zB_on hB hA0 hS)⟩ rfl rfl hl.1 rfl (lv_room (Nat.le_of_ble_eq_true rfl)) dPR_breakLink_40 ⟨Nat.le_of_ble_eq_true rfl, Nat.le_of_ble_eq_true rfl⟩) hD hS hA (fun S9 H8 locs h10 hP hD hS => ?_)
        have E := zl_s E h10.1
        have gS9 := h10.2
        refine lv_aload_n hx hb dPR_breakLink_43 rfl (lv_at hl 0 rfl) ?_
        refine lv_aload_n hx hb dPR_breakLink_44 rfl (lv_at hl 0 rfl) ?_
        refine c_getO_PR_plan hx hb (hB.words zU_PR) hown hK hP (hB.word (zm1 k1_130) rfl) dPR_breakLink_45 ?_
        refine c_getA_5 hx hb (hB.words zU_PL) hown hK hP (hB.word (zm1 k1_53) rfl) dPR_breakLink_48 ?_
        refine lv_iload_n hx hb dPR_breakLink_51 rfl (lv_at hl 2 rfl) ?_
        refine c_aldP hx hb hK hP 5 (by decide) rfl r_x14_2 (by decide) dPR_breakLink_52 E (fun k11 ek11 E => ?_)
        have r_k11 : zr 0 287 k11 := by rw [ek11]; exact gP.1 5 _
        have qgl_k11 : zgp P k11 := by rw [ek11]; exact qgp_x14_2
        refine lv_iload_n hx hb dPR_breakLink_53 rfl (lv_at hl 1 rfl) ?_
        refine lv_aload_n hx hb dPR_breakLink_54 rfl (lv_at hl 0 rfl) ?_
        refine c_getA_19 hx hb (hB.words zU_PR) hown hK hP (hB.word (zm1 k1_141) rfl) dPR_breakLink_55 ?_
        refine lv_iload_n hx hb dPR_breakLink_58 rfl (lv_at hl 1 rfl) ?_
        refine c_aldS hx hb hK hP 19 (by decide) rfl r_x14_1 (by decide) dPR_breakLink_59 E (fun k12 ek12 E => ?_)
        refine zcV (va_runV (As := [.int k11, .int x14_1, .int k12]) (rest := []) ⟨hx, hb, hml, hown, zno⟩ (tPR_takeNews l dC dI cI cZ cJ cA a0 s0 o b P S9 H8.size k11 x14_1 k12 gP gS9 r_k11 (zr_mono r_x14_1 (by decide))) (zcw 3 (hB.word (zm3 k3_28) rfl) (hB.word (zm1 k1_6) rfl) (hB.word (zm3 k3_25) rfl) (hB.word (zm3 k3_27) rfl) (k2_selects_private (by decide) (hB.word (zm1 k1_125) rfl) (hB.word (zm3 k3_26) rfl) (hB.word (zm3 k3_27) rfl)) rfl rfl (by decide +kernel) ⟨Nat.le_of_ble_eq_true rfl, Nat.le_of_ble_eq_true rfl⟩) ⟨zP_blind, va_recv hK hP (ci := 4) (q0 := 4) rfl rfl, zP_pre hP hK hD hAD (zB_on hB hA0 hS)⟩ rfl rfl hl.1 rfl (lv_room (Nat.le_of_ble_eq_true rfl)) dPR_breakLink_60 ⟨Nat.le_of_ble_eq_true rfl, Nat.le_of_ble_eq_true rfl⟩) hD hS hA (fun S14 H13 locs h15 hP hD hS => ?_)
        have E := zl_s E h15.1
        have gS14 := h15.2
        refine z_iinc (lv' := fun v9 => [(2, .int v9), (0, .ref (o 4)), (1, .int x14_1)]) (cst := 1) hx hb dPR_breakLink_63 hl (k := 2) rfl (by decide) (by decide) (fun _ => rfl) E (fun k16 ls ek16 E hl => ?_)
        have r_k16 : zr 1 120 k16 := zr_add r_x14_2 (show zr 1 1 1 from by decide) ek16 (by decide)
        refine lv_goto (tgt := 14) hx hb dPR_breakLink_66 (by decide) ?_
        exact ih14 H13 locs ls S14 x14_1 k16 r_x14_1 qll_x14_1 (zr_mono r_k16 (by decide)) gS14 (zstepU ek16 r_x14_2 (by decide) hm14) E hP hD hS (lv_sub hl [1, 2, 0] rfl)
  refine lv_aload_n hx hb dPR_breakLink_0 rfl (lv_at hl 0 rfl) ?_
  refine c_getA_19 hx hb (hB.words zU_PR) hown hK hP (hB.word (zm1 k1_141) rfl) dPR_breakLink_1 ?_
  refine lv_iload_n hx hb dPR_breakLink_4 rfl (lv_at hl 1 rfl) ?_
  refine lv_dup2_11 hx hb dPR_breakLink_5 rfl rfl ?_
  refine c_aldS hx hb hK hP 19 (by decide) rfl r_x0 (by decide) dPR_breakLink_6 E (fun k17 ek17 E => ?_)
  refine lv_iconst (v := 1) hx hb dPR_breakLink_7 (by decide) ?_
  refine z_iadd hx hb dPR_breakLink_8 E (fun k18 ek18 E => ?_)
  refine c_astS hx hb hK hP hD hS 19 (by decide) rfl r_x0 (by decide) dPR_breakLink_9 E (fun S19 H20 locs eS19 E hP hD hS => ?_)
  have gS19 : cok S19 := by rw [eS19]; exact gS.setF (k := 19) (zr_any k18) (Or.inl (by decide))
  refine lv_iconst (v := 2) hx hb dPR_breakLink_10 (by decide) ?_
  refine lv_iload_n hx hb dPR_breakLink_11 rfl (lv_at hl 1 rfl) ?_
  refine z_imul hx hb dPR_breakLink_12 E (fun k21 ek21 E => ?_)
  have r_k21 : zr 0 118 k21 := zr_mul (show zr 2 2 2 from by decide) r_x0 ek21 (by decide)
  refine lv_istore_n (lv' := [(2, .int k21), (0, .ref (o 4)), (1, .int x0)]) hx hb dPR_breakLink_13 rfl hl (by decide) rfl (fun ls hl => ?_)
  exact hL14 121 H20 locs ls S19 x0 k21 r_x0 qll_x0 (zr_mono r_k21 (by decide)) gS19 (by have h9 := r_k21; exact zfuelU h9 (by decide)) E hP hD hS (lv_sub hl [1, 2, 0] rfl)
noncomputable def fPR_mendLink (P S : ZS) (x0 : Int32) : ZS := zl (2 * x0) (fun k1 => zl (fPR_endHold P S k1 1) (fun S3 => zl (2 * x0) (fun k5 => zl (k5 + 1) (fun k6 => zl (fPR_endHold P S3 k6 1) (fun S8 => S8)))))
set_option maxHeartbeats 4000000 in
set_option maxRecDepth 100000 in
theorem tPR_mendLink (l : Launch) (dC : Nat → ClassId) (dI : Nat → Nat → Nat) (cI cZ cJ cA : ClassId) (a0 : Array Value) (s0 : State) (o b : Nat → Nat) (P S : ZS) (sz : Nat) (x0 : Int32) (gP : cok P) (gS : cok S) (r_x0 : zr 0 59 x0) : Met l yPR_mendLink [Cond.code yPR_mendLink bPR_mendLink 2 none] ({ frames := 2, cells := 0, slots := 0, locals := 44 } : Room) (zP zCl dC dI (zTZ cI cZ cJ cA) a0 s0 [.ref (o 4), .int x0] sz (CW cI cZ cA o b P S)) (zQG zCl dC dI (fun (x9 : ZS) => x9 = fPR_mendLink P S x0 ∧ cok x9) (fun x9 : ZS => (CW cI cZ cA o b P x9)) (va_A (CW cI cZ cA o b P S) sz)) 0 0 (va_A (CW cI cZ cA o b P S) sz) := by
  refine Met.ofW (cc := bPR_mendLink) (maxL := 2) (ret := none) (by decide) rfl ?_
  intro p e s m args below meth c s₁ B hml hv
  obtain ⟨rfl, hsz, hP, hK, hD0, hB⟩ := hv
  have hx := B.exec
  have hb := B.bytes
  have hr := B.returns
  have hown : s.vm.findClass "RingGuard$Protocol" = some m.cls := findClass_of_methodNamed B.named
  have hlocks := B.notSynchronized
  subst hsz
  have hD := hD0.self (sz := s.heap.size)
  have hA0 := zA0 hD0 hB
  generalize hAe : va_A (CW cI cZ cA o b P S) s.heap.size = A at hD hA0 ⊢
  have hAD := hA0
  have hA : ∀ q : Nat, s.heap.size ≤ q → A q := fun q h => by rw [← hAe]; exact Or.inr h
  have hS : va_S A s.heap s.heap [] := va_S.rf
  have hl := lv_entry ([.ref (o 4), .int x0]) (n := 2) (Nat.le_of_ble_eq_true rfl)
  rw [lg_entry_eq]
  generalize (lg_sl ([.ref (o 4), .int x0]) ++ List.replicate (2 - (lg_sl ([.ref (o 4), .int x0])).length) Slot.unset).toArray = ls at hl ⊢
  have hl : lv_has ls 2 [(0, .ref (o 4)), (1, .int x0)] := hl
  refine zgenQ (fun Q hQe => ?_)
  obtain ⟨tg, etg⟩ : ∃ z, z = fPR_mendLink P S x0 := ⟨_, rfl⟩
  have E := etg
  unfold fPR_mendLink at E
  refine lv_aload_n hx hb dPR_mendLink_0 rfl (lv_at hl 0 rfl) ?_
  refine lv_iconst (v := 2) hx hb dPR_mendLink_1 (by decide) ?_
  refine lv_iload_n hx hb dPR_mendLink_2 rfl (lv_at hl 1 rfl) ?_
  refine z_imul hx hb dPR_mendLink_3 E (fun k1 ek1 E => ?_)
  have r_k1 : zr 0 118 k1 := zr_mul (show zr 2 2 2 from by decide) r_x0 ek1 (by decide)
  refine lv_iconst (v := 1) hx hb dPR_mendLink_4 (by decide) ?_
  refine zcV (va_runV (As := [.int k1, .int 1]) (rest := []) ⟨hx, hb, hml, hown, zno⟩ (tPR_endHold l dC dI cI cZ cJ cA a0 s0 o b P S s.heap.size k1 1 gP gS (zr_mono r_k1 (by decide))) (zcw 2 (hB.word (zm3 k3_108) rfl) (hB.word (zm1 k1_6) rfl) (hB.word (zm3 k3_105) rfl) (hB.word (zm3 k3_107) rfl) (k2_selects_private (by decide) (hB.word (zm1 k1_125) rfl) (hB.word (zm3 k3_106) rfl) (hB.word (zm3 k3_107) rfl)) rfl rfl (by decide +kernel) ⟨Nat.le_of_ble_eq_true rfl, Nat.le_of_ble_eq_true rfl⟩) ⟨zP_blind, va_recv hK hP (ci := 4) (q0 := 4) rfl rfl, zP_pre hP hK hD hAD (zB_on hB hA0 hS)⟩ rfl rfl hl.1 rfl (lv_room (Nat.le_of_ble_eq_true rfl)) dPR_mendLink_5 ⟨Nat.le_of_ble_eq_true rfl, Nat.le_of_ble_eq_true rfl⟩) hD hS hA (fun S3 H2 locs h4 hP hD hS => ?_)
  have E := zl_s E h4.1
  have gS3 := h4.2
  refine lv_aload_n hx hb dPR_mendLink_8 rfl (lv_at hl 0 rfl) ?_
  refine lv_iconst (v := 2) hx hb dPR_mendLink_9 (by decide) ?_
  refine lv_iload_n hx hb dPR_mendLink_10 rfl (lv_at hl 1 rfl) ?_
  refine z_imul hx hb dPR_mendLink_11 E (fun k5 ek5 E => ?_)
  have r_k5 : zr 0 118 k5 := zr_mul (show zr 2 2 2 from by decide) r_x0 ek5 (by decide)
  refine lv_iconst (v := 1) hx hb dPR_mendLink_12 (by decide) ?_
  refine z_iadd hx hb dPR_mendLink_13 E (fun k6 ek6 E => ?_)
  have r_k6 : zr 1 119 k6 := zr_add r_k5 (show zr 1 1 1 from by decide) ek6 (by decide)
  refine lv_iconst (v := 1) hx hb dPR_mendLink_14 (by decide) ?_
  refine zcV (va_runV (As := [.int k6, .int 1]) (rest := []) ⟨hx, hb, hml, hown, zno⟩ (tPR_endHold l dC dI cI cZ cJ cA a0 s0 o b P S3 H2.size k6 1 gP gS3 (zr_mono r_k6 (by decide))) (zcw 2 (hB.word (zm3 k3_108) rfl) (hB.word (zm1 k1_6) rfl) (hB.word (zm3 k3_105) rfl) (hB.word (zm3 k3_107) rfl) (k2_selects_private (by decide) (hB.word (zm1 k1_125) rfl) (hB.word (zm3 k3_106) rfl) (hB.word (zm3 k3_107) rfl)) rfl rfl (by decide +kernel) ⟨Nat.le_of_ble_eq_true rfl, Nat.le_of_ble_eq_true rfl⟩) ⟨zP_blind, va_recv hK hP (ci := 4) (q0 := 4) rfl rfl, zP_pre hP hK hD hAD (zB_on hB hA0 hS)⟩ rfl rfl hl.1 rfl (lv_room (Nat.le_of_ble_eq_true rfl)) dPR_mendLink_15 ⟨Nat.le_of_ble_eq_true rfl, Nat.le_of_ble_eq_true rfl⟩) hD hS hA (fun S8 H7 locs h9 hP hD hS => ?_)
  have E := zl_s E h9.1
  have gS8 := h9.2
  rw [hQe]
  exact W.vret hx hb hr (fun t ht hW => ⟨⟨S8, rfl, ⟨E.symm.trans etg, gS8⟩, by rw [ht]; exact hP, hD⟩, hS.F ht⟩) hS.2.2 dPR_mendLink_18
noncomputable def fPR_giveCommand (P S : ZS) (x0 : Int32) (x1 : Int32) : ZS × Int32 := zl (S.F 14 (x0 : Int32).toNatClampNeg) (fun k1 => zl (k1 &&& x1) (fun k2 => (if k2 = 0 then zl (P.F 5 (x0 : Int32).toNatClampNeg) (fun k3 => zl (k3 / 6) (fun k4 => zl2 (fPR_endCommand P S k3) (fun S7 k6 => zl (fPR_beginHold P S7 x0 x1) (fun S10 => zl (S10.F 20 (k4 : Int32).toNatClampNeg) (fun k12 => zl (k12 + 1) (fun k13 => zl (S10.setF 20 (k4 : Int32).toNatClampNeg k13) (fun S14 => zl (60 + k4) (fun k16 => zl (S14.F 20 (k4 : Int32).toNatClampNeg) (fun k17 => zl (fPR_takeNews P S14 k3 k16 k17) (fun S19 => (S19, 1))))))))))) else (S, 0))))
set_option maxHeartbeats 4000000 in
set_option maxRecDepth 100000 in
theorem tPR_giveCommand (l : Launch) (dC : Nat → ClassId) (dI : Nat → Nat → Nat) (cI cZ cJ cA : ClassId) (a0 : Array Value) (s0 : State) (o b : Nat → Nat) (P S : ZS) (sz : Nat) (x0 : Int32) (x1 : Int32) (gP : cok P) (gS : cok S) (gQ : zQ P) (r_x0 : zr 0 119 x0) (qgp_x0 : zgt P x0) : Met l yPR_giveCommand [Cond.code yPR_giveCommand bPR_giveCommand 5 (some .boolean)] ({ frames := 3, cells := 0, slots := 0, locals := 74 } : Room) (zP zCl dC dI (zTZ cI cZ cJ cA) a0 s0 [.ref (o 4), .int x0, .int x1] sz (CW cI cZ cA o b P S)) (zQH zCl dC dI (fun (r : Int32) (x9 : ZS) => (x9, r) = fPR_giveCommand P S x0 x1 ∧ cok x9 ∧ zr 0 1 r) (fun x9 : ZS => (CW cI cZ cA o b P x9)) (va_A (CW cI cZ cA o b P S) sz)) 0 0 (va_A (CW cI cZ cA o b P S) sz) := by
  refine Met.ofW (cc := bPR_giveCommand) (maxL := 5) (ret := (some .boolean)) (by decide) rfl ?_
  intro p e s m args below meth c s₁ B hml hv
  obtain ⟨rfl, hsz, hP, hK, hD0, hB⟩ := hv
  have hx := B.exec
  have hb := B.bytes
  have hr := B.returns
  have hown : s.vm.findClass "RingGuard$Protocol" = some m.cls := findClass_of_methodNamed B.named
  have hlocks := B.notSynchronized
  subst hsz
  have hD := hD0.self (sz := s.heap.size)
  have hA0 := zA0 hD0 hB
  generalize hAe : va_A (CW cI cZ cA o b P S) s.heap.size = A at hD hA0 ⊢
  have hAD := hA0
  have hA : ∀ q : Nat, s.heap.size ≤ q → A q := fun q h => by rw [← hAe]; exact Or.inr h
  have hS : va_S A s.heap s.heap [] := va_S.rf
  have hl := lv_entry ([.ref (o 4), .int x0, .int x1]) (n := 5) (Nat.le_of_ble_eq_true rfl)
  rw [lg_entry_eq]
  generalize (lg_sl ([.ref (o 4), .int x0, .int x1]) ++ List.replicate (5 - (lg_sl ([.ref (o 4), .int x0, .int x1])).length) Slot.unset).toArray = ls at hl ⊢
  have hl : lv_has ls 5 [(0, .ref (o 4)), (1, .int x0), (2, .int x1)] := hl
  refine zgenQ (fun Q hQe => ?_)
  obtain ⟨tg, etg⟩ : ∃ z, z = fPR_giveCommand P S x0 x1 := ⟨_, rfl⟩
  have E := etg
  unfold fPR_giveCommand at E
  refine lv_aload_n hx hb dPR_giveCommand_0 rfl (lv_at hl 0 rfl) ?_
  refine c_getA_14 hx hb (hB.words zU_PR) hown hK hP (hB.word (zm1 k1_133) rfl) dPR_giveCommand_1 ?_
  refine lv_iload_n hx hb dPR_giveCommand_4 rfl (lv_at hl 1 rfl) ?_
  refine c_aldS hx hb hK hP 14 (by decide) rfl r_x0 (by decide) dPR_giveCommand_5 E (fun k1 ek1 E => ?_)
  refine lv_iload_n hx hb dPR_giveCommand_6 rfl (lv_at hl 2 rfl) ?_
  refine z_iand hx hb dPR_giveCommand_7 E (fun k2 ek2 E => ?_)
  refine z_if_eq (tgt := 13) hx hb dPR_giveCommand_8 (by decide) E (fun c_8 E => ?_) (fun c_8 E => ?_)
  · have r_k2 : zr 0 0 k2 := zeq_x (show zr 0 0 0 from by decide) c_8
    refine lv_aload_n hx hb dPR_giveCommand_13 rfl (lv_at hl 0 rfl) ?_
    refine c_getO_PR_plan hx hb (hB.words zU_PR) hown hK hP (hB.word (zm1 k1_130) rfl) dPR_giveCommand_14 ?_
    refine c_getA_5 hx hb (hB.words zU_PL) hown hK hP (hB.word (zm1 k1_53) rfl) dPR_giveCommand_17 ?_
    refine lv_iload_n hx hb dPR_giveCommand_20 rfl (lv_at hl 1 rfl) ?_
    refine c_aldP hx hb hK hP 5 (by decide) rfl r_x0 (by decide) dPR_giveCommand_21 E (fun k3 ek3 E => ?_)
    have r_k3 : zr 0 287 k3 := by rw [ek3]; exact gP.1 5 _
    have qgl_k3 : zgp P k3 := by rw [ek3]; exact qgp_x0
    refine lv_istore_n (lv' := [(3, .int k3), (0, .ref (o 4)), (1, .int x0), (2, .int x1)]) hx hb dPR_giveCommand_22 rfl hl (by decide) rfl (fun ls hl => ?_)
    refine lv_iload_n hx hb dPR_giveCommand_23 rfl (lv_at hl 0 rfl) ?_
    refine lv_bipush (v := 6) hx hb dPR_giveCommand_24 (by decide) ?_
    refine z_idiv hx hb dPR_giveCommand_26 (by decide) E (fun k4 ek4 E => ?_)
    have r_k4 : zr 0 47 k4 := zr_div r_k3 (c := 6) (by decide) ek4 (by decide)
    refine lv_istore (lv' := [(4, .int k4), (3, .int k3), (0, .ref (o 4)), (1, .int x0), (2, .int x1)]) hx hb dPR_giveCommand_27 hl (by decide) rfl (fun ls hl => ?_)
    refine lv_aload_n hx hb dPR_giveCommand_29 rfl (lv_at hl 2 rfl) ?_
    refine lv_iload_n hx hb dPR_giveCommand_30 rfl (lv_at hl 1 rfl) ?_
    refine zcI (va_runV (As := [.int k3]) (rest := []) ⟨hx, hb, hml, hown, zno⟩ (tPR_endCommand l dC dI cI cZ cJ cA a0 s0 o b P S s.heap.size k3 gP gS gQ r_k3) (zcw 1 (hB.word (zm3 k3_137) rfl) (hB.word (zm1 k1_6) rfl) (hB.word (zm3 k3_134) rfl) (hB.word (zm3 k3_135) rfl) (hB.word (zm3 k3_136) rfl) rfl rfl (by decide +kernel) ⟨Nat.le_of_ble_eq_true rfl, Nat.le_of_ble_eq_true rfl⟩) ⟨zP_blind, va_recv hK hP (ci := 4) (q0 := 4) rfl rfl, zP_pre hP hK hD hAD (zB_on hB hA0 hS)⟩ rfl rfl hl.1 rfl (lv_room (Nat.le_of_ble_eq_true rfl)) dPR_giveCommand_31 ⟨Nat.le_of_ble_eq_true rfl, Nat.le_of_ble_eq_true rfl⟩) hD hS hA (fun k6 S7 H5 locs h8 hP hD hS => ?_)
    have E := zl2_s E h8.1
    have gS7 := h8.2.1
    refine lv_pop hx hb dPR_giveCommand_34 rfl ?_
    refine lv_aload_n hx hb dPR_giveCommand_35 rfl (lv_at hl 2 rfl) ?_
    refine lv_iload_n hx hb dPR_giveCommand_36 rfl (lv_at hl 3 rfl) ?_
    refine lv_iload_n hx hb dPR_giveCommand_37 rfl (lv_at hl 4 rfl) ?_
    refine zcV (va_runV (As := [.int x0, .int x1]) (rest := []) ⟨hx, hb, hml, hown, zno⟩ (tPR_beginHold l dC dI cI cZ cJ cA a0 s0 o b P S7 H5.size x0 x1 gP gS7 gQ r_x0 qgp_x0) (zcw 2 (hB.word (zm3 k3_71) rfl) (hB.word (zm1 k1_6) rfl) (hB.word (zm3 k3_68) rfl) (hB.word (zm3 k3_70) rfl) (k2_selects_private (by decide) (hB.word (zm1 k1_125) rfl) (hB.word (zm3 k3_69) rfl) (hB.word (zm3 k3_70) rfl)) rfl rfl (by decide +kernel) ⟨Nat.le_of_ble_eq_true rfl, Nat.le_of_ble_eq_true rfl⟩) ⟨zP_blind, va_recv hK hP (ci := 4) (q0 := 4) rfl rfl, zP_pre hP hK hD hAD (zB_on hB hA0 hS)⟩ rfl rfl hl.1 rfl (lv_room (Nat.le_of_ble_eq_true rfl)) dPR_giveCommand_38 ⟨Nat.le_of_ble_eq_true rfl, Nat.le_of_ble_eq_true rfl⟩) hD hS hA (fun S10 H9 locs h11 hP hD hS => ?_)
    have E := zl_s E h11.1
    have gS10 := h11.2
    refine lv_aload_n hx hb dPR_giveCommand_41 rfl (lv_at hl 2 rfl) ?_
    refine c_getA_20 hx hb (hB.words zU_PR) hown hK hP (hB.word (zm1 k1_142) rfl) dPR_giveCommand_42 ?_
    refine lv_iload hx hb dPR_giveCommand_45 (lv_at hl 0 rfl) ?_
    refine lv_dup2_11 hx hb dPR_giveCommand_47 rfl rfl ?_
    refine c_aldS hx hb hK hP 20 (by decide) rfl r_k4 (by decide) dPR_giveCommand_48 E (fun k12 ek12 E => ?_)
    refine lv_iconst (v := 1) hx hb dPR_giveCommand_49 (by decide) ?_
    refine z_iadd hx hb dPR_giveCommand_50 E (fun k13 ek13 E => ?_)
    refine c_astS hx hb hK hP hD hS 20 (by decide) rfl r_k4 (by decide) dPR_giveCommand_51 E (fun S14 H15 locs eS14 E hP hD hS => ?_)
    have gS14 : cok S14 := by rw [eS14]; exact gS10.setF (k := 20) (zr_any k13) (Or.inl (by decide))
    refine lv_aload_n hx hb dPR_giveCommand_52 rfl (lv_at hl 2 rfl) ?_
    refine lv_iload_n hx hb dPR_giveCommand_53 rfl (lv_at hl 1 rfl) ?_
    refine lv_bipush (v := 60) hx hb dPR_giveCommand_54 (by decide) ?_
    refine lv_iload hx hb dPR_giveCommand_56 (lv_at hl 0 rfl) ?_
    refine z_iadd hx hb dPR_giveCommand_58 E (fun k16 ek16 E => ?_)
    have r_k16 : zr 60 107 k16 := zr_add (show zr 60 60 60 from by decide) r_k4 ek16 (by decide)
    refine lv_aload_n hx hb dPR_giveCommand_59 rfl (lv_at hl 2 rfl) ?_
    refine c_getA_20 hx hb (hB.words zU_PR) hown hK hP (hB.word (zm1 k1_142) rfl) dPR_giveCommand_60 ?_
    refine lv_iload hx hb dPR_giveCommand_63 (lv_at hl 0 rfl) ?_
    refine c_aldS hx hb hK hP 20 (by decide) rfl r_k4 (by decide) dPR_giveCommand_65 E (fun k17 ek17 E => ?_)
    refine zcV (va_runV (As := [.int k3, .int k16, .int k17]) (rest := []) ⟨hx, hb, hml, hown, zno⟩ (tPR_takeNews l dC dI cI cZ cJ cA a0 s0 o b P S14 H15.size k3 k16 k17 gP gS14 r_k3 (zr_mono r_k16 (by decide))) (zcw 3 (hB.word (zm3 k3_28) rfl) (hB.word (zm1 k1_6) rfl) (hB.word (zm3 k3_25) rfl) (hB.word (zm3 k3_27) rfl) (k2_selects_private (by decide) (hB.word (zm1 k1_125) rfl) (hB.word (zm3 k3_26) rfl) (hB.word (zm3 k3_27) rfl)) rfl rfl (by decide +kernel) ⟨Nat.le_of_ble_eq_true rfl, Nat.le_of_ble_eq_true rfl⟩) ⟨zP_blind, va_recv hK hP (ci := 4) (q0 := 4) rfl rfl, zP_pre hP hK hD hAD (zB_on hB hA0 hS)⟩ rfl rfl hl.1 rfl (lv_room (Nat.le_of_ble_eq_true rfl)) dPR_giveCommand_66 ⟨Nat.le_of_ble_eq_true rfl, Nat.le_of_ble_eq_true rfl⟩) hD hS hA (fun S19 H18 locs h20 hP hD hS => ?_)
    have E := zl_s E h20.1
    have gS19 := h20.2
    refine lv_iconst (v := 1) hx hb dPR_giveCommand_69 (by decide) ?_
    rw [hQe]
    exact W.zret (v := 1) (ty := .boolean) hx hb hr (znar (show zr 0 1 1 from by decide)) (fun t ht hW => ⟨⟨1, S19, rfl, ⟨E.symm.trans etg, gS19, (show zr 0 1 1 from by decide)⟩, by rw [ht]; exact hP, hD⟩, hS.F ht⟩) hS.2.2 dPR_giveCommand_70
  · refine lv_iconst (v := 0) hx hb dPR_giveCommand_11 (by decide) ?_
    rw [hQe]
    exact W.zret (v := 0) (ty := .boolean) hx hb hr (znar (show zr 0 1 0 from by decide)) (fun t ht hW => ⟨⟨0, S, rfl, ⟨E.symm.trans etg, gS, (show zr 0 1 0 from by decide)⟩, by rw [ht]; exact hP, hD⟩, hS.F ht⟩) hS.2.2 dPR_giveCommand_12
noncomputable def fPR_hearOfBlock_80 (P : ZS) (S_80 : ZS) (x80_4 : Int32) : ZS := zl (S_80.F 14 (x80_4 : Int32).toNatClampNeg) (fun k1 => zl (k1 &&& 6) (fun k2 => zl (fPR_endHold P S_80 x80_4 k2) (fun S4 => S4)))
noncomputable def fPR_hearOfBlock_59 (P : ZS) (S_59 : ZS) (x59_1 : Int32) (x59_2 : Int32) (x59_3 : Int32) (x59_4 : Int32) (x59_5 : Int32) (y59_0 : Int32) : ZS := (if y59_0 = 0 then (if x59_5 = x59_2 then zl (x59_1 / 6) (fun k6 => (if k6 ≤ x59_3 then S_59 else fPR_hearOfBlock_80 P S_59 x59_4)) else S_59) else fPR_hearOfBlock_80 P S_59 x59_4)
noncomputable def fPR_hearOfBlock_58 (P : ZS) (S_58 : ZS) (x58_1 : Int32) (x58_2 : Int32) (x58_3 : Int32) (x58_4 : Int32) (x58_5 : Int32) : ZS := fPR_hearOfBlock_59 P S_58 x58_1 x58_2 x58_3 x58_4 x58_5 0
noncomputable def fPR_hearOfBlock_41 (P : ZS) (S_41 : ZS) (x41_1 : Int32) (x41_2 : Int32) (x41_3 : Int32) (x41_4 : Int32) (y41_0 : Int32) : ZS := (if y41_0 = 2 then (if x41_2 = 2 then fPR_hearOfBlock_58 P S_41 x41_1 x41_2 x41_3 x41_4 y41_0 else fPR_hearOfBlock_59 P S_41 x41_1 x41_2 x41_3 x41_4 y41_0 1) else fPR_hearOfBlock_58 P S_41 x41_1 x41_2 x41_3 x41_4 y41_0)
noncomputable def fPR_hearOfBlock (P S : ZS) (x0 : Int32) (x1 : Int32) (x2 : Int32) : ZS := zl (fPR_endOwnerHold P S x0) (fun S8 => zl (fPR_endWaiting P S8 x0) (fun S11 => zl (fPR_commandPort P S11 x0) (fun k14 => (if k14 = (-1) then S11 else zl (S11.F 14 (k14 : Int32).toNatClampNeg) (fun k15 => zl (k15 &&& 2) (fun k16 => (if k16 = 0 then fPR_hearOfBlock_41 P S11 x0 x1 x2 k14 2 else fPR_hearOfBlock_41 P S11 x0 x1 x2 k14 1)))))))
set_option maxHeartbeats 4000000 in
set_option maxRecDepth 100000 in
theorem tPR_hearOfBlock (l : Launch) (dC : Nat → ClassId) (dI : Nat → Nat → Nat) (cI cZ cJ cA : ClassId) (a0 : Array Value) (s0 : State) (o b : Nat → Nat) (P S : ZS) (sz : Nat) (x0 : Int32) (x1 : Int32) (x2 : Int32) (gP : cok P) (gS : cok S) (gQ : zQ P) (r_x0 : zr 0 287 x0) (qgl_x0 : zgp P x0) : Met l yPR_hearOfBlock [Cond.code yPR_hearOfBlock bPR_hearOfBlock 7 none] ({ frames := 2, cells := 0, slots := 0, locals := 45 } : Room) (zP zCl dC dI (zTZ cI cZ cJ cA) a0 s0 [.ref (o 4), .int x0, .int x1, .int x2] sz (CW cI cZ cA o b P S)) (zQG zCl dC dI (fun (x9 : ZS) => x9 = fPR_hearOfBlock P S x0 x1 x2 ∧ cok x9) (fun x9 : ZS => (CW cI cZ cA o b P x9)) (va_A (CW cI cZ cA o b P S) sz)) 0 0 (va_A (CW cI cZ cA o b P S) sz) := by
  refine Met.ofW (cc := bPR_hearOfBlock) (maxL := 7) (ret := none) (by decide) rfl ?_
  intro p e s m args below meth c s₁ B hml hv
  obtain ⟨rfl, hsz, hP, hK, hD0, hB⟩ := hv
  have hx := B.exec
  have hb := B.bytes
  have hr := B.returns
  have hown : s.vm.findClass "RingGuard$Protocol" = some m.cls := findClass_of_methodNamed B.named
  have hlocks := B.notSynchronized
  subst hsz
  have hD := hD0.self (sz := s.heap.size)
  have hA0 := zA0 hD0 hB
  generalize hAe : va_A (CW cI cZ cA o b P S) s.heap.size = A at hD hA0 ⊢
  have hAD := hA0
  have hA : ∀ q : Nat, s.heap.size ≤ q → A q := fun q h => by rw [← hAe]; exact Or.inr h
  have hS : va_S A s.heap s.heap [] := va_S.rf
  have hl := lv_entry ([.ref (o 4), .int x0, .int x1, .int x2]) (n := 7) (Nat.le_of_ble_eq_true rfl)
  rw [lg_entry_eq]
  generalize (lg_sl ([.ref (o 4), .int x0, .int x1, .int x2]) ++ List.replicate (7 - (lg_sl ([.ref (o 4), .int x0, .int x1, .int x2])).length) Slot.unset).toArray = ls at hl ⊢
  have hl : lv_has ls 7 [(0, .ref (o 4)), (1, .int x0), (2, .int x1), (3, .int x2)] := hl
  refine zgenQ (fun Q hQe => ?_)
  obtain ⟨tg, etg⟩ : ∃ z, z = fPR_hearOfBlock P S x0 x1 x2 := ⟨_, rfl⟩
  have E := etg
  unfold fPR_hearOfBlock at E
  have hJ41 : ∀ (H : Heap) (locs : List Loc) (ls : Array Slot) (S_41 : ZS) (x41_1 : Int32) (x41_2 : Int32) (x41_3 : Int32) (x41_4 : Int32) (y41_0 : Int32), zr 0 287 x41_1 → (zgp P x41_1) → zr 0 119 x41_4 → (zgt P x41_4) → (x41_4 = -1 ∨ zgt P x41_4) → zr 1 2 y41_0 → cok S_41 → tg = fPR_hearOfBlock_41 P S_41 x41_1 x41_2 x41_3 x41_4 y41_0 → va_P (dC, dI) zCl (CW cI cZ cA o b P S_41) H → va_D A (CW cI cZ cA o b P S_41) → va_S A s.heap H locs → lv_has ls 7 [(0, .ref (o 4)), (1, .int x41_1), (2, .int x41_2), (3, .int x41_3), (4, .int x41_4)] → W p l e ({ frames := 2, cells := 0, slots := 0, locals := 45 } : Room) s m ([.ref (o 4), .int x0, .int x1, .int x2] : List Value).toArray below meth c H locs 0 0 Q (F0 m 41 ls [.int y41_0]) := by
    intro H locs ls S_41 x41_1 x41_2 x41_3 x41_4 y41_0 r_x41_1 qgl_x41_1 r_x41_4 qgp_x41_4 qogp_x41_4 r_y41_0 gS_41 E hP hD hS hl
    unfold fPR_hearOfBlock_41 at E
    have hJ59 : ∀ (H : Heap) (locs : List Loc) (ls : Array Slot) (S_59 : ZS) (x59_1 : Int32) (x59_2 : Int32) (x59_3 : Int32) (x59_4 : Int32) (x59_5 : Int32) (y59_0 : Int32), zr 0 287 x59_1 → (zgp P x59_1) → zr 0 119 x59_4 → (zgt P x59_4) → (x59_4 = -1 ∨ zgt P x59_4) → zr 1 2 x59_5 → zr 0 1 y59_0 → cok S_59 → (y59_0 = 0 ∨ zr 2 2 (x59_5)) → tg = fPR_hearOfBlock_59 P S_59 x59_1 x59_2 x59_3 x59_4 x59_5 y59_0 → va_P (dC, dI) zCl (CW cI cZ cA o b P S_59) H → va_D A (CW cI cZ cA o b P S_59) → va_S A s.heap H locs → lv_has ls 7 [(0, .ref (o 4)), (1, .int x59_1), (2, .int x59_2), (3, .int x59_3), (4, .int x59_4), (5, .int x59_5)] → W p l e ({ frames := 2, cells := 0, slots := 0, locals := 45 } : Room) s m ([.ref (o 4), .int x0, .int x1, .int x2] : List Value).toArray below meth c H locs 0 0 Q (F0 m 59 ls [.int y59_0]) := by
      intro H locs ls S_59 x59_1 x59_2 x59_3 x59_4 x59_5 y59_0 r_x59_1 qgl_x59_1 r_x59_4 qgp_x59_4 qogp_x59_4 r_x59_5 r_y59_0 gS_59 cd59_0 E hP hD hS hl
      unfold fPR_hearOfBlock_59 at E
      have hJ80 : ∀ (H : Heap) (locs : List Loc) (ls : Array Slot) (S_80 : ZS) (x80_4 : Int32), zr 0 119 x80_4 → (zgt P x80_4) → (x80_4 = -1 ∨ zgt P x80_4) → cok S_80 → tg = fPR_hearOfBlock_80 P S_80 x80_4 → va_P (dC, dI) zCl (CW cI cZ cA o b P S_80) H → va_D A (CW cI cZ cA o b P S_80) → va_S A s.heap H locs → lv_has ls 7 [(0, .ref (o 4)), (4, .int x80_4)] → W p l e ({ frames := 2, cells := 0, slots := 0, locals := 45 } : Room) s m ([.ref (o 4), .int x0, .int x1, .int x2] : List Value).toArray below meth c H locs 0 0 Q (F0 m 80 ls []) := by
        intro H locs ls S_80 x80_4 r_x80_4 qgp_x80_4 qogp_x80_4 gS_80 E hP hD hS hl
        unfold fPR_hearOfBlock_80 at E
        refine lv_aload_n hx hb dPR_hearOfBlock_80 rfl (lv_at hl 0 rfl) ?_
        refine lv_iload hx hb dPR_hearOfBlock_81 (lv_at hl 1 rfl) ?_
        refine lv_aload_n hx hb dPR_hearOfBlock_83 rfl (lv_at hl 0 rfl) ?_
        refine c_getA_14 hx hb (hB.words zU_PR) hown hK hP (hB.word (zm1 k1_133) rfl) dPR_hearOfBlock_84 ?_
        refine lv_iload hx hb dPR_hearOfBlock_87 (lv_at hl 1 rfl) ?_
        refine c_aldS hx hb hK hP 14 (by decide) rfl r_x80_4 (by decide) dPR_hearOfBlock_89 E (fun k1 ek1 E => ?_)
        refine lv_bipush (v := 6) hx hb dPR_hearOfBlock_90 (by decide) ?_
        refine z_iand hx hb dPR_hearOfBlock_92 E (fun k2 ek2 E => ?_)
        have r_k2 : zr 0 6 k2 := zr_and (c := 6) (by decide) ek2 (by decide)
        refine zcV (va_runV (As := [.int x80_4, .int k2]) (rest := []) ⟨hx, hb, hml, hown, zno⟩ (tPR_endHold l dC dI cI cZ cJ cA a0 s0 o b P S_80 H.size x80_4 k2 gP gS_80 r_x80_4) (zcw 2 (hB.word (zm3 k3_108) rfl) (hB.word (zm1 k1_6) rfl) (hB.word (zm3 k3_105) rfl) (hB.word (zm3 k3_107) rfl) (k2_selects_private (by decide) (hB.word (zm1 k1_125) rfl) (hB.word (zm3 k3_106) rfl) (hB.word (zm3 k3_107) rfl)) rfl rfl (by decide +kernel) ⟨Nat.le_of_ble_eq_true rfl, Nat.le_of_ble_eq_true rfl⟩) ⟨zP_blind, va_recv hK hP (ci := 4) (q0 := 4) rfl rfl, zP_pre hP hK hD hAD (zB_on hB hA0 hS)⟩ rfl rfl hl.1 rfl (lv_room (Nat.le_of_ble_eq_true rfl)) dPR_hearOfBlock_93 ⟨Nat.le_of_ble_eq_true rfl, Nat.le_of_ble_eq_true rfl⟩) hD hS hA (fun S4 H3 locs h5 hP hD hS => ?_)
        have E := zl_s E h5.1
        have gS4 := h5.2
        rw [hQe]
        exact W.vret hx hb hr (fun t ht hW => ⟨⟨S4, rfl, ⟨E.symm.trans etg, gS4⟩, by rw [ht]; exact hP, hD⟩, hS.F ht⟩) hS.2.2 dPR_hearOfBlock_96
      refine lv_istore (lv' := [(6, .int y59_0), (0, .ref (o 4)), (1, .int x59_1), (2, .int x59_2), (3, .int x59_3), (4, .int x59_4), (5, .int x59_5)]) hx hb dPR_hearOfBlock_59 hl (by decide) rfl (fun ls hl => ?_)
      refine lv_iload hx hb dPR_hearOfBlock_61 (lv_at hl 0 rfl) ?_
      refine z_if_ne (tgt := 80) hx hb dPR_hearOfBlock_63 (by decide) E (fun c_63 E => ?_) (fun c_63 E => ?_)
      · have r_y59_0 : zr 1 1 y59_0 := zne_lo r_y59_0 c_63 (by decide)
        have r_x59_5 : zr 2 2 x59_5 := (cd59_0).resolve_left (zrne r_y59_0 (by decide))
        exact hJ80 H locs ls S_59 x59_4 r_x59_4 qgp_x59_4 qogp_x59_4 gS_59 E hP hD hS (lv_sub hl [1, 5] rfl)
      · have r_y59_0 : zr 0 0 y59_0 := zeq_x (show zr 0 0 0 from by decide) c_63
        refine lv_iload hx hb dPR_hearOfBlock_66 (lv_at hl 6 rfl) ?_
        refine lv_iload_n hx hb dPR_hearOfBlock_68 rfl (lv_at hl 3 rfl) ?_
        refine z_icmp_ne (tgt := 96) hx hb dPR_hearOfBlock_69 (by decide) E (fun c_69 E => ?_) (fun c_69 E => ?_)
        · rw [hQe]
          exact W.vret hx hb hr (fun t ht hW => ⟨⟨S_59, rfl, ⟨E.symm.trans etg, gS_59⟩, by rw [ht]; exact hP, hD⟩, hS.F ht⟩) hS.2.2 dPR_hearOfBlock_96
        · have r_x59_2 : zr 1 2 x59_2 := zeq_x r_x59_5 c_69.symm
          refine lv_iload_n hx hb dPR_hearOfBlock_72 rfl (lv_at hl 4 rfl) ?_
          refine lv_iload_n hx hb dPR_hearOfBlock_73 rfl (lv_at hl 2 rfl) ?_
          refine lv_bipush (v := 6) hx hb dPR_hearOfBlock_74 (by decide) ?_
          refine z_idiv hx hb dPR_hearOfBlock_76 (by decide) E (fun k6 ek6 E => ?_)
          have r_k6 : zr 0 47 k6 := zr_div r_x59_1 (c := 6) (by decide) ek6 (by decide)
          refine z_icmp_ge (tgt := 96) hx hb dPR_hearOfBlock_77 (by decide) E (fun c_77 E => ?_) (fun c_77 E => ?_)
          · have r_x59_3 : zr 0 2147483647 x59_3 := zle_y r_k6 (zr_any x59_3) c_77 (by decide)
            rw [hQe]
            exact W.vret hx hb hr (fun t ht hW => ⟨⟨S_59, rfl, ⟨E.symm.trans etg, gS_59⟩, by rw [ht]; exact hP, hD⟩, hS.F ht⟩) hS.2.2 dPR_hearOfBlock_96
          · have r_x59_3 : zr (-2147483648) 46 x59_3 := zlt_x (zr_any x59_3) r_k6 (znle c_77) (by decide)
            exact hJ80 H locs ls S_59 x59_4 r_x59_4 qgp_x59_4 qogp_x59_4 gS_59 E hP hD hS (lv_sub hl [1, 5] rfl)
    have hJ58 : ∀ (H : Heap) (locs : List Loc) (ls : Array Slot) (S_58 : ZS) (x58_1 : Int32) (x58_2 : Int32) (x58_3 : Int32) (x58_4 : Int32) (x58_5 : Int32), zr 0 287 x58_1 → (zgp P x58_1) → zr 0 119 x58_4 → (zgt P x58_4) → (x58_4 = -1 ∨ zgt P x58_4) → zr 1 2 x58_5 → cok S_58 → tg = fPR_hearOfBlock_58 P S_58 x58_1 x58_2 x58_3 x58_4 x58_5 → va_P (dC, dI) zCl (CW cI cZ cA o b P S_58) H → va_D A (CW cI cZ cA o b P S_58) → va_S A s.heap H locs → lv_has ls 7 [(0, .ref (o 4)), (1, .int x58_1), (2, .int x58_2), (3, .int x58_3), (4, .int x58_4), (5, .int x58_5)] → W p l e ({ frames := 2, cells := 0, slots := 0, locals := 45 } : Room) s m ([.ref (o 4), .int x0, .int x1, .int x2] : List Value).toArray below meth c H locs 0 0 Q (F0 m 58 ls []) := by
      intro H locs ls S_58 x58_1 x58_2 x58_3 x58_4 x58_5 r_x58_1 qgl_x58_1 r_x58_4 qgp_x58_4 qogp_x58_4 r_x58_5 gS_58 E hP hD hS hl
      unfold fPR_hearOfBlock_58 at E
      refine lv_iconst (v := 0) hx hb dPR_hearOfBlock_58 (by decide) ?_
      exact hJ59 H locs ls S_58 x58_1 x58_2 x58_3 x58_4 x58_5 0 r_x58_1 qgl_x58_1 r_x58_4 qgp_x58_4 qogp_x58_4 r_x58_5 (show zr 0 1 0 from by decide) gS_58 (Or.inl rfl) E hP hD hS (lv_sub hl [0, 1, 2, 3, 4, 5] rfl)
    refine lv_istore (lv' := [(5, .int y41_0), (0, .ref (o 4)), (1, .int x41_1), (2, .int x41_2), (3, .int x41_3), (4, .int x41_4)]) hx hb dPR_hearOfBlock_41 hl (by decide) rfl (fun ls hl => ?_)
    refine lv_iload hx hb dPR_hearOfBlock_43 (lv_at hl 0 rfl) ?_
    refine lv_iconst (v := 2) hx hb dPR_hearOfBlock_45 (by decide) ?_
    refine z_icmp_ne (tgt := 58) hx hb dPR_hearOfBlock_46 (by decide) E (fun c_46 E => ?_) (fun c_46 E => ?_)
    · have r_y41_0 : zr 1 1 y41_0 := zne_hi r_y41_0 c_46 (by decide)
      exact hJ58 H locs ls S_41 x41_1 x41_2 x41_3 x41_4 y41_0 r_x41_1 qgl_x41_1 r_x41_4 qgp_x41_4 qogp_x41_4 (zr_mono r_y41_0 (by decide)) gS_41 E hP hD hS (lv_sub hl [1, 2, 3, 4, 5, 0] rfl)
    · have r_y41_0 : zr 2 2 y41_0 := zeq_x (show zr 2 2 2 from by decide) c_46
      refine lv_iload_n hx hb dPR_hearOfBlock_49 rfl (lv_at hl 3 rfl) ?_
      refine lv_iconst (v := 2) hx hb dPR_hearOfBlock_50 (by decide) ?_
      refine z_icmp_eq (tgt := 58) hx hb dPR_hearOfBlock_51 (by decide) E (fun c_51 E => ?_) (fun c_51 E => ?_)
      · have r_x41_2 : zr 2 2 x41_2 := zeq_x (show zr 2 2 2 from by decide) c_51
        exact hJ58 H locs ls S_41 x41_1 x41_2 x41_3 x41_4 y41_0 r_x41_1 qgl_x41_1 r_x41_4 qgp_x41_4 qogp_x41_4 (zr_mono r_y41_0 (by decide)) gS_41 E hP hD hS (lv_sub hl [1, 2, 3, 4, 5, 0] rfl)
      · refine lv_iconst (v := 1) hx hb dPR_hearOfBlock_54 (by decide) ?_
        refine lv_goto (tgt := 59) hx hb dPR_hearOfBlock_55 (by decide) ?_
        exact hJ59 H locs ls S_41 x41_1 x41_2 x41_3 x41_4 y41_0 1 r_x41_1 qgl_x41_1 r_x41_4 qgp_x41_4 qogp_x41_4 (zr_mono r_y41_0 (by decide)) (show zr 0 1 1 from by decide) gS_41 (Or.inr r_y41_0) E hP hD hS (lv_sub hl [1, 2, 3, 4, 5, 0] rfl)
  refine lv_aload_n hx hb dPR_hearOfBlock_0 rfl (lv_at hl 0 rfl) ?_
  refine lv_iload_n hx hb dPR_hearOfBlock_1 rfl (lv_at hl 1 rfl) ?_
  refine zcV (va_runV (As := [.int x0]) (rest := []) ⟨hx, hb, hml, hown, zno⟩ (tPR_endOwnerHold l dC dI cI cZ cJ cA a0 s0 o b P S s.heap.size x0 gP gS gQ r_x0 qgl_x0) (zcw 1 (hB.word (zm3 k3_75) rfl) (hB.word (zm1 k1_6) rfl) (hB.word (zm3 k3_72) rfl) (hB.word (zm3 k3_74) rfl) (k2_selects_private (by decide) (hB.word (zm1 k1_125) rfl) (hB.word (zm3 k3_73) rfl) (hB.word (zm3 k3_74) rfl)) rfl rfl (by decide +kernel) ⟨Nat.le_of_ble_eq_true rfl, Nat.le_of_ble_eq_true rfl⟩) ⟨zP_blind, va_recv hK hP (ci := 4) (q0 := 4) rfl rfl, zP_pre hP hK hD hAD (zB_on hB hA0 hS)⟩ rfl rfl hl.1 rfl (lv_room (Nat.le_of_ble_eq_true rfl)) dPR_hearOfBlock_2 ⟨Nat.le_of_ble_eq_true rfl, Nat.le_of_ble_eq_true rfl⟩) hD hS hA (fun S8 H7 locs h9 hP hD hS => ?_)
  have E := zl_s E h9.1
  have gS8 := h9.2
  refine lv_aload_n hx hb dPR_hearOfBlock_5 rfl (lv_at hl 0 rfl) ?_
  refine lv_iload_n hx hb dPR_hearOfBlock_6 rfl (lv_at hl 1 rfl) ?_
  refine zcV (va_runV (As := [.int x0]) (rest := []) ⟨hx, hb, hml, hown, zno⟩ (tPR_endWaiting l dC dI cI cZ cJ cA a0 s0 o b P S8 H7.size x0 gP gS8 r_x0) (zcw 1 (hB.word (zm3 k3_211) rfl) (hB.word (zm1 k1_6) rfl) (hB.word (zm3 k3_208) rfl) (hB.word (zm3 k3_210) rfl) (k2_selects_private (by decide) (hB.word (zm1 k1_125) rfl) (hB.word (zm3 k3_209) rfl) (hB.word (zm3 k3_210) rfl)) rfl rfl (by decide +kernel) ⟨Nat.le_of_ble_eq_true rfl, Nat.le_of_ble_eq_true rfl⟩) ⟨zP_blind, va_recv hK hP (ci := 4) (q0 := 4) rfl rfl, zP_pre hP hK hD hAD (zB_on hB hA0 hS)⟩ rfl rfl hl.1 rfl (lv_room (Nat.le_of_ble_eq_true rfl)) dPR_hearOfBlock_7 ⟨Nat.le_of_ble_eq_true rfl, Nat.le_of_ble_eq_true rfl⟩) hD hS hA (fun S11 H10 locs h12 hP hD hS => ?_)
  have E := zl_s E h12.1
  have gS11 := h12.2
  refine lv_aload_n hx hb dPR_hearOfBlock_10 rfl (lv_at hl 0 rfl) ?_
  refine lv_iload_n hx hb dPR_hearOfBlock_11 rfl (lv_at hl 1 rfl) ?_
  refine zcallp (va_runV (As := [.int x0]) (rest := []) ⟨hx, hb, hml, hown, zno⟩ (tPR_commandPort l dC dI cI cZ cJ cA a0 s0 o b P S11 H10.size x0 gP gS11 gQ r_x0) (zcw 1 (hB.word (zm3 k3_141) rfl) (hB.word (zm1 k1_6) rfl) (hB.word (zm3 k3_138) rfl) (hB.word (zm3 k3_140) rfl) (k2_selects_private (by decide) (hB.word (zm1 k1_125) rfl) (hB.word (zm3 k3_139) rfl) (hB.word (zm3 k3_140) rfl)) rfl rfl (by decide +kernel) ⟨Nat.le_of_ble_eq_true rfl, Nat.le_of_ble_eq_true rfl⟩) ⟨zP_blind, va_recv hK hP (ci := 4) (q0 := 4) rfl rfl, zP_pre hP hK hD hAD (zB_on hB hA0 hS)⟩ rfl rfl hl.1 rfl (lv_room (Nat.le_of_ble_eq_true rfl)) dPR_hearOfBlock_12 ⟨Nat.le_of_ble_eq_true rfl, Nat.le_of_ble_eq_true rfl⟩) hS hA (fun k14 H13 locs hk14 hz1 hk1 hS => ?_)
  have hP := zKeep hP hk1
  have E := zl_s E hk14.1
  refine lv_istore (lv' := [(4, .int k14), (0, .ref (o 4)), (1, .int x0), (2, .int x1), (3, .int x2)]) hx hb dPR_hearOfBlock_15 hl (by decide) rfl (fun ls hl => ?_)
  refine lv_iload hx hb dPR_hearOfBlock_17 (lv_at hl 0 rfl) ?_
  refine lv_iconst (v := (-1)) hx hb dPR_hearOfBlock_19 (by decide) ?_
  refine z_icmp_ne (tgt := 24) hx hb dPR_hearOfBlock_20 (by decide) E (fun c_20 E => ?_) (fun c_20 E => ?_)
  · have qgp_k14 : zgt P k14 := (hk14.2.2).resolve_left c_20
    have r_k14 : zr 0 119 k14 := zne_lo hk14.2.1 c_20 (by decide)
    refine lv_aload_n hx hb dPR_hearOfBlock_24 rfl (lv_at hl 1 rfl) ?_
    refine c_getA_14 hx hb (hB.words zU_PR) hown hK hP (hB.word (zm1 k1_133) rfl) dPR_hearOfBlock_25 ?_
    refine lv_iload hx hb dPR_hearOfBlock_28 (lv_at hl 0 rfl) ?_
    refine c_aldS hx hb hK hP 14 (by decide) rfl r_k14 (by decide) dPR_hearOfBlock_30 E (fun k15 ek15 E => ?_)
    refine lv_iconst (v := 2) hx hb dPR_hearOfBlock_31 (by decide) ?_
    refine z_iand hx hb dPR_hearOfBlock_32 E (fun k16 ek16 E => ?_)
    have r_k16 : zr 0 2 k16 := zr_and (c := 2) (by decide) ek16 (by decide)
    refine z_if_eq (tgt := 40) hx hb dPR_hearOfBlock_33 (by decide) E (fun c_33 E => ?_) (fun c_33 E => ?_)
    · have r_k16 : zr 0 0 k16 := zeq_x (show zr 0 0 0 from by decide) c_33
      refine lv_iconst (v := 2) hx hb dPR_hearOfBlock_40 (by decide) ?_
      exact hJ41 H13 locs ls S11 x0 x1 x2 k14 2 r_x0 qgl_x0 r_k14 qgp_k14 hk14.2.2 (show zr 1 2 2 from by decide) gS11 E hP hD hS (lv_sub hl [1, 2, 3, 4, 0] rfl)
    · have r_k16 : zr 1 2 k16 := zne_lo r_k16 c_33 (by decide)
      refine lv_iconst (v := 1) hx hb dPR_hearOfBlock_36 (by decide) ?_
      refine lv_goto (tgt := 41) hx hb dPR_hearOfBlock_37 (by decide) ?_
      exact hJ41 H13 locs ls S11 x0 x1 x2 k14 1 r_x0 qgl_x0 r_k14 qgp_k14 hk14.2.2 (show zr 1 2 1 from by decide) gS11 E hP hD hS (lv_sub hl [1, 2, 3, 4, 0] rfl)
  · have r_k14 : zr (-1) (-1) k14 := zeq_x (show zr (-1) (-1) (-1) from by decide) c_20
    rw [hQe]
    exact W.vret hx hb hr (fun t ht hW => ⟨⟨S11, rfl, ⟨E.symm.trans etg, gS11⟩, by rw [ht]; exact hP, hD⟩, hS.F ht⟩) hS.2.2 dPR_hearOfBlock_23
noncomputable def fPR_hearOfHealing_21 (P : ZS) (S_21 : ZS) (x21_1 : Int32) (x21_2 : Int32) (y21_0 : Int32) : ZS := zl (fPL_isOwner P S_21 x21_1) (fun k2 => (if k2 = 0 then S_21 else (if y21_0 = 0 then zl (S_21.F 17 (x21_2 : Int32).toNatClampNeg) (fun k3 => (if k3 = 0 then zl (S_21.setF 17 (x21_2 : Int32).toNatClampNeg 60) (fun S4 => S4) else S_21)) else S_21)))
noncomputable def fPR_hearOfHealing (P S : ZS) (x0 : Int32) : ZS := zl (x0 - x0 / 6 * 6) (fun k6 => zl (fPR_allHolds P S x0) (fun k8 => zl (k8 &&& 23) (fun k9 => (if k9 = 0 then fPR_hearOfHealing_21 P S x0 k6 0 else fPR_hearOfHealing_21 P S x0 k6 1))))
set_option maxHeartbeats 4000000 in
set_option maxRecDepth 100000 in
theorem tPR_hearOfHealing (l : Launch) (dC : Nat → ClassId) (dI : Nat → Nat → Nat) (cI cZ cJ cA : ClassId) (a0 : Array Value) (s0 : State) (o b : Nat → Nat) (P S : ZS) (sz : Nat) (x0 : Int32) (gP : cok P) (gS : cok S) (r_x0 : zr 0 287 x0) : Met l yPR_hearOfHealing [Cond.code yPR_hearOfHealing bPR_hearOfHealing 4 none] ({ frames := 1, cells := 0, slots := 0, locals := 24 } : Room) (zP zCl dC dI (zTZ cI cZ cJ cA) a0 s0 [.ref (o 4), .int x0] sz (CW cI cZ cA o b P S)) (zQG zCl dC dI (fun (x9 : ZS) => x9 = fPR_hearOfHealing P S x0 ∧ cok x9) (fun x9 : ZS => (CW cI cZ cA o b P x9)) (va_A (CW cI cZ cA o b P S) sz)) 0 0 (va_A (CW cI cZ cA o b P S) sz) := by
  refine Met.ofW (cc := bPR_hearOfHealing) (maxL := 4) (ret := none) (by decide) rfl ?_
  intro p e s m args below meth c s₁ B hml hv
  obtain ⟨rfl, hsz, hP, hK, hD0, hB⟩ := hv
  have hx := B.exec
  have hb := B.bytes
  have hr := B.returns
  have hown : s.vm.findClass "RingGuard$Protocol" = some m.cls := findClass_of_methodNamed B.named
  have hlocks := B.notSynchronized
  subst hsz
  have hD := hD0.self (sz := s.heap.size)
  have hA0 := zA0 hD0 hB
  generalize hAe : va_A (CW cI cZ cA o b P S) s.heap.size = A at hD hA0 ⊢
  have hAD := hA0
  have hA : ∀ q : Nat, s.heap.size ≤ q → A q := fun q h => by rw [← hAe]; exact Or.inr h
  have hS : va_S A s.heap s.heap [] := va_S.rf
  have hl := lv_entry ([.ref (o 4), .int x0]) (n := 4) (Nat.le_of_ble_eq_true rfl)
  rw [lg_entry_eq]
  generalize (lg_sl ([.ref (o 4), .int x0]) ++ List.replicate (4 - (lg_sl ([.ref (o 4), .int x0])).length) Slot.unset).toArray = ls at hl ⊢
  have hl : lv_has ls 4 [(0, .ref (o 4)), (1, .int x0)] := hl
  refine zgenQ (fun Q hQe => ?_)
  obtain ⟨tg, etg⟩ : ∃ z, z = fPR_hearOfHealing P S x0 := ⟨_, rfl⟩
  have E := etg
  unfold fPR_hearOfHealing at E
  have hJ21 : ∀ (H : Heap) (locs : List Loc) (ls : Array Slot) (S_21 : ZS) (x21_1 : Int32) (x21_2 : Int32) (y21_0 : Int32), zr 0 287 x21_1 → zr 0 5 x21_2 → zr 0 1 y21_0 → cok S_21 → tg = fPR_hearOfHealing_21 P S_21 x21_1 x21_2 y21_0 → va_P (dC, dI) zCl (CW cI cZ cA o b P S_21) H → va_D A (CW cI cZ cA o b P S_21) → va_S A s.heap H locs → lv_has ls 4 [(0, .ref (o 4)), (1, .int x21_1), (2, .int x21_2)] → W p l e ({ frames := 1, cells := 0, slots := 0, locals := 24 } : Room) s m ([.ref (o 4), .int x0] : List Value).toArray below meth c H locs 0 0 Q (F0 m 21 ls [.int y21_0]) := by
    intro H locs ls S_21 x21_1 x21_2 y21_0 r_x21_1 r_x21_2 r_y21_0 gS_21 E hP hD hS hl
    unfold fPR_hearOfHealing_21 at E
    refine lv_istore_n (lv' := [(3, .int y21_0), (0, .ref (o 4)), (1, .int x21_1), (2, .int x21_2)]) hx hb dPR_hearOfHealing_21 rfl hl (by decide) rfl (fun ls hl => ?_)
    refine lv_aload_n hx hb dPR_hearOfHealing_22 rfl (lv_at hl 1 rfl) ?_
    refine c_getO_PR_plan hx hb (hB.words zU_PR) hown hK hP (hB.word (zm1 k1_130) rfl) dPR_hearOfHealing_23 ?_
    refine lv_iload_n hx hb dPR_hearOfHealing_26 rfl (lv_at hl 2 rfl) ?_
    refine zcallp (va_runV (As := [.int x21_1]) (rest := []) ⟨hx, hb, hml, hown, zno⟩ (tPL_isOwner l dC dI cI cZ cJ cA a0 s0 o b P S_21 H.size x21_1 gP gS_21 r_x21_1) (zcw 1 (hB.word (zm3 k3_79) rfl) (hB.word (zm1 k1_2) rfl) (hB.word (zm3 k3_76) rfl) (hB.word (zm3 k3_77) rfl) (hB.word (zm3 k3_78) rfl) rfl rfl (by decide +kernel) ⟨Nat.le_of_ble_eq_true rfl, Nat.le_of_ble_eq_true rfl⟩) ⟨zP_blind, va_recv hK hP (ci := 1) (q0 := 1) rfl rfl, zP_pre hP hK hD hAD (zB_on hB hA0 hS)⟩ rfl rfl hl.1 rfl (lv_room (Nat.le_of_ble_eq_true rfl)) dPR_hearOfHealing_27 ⟨Nat.le_of_ble_eq_true rfl, Nat.le_of_ble_eq_true rfl⟩) hS hA (fun k2 H1 locs hk2 hz1 hk1 hS => ?_)
    have hP := zKeep hP hk1
    have E := zl_s E hk2.1
    refine z_if_eq (tgt := 54) hx hb dPR_hearOfHealing_30 (by decide) E (fun c_30 E => ?_) (fun c_30 E => ?_)
    · have r_k2 : zr 0 0 k2 := zeq_x (show zr 0 0 0 from by decide) c_30
      rw [hQe]
      exact W.vret hx hb hr (fun t ht hW => ⟨⟨S_21, rfl, ⟨E.symm.trans etg, gS_21⟩, by rw [ht]; exact hP, hD⟩, hS.F ht⟩) hS.2.2 dPR_hearOfHealing_54
    · have r_k2 : zr 1 1 k2 := zne_lo hk2.2 c_30 (by decide)
      refine lv_iload_n hx hb dPR_hearOfHealing_33 rfl (lv_at hl 0 rfl) ?_
      refine z_if_ne (tgt := 54) hx hb dPR_hearOfHealing_34 (by decide) E (fun c_34 E => ?_) (fun c_34 E => ?_)
      · have r_y21_0 : zr 1 1 y21_0 := zne_lo r_y21_0 c_34 (by decide)
        rw [hQe]
        exact W.vret hx hb hr (fun t ht hW => ⟨⟨S_21, rfl, ⟨E.symm.trans etg, gS_21⟩, by rw [ht]; exact hP, hD⟩, hS.F ht⟩) hS.2.2 dPR_hearOfHealing_54
      · have r_y21_0 : zr 0 0 y21_0 := zeq_x (show zr 0 0 0 from by decide) c_34
        refine lv_aload_n hx hb dPR_hearOfHealing_37 rfl (lv_at hl 1 rfl) ?_
        refine c_getA_17 hx hb (hB.words zU_PR) hown hK hP (hB.word (zm1 k1_138) rfl) dPR_hearOfHealing_38 ?_
        refine lv_iload_n hx hb dPR_hearOfHealing_41 rfl (lv_at hl 3 rfl) ?_
        refine c_aldS hx hb hK hP 17 (by decide) rfl r_x21_2 (by decide) dPR_hearOfHealing_42 E (fun k3 ek3 E => ?_)
        refine z_if_ne (tgt := 54) hx hb dPR_hearOfHealing_43 (by decide) E (fun c_43 E => ?_) (fun c_43 E => ?_)
        · rw [hQe]
          exact W.vret hx hb hr (fun t ht hW => ⟨⟨S_21, rfl, ⟨E.symm.trans etg, gS_21⟩, by rw [ht]; exact hP, hD⟩, hS.F ht⟩) hS.2.2 dPR_hearOfHealing_54
        · have r_k3 : zr 0 0 k3 := zeq_x (show zr 0 0 0 from by decide) c_43
          refine lv_aload_n hx hb dPR_hearOfHealing_46 rfl (lv_at hl 1 rfl) ?_
          refine c_getA_17 hx hb (hB.words zU_PR) hown hK hP (hB.word (zm1 k1_138) rfl) dPR_hearOfHealing_47 ?_
          refine lv_iload_n hx hb dPR_hearOfHealing_50 rfl (lv_at hl 3 rfl) ?_
          refine lv_bipush (v := 60) hx hb dPR_hearOfHealing_51 (by decide) ?_
          refine c_astS hx hb hK hP hD hS 17 (by decide) rfl r_x21_2 (by decide) dPR_hearOfHealing_53 E (fun S4 H5 locs eS4 E hP hD hS => ?_)
          have gS4 : cok S4 := by rw [eS4]; exact gS_21.setF (k := 17) (show zr (-2147483648) 2147483647 60 from by decide) (Or.inl (by decide))
          rw [hQe]
          exact W.vret hx hb hr (fun t ht hW => ⟨⟨S4, rfl, ⟨E.symm.trans etg, gS4⟩, by rw [ht]; exact hP, hD⟩, hS.F ht⟩) hS.2.2 dPR_hearOfHealing_54
  refine lv_iload_n hx hb dPR_hearOfHealing_0 rfl (lv_at hl 1 rfl) ?_
  refine lv_bipush (v := 6) hx hb dPR_hearOfHealing_1 (by decide) ?_
  refine z_irem hx hb dPR_hearOfHealing_3 (by decide) E (fun k6 ek6 E => ?_)
  have r_k6 : zr 0 5 k6 := (zr_rem (lo := 0) (hi := 5) r_x0 (c := 6) (by decide) ek6 (by decide)).1
  refine lv_istore_n (lv' := [(2, .int k6), (0, .ref (o 4)), (1, .int x0)]) hx hb dPR_hearOfHealing_4 rfl hl (by decide) rfl (fun ls hl => ?_)
  refine lv_aload_n hx hb dPR_hearOfHealing_5 rfl (lv_at hl 1 rfl) ?_
  refine lv_iload_n hx hb dPR_hearOfHealing_6 rfl (lv_at hl 2 rfl) ?_
  refine zcallp (va_runV (As := [.int x0]) (rest := []) ⟨hx, hb, hml, hown, zno⟩ (tPR_allHolds l dC dI cI cZ cJ cA a0 s0 o b P S s.heap.size x0 gP gS r_x0) (zcw 1 (hB.word (zm3 k3_219) rfl) (hB.word (zm1 k1_6) rfl) (hB.word (zm3 k3_216) rfl) (hB.word (zm3 k3_218) rfl) (k2_selects_private (by decide) (hB.word (zm1 k1_125) rfl) (hB.word (zm3 k3_217) rfl) (hB.word (zm3 k3_218) rfl)) rfl rfl (by decide +kernel) ⟨Nat.le_of_ble_eq_true rfl, Nat.le_of_ble_eq_true rfl⟩) ⟨zP_blind, va_recv hK hP (ci := 4) (q0 := 4) rfl rfl, zP_pre hP hK hD hAD (zB_on hB hA0 hS)⟩ rfl rfl hl.1 rfl (lv_room (Nat.le_of_ble_eq_true rfl)) dPR_hearOfHealing_7 ⟨Nat.le_of_ble_eq_true rfl, Nat.le_of_ble_eq_true rfl⟩) hS hA (fun k8 H7 locs hk8 hz1 hk1 hS => ?_)
  have hP := zKeep hP hk1
  have E := zl_s E hk8.1
  refine lv_bipush (v := 23) hx hb dPR_hearOfHealing_10 (by decide) ?_
  refine z_iand hx hb dPR_hearOfHealing_12 E (fun k9 ek9 E => ?_)
  have r_k9 : zr 0 23 k9 := zr_and (c := 23) (by decide) ek9 (by decide)
  refine z_if_eq (tgt := 20) hx hb dPR_hearOfHealing_13 (by decide) E (fun c_13 E => ?_) (fun c_13 E => ?_)
  · have r_k9 : zr 0 0 k9 := zeq_x (show zr 0 0 0 from by decide) c_13
    refine lv_iconst (v := 0) hx hb dPR_hearOfHealing_20 (by decide) ?_
    exact hJ21 H7 locs ls S x0 k6 0 r_x0 r_k6 (show zr 0 1 0 from by decide) gS E hP hD hS (lv_sub hl [1, 2, 0] rfl)
  · have r_k9 : zr 1 23 k9 := zne_lo r_k9 c_13 (by decide)
    refine lv_iconst (v := 1) hx hb dPR_hearOfHealing_16 (by decide) ?_
    refine lv_goto (tgt := 21) hx hb dPR_hearOfHealing_17 (by decide) ?_
    exact hJ21 H7 locs ls S x0 k6 1 r_x0 r_k6 (show zr 0 1 1 from by decide) gS E hP hD hS (lv_sub hl [1, 2, 0] rfl)
noncomputable def fPR_hear_23 (P : ZS) (S_23 : ZS) (x23_1 : Int32) (x23_2 : Int32) (x23_3 : Int32) : ZS := zl (S_23.F 15 (x23_1 : Int32).toNatClampNeg) (fun k1 => (if k1 ≤ 0 then (if x23_3 = 0 then zl (fCA_sourceOf P S_23 x23_2) (fun k3 => zl (fPR_hearOfBlock P S_23 x23_1 x23_3 k3) (fun S5 => S5)) else (if x23_3 = 1 then zl (fCA_sourceOf P S_23 x23_2) (fun k8 => zl (fPR_hearOfBlock P S_23 x23_1 x23_3 k8) (fun S10 => S10)) else (if x23_3 = 2 then zl (fCA_sourceOf P S_23 x23_2) (fun k13 => zl (fPR_hearOfBlock P S_23 x23_1 x23_3 k13) (fun S15 => S15)) else (if x23_3 = 3 then zl (fPR_hearOfHealing P S_23 x23_1) (fun S18 => S18) else (if x23_3 = 4 then zl (fPR_endWaiting P S_23 x23_1) (fun S21 => S21) else S_23))))) else S_23))
noncomputable def fPR_hear (P S : ZS) (x0 : Int32) (x1 : Int32) : ZS := zl (fCA_kindOf P S x1) (fun k24 => (if k24 = 3 then fPR_hear_23 P S x0 x1 k24 else zl (fCA_nameOf P S x1) (fun k26 => zl (fCA_numberOf P S x1) (fun k28 => zl (fPR_takeNews P S x0 k26 k28) (fun S30 => fPR_hear_23 P S30 x0 x1 k24)))))
set_option maxHeartbeats 4000000 in
set_option maxRecDepth 100000 in
theorem tPR_hear (l : Launch) (dC : Nat → ClassId) (dI : Nat → Nat → Nat) (cI cZ cJ cA : ClassId) (a0 : Array Value) (s0 : State) (o b : Nat → Nat) (P S : ZS) (sz : Nat) (x0 : Int32) (x1 : Int32) (gP : cok P) (gS : cok S) (gQ : zQ P) (r_x0 : zr 0 287 x0) (qgl_x0 : zgp P x0) (qck_x1 : zck x1) : Met l yPR_hear [Cond.code yPR_hear bPR_hear 4 none] ({ frames := 3, cells := 0, slots := 0, locals := 74 } : Room) (zP zCl dC dI (zTZ cI cZ cJ cA) a0 s0 [.ref (o 4), .int x0, .int x1] sz (CW cI cZ cA o b P S)) (zQG zCl dC dI (fun (x9 : ZS) => x9 = fPR_hear P S x0 x1 ∧ cok x9) (fun x9 : ZS => (CW cI cZ cA o b P x9)) (va_A (CW cI cZ cA o b P S) sz)) 0 0 (va_A (CW cI cZ cA o b P S) sz) := by
  refine Met.ofW (cc := bPR_hear) (maxL := 4) (ret := none) (by decide) rfl ?_
  intro p e s m args below meth c s₁ B hml hv
  obtain ⟨rfl, hsz, hP, hK, hD0, hB⟩ := hv
  have hx := B.exec
  have hb := B.bytes
  have hr := B.returns
  have hown : s.vm.findClass "RingGuard$Protocol" = some m.cls := findClass_of_methodNamed B.named
  have hlocks := B.notSynchronized
  subst hsz
  have hD := hD0.self (sz := s.heap.size)
  have hA0 := zA0 hD0 hB
  generalize hAe : va_A (CW cI cZ cA o b P S) s.heap.size = A at hD hA0 ⊢
  have hAD := hA0
  have hA : ∀ q : Nat, s.heap.size ≤ q → A q := fun q h => by rw [← hAe]; exact Or.inr h
  have hS : va_S A s.heap s.heap [] := va_S.rf
  have hl := lv_entry ([.ref (o 4), .int x0, .int x1]) (n := 4) (Nat.le_of_ble_eq_true rfl)
  rw [lg_entry_eq]
  generalize (lg_sl ([.ref (o 4), .int x0, .int x1]) ++ List.replicate (4 - (lg_sl ([.ref (o 4), .int x0, .int x1])).length) Slot.unset).toArray = ls at hl ⊢
  have hl : lv_has ls 4 [(0, .ref (o 4)), (1, .int x0), (2, .int x1)] := hl
  refine zgenQ (fun Q hQe => ?_)
  obtain ⟨tg, etg⟩ : ∃ z, z = fPR_hear P S x0 x1 := ⟨_, rfl⟩
  have E := etg
  unfold fPR_hear at E
  have hJ23 : ∀ (H : Heap) (locs : List Loc) (ls : Array Slot) (S_23 : ZS) (x23_1 : Int32) (x23_2 : Int32) (x23_3 : Int32), zr 0 287 x23_1 → (zgp P x23_1) → (zck x23_2) → (x23_2 = -1 ∨ zck x23_2) → zr 0 7 x23_3 → cok S_23 → tg = fPR_hear_23 P S_23 x23_1 x23_2 x23_3 → va_P (dC, dI) zCl (CW cI cZ cA o b P S_23) H → va_D A (CW cI cZ cA o b P S_23) → va_S A s.heap H locs → lv_has ls 4 [(0, .ref (o 4)), (1, .int x23_1), (2, .int x23_2), (3, .int x23_3)] → W p l e ({ frames := 3, cells := 0, slots := 0, locals := 74 } : Room) s m ([.ref (o 4), .int x0, .int x1] : List Value).toArray below meth c H locs 0 0 Q (F0 m 23 ls []) := by
    intro H locs ls S_23 x23_1 x23_2 x23_3 r_x23_1 qgl_x23_1 qck_x23_2 qock_x23_2 r_x23_3 gS_23 E hP hD hS hl
    unfold fPR_hear_23 at E
    refine lv_aload_n hx hb dPR_hear_23 rfl (lv_at hl 0 rfl) ?_
    refine c_getA_15 hx hb (hB.words zU_PR) hown hK hP (hB.word (zm1 k1_135) rfl) dPR_hear_24 ?_
    refine lv_iload_n hx hb dPR_hear_27 rfl (lv_at hl 1 rfl) ?_
    refine c_aldS hx hb hK hP 15 (by decide) rfl r_x23_1 (by decide) dPR_hear_28 E (fun k1 ek1 E => ?_)
    refine z_if_le (tgt := 33) hx hb dPR_hear_29 (by decide) E (fun c_29 E => ?_) (fun c_29 E => ?_)
    · have r_k1 : zr (-2147483648) 0 k1 := zle_x (zr_any k1) (show zr 0 0 0 from by decide) c_29 (by decide)
      refine lv_iload_n hx hb dPR_hear_33 rfl (lv_at hl 3 rfl) ?_
      refine z_case (v := 0) E (fun c_34_0 E => ?_) (fun c_34_0 E => ?_)
      · refine z_tabIn (w := 0) (off := 34) (tgt := 68) hx hb dPR_hear_34 c_34_0 (by decide) (by decide) rfl (by decide) ?_
        refine lv_aload_n hx hb dPR_hear_68 rfl (lv_at hl 0 rfl) ?_
        refine lv_iload_n hx hb dPR_hear_69 rfl (lv_at hl 1 rfl) ?_
        refine lv_iload_n hx hb dPR_hear_70 rfl (lv_at hl 3 rfl) ?_
        refine lv_iload_n hx hb dPR_hear_71 rfl (lv_at hl 2 rfl) ?_
        refine zcallp (va_runS (As := [.int x23_2]) (rest := [.int x23_3, .int x23_1, .ref (o 4)]) ⟨hx, hb, hml, hown, zno⟩ (tCA_sourceOf l dC dI cI cZ cJ cA a0 s0 o b P S_23 H.size x23_2 gP gS_23) ⟨zcb 1 (hB.word (zm3 k3_190) rfl) (hB.word (zm1 k1_15) rfl) (hB.word (zm3 k3_188) rfl) rfl rfl (by decide +kernel) ⟨Nat.le_of_ble_eq_true rfl, Nat.le_of_ble_eq_true rfl⟩, hB.word (zm3 k3_189) rfl⟩ ⟨zP_blind, zP_pre hP hK hD hAD (zB_on hB hA0 hS)⟩ rfl rfl hl.1 rfl (lv_room (Nat.le_of_ble_eq_true rfl)) dPR_hear_72 ⟨Nat.le_of_ble_eq_true rfl, Nat.le_of_ble_eq_true rfl⟩) hS hA (fun k3 H2 locs hk3 hz1 hk1 hS => ?_)
        have hP := zKeep hP hk1
        have E := zl_s E hk3.1
        refine zcV (va_runV (As := [.int x23_1, .int x23_3, .int k3]) (rest := []) ⟨hx, hb, hml, hown, zno⟩ (tPR_hearOfBlock l dC dI cI cZ cJ cA a0 s0 o b P S_23 H2.size x23_1 x23_3 k3 gP gS_23 gQ r_x23_1 qgl_x23_1) (zcw 3 (hB.word (zm3 k3_207) rfl) (hB.word (zm1 k1_6) rfl) (hB.word (zm3 k3_204) rfl) (hB.word (zm3 k3_206) rfl) (k2_selects_private (by decide) (hB.word (zm1 k1_125) rfl) (hB.word (zm3 k3_205) rfl) (hB.word (zm3 k3_206) rfl)) rfl rfl (by decide +kernel) ⟨Nat.le_of_ble_eq_true rfl, Nat.le_of_ble_eq_true rfl⟩) ⟨zP_blind, va_recv hK hP (ci := 4) (q0 := 4) rfl rfl, zP_pre hP hK hD hAD (zB_on hB hA0 hS)⟩ rfl rfl hl.1 rfl (lv_room (Nat.le_of_ble_eq_true rfl)) dPR_hear_75 ⟨Nat.le_of_ble_eq_true rfl, Nat.le_of_ble_eq_true rfl⟩) hD hS hA (fun S5 H4 locs h6 hP hD hS => ?_)
        have E := zl_s E h6.1
        have gS5 := h6.2
        refine lv_goto (tgt := 97) hx hb dPR_hear_78 (by decide) ?_
        rw [hQe]
        exact W.vret hx hb hr (fun t ht hW => ⟨⟨S5, rfl, ⟨E.symm.trans etg, gS5⟩, by rw [ht]; exact hP, hD⟩, hS.F ht⟩) hS.2.2 dPR_hear_97
      · skip
        refine z_case (v := 1) E (fun c_34_1 E => ?_) (fun c_34_1 E => ?_)
        · refine z_tabIn (w := 1) (off := 34) (tgt := 68) hx hb dPR_hear_34 c_34_1 (by decide) (by decide) rfl (by decide) ?_
          refine lv_aload_n hx hb dPR_hear_68 rfl (lv_at hl 0 rfl) ?_
          refine lv_iload_n hx hb dPR_hear_69 rfl (lv_at hl 1 rfl) ?_
          refine lv_iload_n hx hb dPR_hear_70 rfl (lv_at hl 3 rfl) ?_
          refine lv_iload_n hx hb dPR_hear_71 rfl (lv_at hl 2 rfl) ?_
          refine zcallp (va_runS (As := [.int x23_2]) (rest := [.int x23_3, .int x23_1, .ref (o 4)]) ⟨hx, hb, hml, hown, zno⟩ (tCA_sourceOf l dC dI cI cZ cJ cA a0 s0 o b P S_23 H.size x23_2 gP gS_23) ⟨zcb 1 (hB.word (zm3 k3_190) rfl) (hB.word (zm1 k1_15) rfl) (hB.word (zm3 k3_188) rfl) rfl rfl (by decide +kernel) ⟨Nat.le_of_ble_eq_true rfl, Nat.le_of_ble_eq_true rfl⟩, hB.word (zm3 k3_189) rfl⟩ ⟨zP_blind, zP_pre hP hK hD hAD (zB_on hB hA0 hS)⟩ rfl rfl hl.1 rfl (lv_room (Nat.le_of_ble_eq_true rfl)) dPR_hear_72 ⟨Nat.le_of_ble_eq_true rfl, Nat.le_of_ble_eq_true rfl⟩) hS hA (fun k8 H7 locs hk8 hz1 hk1 hS => ?_)
          have hP := zKeep hP hk1
          have E := zl_s E hk8.1
          refine zcV (va_runV (As := [.int x23_1, .int x23_3, .int k8]) (rest := []) ⟨hx, hb, hml, hown, zno⟩ (tPR_hearOfBlock l dC dI cI cZ cJ cA a0 s0 o b P S_23 H7.size x23_1 x23_3 k8 gP gS_23 gQ r_x23_1 qgl_x23_1) (zcw 3 (hB.word (zm3 k3_207) rfl) (hB.word (zm1 k1_6) rfl) (hB.word (zm3 k3_204) rfl) (hB.word (zm3 k3_206) rfl) (k2_selects_private (by decide) (hB.word (zm1 k1_125) rfl) (hB.word (zm3 k3_205) rfl) (hB.word (zm3 k3_206) rfl)) rfl rfl (by decide +kernel) ⟨Nat.le_of_ble_eq_true rfl, Nat.le_of_ble_eq_true rfl⟩) ⟨zP_blind, va_recv hK hP (ci := 4) (q0 := 4) rfl rfl, zP_pre hP hK hD hAD (zB_on hB hA0 hS)⟩ rfl rfl hl.1 rfl (lv_room (Nat.le_of_ble_eq_true rfl)) dPR_hear_75 ⟨Nat.le_of_ble_eq_true rfl, Nat.le_of_ble_eq_true rfl⟩) hD hS hA (fun S10 H9 locs h11 hP hD hS => ?_)
          have E := zl_s E h11.1
          have gS10 := h11.2
          refine lv_goto (tgt := 97) hx hb dPR_hear_78 (by decide) ?_
          rw [hQe]
          exact W.vret hx hb hr (fun t ht hW => ⟨⟨S10, rfl, ⟨E.symm.trans etg, gS10⟩, by rw [ht]; exact hP, hD⟩, hS.F ht⟩) hS.2.2 dPR_hear_97
        · skip
          refine z_case (v := 2) E (fun c_34_2 E => ?_) (fun c_34_2 E => ?_)
          · refine z_tabIn (w := 2) (off := 34) (tgt := 68) hx hb dPR_hear_34 c_34_2 (by decide) (by decide) rfl (by decide) ?_
            refine lv_aload_n hx hb dPR_hear_68 rfl (lv_at hl 0 rfl) ?_
            refine lv_iload_n hx hb dPR_hear_69 rfl (lv_at hl 1 rfl) ?_
            refine lv_iload_n hx hb dPR_hear_70 rfl (lv_at hl 3 rfl) ?_
            refine lv_iload_n hx hb dPR_hear_71 rfl (lv_at hl 2 rfl) ?_
            refine zcallp (va_runS (As := [.int x23_2]) (rest := [.int x23_3, .int x23_1, .ref (o 4)]) ⟨hx, hb, hml, hown, zno⟩ (tCA_sourceOf l dC dI cI cZ cJ cA a0 s0 o b P S_23 H.size x23_2 gP gS_23) ⟨zcb 1 (hB.word (zm3 k3_190) rfl) (hB.word (zm1 k1_15) rfl) (hB.word (zm3 k3_188) rfl) rfl rfl (by decide +kernel) ⟨Nat.le_of_ble_eq_true rfl, Nat.le_of_ble_eq_true rfl⟩, hB.word (zm3 k3_189) rfl⟩ ⟨zP_blind, zP_pre hP hK hD hAD (zB_on hB hA0 hS)⟩ rfl rfl hl.1 rfl (lv_room (Nat.le_of_ble_eq_true rfl)) dPR_hear_72 ⟨Nat.le_of_ble_eq_true rfl, Nat.le_of_ble_eq_true rfl⟩) hS hA (fun k13 H12 locs hk13 hz1 hk1 hS => ?_)
            have hP := zKeep hP hk1
            have E := zl_s E hk13.1
            refine zcV (va_runV (As := [.int x23_1, .int x23_3, .int k13]) (rest := []) ⟨hx, hb, hml, hown, zno⟩ (tPR_hearOfBlock l dC dI cI cZ cJ cA a0 s0 o b P S_23 H12.size x23_1 x23_3 k13 gP gS_23 gQ r_x23_1 qgl_x23_1) (zcw 3 (hB.word (zm3 k3_207) rfl) (hB.word (zm1 k1_6) rfl) (hB.word (zm3 k3_204) rfl) (hB.word (zm3 k3_206) rfl) (k2_selects_private (by decide) (hB.word (zm1 k1_125) rfl) (hB.word (zm3 k3_205) rfl) (hB.word (zm3 k3_206) rfl)) rfl rfl (by decide +kernel) ⟨Nat.le_of_ble_eq_true rfl, Nat.le_of_ble_eq_true rfl⟩) ⟨zP_blind, va_recv hK hP (ci := 4) (q0 := 4) rfl rfl, zP_pre hP hK hD hAD (zB_on hB hA0 hS)⟩ rfl rfl hl.1 rfl (lv_room (Nat.le_of_ble_eq_true rfl)) dPR_hear_75 ⟨Nat.le_of_ble_eq_true rfl, Nat.le_of_ble_eq_true rfl⟩) hD hS hA (fun S15 H14 locs h16 hP hD hS => ?_)
            have E := zl_s E h16.1
            have gS15 := h16.2
            refine lv_goto (tgt := 97) hx hb dPR_hear_78 (by decide) ?_
            rw [hQe]
            exact W.vret hx hb hr (fun t ht hW => ⟨⟨S15, rfl, ⟨E.symm.trans etg, gS15⟩, by rw [ht]; exact hP, hD⟩, hS.F ht⟩) hS.2.2 dPR_hear_97
          · skip
            refine z_case (v := 3) E (fun c_34_3 E => ?_) (fun c_34_3 E => ?_)
            · refine z_tabIn (w := 3) (off := 47) (tgt := 81) hx hb dPR_hear_34 c_34_3 (by decide) (by decide) rfl (by decide) ?_
              refine lv_aload_n hx hb dPR_hear_81 rfl (lv_at hl 0 rfl) ?_
              refine lv_iload_n hx hb dPR_hear_82 rfl (lv_at hl 1 rfl) ?_
              refine zcV (va_runV (As := [.int x23_1]) (rest := []) ⟨hx, hb, hml, hown, zno⟩ (tPR_hearOfHealing l dC dI cI cZ cJ cA a0 s0 o b P S_23 H.size x23_1 gP gS_23 r_x23_1) (zcw 1 (hB.word (zm3 k3_215) rfl) (hB.word (zm1 k1_6) rfl) (hB.word (zm3 k3_212) rfl) (hB.word (zm3 k3_214) rfl) (k2_selects_private (by decide) (hB.word (zm1 k1_125) rfl) (hB.word (zm3 k3_213) rfl) (hB.word (zm3 k3_214) rfl)) rfl rfl (by decide +kernel) ⟨Nat.le_of_ble_eq_true rfl, Nat.le_of_ble_eq_true rfl⟩) ⟨zP_blind, va_recv hK hP (ci := 4) (q0 := 4) rfl rfl, zP_pre hP hK hD hAD (zB_on hB hA0 hS)⟩ rfl rfl hl.1 rfl (lv_room (Nat.le_of_ble_eq_true rfl)) dPR_hear_83 ⟨Nat.le_of_ble_eq_true rfl, Nat.le_of_ble_eq_true rfl⟩) hD hS hA (fun S18 H17 locs h19 hP hD hS => ?_)
              have E := zl_s E h19.1
              have gS18 := h19.2
              refine lv_goto (tgt := 97) hx hb dPR_hear_86 (by decide) ?_
              rw [hQe]
              exact W.vret hx hb hr (fun t ht hW => ⟨⟨S18, rfl, ⟨E.symm.trans etg, gS18⟩, by rw [ht]; exact hP, hD⟩, hS.F ht⟩) hS.2.2 dPR_hear_97
            · skip
              refine z_case (v := 4) E (fun c_34_4 E => ?_) (fun c_34_4 E => ?_)
              · refine z_tabIn (w := 4) (off := 55) (tgt := 89) hx hb dPR_hear_34 c_34_4 (by decide) (by decide) rfl (by decide) ?_
                refine lv_aload_n hx hb dPR_hear_89 rfl (lv_at hl 0 rfl) ?_
                refine lv_iload_n hx hb dPR_hear_90 rfl (lv_at hl 1 rfl) ?_
                refine zcV (va_runV (As := [.int x23_1]) (rest := []) ⟨hx, hb, hml, hown, zno⟩ (tPR_endWaiting l dC dI cI cZ cJ cA a0 s0 o b P S_23 H.size x23_1 gP gS_23 r_x23_1) (zcw 1 (hB.word (zm3 k3_211) rfl) (hB.word (zm1 k1_6) rfl) (hB.word (zm3 k3_208) rfl) (hB.word (zm3 k3_210) rfl) (k2_selects_private (by decide) (hB.word (zm1 k1_125) rfl) (hB.word (zm3 k3_209) rfl) (hB.word (zm3 k3_210) rfl)) rfl rfl (by decide +kernel) ⟨Nat.le_of_ble_eq_true rfl, Nat.le_of_ble_eq_true rfl⟩) ⟨zP_blind, va_recv hK hP (ci := 4) (q0 := 4) rfl rfl, zP_pre hP hK hD hAD (zB_on hB hA0 hS)⟩ rfl rfl hl.1 rfl (lv_room (Nat.le_of_ble_eq_true rfl)) dPR_hear_91 ⟨Nat.le_of_ble_eq_true rfl, Nat.le_of_ble_eq_true rfl⟩) hD hS hA (fun S21 H20 locs h22 hP hD hS => ?_)
                have E := zl_s E h22.1
                have gS21 := h22.2
                refine lv_goto (tgt := 97) hx hb dPR_hear_94 (by decide) ?_
                rw [hQe]
                exact W.vret hx hb hr (fun t ht hW => ⟨⟨S21, rfl, ⟨E.symm.trans etg, gS21⟩, by rw [ht]; exact hP, hD⟩, hS.F ht⟩) hS.2.2 dPR_hear_97
              · skip
                refine lv_tableOut (tgt := 97) hx hb dPR_hear_34 (ztabOut5 c_34_0 c_34_1 c_34_2 c_34_3 c_34_4) (by decide) ?_
                rw [hQe]
                exact W.vret hx hb hr (fun t ht hW => ⟨⟨S_23, rfl, ⟨E.symm.trans etg, gS_23⟩, by rw [ht]; exact hP, hD⟩, hS.F ht⟩) hS.2.2 dPR_hear_97
    · have r_k1 : zr 1 2147483647 k1 := zlt_y (show zr 0 0 0 from by decide) (zr_any k1) (znle c_29) (by decide)
      rw [hQe]
      exact W.vret hx hb hr (fun t ht hW => ⟨⟨S_23, rfl, ⟨E.symm.trans etg, gS_23⟩, by rw [ht]; exact hP, hD⟩, hS.F ht⟩) hS.2.2 dPR_hear_32
  refine lv_iload_n hx hb dPR_hear_0 rfl (lv_at hl 2 rfl) ?_
  refine zcallp (va_runS (As := [.int x1]) (rest := []) ⟨hx, hb, hml, hown, zno⟩ (tCA_kindOf l dC dI cI cZ cJ cA a0 s0 o b P S s.heap.size x1 gP gS) ⟨zcb 1 (hB.word (zm3 k3_197) rfl) (hB.word (zm1 k1_15) rfl) (hB.word (zm3 k3_195) rfl) rfl rfl (by decide +kernel) ⟨Nat.le_of_ble_eq_true rfl, Nat.le_of_ble_eq_true rfl⟩, hB.word (zm3 k3_196) rfl⟩ ⟨zP_blind, zP_pre hP hK hD hAD (zB_on hB hA0 hS)⟩ rfl rfl hl.1 rfl (lv_room (Nat.le_of_ble_eq_true rfl)) dPR_hear_1 ⟨Nat.le_of_ble_eq_true rfl, Nat.le_of_ble_eq_true rfl⟩) hS hA (fun k24 H23 locs hk24 hz1 hk1 hS => ?_)
  have hP := zKeep hP hk1
  have E := zl_s E hk24.1
  refine lv_istore_n (lv' := [(3, .int k24), (0, .ref (o 4)), (1, .int x0), (2, .int x1)]) hx hb dPR_hear_4 rfl hl (by decide) rfl (fun ls hl => ?_)
  refine lv_iload_n hx hb dPR_hear_5 rfl (lv_at hl 0 rfl) ?_
  refine lv_iconst (v := 3) hx hb dPR_hear_6 (by decide) ?_
  refine z_icmp_eq (tgt := 23) hx hb dPR_hear_7 (by decide) E (fun c_7 E => ?_) (fun c_7 E => ?_)
  · have r_k24 : zr 3 3 k24 := zeq_x (show zr 3 3 3 from by decide) c_7
    exact hJ23 H23 locs ls S x0 x1 k24 r_x0 qgl_x0 qck_x1 (Or.inr qck_x1) (zr_mono r_k24 (by decide)) gS E hP hD hS (lv_sub hl [1, 2, 3, 0] rfl)
  · refine lv_aload_n hx hb dPR_hear_10 rfl (lv_at hl 1 rfl) ?_
    refine lv_iload_n hx hb dPR_hear_11 rfl (lv_at hl 2 rfl) ?_
    refine lv_iload_n hx hb dPR_hear_12 rfl (lv_at hl 3 rfl) ?_
    refine zcallp (va_runS (As := [.int x1]) (rest := [.int x0, .ref (o 4)]) ⟨hx, hb, hml, hown, zno⟩ (tCA_nameOf l dC dI cI cZ cJ cA a0 s0 o b P S H23.size x1 gP gS qck_x1) ⟨zcb 1 (hB.word (zm3 k3_200) rfl) (hB.word (zm1 k1_15) rfl) (hB.word (zm3 k3_198) rfl) rfl rfl (by decide +kernel) ⟨Nat.le_of_ble_eq_true rfl, Nat.le_of_ble_eq_true rfl⟩, hB.word (zm3 k3_199) rfl⟩ ⟨zP_blind, zP_pre hP hK hD hAD (zB_on hB hA0 hS)⟩ rfl rfl hl.1 rfl (lv_room (Nat.le_of_ble_eq_true rfl)) dPR_hear_13 ⟨Nat.le_of_ble_eq_true rfl, Nat.le_of_ble_eq_true rfl⟩) hS hA (fun k26 H25 locs hk26 hz1 hk1 hS => ?_)
    have hP := zKeep hP hk1
    have E := zl_s E hk26.1
    refine lv_iload_n hx hb dPR_hear_16 rfl (lv_at hl 3 rfl) ?_
    refine zcallp (va_runS (As := [.int x1]) (rest := [.int k26, .int x0, .ref (o 4)]) ⟨hx, hb, hml, hown, zno⟩ (tCA_numberOf l dC dI cI cZ cJ cA a0 s0 o b P S H25.size x1 gP gS) ⟨zcb 1 (hB.word (zm3 k3_203) rfl) (hB.word (zm1 k1_15) rfl) (hB.word (zm3 k3_201) rfl) rfl rfl (by decide +kernel) ⟨Nat.le_of_ble_eq_true rfl, Nat.le_of_ble_eq_true rfl⟩, hB.word (zm3 k3_202) rfl⟩ ⟨zP_blind, zP_pre hP hK hD hAD (zB_on hB hA0 hS)⟩ rfl rfl hl.1 rfl (lv_room (Nat.le_of_ble_eq_true rfl)) dPR_hear_17 ⟨Nat.le_of_ble_eq_true rfl, Nat.le_of_ble_eq_true rfl⟩) hS hA (fun k28 H27 locs hk28 hz1 hk1 hS => ?_)
    have hP := zKeep hP hk1
    have E := zl_s E hk28.1
    refine zcV (va_runV (As := [.int x0, .int k26, .int k28]) (rest := []) ⟨hx, hb, hml, hown, zno⟩ (tPR_takeNews l dC dI cI cZ cJ cA a0 s0 o b P S H27.size x0 k26 k28 gP gS r_x0 hk26.2) (zcw 3 (hB.word (zm3 k3_28) rfl) (hB.word (zm1 k1_6) rfl) (hB.word (zm3 k3_25) rfl) (hB.word (zm3 k3_27) rfl) (k2_selects_private (by decide) (hB.word (zm1 k1_125) rfl) (hB.word (zm3 k3_26) rfl) (hB.word (zm3 k3_27) rfl)) rfl rfl (by decide +kernel) ⟨Nat.le_of_ble_eq_true rfl, Nat.le_of_ble_eq_true rfl⟩) ⟨zP_blind, va_recv hK hP (ci := 4) (q0 := 4) rfl rfl, zP_pre hP hK hD hAD (zB_on hB hA0 hS)⟩ rfl rfl hl.1 rfl (lv_room (Nat.le_of_ble_eq_true rfl)) dPR_hear_20 ⟨Nat.le_of_ble_eq_true rfl, Nat.le_of_ble_eq_true rfl⟩) hD hS hA (fun S30 H29 locs h31 hP hD hS => ?_)
    have E := zl_s E h31.1
    have gS30 := h31.2
    exact hJ23 H29 locs ls S30 x0 x1 k24 r_x0 qgl_x0 qck_x1 (Or.inr qck_x1) hk24.2 gS30 E hP hD hS (lv_sub hl [1, 2, 3, 0] rfl)
noncomputable def fPR_arrive (P S : ZS) (x0 : Int32) (x1 : Int32) : ZS := zl (fPR_isDown P S x0) (fun k2 => (if k2 = 0 then zl (x0 / 2) (fun k3 => zl2 (fWI_losesOne P S k3) (fun S6 k5 => (if k5 = 0 then zl (P.F 5 (x0 : Int32).toNatClampNeg) (fun k8 => zl (fCA_sourceOf P S6 x1) (fun k10 => zl (k8 / 6) (fun k11 => (if k10 = k11 then S6 else zl (fPR_hear P S6 k8 x1) (fun S13 => zl (fPL_otherPort P S13 x0) (fun k16 => (if k16 = (-1) then S13 else zl (fPR_isDown P S13 k16) (fun k18 => (if k18 = 0 then zl (k16 ^^^ 1) (fun k19 => zl (fWI_put P S13 k19 x1) (fun S21 => S21)) else S13))))))))) else S6))) else S))
set_option maxHeartbeats 4000000 in
set_option maxRecDepth 100000 in
theorem tPR_arrive (l : Launch) (dC : Nat → ClassId) (dI : Nat → Nat → Nat) (cI cZ cJ cA : ClassId) (a0 : Array Value) (s0 : State) (o b : Nat → Nat) (P S : ZS) (sz : Nat) (x0 : Int32) (x1 : Int32) (gP : cok P) (gS : cok S) (gQ : zQ P) (r_x0 : zr 0 119 x0) (qgp_x0 : zgt P x0) (qck_x1 : zck x1) : Met l yPR_arrive [Cond.code yPR_arrive bPR_arrive 5 none] ({ frames := 4, cells := 0, slots := 0, locals := 97 } : Room) (zP zCl dC dI (zTZ cI cZ cJ cA) a0 s0 [.ref (o 4), .int x0, .int x1] sz (CW cI cZ cA o b P S)) (zQG zCl dC dI (fun (x9 : ZS) => x9 = fPR_arrive P S x0 x1 ∧ cok x9) (fun x9 : ZS => (CW cI cZ cA o b P x9)) (va_A (CW cI cZ cA o b P S) sz)) 0 0 (va_A (CW cI cZ cA o b P S) sz) := by
  refine Met.ofW (cc := bPR_arrive) (maxL := 5) (ret := none) (by decide) rfl ?_
  intro p e s m args below meth c s₁ B hml hv
  obtain ⟨rfl, hsz, hP, hK, hD0, hB⟩ := hv
  have hx := B.exec
  have hb := B.bytes
  have hr := B.returns
  have hown : s.vm.findClass "RingGuard$Protocol" = some m.cls := findClass_of_methodNamed B.named
  have hlocks := B.notSynchronized
  subst hsz
  have hD := hD0.self (sz := s.heap.size)
  have hA0 := zA0 hD0 hB
  generalize hAe : va_A (CW cI cZ cA o b P S) s.heap.size = A at hD hA0 ⊢
  have hAD := hA0
  have hA : ∀ q : Nat, s.heap.size ≤ q → A q := fun q h => by rw [← hAe]; exact Or.inr h
  have hS : va_S A s.heap s.heap [] := va_S.rf
  have hl := lv_entry ([.ref (o 4), .int x0, .int x1]) (n := 5) (Nat.le_of_ble_eq_true rfl)
  rw [lg_entry_eq]
  generalize (lg_sl ([.ref (o 4), .int x0, .int x1]) ++ List.replicate (5 - (lg_sl ([.ref (o 4), .int x0, .int x1])).length) Slot.unset).toArray = ls at hl ⊢
  have hl : lv_has ls 5 [(0, .ref (o 4)), (1, .int x0), (2, .int x1)] := hl
  refine zgenQ (fun Q hQe => ?_)
  obtain ⟨tg, etg⟩ : ∃ z, z = fPR_arrive P S x0 x1 := ⟨_, rfl⟩
  have E := etg
  unfold fPR_arrive at E
  refine lv_aload_n hx hb dPR_arrive_0 rfl (lv_at hl 0 rfl) ?_
  refine lv_iload_n hx hb dPR_arrive_1 rfl (lv_at hl 1 rfl) ?_
  refine zcallp (va_runV (As := [.int x0]) (rest := []) ⟨hx, hb, hml, hown, zno⟩ (tPR_isDown l dC dI cI cZ cJ cA a0 s0 o b P S s.heap.size x0 gP gS r_x0) (zcw 1 (hB.word (zm3 k3_43) rfl) (hB.word (zm1 k1_6) rfl) (hB.word (zm3 k3_40) rfl) (hB.word (zm3 k3_42) rfl) (k2_selects_private (by decide) (hB.word (zm1 k1_125) rfl) (hB.word (zm3 k3_41) rfl) (hB.word (zm3 k3_42) rfl)) rfl rfl (by decide +kernel) ⟨Nat.le_of_ble_eq_true rfl, Nat.le_of_ble_eq_true rfl⟩) ⟨zP_blind, va_recv hK hP (ci := 4) (q0 := 4) rfl rfl, zP_pre hP hK hD hAD (zB_on hB hA0 hS)⟩ rfl rfl hl.1 rfl (lv_room (Nat.le_of_ble_eq_true rfl)) dPR_arrive_2 ⟨Nat.le_of_ble_eq_true rfl, Nat.le_of_ble_eq_true rfl⟩) hS hA (fun k2 H1 locs hk2 hz1 hk1 hS => ?_)
  have hP := zKeep hP hk1
  have E := zl_s E hk2.1
  refine z_if_ne (tgt := 21) hx hb dPR_arrive_5 (by decide) E (fun c_5 E => ?_) (fun c_5 E => ?_)
  · have r_k2 : zr 1 1 k2 := zne_lo hk2.2 c_5 (by decide)
    rw [hQe]
    exact W.vret hx hb hr (fun t ht hW => ⟨⟨S, rfl, ⟨E.symm.trans etg, gS⟩, by rw [ht]; exact hP, hD⟩, hS.F ht⟩) hS.2.2 dPR_arrive_21
  · have r_k2 : zr 0 0 k2 := zeq_x (show zr 0 0 0 from by decide) c_5
    refine lv_aload_n hx hb dPR_arrive_8 rfl (lv_at hl 0 rfl) ?_
    refine c_getO_PR_wires hx hb (hB.words zU_PR) hown hK hP (hB.word (zm1 k1_131) rfl) dPR_arrive_9 ?_
    refine lv_iload_n hx hb dPR_arrive_12 rfl (lv_at hl 1 rfl) ?_
    refine lv_iconst (v := 2) hx hb dPR_arrive_13 (by decide) ?_
    refine z_idiv hx hb dPR_arrive_14 (by decide) E (fun k3 ek3 E => ?_)
    have r_k3 : zr 0 59 k3 := zr_div r_x0 (c := 2) (by decide) ek3 (by decide)
    refine zcI (va_runV (As := [.int k3]) (rest := []) ⟨hx, hb, hml, hown, zno⟩ (tWI_losesOne l dC dI cI cZ cJ cA a0 s0 o b P S H1.size k3 gP gS r_k3) (zcw 1 (hB.word (zm3 k3_187) rfl) (hB.word (zm1 k1_4) rfl) (hB.word (zm3 k3_184) rfl) (hB.word (zm3 k3_185) rfl) (hB.word (zm3 k3_186) rfl) rfl rfl (by decide +kernel) ⟨Nat.le_of_ble_eq_true rfl, Nat.le_of_ble_eq_true rfl⟩) ⟨zP_blind, va_recv hK hP (ci := 2) (q0 := 2) rfl rfl, zP_pre hP hK hD hAD (zB_on hB hA0 hS)⟩ rfl rfl hl.1 rfl (lv_room (Nat.le_of_ble_eq_true rfl)) dPR_arrive_15 ⟨Nat.le_of_ble_eq_true rfl, Nat.le_of_ble_eq_true rfl⟩) hD hS hA (fun k5 S6 H4 locs h7 hP hD hS => ?_)
    have E := zl2_s E h7.1
    have gS6 := h7.2.1
    refine z_if_eq (tgt := 22) hx hb dPR_arrive_18 (by decide) E (fun c_18 E => ?_) (fun c_18 E => ?_)
    · have r_k5 : zr 0 0 k5 := zeq_x (show zr 0 0 0 from by decide) c_18
      refine lv_aload_n hx hb dPR_arrive_22 rfl (lv_at hl 0 rfl) ?_
      refine c_getO_PR_plan hx hb (hB.words zU_PR) hown hK hP (hB.word (zm1 k1_130) rfl) dPR_arrive_23 ?_
      refine c_getA_5 hx hb (hB.words zU_PL) hown hK hP (hB.word (zm1 k1_53) rfl) dPR_arrive_26 ?_
      refine lv_iload_n hx hb dPR_arrive_29 rfl (lv_at hl 1 rfl) ?_
      refine c_aldP hx hb hK hP 5 (by decide) rfl r_x0 (by decide) dPR_arrive_30 E (fun k8 ek8 E => ?_)
      have r_k8 : zr 0 287 k8 := by rw [ek8]; exact gP.1 5 _
      have qgl_k8 : zgp P k8 := by rw [ek8]; exact qgp_x0
      refine lv_istore_n (lv' := [(3, .int k8), (0, .ref (o 4)), (1, .int x0), (2, .int x1)]) hx hb dPR_arrive_31 rfl hl (by decide) rfl (fun ls hl => ?_)
      refine lv_iload_n hx hb dPR_arrive_32 rfl (lv_at hl 3 rfl) ?_
      refine zcallp (va_runS (As := [.int x1]) (rest := []) ⟨hx, hb, hml, hown, zno⟩ (tCA_sourceOf l dC dI cI cZ cJ cA a0 s0 o b P S6 H4.size x1 gP gS6) ⟨zcb 1 (hB.word (zm3 k3_190) rfl) (hB.word (zm1 k1_15) rfl) (hB.word (zm3 k3_188) rfl) rfl rfl (by decide +kernel) ⟨Nat.le_of_ble_eq_true rfl, Nat.le_of_ble_eq_true rfl⟩, hB.word (zm3 k3_189) rfl⟩ ⟨zP_blind, zP_pre hP hK hD hAD (zB_on hB hA0 hS)⟩ rfl rfl hl.1 rfl (lv_room (Nat.le_of_ble_eq_true rfl)) dPR_arrive_33 ⟨Nat.le_of_ble_eq_true rfl, Nat.le_of_ble_eq_true rfl⟩) hS hA (fun k10 H9 locs hk10 hz1 hk1 hS => ?_)
      have hP := zKeep hP hk1
      have E := zl_s E hk10.1
      refine lv_iload_n hx hb dPR_arrive_36 rfl (lv_at hl 0 rfl) ?_
      refine lv_bipush (v := 6) hx hb dPR_arrive_37 (by decide) ?_
      refine z_idiv hx hb dPR_arrive_39 (by decide) E (fun k11 ek11 E => ?_)
      have r_k11 : zr 0 47 k11 := zr_div r_k8 (c := 6) (by decide) ek11 (by decide)
      refine z_icmp_ne (tgt := 44) hx hb dPR_arrive_40 (by decide) E (fun c_40 E => ?_) (fun c_40 E => ?_)
      · refine lv_aload_n hx hb dPR_arrive_44 rfl (lv_at hl 1 rfl) ?_
        refine lv_iload_n hx hb dPR_arrive_45 rfl (lv_at hl 0 rfl) ?_
        refine lv_iload_n hx hb dPR_arrive_46 rfl (lv_at hl 3 rfl) ?_
        refine zcV (va_runV (As := [.int k8, .int x1]) (rest := []) ⟨hx, hb, hml, hown, zno⟩ (tPR_hear l dC dI cI cZ cJ cA a0 s0 o b P S6 H9.size k8 x1 gP gS6 gQ r_k8 qgl_k8 qck_x1) (zcw 2 (hB.word (zm3 k3_194) rfl) (hB.word (zm1 k1_6) rfl) (hB.word (zm3 k3_191) rfl) (hB.word (zm3 k3_193) rfl) (k2_selects_private (by decide) (hB.word (zm1 k1_125) rfl) (hB.word (zm3 k3_192) rfl) (hB.word (zm3 k3_193) rfl)) rfl rfl (by decide +kernel) ⟨Nat.le_of_ble_eq_true rfl, Nat.le_of_ble_eq_true rfl⟩) ⟨zP_blind, va_recv hK hP (ci := 4) (q0 := 4) rfl rfl, zP_pre hP hK hD hAD (zB_on hB hA0 hS)⟩ rfl rfl hl.1 rfl (lv_room (Nat.le_of_ble_eq_true rfl)) dPR_arrive_47 ⟨Nat.le_of_ble_eq_true rfl, Nat.le_of_ble_eq_true rfl⟩) hD hS hA (fun S13 H12 locs h14 hP hD hS => ?_)
        have E := zl_s E h14.1
        have gS13 := h14.2
        refine lv_aload_n hx hb dPR_arrive_50 rfl (lv_at hl 1 rfl) ?_
        refine c_getO_PR_plan hx hb (hB.words zU_PR) hown hK hP (hB.word (zm1 k1_130) rfl) dPR_arrive_51 ?_
        refine lv_iload_n hx hb dPR_arrive_54 rfl (lv_at hl 2 rfl) ?_
        refine zcallp (va_runV (As := [.int x0]) (rest := []) ⟨hx, hb, hml, hown, zno⟩ (tPL_otherPort l dC dI cI cZ cJ cA a0 s0 o b P S13 H12.size x0 gP gS13 r_x0) (zcw 1 (hB.word (zm3 k3_223) rfl) (hB.word (zm1 k1_2) rfl) (hB.word (zm3 k3_220) rfl) (hB.word (zm3 k3_221) rfl) (hB.word (zm3 k3_222) rfl) rfl rfl (by decide +kernel) ⟨Nat.le_of_ble_eq_true rfl, Nat.le_of_ble_eq_true rfl⟩) ⟨zP_blind, va_recv hK hP (ci := 1) (q0 := 1) rfl rfl, zP_pre hP hK hD hAD (zB_on hB hA0 hS)⟩ rfl rfl hl.1 rfl (lv_room (Nat.le_of_ble_eq_true rfl)) dPR_arrive_55 ⟨Nat.le_of_ble_eq_true rfl, Nat.le_of_ble_eq_true rfl⟩) hS hA (fun k16 H15 locs hk16 hz1 hk1 hS => ?_)
        have hP := zKeep hP hk1
        have E := zl_s E hk16.1
        refine lv_istore (lv' := [(4, .int k16), (3, .int k8), (0, .ref (o 4)), (1, .int x0), (2, .int x1)]) hx hb dPR_arrive_58 hl (by decide) rfl (fun ls hl => ?_)
        refine lv_iload hx hb dPR_arrive_60 (lv_at hl 0 rfl) ?_
        refine lv_iconst (v := (-1)) hx hb dPR_arrive_62 (by decide) ?_
        refine z_icmp_eq (tgt := 87) hx hb dPR_arrive_63 (by decide) E (fun c_63 E => ?_) (fun c_63 E => ?_)
        · have r_k16 : zr (-1) (-1) k16 := zeq_x (show zr (-1) (-1) (-1) from by decide) c_63
          rw [hQe]
          exact W.vret hx hb hr (fun t ht hW => ⟨⟨S13, rfl, ⟨E.symm.trans etg, gS13⟩, by rw [ht]; exact hP, hD⟩, hS.F ht⟩) hS.2.2 dPR_arrive_87
        · have r_k16 : zr 0 119 k16 := zne_lo hk16.2 c_63 (by decide)
          refine lv_aload_n hx hb dPR_arrive_66 rfl (lv_at hl 2 rfl) ?_
          refine lv_iload hx hb dPR_arrive_67 (lv_at hl 0 rfl) ?_
          refine zcallp (va_runV (As := [.int k16]) (rest := []) ⟨hx, hb, hml, hown, zno⟩ (tPR_isDown l dC dI cI cZ cJ cA a0 s0 o b P S13 H15.size k16 gP gS13 r_k16) (zcw 1 (hB.word (zm3 k3_43) rfl) (hB.word (zm1 k1_6) rfl) (hB.word (zm3 k3_40) rfl) (hB.word (zm3 k3_42) rfl) (k2_selects_private (by decide) (hB.word (zm1 k1_125) rfl) (hB.word (zm3 k3_41) rfl) (hB.word (zm3 k3_42) rfl)) rfl rfl (by decide +kernel) ⟨Nat.le_of_ble_eq_true rfl, Nat.le_of_ble_eq_true rfl⟩) ⟨zP_blind, va_recv hK hP (ci := 4) (q0 := 4) rfl rfl, zP_pre hP hK hD hAD (zB_on hB hA0 hS)⟩ rfl rfl hl.1 rfl (lv_room (Nat.le_of_ble_eq_true rfl)) dPR_arrive_69 ⟨Nat.le_of_ble_eq_true rfl, Nat.le_of_ble_eq_true rfl⟩) hS hA (fun k18 H17 locs hk18 hz1 hk1 hS => ?_)
          have hP := zKeep hP hk1
          have E := zl_s E hk18.1
          refine z_if_ne (tgt := 87) hx hb dPR_arrive_72 (by decide) E (fun c_72 E => ?_) (fun c_72 E => ?_)
          · have r_k18 : zr 1 1 k18 := zne_lo hk18.2 c_72 (by decide)
            rw [hQe]
            exact W.vret hx hb hr (fun t ht hW => ⟨⟨S13, rfl, ⟨E.symm.trans etg, gS13⟩, by rw [ht]; exact hP, hD⟩, hS.F ht⟩) hS.2.2 dPR_arrive_87
          · have r_k18 : zr 0 0 k18 := zeq_x (show zr 0 0 0 from by decide) c_72
            refine lv_aload_n hx hb dPR_arrive_75 rfl (lv_at hl 2 rfl) ?_
            refine c_getO_PR_wires hx hb (hB.words zU_PR) hown hK hP (hB.word (zm1 k1_131) rfl) dPR_arrive_76 ?_
            refine lv_iload hx hb dPR_arrive_79 (lv_at hl 0 rfl) ?_
            refine lv_iconst (v := 1) hx hb dPR_arrive_81 (by decide) ?_
            refine z_ixor hx hb dPR_arrive_82 E (fun k19 ek19 E => ?_)
            have r_k19 : zr 0 119 k19 := zr_xor r_k16 ek19 (by decide)
            refine lv_iload_n hx hb dPR_arrive_83 rfl (lv_at hl 4 rfl) ?_
            refine zcV (va_runV (As := [.int k19, .int x1]) (rest := []) ⟨hx, hb, hml, hown, zno⟩ (tWI_put l dC dI cI cZ cJ cA a0 s0 o b P S13 H17.size k19 x1 gP gS13 r_k19 qck_x1) (zcw 2 (hB.word (zm3 k3_47) rfl) (hB.word (zm1 k1_4) rfl) (hB.word (zm3 k3_44) rfl) (hB.word (zm3 k3_45) rfl) (hB.word (zm3 k3_46) rfl) rfl rfl (by decide +kernel) ⟨Nat.le_of_ble_eq_true rfl, Nat.le_of_ble_eq_true rfl⟩) ⟨zP_blind, va_recv hK hP (ci := 2) (q0 := 2) rfl rfl, zP_pre hP hK hD hAD (zB_on hB hA0 hS)⟩ rfl rfl hl.1 rfl (lv_room (Nat.le_of_ble_eq_true rfl)) dPR_arrive_84 ⟨Nat.le_of_ble_eq_true rfl, Nat.le_of_ble_eq_true rfl⟩) hD hS hA (fun S21 H20 locs h22 hP hD hS => ?_)
            have E := zl_s E h22.1
            have gS21 := h22.2
            rw [hQe]
            exact W.vret hx hb hr (fun t ht hW => ⟨⟨S21, rfl, ⟨E.symm.trans etg, gS21⟩, by rw [ht]; exact hP, hD⟩, hS.F ht⟩) hS.2.2 dPR_arrive_87
      · have r_k10 : zr 0 47 k10 := zeq_x r_k11 c_40
        rw [hQe]
        exact W.vret hx hb hr (fun t ht hW => ⟨⟨S6, rfl, ⟨E.symm.trans etg, gS6⟩, by rw [ht]; exact hP, hD⟩, hS.F ht⟩) hS.2.2 dPR_arrive_43
    · have r_k5 : zr 1 1 k5 := zne_lo h7.2.2 c_18 (by decide)
      rw [hQe]
      exact W.vret hx hb hr (fun t ht hW => ⟨⟨S6, rfl, ⟨E.symm.trans etg, gS6⟩, by rw [ht]; exact hP, hD⟩, hS.F ht⟩) hS.2.2 dPR_arrive_21
