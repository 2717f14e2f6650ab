theorem k1_48 : tables_1_1[48]? = some (Jvm.Cond.fieldLink "RingGuard" (93 : Nat) "RingGuard$Plan" "ownerBridge" "[I") := by decide +kernel
theorem k1_50 : tables_1_1[50]? = some (Jvm.Cond.fieldLink "RingGuard" (97 : Nat) "RingGuard$Plan" "ownerLink" "[I") := by decide +kernel
theorem k1_95 : tables_1_1[95]? = some (Jvm.Cond.fieldLink "RingGuard" (132 : Nat) "RingGuard$Wires" "toLose" "[I") := by decide +kernel
theorem k1_134 : tables_1_1[134]? = some (Jvm.Cond.fieldLink "RingGuard" (197 : Nat) "RingGuard$Protocol" "holdsOf" "[I") := by decide +kernel
theorem k1_136 : tables_1_1[136]? = some (Jvm.Cond.fieldLink "RingGuard" (203 : Nat) "RingGuard$Protocol" "guard" "[I") := by decide +kernel
theorem k1_139 : tables_1_1[139]? = some (Jvm.Cond.fieldLink "RingGuard" (206 : Nat) "RingGuard$Protocol" "clock" "[I") := by decide +kernel
theorem k1_145 : tables_1_1[145]? = some (Jvm.Cond.fieldLink "RingGuard" (200 : Nat) "RingGuard$Protocol" "flushCount" "[I") := by decide +kernel
theorem k1_190 : tables_1_1[190]? = some (Jvm.Cond.fieldLink "RingGuard" (179 : Nat) "RingGuard$Frames" "bridgeOfHost" "[I") := by decide +kernel
theorem k1_196 : tables_1_1[196]? = some (Jvm.Cond.fieldLink "RingGuard" (194 : Nat) "RingGuard$Frames" "mostPasses" "I") := by decide +kernel
theorem k1_223 : tables_1_1[223]? = some (Jvm.Cond.fieldLink "RingGuard" (217 : Nat) "RingGuard$Groups" "group" "[I") := by decide +kernel
theorem k1_237 : tables_1_1[237]? = some (Jvm.Cond.fieldLink "RingGuard" (26 : Nat) "RingGuard" "tables" "LRingGuard$Tables;") := by decide +kernel
theorem k1_239 : tables_1_1[239]? = some (Jvm.Cond.fieldLink "RingGuard" (44 : Nat) "RingGuard" "frames" "LRingGuard$Frames;") := by decide +kernel
theorem k2_2 : tables_1_2[2]? = some (Jvm.Cond.fieldLink "RingGuard" (152 : Nat) "RingGuard" "ticksInAll" "I") := by decide +kernel
theorem k2_4 : tables_1_2[4]? = some (Jvm.Cond.fieldLink "RingGuard" (161 : Nat) "RingGuard" "stirsSeen" "I") := by decide +kernel
theorem k2_43 : tables_1_2[43]? = some (Jvm.Cond.methodLink "RingGuard" (220 : Nat) ({ cls := "RingGuard$Wires", name := "countOnLinks", desc := "()I" } : Jvm.MethodName)) := by decide +kernel
theorem k2_44 : tables_1_2[44]? = some (Jvm.Cond.instanceMethod ({ cls := "RingGuard$Wires", name := "countOnLinks", desc := "()I" } : Jvm.MethodName)) := by decide +kernel
theorem k2_45 : tables_1_2[45]? = some (Jvm.Cond.selects "RingGuard$Wires" ({ cls := "RingGuard$Wires", name := "countOnLinks", desc := "()I" } : Jvm.MethodName) ({ cls := "RingGuard$Wires", name := "countOnLinks", desc := "()I" } : Jvm.MethodName)) := by decide +kernel
theorem k2_46 : tables_1_2[46]? = some (Jvm.Cond.code ({ cls := "RingGuard$Wires", name := "countOnLinks", desc := "()I" } : Jvm.MethodName) prog_8_method_7_code (3 : Nat) (Option.some Jvm.ClassFile.FieldType.int)) := rfl
theorem k2_67 : tables_1_2[67]? = some (Jvm.Cond.methodLink "RingGuard" (55 : Nat) ({ cls := "RingGuard", name := "requireNotStarted", desc := "()V" } : Jvm.MethodName)) := by decide +kernel
theorem k2_68 : tables_1_2[68]? = some (Jvm.Cond.privateMethod ({ cls := "RingGuard", name := "requireNotStarted", desc := "()V" } : Jvm.MethodName)) := by decide +kernel
theorem k2_69 : tables_1_2[69]? = some (Jvm.Cond.instanceMethod ({ cls := "RingGuard", name := "requireNotStarted", desc := "()V" } : Jvm.MethodName)) := by decide +kernel
theorem k2_70 : tables_1_2[70]? = some (Jvm.Cond.code ({ cls := "RingGuard", name := "requireNotStarted", desc := "()V" } : Jvm.MethodName) prog_1_method_23_code (1 : Nat) (Option.none : Option Jvm.ClassFile.FieldType)) := rfl
theorem k2_138 : tables_1_2[138]? = some (Jvm.Cond.stringRef "RingGuard" (64 : Nat) "there are 48 bridges") := by decide +kernel
theorem k2_167 : tables_1_2[167]? = some (Jvm.Cond.methodLink "RingGuard" (73 : Nat) ({ cls := "RingGuard", name := "requireRing", desc := "(I)V" } : Jvm.MethodName)) := by decide +kernel
theorem k2_168 : tables_1_2[168]? = some (Jvm.Cond.privateMethod ({ cls := "RingGuard", name := "requireRing", desc := "(I)V" } : Jvm.MethodName)) := by decide +kernel
theorem k2_169 : tables_1_2[169]? = some (Jvm.Cond.instanceMethod ({ cls := "RingGuard", name := "requireRing", desc := "(I)V" } : Jvm.MethodName)) := by decide +kernel
theorem k2_170 : tables_1_2[170]? = some (Jvm.Cond.code ({ cls := "RingGuard", name := "requireRing", desc := "(I)V" } : Jvm.MethodName) prog_1_method_28_code (2 : Nat) (Option.none : Option Jvm.ClassFile.FieldType)) := rfl
theorem k2_172 : tables_1_2[172]? = some (Jvm.Cond.stringRef "RingGuard" (78 : Nat) "a link joins two bridges") := by decide +kernel
theorem k2_173 : tables_1_2[173]? = some (Jvm.Cond.stringRef "RingGuard" (84 : Nat) "there are 60 links") := by decide +kernel
theorem k2_174 : tables_1_2[174]? = some (Jvm.Cond.methodLink "RingGuard" (86 : Nat) ({ cls := "RingGuard$Plan", name := "addLink", desc := "(III)I" } : Jvm.MethodName)) := by decide +kernel
theorem k2_175 : tables_1_2[175]? = some (Jvm.Cond.instanceMethod ({ cls := "RingGuard$Plan", name := "addLink", desc := "(III)I" } : Jvm.MethodName)) := by decide +kernel
theorem k2_176 : tables_1_2[176]? = some (Jvm.Cond.selects "RingGuard$Plan" ({ cls := "RingGuard$Plan", name := "addLink", desc := "(III)I" } : Jvm.MethodName) ({ cls := "RingGuard$Plan", name := "addLink", desc := "(III)I" } : Jvm.MethodName)) := by decide +kernel
theorem k2_177 : tables_1_2[177]? = some (Jvm.Cond.code ({ cls := "RingGuard$Plan", name := "addLink", desc := "(III)I" } : Jvm.MethodName) prog_5_method_2_code (5 : Nat) (Option.some Jvm.ClassFile.FieldType.int)) := rfl
theorem k3_55 : tables_1_3[55]? = some (Jvm.Cond.methodLink "RingGuard" (114 : Nat) ({ cls := "RingGuard", name := "requireStarted", desc := "()V" } : Jvm.MethodName)) := by decide +kernel
theorem k3_56 : tables_1_3[56]? = some (Jvm.Cond.privateMethod ({ cls := "RingGuard", name := "requireStarted", desc := "()V" } : Jvm.MethodName)) := by decide +kernel
theorem k3_57 : tables_1_3[57]? = some (Jvm.Cond.instanceMethod ({ cls := "RingGuard", name := "requireStarted", desc := "()V" } : Jvm.MethodName)) := by decide +kernel
theorem k3_58 : tables_1_3[58]? = some (Jvm.Cond.code ({ cls := "RingGuard", name := "requireStarted", desc := "()V" } : Jvm.MethodName) prog_1_method_24_code (1 : Nat) (Option.none : Option Jvm.ClassFile.FieldType)) := rfl
theorem k3_60 : tables_1_3[60]? = some (Jvm.Cond.methodLink "RingGuard" (117 : Nat) ({ cls := "RingGuard$Protocol", name := "hasFailed", desc := "(I)Z" } : Jvm.MethodName)) := by decide +kernel
theorem k3_64 : tables_1_3[64]? = some (Jvm.Cond.methodLink "RingGuard" (121 : Nat) ({ cls := "RingGuard$Protocol", name := "breakLink", desc := "(I)V" } : Jvm.MethodName)) := by decide +kernel
theorem k3_65 : tables_1_3[65]? = some (Jvm.Cond.instanceMethod ({ cls := "RingGuard$Protocol", name := "breakLink", desc := "(I)V" } : Jvm.MethodName)) := by decide +kernel
theorem k3_66 : tables_1_3[66]? = some (Jvm.Cond.selects "RingGuard$Protocol" ({ cls := "RingGuard$Protocol", name := "breakLink", desc := "(I)V" } : Jvm.MethodName) ({ cls := "RingGuard$Protocol", name := "breakLink", desc := "(I)V" } : Jvm.MethodName)) := by decide +kernel
theorem k3_67 : tables_1_3[67]? = some (Jvm.Cond.code ({ cls := "RingGuard$Protocol", name := "breakLink", desc := "(I)V" } : Jvm.MethodName) prog_6_method_7_code (3 : Nat) (Option.none : Option Jvm.ClassFile.FieldType)) := rfl
theorem k3_80 : tables_1_3[80]? = some (Jvm.Cond.methodLink "RingGuard" (124 : Nat) ({ cls := "RingGuard", name := "countCircle", desc := "()V" } : Jvm.MethodName)) := by decide +kernel
theorem k3_81 : tables_1_3[81]? = some (Jvm.Cond.privateMethod ({ cls := "RingGuard", name := "countCircle", desc := "()V" } : Jvm.MethodName)) := by decide +kernel
theorem k3_82 : tables_1_3[82]? = some (Jvm.Cond.instanceMethod ({ cls := "RingGuard", name := "countCircle", desc := "()V" } : Jvm.MethodName)) := by decide +kernel
theorem k3_83 : tables_1_3[83]? = some (Jvm.Cond.code ({ cls := "RingGuard", name := "countCircle", desc := "()V" } : Jvm.MethodName) prog_1_method_33_code (1 : Nat) (Option.none : Option Jvm.ClassFile.FieldType)) := rfl
theorem k3_101 : tables_1_3[101]? = some (Jvm.Cond.methodLink "RingGuard" (127 : Nat) ({ cls := "RingGuard$Protocol", name := "mendLink", desc := "(I)V" } : Jvm.MethodName)) := by decide +kernel
theorem k3_102 : tables_1_3[102]? = some (Jvm.Cond.instanceMethod ({ cls := "RingGuard$Protocol", name := "mendLink", desc := "(I)V" } : Jvm.MethodName)) := by decide +kernel
theorem k3_103 : tables_1_3[103]? = some (Jvm.Cond.selects "RingGuard$Protocol" ({ cls := "RingGuard$Protocol", name := "mendLink", desc := "(I)V" } : Jvm.MethodName) ({ cls := "RingGuard$Protocol", name := "mendLink", desc := "(I)V" } : Jvm.MethodName)) := by decide +kernel
theorem k3_104 : tables_1_3[104]? = some (Jvm.Cond.code ({ cls := "RingGuard$Protocol", name := "mendLink", desc := "(I)V" } : Jvm.MethodName) prog_6_method_8_code (2 : Nat) (Option.none : Option Jvm.ClassFile.FieldType)) := rfl
theorem k3_116 : tables_1_3[116]? = some (Jvm.Cond.stringRef "RingGuard" (130 : Nat) "n is not 0 .. 1000") := by decide +kernel
theorem k3_124 : tables_1_3[124]? = some (Jvm.Cond.methodLink "RingGuard" (135 : Nat) ({ cls := "RingGuard", name := "requirePort", desc := "(II)V" } : Jvm.MethodName)) := by decide +kernel
theorem k3_125 : tables_1_3[125]? = some (Jvm.Cond.privateMethod ({ cls := "RingGuard", name := "requirePort", desc := "(II)V" } : Jvm.MethodName)) := by decide +kernel
theorem k3_126 : tables_1_3[126]? = some (Jvm.Cond.instanceMethod ({ cls := "RingGuard", name := "requirePort", desc := "(II)V" } : Jvm.MethodName)) := by decide +kernel
theorem k3_127 : tables_1_3[127]? = some (Jvm.Cond.code ({ cls := "RingGuard", name := "requirePort", desc := "(II)V" } : Jvm.MethodName) prog_1_method_27_code (3 : Nat) (Option.none : Option Jvm.ClassFile.FieldType)) := rfl
theorem k3_130 : tables_1_3[130]? = some (Jvm.Cond.methodLink "RingGuard" (143 : Nat) ({ cls := "RingGuard$Protocol", name := "giveCommand", desc := "(II)Z" } : Jvm.MethodName)) := by decide +kernel
theorem k3_131 : tables_1_3[131]? = some (Jvm.Cond.instanceMethod ({ cls := "RingGuard$Protocol", name := "giveCommand", desc := "(II)Z" } : Jvm.MethodName)) := by decide +kernel
theorem k3_132 : tables_1_3[132]? = some (Jvm.Cond.selects "RingGuard$Protocol" ({ cls := "RingGuard$Protocol", name := "giveCommand", desc := "(II)Z" } : Jvm.MethodName) ({ cls := "RingGuard$Protocol", name := "giveCommand", desc := "(II)Z" } : Jvm.MethodName)) := by decide +kernel
theorem k3_133 : tables_1_3[133]? = some (Jvm.Cond.code ({ cls := "RingGuard$Protocol", name := "giveCommand", desc := "(II)Z" } : Jvm.MethodName) prog_6_method_9_code (5 : Nat) (Option.some Jvm.ClassFile.FieldType.boolean)) := rfl
theorem k3_149 : tables_1_3[149]? = some (Jvm.Cond.methodLink "RingGuard" (147 : Nat) ({ cls := "RingGuard$Protocol", name := "endCommand", desc := "(I)Z" } : Jvm.MethodName)) := by decide +kernel
theorem k3_157 : tables_1_3[157]? = some (Jvm.Cond.stringRef "RingGuard" (150 : Nat) "n is not 1 .. 200") := by decide +kernel
theorem k3_158 : tables_1_3[158]? = some (Jvm.Cond.stringRef "RingGuard" (155 : Nat) "there are 20000 ticks at most") := by decide +kernel
theorem k3_159 : tables_1_3[159]? = some (Jvm.Cond.methodLink "RingGuard" (157 : Nat) ({ cls := "RingGuard", name := "countStirs", desc := "()I" } : Jvm.MethodName)) := by decide +kernel
theorem k3_160 : tables_1_3[160]? = some (Jvm.Cond.privateMethod ({ cls := "RingGuard", name := "countStirs", desc := "()I" } : Jvm.MethodName)) := by decide +kernel
theorem k3_161 : tables_1_3[161]? = some (Jvm.Cond.instanceMethod ({ cls := "RingGuard", name := "countStirs", desc := "()I" } : Jvm.MethodName)) := by decide +kernel
theorem k3_162 : tables_1_3[162]? = some (Jvm.Cond.code ({ cls := "RingGuard", name := "countStirs", desc := "()I" } : Jvm.MethodName) prog_1_method_31_code (1 : Nat) (Option.some Jvm.ClassFile.FieldType.int)) := rfl
theorem k3_163 : tables_1_3[163]? = some (Jvm.Cond.methodLink "RingGuard" (167 : Nat) ({ cls := "RingGuard$Protocol", name := "arriveAll", desc := "()V" } : Jvm.MethodName)) := by decide +kernel
theorem k3_164 : tables_1_3[164]? = some (Jvm.Cond.instanceMethod ({ cls := "RingGuard$Protocol", name := "arriveAll", desc := "()V" } : Jvm.MethodName)) := by decide +kernel
theorem k3_165 : tables_1_3[165]? = some (Jvm.Cond.selects "RingGuard$Protocol" ({ cls := "RingGuard$Protocol", name := "arriveAll", desc := "()V" } : Jvm.MethodName) ({ cls := "RingGuard$Protocol", name := "arriveAll", desc := "()V" } : Jvm.MethodName)) := by decide +kernel
theorem k3_166 : tables_1_3[166]? = some (Jvm.Cond.code ({ cls := "RingGuard$Protocol", name := "arriveAll", desc := "()V" } : Jvm.MethodName) prog_6_method_20_code (4 : Nat) (Option.none : Option Jvm.ClassFile.FieldType)) := rfl
theorem k3_224 : tables_1_3[224]? = some (Jvm.Cond.methodLink "RingGuard" (170 : Nat) ({ cls := "RingGuard$Protocol", name := "turnAll", desc := "()V" } : Jvm.MethodName)) := by decide +kernel
theorem k3_225 : tables_1_3[225]? = some (Jvm.Cond.instanceMethod ({ cls := "RingGuard$Protocol", name := "turnAll", desc := "()V" } : Jvm.MethodName)) := by decide +kernel
theorem k3_226 : tables_1_3[226]? = some (Jvm.Cond.selects "RingGuard$Protocol" ({ cls := "RingGuard$Protocol", name := "turnAll", desc := "()V" } : Jvm.MethodName) ({ cls := "RingGuard$Protocol", name := "turnAll", desc := "()V" } : Jvm.MethodName)) := by decide +kernel
theorem k3_227 : tables_1_3[227]? = some (Jvm.Cond.code ({ cls := "RingGuard$Protocol", name := "turnAll", desc := "()V" } : Jvm.MethodName) prog_6_method_27_code (2 : Nat) (Option.none : Option Jvm.ClassFile.FieldType)) := rfl
theorem k4_7 : tables_1_4[7]? = some (Jvm.Cond.methodLink "RingGuard" (173 : Nat) ({ cls := "RingGuard", name := "countApart", desc := "()V" } : Jvm.MethodName)) := by decide +kernel
theorem k4_8 : tables_1_4[8]? = some (Jvm.Cond.privateMethod ({ cls := "RingGuard", name := "countApart", desc := "()V" } : Jvm.MethodName)) := by decide +kernel
theorem k4_9 : tables_1_4[9]? = some (Jvm.Cond.instanceMethod ({ cls := "RingGuard", name := "countApart", desc := "()V" } : Jvm.MethodName)) := by decide +kernel
theorem k4_10 : tables_1_4[10]? = some (Jvm.Cond.code ({ cls := "RingGuard", name := "countApart", desc := "()V" } : Jvm.MethodName) prog_1_method_34_code (1 : Nat) (Option.none : Option Jvm.ClassFile.FieldType)) := rfl
theorem k4_27 : tables_1_4[27]? = some (Jvm.Cond.methodLink "RingGuard" (176 : Nat) ({ cls := "RingGuard", name := "requireHost", desc := "(I)V" } : Jvm.MethodName)) := by decide +kernel
theorem k4_28 : tables_1_4[28]? = some (Jvm.Cond.privateMethod ({ cls := "RingGuard", name := "requireHost", desc := "(I)V" } : Jvm.MethodName)) := by decide +kernel
theorem k4_29 : tables_1_4[29]? = some (Jvm.Cond.instanceMethod ({ cls := "RingGuard", name := "requireHost", desc := "(I)V" } : Jvm.MethodName)) := by decide +kernel
theorem k4_30 : tables_1_4[30]? = some (Jvm.Cond.code ({ cls := "RingGuard", name := "requireHost", desc := "(I)V" } : Jvm.MethodName) prog_1_method_29_code (2 : Nat) (Option.none : Option Jvm.ClassFile.FieldType)) := rfl
theorem k4_32 : tables_1_4[32]? = some (Jvm.Cond.methodLink "RingGuard" (182 : Nat) ({ cls := "RingGuard$Tables", name := "forgetHost", desc := "(I)V" } : Jvm.MethodName)) := by decide +kernel
theorem k4_33 : tables_1_4[33]? = some (Jvm.Cond.instanceMethod ({ cls := "RingGuard$Tables", name := "forgetHost", desc := "(I)V" } : Jvm.MethodName)) := by decide +kernel
theorem k4_34 : tables_1_4[34]? = some (Jvm.Cond.selects "RingGuard$Tables" ({ cls := "RingGuard$Tables", name := "forgetHost", desc := "(I)V" } : Jvm.MethodName) ({ cls := "RingGuard$Tables", name := "forgetHost", desc := "(I)V" } : Jvm.MethodName)) := by decide +kernel
theorem k4_35 : tables_1_4[35]? = some (Jvm.Cond.code ({ cls := "RingGuard$Tables", name := "forgetHost", desc := "(I)V" } : Jvm.MethodName) prog_7_method_5_code (4 : Nat) (Option.none : Option Jvm.ClassFile.FieldType)) := rfl
theorem k4_43 : tables_1_4[43]? = some (Jvm.Cond.methodLink "RingGuard" (185 : Nat) ({ cls := "RingGuard", name := "requireTag", desc := "(I)V" } : Jvm.MethodName)) := by decide +kernel
theorem k4_44 : tables_1_4[44]? = some (Jvm.Cond.privateMethod ({ cls := "RingGuard", name := "requireTag", desc := "(I)V" } : Jvm.MethodName)) := by decide +kernel
theorem k4_45 : tables_1_4[45]? = some (Jvm.Cond.instanceMethod ({ cls := "RingGuard", name := "requireTag", desc := "(I)V" } : Jvm.MethodName)) := by decide +kernel
theorem k4_46 : tables_1_4[46]? = some (Jvm.Cond.code ({ cls := "RingGuard", name := "requireTag", desc := "(I)V" } : Jvm.MethodName) prog_1_method_30_code (2 : Nat) (Option.none : Option Jvm.ClassFile.FieldType)) := rfl
theorem k4_48 : tables_1_4[48]? = some (Jvm.Cond.stringRef "RingGuard" (188 : Nat) "a frame goes between two hosts that are somewhere") := by decide +kernel
theorem k4_49 : tables_1_4[49]? = some (Jvm.Cond.methodLink "RingGuard" (190 : Nat) ({ cls := "RingGuard$Frames", name := "carry", desc := "(IIII)I" } : Jvm.MethodName)) := by decide +kernel
theorem k4_50 : tables_1_4[50]? = some (Jvm.Cond.instanceMethod ({ cls := "RingGuard$Frames", name := "carry", desc := "(IIII)I" } : Jvm.MethodName)) := by decide +kernel
theorem k4_51 : tables_1_4[51]? = some (Jvm.Cond.selects "RingGuard$Frames" ({ cls := "RingGuard$Frames", name := "carry", desc := "(IIII)I" } : Jvm.MethodName) ({ cls := "RingGuard$Frames", name := "carry", desc := "(IIII)I" } : Jvm.MethodName)) := by decide +kernel
theorem k4_52 : tables_1_4[52]? = some (Jvm.Cond.code ({ cls := "RingGuard$Frames", name := "carry", desc := "(IIII)I" } : Jvm.MethodName) prog_3_method_2_code (9 : Nat) (Option.some Jvm.ClassFile.FieldType.int)) := rfl
theorem k4_92 : tables_1_4[92]? = some (Jvm.Cond.stringRef "RingGuard" (209 : Nat) "what is not 0 .. 2") := by decide +kernel
theorem k4_100 : tables_1_4[100]? = some (Jvm.Cond.methodLink "RingGuard" (211 : Nat) ({ cls := "RingGuard$Tables", name := "linkTo", desc := "(IIII)I" } : Jvm.MethodName)) := by decide +kernel
abbrev yRG_bridge : MethodName := ⟨"RingGuard", "bridge", "()I"⟩
abbrev bRG_bridge : ByteArray := prog_1_method_2_code
abbrev yRG_link : MethodName := ⟨"RingGuard", "link", "(III)I"⟩
abbrev bRG_link : ByteArray := prog_1_method_3_code
abbrev yRG_owner : MethodName := ⟨"RingGuard", "owner", "(III)V"⟩
abbrev bRG_owner : ByteArray := prog_1_method_4_code
abbrev yRG_fail : MethodName := ⟨"RingGuard", "fail", "(I)Z"⟩
abbrev bRG_fail : ByteArray := prog_1_method_6_code
abbrev yRG_heal : MethodName := ⟨"RingGuard", "heal", "(I)Z"⟩
abbrev bRG_heal : ByteArray := prog_1_method_7_code
abbrev yRG_lose : MethodName := ⟨"RingGuard", "lose", "(II)I"⟩
abbrev bRG_lose : ByteArray := prog_1_method_8_code
abbrev yRG_order : MethodName := ⟨"RingGuard", "order", "(IIZ)Z"⟩
abbrev bRG_order : ByteArray := prog_1_method_9_code
abbrev yRG_holds : MethodName := ⟨"RingGuard", "holds", "(II)I"⟩
abbrev bRG_holds : ByteArray := prog_1_method_15_code
abbrev yRG_clear : MethodName := ⟨"RingGuard", "clear", "(II)Z"⟩
abbrev bRG_clear : ByteArray := prog_1_method_10_code
abbrev yRG_ticks : MethodName := ⟨"RingGuard", "ticks", "(I)I"⟩
abbrev bRG_ticks : ByteArray := prog_1_method_11_code
abbrev yRG_host : MethodName := ⟨"RingGuard", "host", "(II)I"⟩
abbrev bRG_host : ByteArray := prog_1_method_12_code
abbrev yRG_learned : MethodName := ⟨"RingGuard", "learned", "(III)I"⟩
abbrev bRG_learned : ByteArray := prog_1_method_17_code
abbrev yRG_joined : MethodName := ⟨"RingGuard", "joined", "(II)Z"⟩
abbrev bRG_joined : ByteArray := prog_1_method_18_code
abbrev yRG_told : MethodName := ⟨"RingGuard", "told", "(III)I"⟩
abbrev bRG_told : ByteArray := prog_1_method_16_code
abbrev yRG_send : MethodName := ⟨"RingGuard", "send", "(III)I"⟩
abbrev bRG_send : ByteArray := prog_1_method_13_code
abbrev yRG_visits : MethodName := ⟨"RingGuard", "visits", "()I"⟩
abbrev bRG_visits : ByteArray := prog_1_method_14_code
abbrev yRG_casts : MethodName := ⟨"RingGuard", "casts", "()I"⟩
abbrev bRG_casts : ByteArray := prog_1_method_19_code
abbrev yRG_lost : MethodName := ⟨"RingGuard", "lost", "()I"⟩
abbrev bRG_lost : ByteArray := prog_1_method_20_code
abbrev yRG_circles : MethodName := ⟨"RingGuard", "circles", "()I"⟩
abbrev bRG_circles : ByteArray := prog_1_method_21_code
abbrev yRG_apart : MethodName := ⟨"RingGuard", "apart", "()I"⟩
abbrev bRG_apart : ByteArray := prog_1_method_22_code
theorem dRG_apart_0 : decode bRG_apart 0 = .ok (.aload_n 0, 1) := by decide +kernel
theorem dRG_apart_1 : decode bRG_apart 1 = .ok (.getfield 229, 3) := by decide +kernel
theorem dRG_apart_4 : decode bRG_apart 4 = .ok (.ireturn, 1) := by decide +kernel
theorem dRG_bridge_0 : decode bRG_bridge 0 = .ok (.aload_n 0, 1) := by decide +kernel
theorem dRG_bridge_1 : decode bRG_bridge 1 = .ok (.invokevirtual 55, 3) := by decide +kernel
theorem dRG_bridge_4 : decode bRG_bridge 4 = .ok (.aload_n 0, 1) := by decide +kernel
theorem dRG_bridge_5 : decode bRG_bridge 5 = .ok (.getfield 12, 3) := by decide +kernel
theorem dRG_bridge_8 : decode bRG_bridge 8 = .ok (.getfield 58, 3) := by decide +kernel
theorem dRG_bridge_11 : decode bRG_bridge 11 = .ok (.bipush 48, 2) := by decide +kernel
theorem dRG_bridge_13 : decode bRG_bridge 13 = .ok (.if_icmp .lt 13, 3) := by decide +kernel
theorem dRG_bridge_16 : decode bRG_bridge 16 = .ok (.new 62, 3) := by decide +kernel
theorem dRG_bridge_19 : decode bRG_bridge 19 = .ok (.dup, 1) := by decide +kernel
theorem dRG_bridge_20 : decode bRG_bridge 20 = .ok (.ldc 64, 2) := by decide +kernel
theorem dRG_bridge_22 : decode bRG_bridge 22 = .ok (.invokespecial 66, 3) := by decide +kernel
theorem dRG_bridge_25 : decode bRG_bridge 25 = .ok (.athrow, 1) := by decide +kernel
theorem dRG_bridge_26 : decode bRG_bridge 26 = .ok (.aload_n 0, 1) := by decide +kernel
theorem dRG_bridge_27 : decode bRG_bridge 27 = .ok (.getfield 12, 3) := by decide +kernel
theorem dRG_bridge_30 : decode bRG_bridge 30 = .ok (.getfield 58, 3) := by decide +kernel
theorem dRG_bridge_33 : decode bRG_bridge 33 = .ok (.istore_n 1, 1) := by decide +kernel
theorem dRG_bridge_34 : decode bRG_bridge 34 = .ok (.aload_n 0, 1) := by decide +kernel
theorem dRG_bridge_35 : decode bRG_bridge 35 = .ok (.getfield 12, 3) := by decide +kernel
theorem dRG_bridge_38 : decode bRG_bridge 38 = .ok (.iload_n 1, 1) := by decide +kernel
theorem dRG_bridge_39 : decode bRG_bridge 39 = .ok (.iconst 1, 1) := by decide +kernel
theorem dRG_bridge_40 : decode bRG_bridge 40 = .ok (.iadd, 1) := by decide +kernel
theorem dRG_bridge_41 : decode bRG_bridge 41 = .ok (.putfield 58, 3) := by decide +kernel
theorem dRG_bridge_44 : decode bRG_bridge 44 = .ok (.iload_n 1, 1) := by decide +kernel
theorem dRG_bridge_45 : decode bRG_bridge 45 = .ok (.ireturn, 1) := by decide +kernel
theorem dRG_casts_0 : decode bRG_casts 0 = .ok (.aload_n 0, 1) := by decide +kernel
theorem dRG_casts_1 : decode bRG_casts 1 = .ok (.getfield 19, 3) := by decide +kernel
theorem dRG_casts_4 : decode bRG_casts 4 = .ok (.invokevirtual 220, 3) := by decide +kernel
theorem dRG_casts_7 : decode bRG_casts 7 = .ok (.ireturn, 1) := by decide +kernel
theorem dRG_circles_0 : decode bRG_circles 0 = .ok (.aload_n 0, 1) := by decide +kernel
theorem dRG_circles_1 : decode bRG_circles 1 = .ok (.getfield 226, 3) := by decide +kernel
theorem dRG_circles_4 : decode bRG_circles 4 = .ok (.ireturn, 1) := by decide +kernel
theorem dRG_clear_0 : decode bRG_clear 0 = .ok (.aload_n 0, 1) := by decide +kernel
theorem dRG_clear_1 : decode bRG_clear 1 = .ok (.iload_n 1, 1) := by decide +kernel
theorem dRG_clear_2 : decode bRG_clear 2 = .ok (.invokevirtual 69, 3) := by decide +kernel
theorem dRG_clear_5 : decode bRG_clear 5 = .ok (.aload_n 0, 1) := by decide +kernel
theorem dRG_clear_6 : decode bRG_clear 6 = .ok (.iload_n 2, 1) := by decide +kernel
theorem dRG_clear_7 : decode bRG_clear 7 = .ok (.invokevirtual 73, 3) := by decide +kernel
theorem dRG_clear_10 : decode bRG_clear 10 = .ok (.aload_n 0, 1) := by decide +kernel
theorem dRG_clear_11 : decode bRG_clear 11 = .ok (.invokevirtual 114, 3) := by decide +kernel
theorem dRG_clear_14 : decode bRG_clear 14 = .ok (.aload_n 0, 1) := by decide +kernel
theorem dRG_clear_15 : decode bRG_clear 15 = .ok (.getfield 35, 3) := by decide +kernel
theorem dRG_clear_18 : decode bRG_clear 18 = .ok (.iload_n 1, 1) := by decide +kernel
theorem dRG_clear_19 : decode bRG_clear 19 = .ok (.bipush 6, 2) := by decide +kernel
theorem dRG_clear_21 : decode bRG_clear 21 = .ok (.imul, 1) := by decide +kernel
theorem dRG_clear_22 : decode bRG_clear 22 = .ok (.iload_n 2, 1) := by decide +kernel
theorem dRG_clear_23 : decode bRG_clear 23 = .ok (.iadd, 1) := by decide +kernel
theorem dRG_clear_24 : decode bRG_clear 24 = .ok (.invokevirtual 147, 3) := by decide +kernel
theorem dRG_clear_27 : decode bRG_clear 27 = .ok (.istore_n 3, 1) := by decide +kernel
theorem dRG_clear_28 : decode bRG_clear 28 = .ok (.aload_n 0, 1) := by decide +kernel
theorem dRG_clear_29 : decode bRG_clear 29 = .ok (.invokevirtual 124, 3) := by decide +kernel
theorem dRG_clear_32 : decode bRG_clear 32 = .ok (.iload_n 3, 1) := by decide +kernel
theorem dRG_clear_33 : decode bRG_clear 33 = .ok (.ireturn, 1) := by decide +kernel
theorem dRG_fail_0 : decode bRG_fail 0 = .ok (.aload_n 0, 1) := by decide +kernel
theorem dRG_fail_1 : decode bRG_fail 1 = .ok (.iload_n 1, 1) := by decide +kernel
theorem dRG_fail_2 : decode bRG_fail 2 = .ok (.invokevirtual 90, 3) := by decide +kernel
theorem dRG_fail_5 : decode bRG_fail 5 = .ok (.aload_n 0, 1) := by decide +kernel
theorem dRG_fail_6 : decode bRG_fail 6 = .ok (.invokevirtual 114, 3) := by decide +kernel
theorem dRG_fail_9 : decode bRG_fail 9 = .ok (.aload_n 0, 1) := by decide +kernel
theorem dRG_fail_10 : decode bRG_fail 10 = .ok (.getfield 35, 3) := by decide +kernel
theorem dRG_fail_13 : decode bRG_fail 13 = .ok (.iload_n 1, 1) := by decide +kernel
theorem dRG_fail_14 : decode bRG_fail 14 = .ok (.invokevirtual 117, 3) := by decide +kernel
theorem dRG_fail_17 : decode bRG_fail 17 = .ok (.istore_n 2, 1) := by decide +kernel
theorem dRG_fail_18 : decode bRG_fail 18 = .ok (.iload_n 2, 1) := by decide +kernel
theorem dRG_fail_19 : decode bRG_fail 19 = .ok (.ifCond .ne 11, 3) := by decide +kernel
theorem dRG_fail_22 : decode bRG_fail 22 = .ok (.aload_n 0, 1) := by decide +kernel
theorem dRG_fail_23 : decode bRG_fail 23 = .ok (.getfield 35, 3) := by decide +kernel
theorem dRG_fail_26 : decode bRG_fail 26 = .ok (.iload_n 1, 1) := by decide +kernel
theorem dRG_fail_27 : decode bRG_fail 27 = .ok (.invokevirtual 121, 3) := by decide +kernel
theorem dRG_fail_30 : decode bRG_fail 30 = .ok (.aload_n 0, 1) := by decide +kernel
theorem dRG_fail_31 : decode bRG_fail 31 = .ok (.invokevirtual 124, 3) := by decide +kernel
theorem dRG_fail_34 : decode bRG_fail 34 = .ok (.iload_n 2, 1) := by decide +kernel
theorem dRG_fail_35 : decode bRG_fail 35 = .ok (.ifCond .ne 7, 3) := by decide +kernel
theorem dRG_fail_38 : decode bRG_fail 38 = .ok (.iconst 1, 1) := by decide +kernel
theorem dRG_fail_39 : decode bRG_fail 39 = .ok (.goto 4, 3) := by decide +kernel
theorem dRG_fail_42 : decode bRG_fail 42 = .ok (.iconst 0, 1) := by decide +kernel
theorem dRG_fail_43 : decode bRG_fail 43 = .ok (.ireturn, 1) := by decide +kernel
theorem dRG_heal_0 : decode bRG_heal 0 = .ok (.aload_n 0, 1) := by decide +kernel
theorem dRG_heal_1 : decode bRG_heal 1 = .ok (.iload_n 1, 1) := by decide +kernel
theorem dRG_heal_2 : decode bRG_heal 2 = .ok (.invokevirtual 90, 3) := by decide +kernel
theorem dRG_heal_5 : decode bRG_heal 5 = .ok (.aload_n 0, 1) := by decide +kernel
theorem dRG_heal_6 : decode bRG_heal 6 = .ok (.invokevirtual 114, 3) := by decide +kernel
theorem dRG_heal_9 : decode bRG_heal 9 = .ok (.aload_n 0, 1) := by decide +kernel
theorem dRG_heal_10 : decode bRG_heal 10 = .ok (.getfield 35, 3) := by decide +kernel
theorem dRG_heal_13 : decode bRG_heal 13 = .ok (.iload_n 1, 1) := by decide +kernel
theorem dRG_heal_14 : decode bRG_heal 14 = .ok (.invokevirtual 117, 3) := by decide +kernel
theorem dRG_heal_17 : decode bRG_heal 17 = .ok (.istore_n 2, 1) := by decide +kernel
theorem dRG_heal_18 : decode bRG_heal 18 = .ok (.iload_n 2, 1) := by decide +kernel
theorem dRG_heal_19 : decode bRG_heal 19 = .ok (.ifCond .eq 11, 3) := by decide +kernel
theorem dRG_heal_22 : decode bRG_heal 22 = .ok (.aload_n 0, 1) := by decide +kernel
theorem dRG_heal_23 : decode bRG_heal 23 = .ok (.getfield 35, 3) := by decide +kernel
theorem dRG_heal_26 : decode bRG_heal 26 = .ok (.iload_n 1, 1) := by decide +kernel
theorem dRG_heal_27 : decode bRG_heal 27 = .ok (.invokevirtual 127, 3) := by decide +kernel
theorem dRG_heal_30 : decode bRG_heal 30 = .ok (.aload_n 0, 1) := by decide +kernel
theorem dRG_heal_31 : decode bRG_heal 31 = .ok (.invokevirtual 124, 3) := by decide +kernel
theorem dRG_heal_34 : decode bRG_heal 34 = .ok (.iload_n 2, 1) := by decide +kernel
theorem dRG_heal_35 : decode bRG_heal 35 = .ok (.ireturn, 1) := by decide +kernel
theorem dRG_holds_0 : decode bRG_holds 0 = .ok (.aload_n 0, 1) := by decide +kernel
theorem dRG_holds_1 : decode bRG_holds 1 = .ok (.iload_n 1, 1) := by decide +kernel
theorem dRG_holds_2 : decode bRG_holds 2 = .ok (.iload_n 2, 1) := by decide +kernel
theorem dRG_holds_3 : decode bRG_holds 3 = .ok (.invokevirtual 135, 3) := by decide +kernel
theorem dRG_holds_6 : decode bRG_holds 6 = .ok (.aload_n 0, 1) := by decide +kernel
theorem dRG_holds_7 : decode bRG_holds 7 = .ok (.getfield 35, 3) := by decide +kernel
theorem dRG_holds_10 : decode bRG_holds 10 = .ok (.getfield 197, 3) := by decide +kernel
theorem dRG_holds_13 : decode bRG_holds 13 = .ok (.aload_n 0, 1) := by decide +kernel
theorem dRG_holds_14 : decode bRG_holds 14 = .ok (.getfield 12, 3) := by decide +kernel
theorem dRG_holds_17 : decode bRG_holds 17 = .ok (.iload_n 1, 1) := by decide +kernel
theorem dRG_holds_18 : decode bRG_holds 18 = .ok (.iload_n 2, 1) := by decide +kernel
theorem dRG_holds_19 : decode bRG_holds 19 = .ok (.invokevirtual 139, 3) := by decide +kernel
theorem dRG_holds_22 : decode bRG_holds 22 = .ok (.iaload, 1) := by decide +kernel
theorem dRG_holds_23 : decode bRG_holds 23 = .ok (.ireturn, 1) := by decide +kernel
theorem dRG_host_0 : decode bRG_host 0 = .ok (.aload_n 0, 1) := by decide +kernel
theorem dRG_host_1 : decode bRG_host 1 = .ok (.iload_n 1, 1) := by decide +kernel
theorem dRG_host_2 : decode bRG_host 2 = .ok (.invokevirtual 176, 3) := by decide +kernel
theorem dRG_host_5 : decode bRG_host 5 = .ok (.aload_n 0, 1) := by decide +kernel
theorem dRG_host_6 : decode bRG_host 6 = .ok (.iload_n 2, 1) := by decide +kernel
theorem dRG_host_7 : decode bRG_host 7 = .ok (.invokevirtual 69, 3) := by decide +kernel
theorem dRG_host_10 : decode bRG_host 10 = .ok (.aload_n 0, 1) := by decide +kernel
theorem dRG_host_11 : decode bRG_host 11 = .ok (.invokevirtual 114, 3) := by decide +kernel
theorem dRG_host_14 : decode bRG_host 14 = .ok (.aload_n 0, 1) := by decide +kernel
theorem dRG_host_15 : decode bRG_host 15 = .ok (.getfield 44, 3) := by decide +kernel
theorem dRG_host_18 : decode bRG_host 18 = .ok (.getfield 179, 3) := by decide +kernel
theorem dRG_host_21 : decode bRG_host 21 = .ok (.iload_n 1, 1) := by decide +kernel
theorem dRG_host_22 : decode bRG_host 22 = .ok (.iaload, 1) := by decide +kernel
theorem dRG_host_23 : decode bRG_host 23 = .ok (.istore_n 3, 1) := by decide +kernel
theorem dRG_host_24 : decode bRG_host 24 = .ok (.aload_n 0, 1) := by decide +kernel
theorem dRG_host_25 : decode bRG_host 25 = .ok (.getfield 44, 3) := by decide +kernel
theorem dRG_host_28 : decode bRG_host 28 = .ok (.getfield 179, 3) := by decide +kernel
theorem dRG_host_31 : decode bRG_host 31 = .ok (.iload_n 1, 1) := by decide +kernel
theorem dRG_host_32 : decode bRG_host 32 = .ok (.iload_n 2, 1) := by decide +kernel
theorem dRG_host_33 : decode bRG_host 33 = .ok (.iastore, 1) := by decide +kernel
theorem dRG_host_34 : decode bRG_host 34 = .ok (.aload_n 0, 1) := by decide +kernel
theorem dRG_host_35 : decode bRG_host 35 = .ok (.getfield 26, 3) := by decide +kernel
theorem dRG_host_38 : decode bRG_host 38 = .ok (.iload_n 1, 1) := by decide +kernel
theorem dRG_host_39 : decode bRG_host 39 = .ok (.invokevirtual 182, 3) := by decide +kernel
theorem dRG_host_42 : decode bRG_host 42 = .ok (.iload_n 3, 1) := by decide +kernel
theorem dRG_host_43 : decode bRG_host 43 = .ok (.ireturn, 1) := by decide +kernel
theorem dRG_joined_0 : decode bRG_joined 0 = .ok (.aload_n 0, 1) := by decide +kernel
theorem dRG_joined_1 : decode bRG_joined 1 = .ok (.iload_n 1, 1) := by decide +kernel
theorem dRG_joined_2 : decode bRG_joined 2 = .ok (.invokevirtual 69, 3) := by decide +kernel
theorem dRG_joined_5 : decode bRG_joined 5 = .ok (.aload_n 0, 1) := by decide +kernel
theorem dRG_joined_6 : decode bRG_joined 6 = .ok (.iload_n 2, 1) := by decide +kernel
theorem dRG_joined_7 : decode bRG_joined 7 = .ok (.invokevirtual 69, 3) := by decide +kernel
theorem dRG_joined_10 : decode bRG_joined 10 = .ok (.aload_n 0, 1) := by decide +kernel
theorem dRG_joined_11 : decode bRG_joined 11 = .ok (.invokevirtual 214, 3) := by decide +kernel
theorem dRG_joined_14 : decode bRG_joined 14 = .ok (.aload_n 0, 1) := by decide +kernel
theorem dRG_joined_15 : decode bRG_joined 15 = .ok (.getfield 51, 3) := by decide +kernel
theorem dRG_joined_18 : decode bRG_joined 18 = .ok (.getfield 217, 3) := by decide +kernel
theorem dRG_joined_21 : decode bRG_joined 21 = .ok (.iload_n 1, 1) := by decide +kernel
theorem dRG_joined_22 : decode bRG_joined 22 = .ok (.iaload, 1) := by decide +kernel
theorem dRG_joined_23 : decode bRG_joined 23 = .ok (.aload_n 0, 1) := by decide +kernel
theorem dRG_joined_24 : decode bRG_joined 24 = .ok (.getfield 51, 3) := by decide +kernel
theorem dRG_joined_27 : decode bRG_joined 27 = .ok (.getfield 217, 3) := by decide +kernel
theorem dRG_joined_30 : decode bRG_joined 30 = .ok (.iload_n 2, 1) := by decide +kernel
theorem dRG_joined_31 : decode bRG_joined 31 = .ok (.iaload, 1) := by decide +kernel
theorem dRG_joined_32 : decode bRG_joined 32 = .ok (.if_icmp .ne 7, 3) := by decide +kernel
theorem dRG_joined_35 : decode bRG_joined 35 = .ok (.iconst 1, 1) := by decide +kernel
theorem dRG_joined_36 : decode bRG_joined 36 = .ok (.goto 4, 3) := by decide +kernel
theorem dRG_joined_39 : decode bRG_joined 39 = .ok (.iconst 0, 1) := by decide +kernel
theorem dRG_joined_40 : decode bRG_joined 40 = .ok (.ireturn, 1) := by decide +kernel
theorem dRG_learned_0 : decode bRG_learned 0 = .ok (.aload_n 0, 1) := by decide +kernel
theorem dRG_learned_1 : decode bRG_learned 1 = .ok (.iload_n 1, 1) := by decide +kernel
theorem dRG_learned_2 : decode bRG_learned 2 = .ok (.invokevirtual 69, 3) := by decide +kernel
theorem dRG_learned_5 : decode bRG_learned 5 = .ok (.aload_n 0, 1) := by decide +kernel
theorem dRG_learned_6 : decode bRG_learned 6 = .ok (.iload_n 2, 1) := by decide +kernel
theorem dRG_learned_7 : decode bRG_learned 7 = .ok (.invokevirtual 185, 3) := by decide +kernel
theorem dRG_learned_10 : decode bRG_learned 10 = .ok (.aload_n 0, 1) := by decide +kernel
theorem dRG_learned_11 : decode bRG_learned 11 = .ok (.iload_n 3, 1) := by decide +kernel
theorem dRG_learned_12 : decode bRG_learned 12 = .ok (.invokevirtual 176, 3) := by decide +kernel
theorem dRG_learned_15 : decode bRG_learned 15 = .ok (.aload_n 0, 1) := by decide +kernel
theorem dRG_learned_16 : decode bRG_learned 16 = .ok (.getfield 26, 3) := by decide +kernel
theorem dRG_learned_19 : decode bRG_learned 19 = .ok (.iload_n 1, 1) := by decide +kernel
theorem dRG_learned_20 : decode bRG_learned 20 = .ok (.iload_n 2, 1) := by decide +kernel
theorem dRG_learned_21 : decode bRG_learned 21 = .ok (.iload_n 3, 1) := by decide +kernel
theorem dRG_learned_22 : decode bRG_learned 22 = .ok (.aload_n 0, 1) := by decide +kernel
theorem dRG_learned_23 : decode bRG_learned 23 = .ok (.getfield 152, 3) := by decide +kernel
theorem dRG_learned_26 : decode bRG_learned 26 = .ok (.invokevirtual 211, 3) := by decide +kernel
theorem dRG_learned_29 : decode bRG_learned 29 = .ok (.ireturn, 1) := by decide +kernel
theorem dRG_link_0 : decode bRG_link 0 = .ok (.aload_n 0, 1) := by decide +kernel
theorem dRG_link_1 : decode bRG_link 1 = .ok (.iload_n 1, 1) := by decide +kernel
theorem dRG_link_2 : decode bRG_link 2 = .ok (.invokevirtual 69, 3) := by decide +kernel
theorem dRG_link_5 : decode bRG_link 5 = .ok (.aload_n 0, 1) := by decide +kernel
theorem dRG_link_6 : decode bRG_link 6 = .ok (.iload_n 2, 1) := by decide +kernel
theorem dRG_link_7 : decode bRG_link 7 = .ok (.invokevirtual 69, 3) := by decide +kernel
theorem dRG_link_10 : decode bRG_link 10 = .ok (.aload_n 0, 1) := by decide +kernel
theorem dRG_link_11 : decode bRG_link 11 = .ok (.iload_n 3, 1) := by decide +kernel
theorem dRG_link_12 : decode bRG_link 12 = .ok (.invokevirtual 73, 3) := by decide +kernel
theorem dRG_link_15 : decode bRG_link 15 = .ok (.iload_n 1, 1) := by decide +kernel
theorem dRG_link_16 : decode bRG_link 16 = .ok (.iload_n 2, 1) := by decide +kernel
theorem dRG_link_17 : decode bRG_link 17 = .ok (.if_icmp .ne 13, 3) := by decide +kernel
theorem dRG_link_20 : decode bRG_link 20 = .ok (.new 76, 3) := by decide +kernel
theorem dRG_link_23 : decode bRG_link 23 = .ok (.dup, 1) := by decide +kernel
theorem dRG_link_24 : decode bRG_link 24 = .ok (.ldc 78, 2) := by decide +kernel
theorem dRG_link_26 : decode bRG_link 26 = .ok (.invokespecial 80, 3) := by decide +kernel
theorem dRG_link_29 : decode bRG_link 29 = .ok (.athrow, 1) := by decide +kernel
theorem dRG_link_30 : decode bRG_link 30 = .ok (.aload_n 0, 1) := by decide +kernel
theorem dRG_link_31 : decode bRG_link 31 = .ok (.invokevirtual 55, 3) := by decide +kernel
theorem dRG_link_34 : decode bRG_link 34 = .ok (.aload_n 0, 1) := by decide +kernel
theorem dRG_link_35 : decode bRG_link 35 = .ok (.getfield 12, 3) := by decide +kernel
theorem dRG_link_38 : decode bRG_link 38 = .ok (.getfield 81, 3) := by decide +kernel
theorem dRG_link_41 : decode bRG_link 41 = .ok (.bipush 60, 2) := by decide +kernel
theorem dRG_link_43 : decode bRG_link 43 = .ok (.if_icmp .lt 13, 3) := by decide +kernel
theorem dRG_link_46 : decode bRG_link 46 = .ok (.new 62, 3) := by decide +kernel
theorem dRG_link_49 : decode bRG_link 49 = .ok (.dup, 1) := by decide +kernel
theorem dRG_link_50 : decode bRG_link 50 = .ok (.ldc 84, 2) := by decide +kernel
theorem dRG_link_52 : decode bRG_link 52 = .ok (.invokespecial 66, 3) := by decide +kernel
theorem dRG_link_55 : decode bRG_link 55 = .ok (.athrow, 1) := by decide +kernel
theorem dRG_link_56 : decode bRG_link 56 = .ok (.aload_n 0, 1) := by decide +kernel
theorem dRG_link_57 : decode bRG_link 57 = .ok (.getfield 12, 3) := by decide +kernel
theorem dRG_link_60 : decode bRG_link 60 = .ok (.iload_n 1, 1) := by decide +kernel
theorem dRG_link_61 : decode bRG_link 61 = .ok (.iload_n 2, 1) := by decide +kernel
theorem dRG_link_62 : decode bRG_link 62 = .ok (.iload_n 3, 1) := by decide +kernel
theorem dRG_link_63 : decode bRG_link 63 = .ok (.invokevirtual 86, 3) := by decide +kernel
theorem dRG_link_66 : decode bRG_link 66 = .ok (.ireturn, 1) := by decide +kernel
theorem dRG_lose_0 : decode bRG_lose 0 = .ok (.aload_n 0, 1) := by decide +kernel
theorem dRG_lose_1 : decode bRG_lose 1 = .ok (.iload_n 1, 1) := by decide +kernel
theorem dRG_lose_2 : decode bRG_lose 2 = .ok (.invokevirtual 90, 3) := by decide +kernel
theorem dRG_lose_5 : decode bRG_lose 5 = .ok (.iload_n 2, 1) := by decide +kernel
theorem dRG_lose_6 : decode bRG_lose 6 = .ok (.ifCond .lt 10, 3) := by decide +kernel
theorem dRG_lose_9 : decode bRG_lose 9 = .ok (.iload_n 2, 1) := by decide +kernel
theorem dRG_lose_10 : decode bRG_lose 10 = .ok (.sipush 1000, 3) := by decide +kernel
theorem dRG_lose_13 : decode bRG_lose 13 = .ok (.if_icmp .le 13, 3) := by decide +kernel
theorem dRG_lose_16 : decode bRG_lose 16 = .ok (.new 76, 3) := by decide +kernel
theorem dRG_lose_19 : decode bRG_lose 19 = .ok (.dup, 1) := by decide +kernel
theorem dRG_lose_20 : decode bRG_lose 20 = .ok (.ldc 130, 2) := by decide +kernel
theorem dRG_lose_22 : decode bRG_lose 22 = .ok (.invokespecial 80, 3) := by decide +kernel
theorem dRG_lose_25 : decode bRG_lose 25 = .ok (.athrow, 1) := by decide +kernel
theorem dRG_lose_26 : decode bRG_lose 26 = .ok (.aload_n 0, 1) := by decide +kernel
theorem dRG_lose_27 : decode bRG_lose 27 = .ok (.invokevirtual 114, 3) := by decide +kernel
theorem dRG_lose_30 : decode bRG_lose 30 = .ok (.aload_n 0, 1) := by decide +kernel
theorem dRG_lose_31 : decode bRG_lose 31 = .ok (.getfield 19, 3) := by decide +kernel
theorem dRG_lose_34 : decode bRG_lose 34 = .ok (.getfield 132, 3) := by decide +kernel
theorem dRG_lose_37 : decode bRG_lose 37 = .ok (.iload_n 1, 1) := by decide +kernel
theorem dRG_lose_38 : decode bRG_lose 38 = .ok (.iaload, 1) := by decide +kernel
theorem dRG_lose_39 : decode bRG_lose 39 = .ok (.istore_n 3, 1) := by decide +kernel
theorem dRG_lose_40 : decode bRG_lose 40 = .ok (.aload_n 0, 1) := by decide +kernel
theorem dRG_lose_41 : decode bRG_lose 41 = .ok (.getfield 19, 3) := by decide +kernel
theorem dRG_lose_44 : decode bRG_lose 44 = .ok (.getfield 132, 3) := by decide +kernel
theorem dRG_lose_47 : decode bRG_lose 47 = .ok (.iload_n 1, 1) := by decide +kernel
theorem dRG_lose_48 : decode bRG_lose 48 = .ok (.iload_n 2, 1) := by decide +kernel
theorem dRG_lose_49 : decode bRG_lose 49 = .ok (.iastore, 1) := by decide +kernel
theorem dRG_lose_50 : decode bRG_lose 50 = .ok (.iload_n 3, 1) := by decide +kernel
theorem dRG_lose_51 : decode bRG_lose 51 = .ok (.ireturn, 1) := by decide +kernel
theorem dRG_lost_0 : decode bRG_lost 0 = .ok (.aload_n 0, 1) := by decide +kernel
theorem dRG_lost_1 : decode bRG_lost 1 = .ok (.getfield 19, 3) := by decide +kernel
theorem dRG_lost_4 : decode bRG_lost 4 = .ok (.getfield 223, 3) := by decide +kernel
theorem dRG_lost_7 : decode bRG_lost 7 = .ok (.ireturn, 1) := by decide +kernel
theorem dRG_order_0 : decode bRG_order 0 = .ok (.aload_n 0, 1) := by decide +kernel
theorem dRG_order_1 : decode bRG_order 1 = .ok (.iload_n 1, 1) := by decide +kernel
theorem dRG_order_2 : decode bRG_order 2 = .ok (.iload_n 2, 1) := by decide +kernel
theorem dRG_order_3 : decode bRG_order 3 = .ok (.invokevirtual 135, 3) := by decide +kernel
theorem dRG_order_6 : decode bRG_order 6 = .ok (.aload_n 0, 1) := by decide +kernel
theorem dRG_order_7 : decode bRG_order 7 = .ok (.invokevirtual 114, 3) := by decide +kernel
theorem dRG_order_10 : decode bRG_order 10 = .ok (.aload_n 0, 1) := by decide +kernel
theorem dRG_order_11 : decode bRG_order 11 = .ok (.getfield 35, 3) := by decide +kernel
theorem dRG_order_14 : decode bRG_order 14 = .ok (.aload_n 0, 1) := by decide +kernel
theorem dRG_order_15 : decode bRG_order 15 = .ok (.getfield 12, 3) := by decide +kernel
theorem dRG_order_18 : decode bRG_order 18 = .ok (.iload_n 1, 1) := by decide +kernel
theorem dRG_order_19 : decode bRG_order 19 = .ok (.iload_n 2, 1) := by decide +kernel
theorem dRG_order_20 : decode bRG_order 20 = .ok (.invokevirtual 139, 3) := by decide +kernel
theorem dRG_order_23 : decode bRG_order 23 = .ok (.iload_n 3, 1) := by decide +kernel
theorem dRG_order_24 : decode bRG_order 24 = .ok (.ifCond .eq 7, 3) := by decide +kernel
theorem dRG_order_27 : decode bRG_order 27 = .ok (.iconst 2, 1) := by decide +kernel
theorem dRG_order_28 : decode bRG_order 28 = .ok (.goto 4, 3) := by decide +kernel
theorem dRG_order_31 : decode bRG_order 31 = .ok (.iconst 4, 1) := by decide +kernel
theorem dRG_order_32 : decode bRG_order 32 = .ok (.invokevirtual 143, 3) := by decide +kernel
theorem dRG_order_35 : decode bRG_order 35 = .ok (.istore 4, 2) := by decide +kernel
theorem dRG_order_37 : decode bRG_order 37 = .ok (.aload_n 0, 1) := by decide +kernel
theorem dRG_order_38 : decode bRG_order 38 = .ok (.invokevirtual 124, 3) := by decide +kernel
theorem dRG_order_41 : decode bRG_order 41 = .ok (.iload 4, 2) := by decide +kernel
theorem dRG_order_43 : decode bRG_order 43 = .ok (.ireturn, 1) := by decide +kernel
theorem dRG_owner_0 : decode bRG_owner 0 = .ok (.aload_n 0, 1) := by decide +kernel
theorem dRG_owner_1 : decode bRG_owner 1 = .ok (.iload_n 1, 1) := by decide +kernel
theorem dRG_owner_2 : decode bRG_owner 2 = .ok (.invokevirtual 73, 3) := by decide +kernel
theorem dRG_owner_5 : decode bRG_owner 5 = .ok (.aload_n 0, 1) := by decide +kernel
theorem dRG_owner_6 : decode bRG_owner 6 = .ok (.iload_n 2, 1) := by decide +kernel
theorem dRG_owner_7 : decode bRG_owner 7 = .ok (.invokevirtual 69, 3) := by decide +kernel
theorem dRG_owner_10 : decode bRG_owner 10 = .ok (.aload_n 0, 1) := by decide +kernel
theorem dRG_owner_11 : decode bRG_owner 11 = .ok (.iload_n 3, 1) := by decide +kernel
theorem dRG_owner_12 : decode bRG_owner 12 = .ok (.invokevirtual 90, 3) := by decide +kernel
theorem dRG_owner_15 : decode bRG_owner 15 = .ok (.aload_n 0, 1) := by decide +kernel
theorem dRG_owner_16 : decode bRG_owner 16 = .ok (.invokevirtual 55, 3) := by decide +kernel
theorem dRG_owner_19 : decode bRG_owner 19 = .ok (.aload_n 0, 1) := by decide +kernel
theorem dRG_owner_20 : decode bRG_owner 20 = .ok (.getfield 12, 3) := by decide +kernel
theorem dRG_owner_23 : decode bRG_owner 23 = .ok (.getfield 93, 3) := by decide +kernel
theorem dRG_owner_26 : decode bRG_owner 26 = .ok (.iload_n 1, 1) := by decide +kernel
theorem dRG_owner_27 : decode bRG_owner 27 = .ok (.iload_n 2, 1) := by decide +kernel
theorem dRG_owner_28 : decode bRG_owner 28 = .ok (.iastore, 1) := by decide +kernel
theorem dRG_owner_29 : decode bRG_owner 29 = .ok (.aload_n 0, 1) := by decide +kernel
theorem dRG_owner_30 : decode bRG_owner 30 = .ok (.getfield 12, 3) := by decide +kernel
theorem dRG_owner_33 : decode bRG_owner 33 = .ok (.getfield 97, 3) := by decide +kernel
theorem dRG_owner_36 : decode bRG_owner 36 = .ok (.iload_n 1, 1) := by decide +kernel
theorem dRG_owner_37 : decode bRG_owner 37 = .ok (.iload_n 3, 1) := by decide +kernel
theorem dRG_owner_38 : decode bRG_owner 38 = .ok (.iastore, 1) := by decide +kernel
theorem dRG_owner_39 : decode bRG_owner 39 = .ok (.return_, 1) := by decide +kernel
theorem dRG_send_0 : decode bRG_send 0 = .ok (.aload_n 0, 1) := by decide +kernel
theorem dRG_send_1 : decode bRG_send 1 = .ok (.iload_n 1, 1) := by decide +kernel
theorem dRG_send_2 : decode bRG_send 2 = .ok (.invokevirtual 176, 3) := by decide +kernel
theorem dRG_send_5 : decode bRG_send 5 = .ok (.aload_n 0, 1) := by decide +kernel
theorem dRG_send_6 : decode bRG_send 6 = .ok (.iload_n 2, 1) := by decide +kernel
theorem dRG_send_7 : decode bRG_send 7 = .ok (.invokevirtual 176, 3) := by decide +kernel
theorem dRG_send_10 : decode bRG_send 10 = .ok (.aload_n 0, 1) := by decide +kernel
theorem dRG_send_11 : decode bRG_send 11 = .ok (.iload_n 3, 1) := by decide +kernel
theorem dRG_send_12 : decode bRG_send 12 = .ok (.invokevirtual 185, 3) := by decide +kernel
theorem dRG_send_15 : decode bRG_send 15 = .ok (.iload_n 1, 1) := by decide +kernel
theorem dRG_send_16 : decode bRG_send 16 = .ok (.iload_n 2, 1) := by decide +kernel
theorem dRG_send_17 : decode bRG_send 17 = .ok (.if_icmp .eq 29, 3) := by decide +kernel
theorem dRG_send_20 : decode bRG_send 20 = .ok (.aload_n 0, 1) := by decide +kernel
theorem dRG_send_21 : decode bRG_send 21 = .ok (.getfield 44, 3) := by decide +kernel
theorem dRG_send_24 : decode bRG_send 24 = .ok (.getfield 179, 3) := by decide +kernel
theorem dRG_send_27 : decode bRG_send 27 = .ok (.iload_n 1, 1) := by decide +kernel
theorem dRG_send_28 : decode bRG_send 28 = .ok (.iaload, 1) := by decide +kernel
theorem dRG_send_29 : decode bRG_send 29 = .ok (.iconst (-1), 1) := by decide +kernel
theorem dRG_send_30 : decode bRG_send 30 = .ok (.if_icmp .eq 16, 3) := by decide +kernel
theorem dRG_send_33 : decode bRG_send 33 = .ok (.aload_n 0, 1) := by decide +kernel
theorem dRG_send_34 : decode bRG_send 34 = .ok (.getfield 44, 3) := by decide +kernel
theorem dRG_send_37 : decode bRG_send 37 = .ok (.getfield 179, 3) := by decide +kernel
theorem dRG_send_40 : decode bRG_send 40 = .ok (.iload_n 2, 1) := by decide +kernel
theorem dRG_send_41 : decode bRG_send 41 = .ok (.iaload, 1) := by decide +kernel
theorem dRG_send_42 : decode bRG_send 42 = .ok (.iconst (-1), 1) := by decide +kernel
theorem dRG_send_43 : decode bRG_send 43 = .ok (.if_icmp .ne 13, 3) := by decide +kernel
theorem dRG_send_46 : decode bRG_send 46 = .ok (.new 76, 3) := by decide +kernel
theorem dRG_send_49 : decode bRG_send 49 = .ok (.dup, 1) := by decide +kernel
theorem dRG_send_50 : decode bRG_send 50 = .ok (.ldc 188, 2) := by decide +kernel
theorem dRG_send_52 : decode bRG_send 52 = .ok (.invokespecial 80, 3) := by decide +kernel
theorem dRG_send_55 : decode bRG_send 55 = .ok (.athrow, 1) := by decide +kernel
theorem dRG_send_56 : decode bRG_send 56 = .ok (.aload_n 0, 1) := by decide +kernel
theorem dRG_send_57 : decode bRG_send 57 = .ok (.invokevirtual 114, 3) := by decide +kernel
theorem dRG_send_60 : decode bRG_send 60 = .ok (.aload_n 0, 1) := by decide +kernel
theorem dRG_send_61 : decode bRG_send 61 = .ok (.getfield 44, 3) := by decide +kernel
theorem dRG_send_64 : decode bRG_send 64 = .ok (.iload_n 1, 1) := by decide +kernel
theorem dRG_send_65 : decode bRG_send 65 = .ok (.iload_n 2, 1) := by decide +kernel
theorem dRG_send_66 : decode bRG_send 66 = .ok (.iload_n 3, 1) := by decide +kernel
theorem dRG_send_67 : decode bRG_send 67 = .ok (.aload_n 0, 1) := by decide +kernel
theorem dRG_send_68 : decode bRG_send 68 = .ok (.getfield 152, 3) := by decide +kernel
theorem dRG_send_71 : decode bRG_send 71 = .ok (.invokevirtual 190, 3) := by decide +kernel
theorem dRG_send_74 : decode bRG_send 74 = .ok (.ireturn, 1) := by decide +kernel
theorem dRG_ticks_0 : decode bRG_ticks 0 = .ok (.iload_n 1, 1) := by decide +kernel
theorem dRG_ticks_1 : decode bRG_ticks 1 = .ok (.iconst 1, 1) := by decide +kernel
theorem dRG_ticks_2 : decode bRG_ticks 2 = .ok (.if_icmp .lt 10, 3) := by decide +kernel
theorem dRG_ticks_5 : decode bRG_ticks 5 = .ok (.iload_n 1, 1) := by decide +kernel
theorem dRG_ticks_6 : decode bRG_ticks 6 = .ok (.sipush 200, 3) := by decide +kernel
theorem dRG_ticks_9 : decode bRG_ticks 9 = .ok (.if_icmp .le 13, 3) := by decide +kernel
theorem dRG_ticks_12 : decode bRG_ticks 12 = .ok (.new 76, 3) := by decide +kernel
theorem dRG_ticks_15 : decode bRG_ticks 15 = .ok (.dup, 1) := by decide +kernel
theorem dRG_ticks_16 : decode bRG_ticks 16 = .ok (.ldc 150, 2) := by decide +kernel
theorem dRG_ticks_18 : decode bRG_ticks 18 = .ok (.invokespecial 80, 3) := by decide +kernel
theorem dRG_ticks_21 : decode bRG_ticks 21 = .ok (.athrow, 1) := by decide +kernel
theorem dRG_ticks_22 : decode bRG_ticks 22 = .ok (.aload_n 0, 1) := by decide +kernel
theorem dRG_ticks_23 : decode bRG_ticks 23 = .ok (.invokevirtual 114, 3) := by decide +kernel
theorem dRG_ticks_26 : decode bRG_ticks 26 = .ok (.aload_n 0, 1) := by decide +kernel
theorem dRG_ticks_27 : decode bRG_ticks 27 = .ok (.getfield 152, 3) := by decide +kernel
theorem dRG_ticks_30 : decode bRG_ticks 30 = .ok (.iload_n 1, 1) := by decide +kernel
theorem dRG_ticks_31 : decode bRG_ticks 31 = .ok (.iadd, 1) := by decide +kernel
theorem dRG_ticks_32 : decode bRG_ticks 32 = .ok (.sipush 20000, 3) := by decide +kernel
theorem dRG_ticks_35 : decode bRG_ticks 35 = .ok (.if_icmp .le 13, 3) := by decide +kernel
theorem dRG_ticks_38 : decode bRG_ticks 38 = .ok (.new 62, 3) := by decide +kernel
theorem dRG_ticks_41 : decode bRG_ticks 41 = .ok (.dup, 1) := by decide +kernel
theorem dRG_ticks_42 : decode bRG_ticks 42 = .ok (.ldc 155, 2) := by decide +kernel
theorem dRG_ticks_44 : decode bRG_ticks 44 = .ok (.invokespecial 66, 3) := by decide +kernel
theorem dRG_ticks_47 : decode bRG_ticks 47 = .ok (.athrow, 1) := by decide +kernel
theorem dRG_ticks_48 : decode bRG_ticks 48 = .ok (.iconst 0, 1) := by decide +kernel
theorem dRG_ticks_49 : decode bRG_ticks 49 = .ok (.istore_n 2, 1) := by decide +kernel
theorem dRG_ticks_50 : decode bRG_ticks 50 = .ok (.iload_n 2, 1) := by decide +kernel
theorem dRG_ticks_51 : decode bRG_ticks 51 = .ok (.iload_n 1, 1) := by decide +kernel
theorem dRG_ticks_52 : decode bRG_ticks 52 = .ok (.if_icmp .ge 89, 3) := by decide +kernel
theorem dRG_ticks_55 : decode bRG_ticks 55 = .ok (.aload_n 0, 1) := by decide +kernel
theorem dRG_ticks_56 : decode bRG_ticks 56 = .ok (.invokevirtual 157, 3) := by decide +kernel
theorem dRG_ticks_59 : decode bRG_ticks 59 = .ok (.istore_n 3, 1) := by decide +kernel
theorem dRG_ticks_60 : decode bRG_ticks 60 = .ok (.iload_n 3, 1) := by decide +kernel
theorem dRG_ticks_61 : decode bRG_ticks 61 = .ok (.aload_n 0, 1) := by decide +kernel
theorem dRG_ticks_62 : decode bRG_ticks 62 = .ok (.getfield 161, 3) := by decide +kernel
theorem dRG_ticks_65 : decode bRG_ticks 65 = .ok (.if_icmp .eq 8, 3) := by decide +kernel
theorem dRG_ticks_68 : decode bRG_ticks 68 = .ok (.aload_n 0, 1) := by decide +kernel
theorem dRG_ticks_69 : decode bRG_ticks 69 = .ok (.iconst 0, 1) := by decide +kernel
theorem dRG_ticks_70 : decode bRG_ticks 70 = .ok (.putfield 164, 3) := by decide +kernel
theorem dRG_ticks_73 : decode bRG_ticks 73 = .ok (.aload_n 0, 1) := by decide +kernel
theorem dRG_ticks_74 : decode bRG_ticks 74 = .ok (.dup, 1) := by decide +kernel
theorem dRG_ticks_75 : decode bRG_ticks 75 = .ok (.getfield 152, 3) := by decide +kernel
theorem dRG_ticks_78 : decode bRG_ticks 78 = .ok (.iconst 1, 1) := by decide +kernel
theorem dRG_ticks_79 : decode bRG_ticks 79 = .ok (.iadd, 1) := by decide +kernel
theorem dRG_ticks_80 : decode bRG_ticks 80 = .ok (.putfield 152, 3) := by decide +kernel
theorem dRG_ticks_83 : decode bRG_ticks 83 = .ok (.aload_n 0, 1) := by decide +kernel
theorem dRG_ticks_84 : decode bRG_ticks 84 = .ok (.getfield 35, 3) := by decide +kernel
theorem dRG_ticks_87 : decode bRG_ticks 87 = .ok (.invokevirtual 167, 3) := by decide +kernel
theorem dRG_ticks_90 : decode bRG_ticks 90 = .ok (.aload_n 0, 1) := by decide +kernel
theorem dRG_ticks_91 : decode bRG_ticks 91 = .ok (.getfield 35, 3) := by decide +kernel
theorem dRG_ticks_94 : decode bRG_ticks 94 = .ok (.invokevirtual 170, 3) := by decide +kernel
theorem dRG_ticks_97 : decode bRG_ticks 97 = .ok (.aload_n 0, 1) := by decide +kernel
theorem dRG_ticks_98 : decode bRG_ticks 98 = .ok (.aload_n 0, 1) := by decide +kernel
theorem dRG_ticks_99 : decode bRG_ticks 99 = .ok (.invokevirtual 157, 3) := by decide +kernel
theorem dRG_ticks_102 : decode bRG_ticks 102 = .ok (.putfield 161, 3) := by decide +kernel
theorem dRG_ticks_105 : decode bRG_ticks 105 = .ok (.aload_n 0, 1) := by decide +kernel
theorem dRG_ticks_106 : decode bRG_ticks 106 = .ok (.aload_n 0, 1) := by decide +kernel
theorem dRG_ticks_107 : decode bRG_ticks 107 = .ok (.getfield 161, 3) := by decide +kernel
theorem dRG_ticks_110 : decode bRG_ticks 110 = .ok (.iload_n 3, 1) := by decide +kernel
theorem dRG_ticks_111 : decode bRG_ticks 111 = .ok (.if_icmp .ne 12, 3) := by decide +kernel
theorem dRG_ticks_114 : decode bRG_ticks 114 = .ok (.aload_n 0, 1) := by decide +kernel
theorem dRG_ticks_115 : decode bRG_ticks 115 = .ok (.getfield 164, 3) := by decide +kernel
theorem dRG_ticks_118 : decode bRG_ticks 118 = .ok (.iconst 1, 1) := by decide +kernel
theorem dRG_ticks_119 : decode bRG_ticks 119 = .ok (.iadd, 1) := by decide +kernel
theorem dRG_ticks_120 : decode bRG_ticks 120 = .ok (.goto 4, 3) := by decide +kernel
theorem dRG_ticks_123 : decode bRG_ticks 123 = .ok (.iconst 0, 1) := by decide +kernel
theorem dRG_ticks_124 : decode bRG_ticks 124 = .ok (.putfield 164, 3) := by decide +kernel
theorem dRG_ticks_127 : decode bRG_ticks 127 = .ok (.aload_n 0, 1) := by decide +kernel
theorem dRG_ticks_128 : decode bRG_ticks 128 = .ok (.invokevirtual 124, 3) := by decide +kernel
theorem dRG_ticks_131 : decode bRG_ticks 131 = .ok (.aload_n 0, 1) := by decide +kernel
theorem dRG_ticks_132 : decode bRG_ticks 132 = .ok (.invokevirtual 173, 3) := by decide +kernel
theorem dRG_ticks_135 : decode bRG_ticks 135 = .ok (.iinc 2 1, 3) := by decide +kernel
theorem dRG_ticks_138 : decode bRG_ticks 138 = .ok (.goto (-88), 3) := by decide +kernel
theorem dRG_ticks_141 : decode bRG_ticks 141 = .ok (.aload_n 0, 1) := by decide +kernel
theorem dRG_ticks_142 : decode bRG_ticks 142 = .ok (.getfield 152, 3) := by decide +kernel
theorem dRG_ticks_145 : decode bRG_ticks 145 = .ok (.ireturn, 1) := by decide +kernel
theorem dRG_told_0 : decode bRG_told 0 = .ok (.aload_n 0, 1) := by decide +kernel
theorem dRG_told_1 : decode bRG_told 1 = .ok (.iload_n 1, 1) := by decide +kernel
theorem dRG_told_2 : decode bRG_told 2 = .ok (.invokevirtual 69, 3) := by decide +kernel
theorem dRG_told_5 : decode bRG_told 5 = .ok (.aload_n 0, 1) := by decide +kernel
theorem dRG_told_6 : decode bRG_told 6 = .ok (.iload_n 2, 1) := by decide +kernel
theorem dRG_told_7 : decode bRG_told 7 = .ok (.invokevirtual 73, 3) := by decide +kernel
theorem dRG_told_10 : decode bRG_told 10 = .ok (.iload_n 3, 1) := by decide +kernel
theorem dRG_told_11 : decode bRG_told 11 = .ok (.tableswitch 60 0 2 #[25, 35, 50], 25) := by decide +kernel
theorem dRG_told_36 : decode bRG_told 36 = .ok (.aload_n 0, 1) := by decide +kernel
theorem dRG_told_37 : decode bRG_told 37 = .ok (.getfield 35, 3) := by decide +kernel
theorem dRG_told_40 : decode bRG_told 40 = .ok (.getfield 200, 3) := by decide +kernel
theorem dRG_told_43 : decode bRG_told 43 = .ok (.iload_n 1, 1) := by decide +kernel
theorem dRG_told_44 : decode bRG_told 44 = .ok (.iaload, 1) := by decide +kernel
theorem dRG_told_45 : decode bRG_told 45 = .ok (.ireturn, 1) := by decide +kernel
theorem dRG_told_46 : decode bRG_told 46 = .ok (.aload_n 0, 1) := by decide +kernel
theorem dRG_told_47 : decode bRG_told 47 = .ok (.getfield 35, 3) := by decide +kernel
theorem dRG_told_50 : decode bRG_told 50 = .ok (.getfield 203, 3) := by decide +kernel
theorem dRG_told_53 : decode bRG_told 53 = .ok (.iload_n 1, 1) := by decide +kernel
theorem dRG_told_54 : decode bRG_told 54 = .ok (.bipush 6, 2) := by decide +kernel
theorem dRG_told_56 : decode bRG_told 56 = .ok (.imul, 1) := by decide +kernel
theorem dRG_told_57 : decode bRG_told 57 = .ok (.iload_n 2, 1) := by decide +kernel
theorem dRG_told_58 : decode bRG_told 58 = .ok (.iadd, 1) := by decide +kernel
theorem dRG_told_59 : decode bRG_told 59 = .ok (.iaload, 1) := by decide +kernel
theorem dRG_told_60 : decode bRG_told 60 = .ok (.ireturn, 1) := by decide +kernel
theorem dRG_told_61 : decode bRG_told 61 = .ok (.aload_n 0, 1) := by decide +kernel
theorem dRG_told_62 : decode bRG_told 62 = .ok (.getfield 35, 3) := by decide +kernel
theorem dRG_told_65 : decode bRG_told 65 = .ok (.getfield 206, 3) := by decide +kernel
theorem dRG_told_68 : decode bRG_told 68 = .ok (.iload_n 2, 1) := by decide +kernel
theorem dRG_told_69 : decode bRG_told 69 = .ok (.iaload, 1) := by decide +kernel
theorem dRG_told_70 : decode bRG_told 70 = .ok (.ireturn, 1) := by decide +kernel
theorem dRG_told_71 : decode bRG_told 71 = .ok (.new 76, 3) := by decide +kernel
theorem dRG_told_74 : decode bRG_told 74 = .ok (.dup, 1) := by decide +kernel
theorem dRG_told_75 : decode bRG_told 75 = .ok (.ldc 209, 2) := by decide +kernel
theorem dRG_told_77 : decode bRG_told 77 = .ok (.invokespecial 80, 3) := by decide +kernel
theorem dRG_told_80 : decode bRG_told 80 = .ok (.athrow, 1) := by decide +kernel
theorem dRG_visits_0 : decode bRG_visits 0 = .ok (.aload_n 0, 1) := by decide +kernel
theorem dRG_visits_1 : decode bRG_visits 1 = .ok (.getfield 44, 3) := by decide +kernel
theorem dRG_visits_4 : decode bRG_visits 4 = .ok (.getfield 194, 3) := by decide +kernel
theorem dRG_visits_7 : decode bRG_visits 7 = .ok (.ireturn, 1) := by decide +kernel
theorem zport_r {P S : ZS} {br lk k : Int32} (r : zr 0 59 lk) (hne : ¬ fPL_portOf P S br lk = -1) (e : k = fPL_portOf P S br lk) : zr 0 119 k ∧ k.toInt ≤ 2 * lk.toInt + 1 := by
  have z : (2 : Int32).toInt = 2 := by decide
  have z1 : (1 : Int32).toInt = 1 := by decide
  have r1 := r.1
  have r2 := r.2
  have q1 : (2 * lk).toInt = 2 * lk.toInt := by rw [Int32.toInt_mul, z, zbm ⟨by omega, by omega⟩]
  have q2 : (2 * lk + 1).toInt = 2 * lk.toInt + 1 := by rw [Int32.toInt_add, z1, q1, zbm ⟨by omega, by omega⟩]
  have q : k = 2 * lk ∨ k = 2 * lk + 1 := by
    rw [← e] at hne
    simp only [fPL_portOf, zl] at e
    split at e
    · exact Or.inl e
    · split at e
      · exact Or.inr e
      · exact absurd e hne
  rcases q with rfl | rfl
  · exact ⟨⟨by omega, by omega⟩, by omega⟩
  · exact ⟨⟨by omega, by omega⟩, by omega⟩
theorem zport_gp {P S : ZS} (h : zQ P) {br lk k : Int32} (r : zr 0 59 lk) (hl : lk.toInt < (P.I 1).toInt) (hne : ¬ fPL_portOf P S br lk = -1) (e : k = fPL_portOf P S br lk) : zr 0 119 k ∧ zgt P k := by
  have q := zport_r r hne e
  exact ⟨q.1, h.2.2.1 k q.1 (by omega)⟩
noncomputable def fRG_bridge (P S : ZS) : Except Nat (ZS × ZS × Int32) := zbind (fRG_requireNotStarted P S) (fun u1 => zl (P.I 0) (fun k4 => (if k4 < 48 then .ok (zl (P.I 0) (fun k5 => zl (k4 + 1) (fun k6 => zl (P.setI 0 k6) (fun P7 => (P7, S, k4))))) else .error 2)))
set_option maxHeartbeats 4000000 in
set_option maxRecDepth 100000 in
theorem tRG_bridge (l : Launch) (dC : Nat → ClassId) (dI : Nat → Nat → Nat) (cI cZ cJ cA : ClassId) (a0 : Array Value) (s0 : State) (o b : Nat → Nat) (P S : ZS) (sz : Nat) (gP : cok P) (gS : cok S) (y : ZS × ZS × Int32) (hc : fRG_bridge P S  = .ok y) : Met l yRG_bridge [Cond.code yRG_bridge bRG_bridge 2 (some .int)] ({ frames := 1, cells := 0, slots := 0, locals := 20 } : Room) (zP zCl dC dI (zTZ cI cZ cJ cA) a0 s0 [.ref (o 0)] sz (CW cI cZ cA o b P S)) (zQH zCl dC dI (fun (r : Int32) (x9 : ZS × ZS) => (x9.1, x9.2, r) = y ∧ cok x9.1 ∧ cok x9.2 ∧ zr 0 47 r) (fun x9 : ZS × ZS => (CW cI cZ cA o b x9.1 x9.2)) (va_A (CW cI cZ cA o b P S) sz)) 0 0 (va_A (CW cI cZ cA o b P S) sz) := by
  refine Met.ofW (cc := bRG_bridge) (maxL := 2) (ret := (some .int)) (by decide) rfl ?_
  intro p e s m args below meth c s₁ B hml hv
  obtain ⟨rfl, hsz, hP, hK, hD0, hB⟩ := hv
  have hx := B.exec
  have hb := B.bytes
  have hr := B.returns
  have hown : s.vm.findClass "RingGuard" = some m.cls := findClass_of_methodNamed B.named
  have hlocks := B.notSynchronized
  subst hsz
  have hD := hD0.self (sz := s.heap.size)
  have hA0 := zA0 hD0 hB
  generalize hAe : va_A (CW cI cZ cA o b P S) s.heap.size = A at hD hA0 ⊢
  have hAD := hA0
  have hA : ∀ q : Nat, s.heap.size ≤ q → A q := fun q h => by rw [← hAe]; exact Or.inr h
  have hS : va_S A s.heap s.heap [] := va_S.rf
  have hl := lv_entry ([.ref (o 0)]) (n := 2) (Nat.le_of_ble_eq_true rfl)
  rw [lg_entry_eq]
  generalize (lg_sl ([.ref (o 0)]) ++ List.replicate (2 - (lg_sl ([.ref (o 0)])).length) Slot.unset).toArray = ls at hl ⊢
  have hl : lv_has ls 2 [(0, .ref (o 0))] := hl
  refine zgenQ (fun Q hQe => ?_)
  obtain ⟨tg, etg⟩ : ∃ z, z = fRG_bridge P S  := ⟨_, rfl⟩
  have E := etg
  unfold fRG_bridge at E
  refine lv_aload_n hx hb dRG_bridge_0 rfl (lv_at hl 0 rfl) ?_
  refine z_bind E (fun k9 h2 E => ?_) (fun u1 h2 E => ?_)
  · cases E.symm.trans (etg.trans hc)
  · skip
    refine zcallo (va_runV (As := []) (rest := []) ⟨hx, hb, hml, hown, zno⟩ (tRG_requireNotStarted l dC dI cI cZ cJ cA a0 s0 o b P S s.heap.size gP gS u1 h2) (zcw 0 (hB.word (zm2 k2_70) rfl) (hB.word (zm1 k1_1) rfl) (hB.word (zm2 k2_67) rfl) (hB.word (zm2 k2_69) rfl) (k2_selects_private (by decide) (hB.word (zm1 k1_18) rfl) (hB.word (zm2 k2_68) rfl) (hB.word (zm2 k2_69) rfl)) rfl rfl (by decide +kernel) ⟨Nat.le_of_ble_eq_true rfl, Nat.le_of_ble_eq_true rfl⟩) ⟨zP_blind, va_recv hK hP (ci := 0) (q0 := 0) rfl rfl, zP_pre hP hK hD hAD (zB_on hB hA0 hS)⟩ rfl rfl hl.1 rfl (lv_room (Nat.le_of_ble_eq_true rfl)) dRG_bridge_1 ⟨Nat.le_of_ble_eq_true rfl, Nat.le_of_ble_eq_true rfl⟩) hS hA (fun H3 locs hz1 hk1 hS => ?_)
    have hP := zKeep hP hk1
    refine lv_aload_n hx hb dRG_bridge_4 rfl (lv_at hl 0 rfl) ?_
    refine c_getO_RG_plan hx hb (hB.words zU_RG) hown hK hP (hB.word (zm1 k1_235) rfl) dRG_bridge_5 ?_
    refine c_get_0 hx hb (hB.words zU_PL) hown hK hP (hB.word (zm1 k1_34) rfl) dRG_bridge_8 E (fun k4 ek4 E => ?_)
    have r_k4 : zr 0 48 k4 := by rw [ek4]; exact gP.2.1 0
    refine lv_bipush (v := 48) hx hb dRG_bridge_11 (by decide) ?_
    refine z_icmp_lt (tgt := 26) hx hb dRG_bridge_13 (by decide) E (fun c_13 E => ?_) (fun c_13 E => ?_)
    · have r_k4 : zr 0 47 k4 := zlt_x r_k4 (show zr 48 48 48 from by decide) c_13 (by decide)
      have E := zokE E (etg.trans hc)
      refine lv_aload_n hx hb dRG_bridge_26 rfl (lv_at hl 0 rfl) ?_
      refine c_getO_RG_plan hx hb (hB.words zU_RG) hown hK hP (hB.word (zm1 k1_235) rfl) dRG_bridge_27 ?_
      refine c_get_0 hx hb (hB.words zU_PL) hown hK hP (hB.word (zm1 k1_34) rfl) dRG_bridge_30 E (fun k5 ek5 E => ?_)
      have x9 : k4 = k5 := by rw [ek4, ek5]
      subst x9
      refine lv_istore_n (lv' := [(1, .int k4), (0, .ref (o 0))]) hx hb dRG_bridge_33 rfl hl (by decide) rfl (fun ls hl => ?_)
      refine lv_aload_n hx hb dRG_bridge_34 rfl (lv_at hl 1 rfl) ?_
      refine c_getO_RG_plan hx hb (hB.words zU_RG) hown hK hP (hB.word (zm1 k1_235) rfl) dRG_bridge_35 ?_
      refine lv_iload_n hx hb dRG_bridge_38 rfl (lv_at hl 0 rfl) ?_
      refine lv_iconst (v := 1) hx hb dRG_bridge_39 (by decide) ?_
      refine z_iadd hx hb dRG_bridge_40 E (fun k6 ek6 E => ?_)
      have r_k6 : zr 1 48 k6 := zr_add r_k4 (show zr 1 1 1 from by decide) ek6 (by decide)
      refine c_put_0 hx hb (hB.words zU_PL) hown hK hP hD hS (hB.word (zm1 k1_34) rfl) dRG_bridge_41 E (fun P7 H8 locs eP7 E hP hD hS => ?_)
      have gP7 : cok P7 := by rw [eP7]; exact gP.setI (t := 0) (zr_mono r_k6 (by decide))
      refine lv_iload_n hx hb dRG_bridge_44 rfl (lv_at hl 0 rfl) ?_
      rw [hQe]
      exact W.iret (v := k4) hx hb hr (fun t ht hW => ⟨⟨k4, (P7, S), rfl, ⟨E.symm, gP7, gS, r_k4⟩, by rw [ht]; exact hP, hD⟩, hS.F ht⟩) hS.2.2 dRG_bridge_45
    · have r_k4 : zr 48 48 k4 := zle_y (show zr 48 48 48 from by decide) r_k4 (znlt c_13) (by decide)
      cases E.symm.trans (etg.trans hc)
set_option maxHeartbeats 4000000 in
set_option maxRecDepth 100000 in
theorem tRG_bridge_T2 (l : Launch) (dC : Nat → ClassId) (dI : Nat → Nat → Nat) (cI cZ cJ cA : ClassId) (a0 : Array Value) (s0 : State) (o b : Nat → Nat) (hfl : l.flags = Jvm.pinnedFlags ++ [Jvm.noTraceFlag]) (P S : ZS) (sz : Nat) (gP : cok P) (gS : cok S) (hc : fRG_bridge P S  = .error 2) : tq_Met l yRG_bridge [Cond.code yRG_bridge bRG_bridge 2 (some .int)] ({ frames := 7, cells := 1, slots := 6, locals := 110 } : Room) (zP zCl dC dI (zTZ cI cZ cJ cA) a0 s0 [.ref (o 0)] sz (CW cI cZ cA o b P S)) (tq_Q "java/lang/IllegalStateException") 1 6 (zN sz) := by
  refine tq_ofW (cc := bRG_bridge) (maxL := 2) (ret := (some .int)) (by decide) rfl ?_
  intro p e s m args below meth c s₁ B hml htab hv
  obtain ⟨rfl, hsz, hP, hK, hD0, hB⟩ := hv
  have hx := B.exec
  have hb := B.bytes
  have hr := B.returns
  have hown : s.vm.findClass "RingGuard" = some m.cls := findClass_of_methodNamed B.named
  have hlocks := B.notSynchronized
  subst hsz
  have hD := hD0
  have hA0 : ∀ q, zN s.heap.size q → s0.heap.size ≤ q := zA1 hB
  have hAD : ∀ q, zN s0.heap.size q → s0.heap.size ≤ q := fun _ h => h
  have hA : ∀ q : Nat, s.heap.size ≤ q → zN s.heap.size q := fun _ h => h
  have hS : va_S (zN s.heap.size) s.heap s.heap [] := va_S.rf
  have hl := lv_entry ([.ref (o 0)]) (n := 2) (Nat.le_of_ble_eq_true rfl)
  rw [lg_entry_eq]
  generalize (lg_sl ([.ref (o 0)]) ++ List.replicate (2 - (lg_sl ([.ref (o 0)])).length) Slot.unset).toArray = ls at hl ⊢
  have hfl := hfl
  have hl : lv_has ls 2 [(0, .ref (o 0))] := hl
  refine zgenQ (fun Q hQe => ?_)
  obtain ⟨tg, etg⟩ : ∃ z, z = fRG_bridge P S  := ⟨_, rfl⟩
  have E := etg
  unfold fRG_bridge at E
  refine lv_aload_n hx hb dRG_bridge_0 rfl (lv_at hl 0 rfl) ?_
  refine z_bind E (fun k9 h2 E => ?_) (fun u1 h2 E => ?_)
  · have x9 : k9 = 2 := zerr (E.symm.trans (etg.trans hc))
    subst x9
    rw [hQe]
    exact zpass (tq_runV (As := []) (rest := []) ⟨hx, hb, hml, hown, zno⟩ (tRG_requireNotStarted_T2 l dC dI cI cZ cJ cA a0 s0 o b hfl P S s.heap.size gP gS h2) (zcw 0 (hB.word (zm2 k2_70) rfl) (hB.word (zm1 k1_1) rfl) (hB.word (zm2 k2_67) rfl) (hB.word (zm2 k2_69) rfl) (k2_selects_private (by decide) (hB.word (zm1 k1_18) rfl) (hB.word (zm2 k2_68) rfl) (hB.word (zm2 k2_69) rfl)) rfl rfl (by decide +kernel) ⟨Nat.le_of_ble_eq_true rfl, Nat.le_of_ble_eq_true rfl⟩) ⟨zP_blind, va_recv hK hP (ci := 0) (q0 := 0) rfl rfl, zP_pre hP hK hD hAD (zB_on hB hA0 hS)⟩ rfl rfl hl.1 rfl (lv_room (Nat.le_of_ble_eq_true rfl)) dRG_bridge_1 ⟨Nat.le_of_ble_eq_true rfl, Nat.le_of_ble_eq_true rfl⟩) htab hlocks hS (Nat.le_of_ble_eq_true rfl) (Nat.le_of_ble_eq_true rfl)
  · skip
    refine zcallo (va_runV (As := []) (rest := []) ⟨hx, hb, hml, hown, zno⟩ (tRG_requireNotStarted l dC dI cI cZ cJ cA a0 s0 o b P S s.heap.size gP gS u1 h2) (zcw 0 (hB.word (zm2 k2_70) rfl) (hB.word (zm1 k1_1) rfl) (hB.word (zm2 k2_67) rfl) (hB.word (zm2 k2_69) rfl) (k2_selects_private (by decide) (hB.word (zm1 k1_18) rfl) (hB.word (zm2 k2_68) rfl) (hB.word (zm2 k2_69) rfl)) rfl rfl (by decide +kernel) ⟨Nat.le_of_ble_eq_true rfl, Nat.le_of_ble_eq_true rfl⟩) ⟨zP_blind, va_recv hK hP (ci := 0) (q0 := 0) rfl rfl, zP_pre hP hK hD hAD (zB_on hB hA0 hS)⟩ rfl rfl hl.1 rfl (lv_room (Nat.le_of_ble_eq_true rfl)) dRG_bridge_1 ⟨Nat.le_of_ble_eq_true rfl, Nat.le_of_ble_eq_true rfl⟩) hS hA (fun H3 locs hz1 hk1 hS => ?_)
    have hP := zKeep hP hk1
    refine lv_aload_n hx hb dRG_bridge_4 rfl (lv_at hl 0 rfl) ?_
    refine c_getO_RG_plan hx hb (hB.words zU_RG) hown hK hP (hB.word (zm1 k1_235) rfl) dRG_bridge_5 ?_
    refine c_get_0 hx hb (hB.words zU_PL) hown hK hP (hB.word (zm1 k1_34) rfl) dRG_bridge_8 E (fun k4 ek4 E => ?_)
    have r_k4 : zr 0 48 k4 := by rw [ek4]; exact gP.2.1 0
    refine lv_bipush (v := 48) hx hb dRG_bridge_11 (by decide) ?_
    refine z_icmp_lt (tgt := 26) hx hb dRG_bridge_13 (by decide) E (fun c_13 E => ?_) (fun c_13 E => ?_)
    · have r_k4 : zr 0 47 k4 := zlt_x r_k4 (show zr 48 48 48 from by decide) c_13 (by decide)
      cases E.symm.trans (etg.trans hc)
    · have r_k4 : zr 48 48 k4 := zle_y (show zr 48 48 48 from by decide) r_k4 (znlt c_13) (by decide)
      obtain ⟨qs, hZ⟩ := hB.str (zm2 k2_138)
      rw [hQe]
      exact zthrow hfl hx hb hown (hB.word (zm2 k2_71) rfl) (hB.word (zm1 k1_13) rfl) hZ (by decide) (hB.words zO_66) (by rw [hml]; exact hl.1) htab hlocks dRG_bridge_16 dRG_bridge_19 dRG_bridge_20 dRG_bridge_22 dRG_bridge_25 (Nat.le_of_ble_eq_true rfl) (Nat.le_of_ble_eq_true rfl) (Nat.le_of_ble_eq_true rfl) (Nat.le_of_ble_eq_true rfl) hS rfl rfl
noncomputable def fRG_link (P S : ZS) (x0 : Int32) (x1 : Int32) (x2 : Int32) : Except Nat (ZS × ZS × Int32) := zbind (fRG_requireBridge P S x0) (fun u1 => zbind (fRG_requireBridge P S x1) (fun u4 => zbind (fRG_requireRing P S x2) (fun u7 => (if x0 = x1 then .error 1 else zbind (fRG_requireNotStarted P S) (fun u10 => zl (P.I 1) (fun k13 => (if k13 < 60 then .ok (zl3 (fPL_addLink P S x0 x1 x2) (fun P17 S16 k15 => (P17, S16, k15))) else .error 2)))))))
set_option maxHeartbeats 4000000 in
set_option maxRecDepth 100000 in
theorem tRG_link (l : Launch) (dC : Nat → ClassId) (dI : Nat → Nat → Nat) (cI cZ cJ cA : ClassId) (a0 : Array Value) (s0 : State) (o b : Nat → Nat) (P S : ZS) (sz : Nat) (x0 : Int32) (x1 : Int32) (x2 : Int32) (gP : cok P) (gS : cok S) (y : ZS × ZS × Int32) (hc : fRG_link P S x0 x1 x2 = .ok y) : Met l yRG_link [Cond.code yRG_link bRG_link 4 (some .int)] ({ frames := 1, cells := 0, slots := 0, locals := 24 } : Room) (zP zCl dC dI (zTZ cI cZ cJ cA) a0 s0 [.ref (o 0), .int x0, .int x1, .int x2] sz (CW cI cZ cA o b P S)) (zQH zCl dC dI (fun (r : Int32) (x9 : ZS × ZS) => (x9.1, x9.2, r) = y ∧ cok x9.1 ∧ cok x9.2 ∧ zr 0 59 r) (fun x9 : ZS × ZS => (CW cI cZ cA o b x9.1 x9.2)) (va_A (CW cI cZ cA o b P S) sz)) 0 0 (va_A (CW cI cZ cA o b P S) sz) := by
  refine Met.ofW (cc := bRG_link) (maxL := 4) (ret := (some .int)) (by decide) rfl ?_
  intro p e s m args below meth c s₁ B hml hv
  obtain ⟨rfl, hsz, hP, hK, hD0, hB⟩ := hv
  have hx := B.exec
  have hb := B.bytes
  have hr := B.returns
  have hown : s.vm.findClass "RingGuard" = some m.cls := findClass_of_methodNamed B.named
  have hlocks := B.notSynchronized
  subst hsz
  have hD := hD0.self (sz := s.heap.size)
  have hA0 := zA0 hD0 hB
  generalize hAe : va_A (CW cI cZ cA o b P S) s.heap.size = A at hD hA0 ⊢
  have hAD := hA0
  have hA : ∀ q : Nat, s.heap.size ≤ q → A q := fun q h => by rw [← hAe]; exact Or.inr h
  have hS : va_S A s.heap s.heap [] := va_S.rf
  have hl := lv_entry ([.ref (o 0), .int x0, .int x1, .int x2]) (n := 4) (Nat.le_of_ble_eq_true rfl)
  rw [lg_entry_eq]
  generalize (lg_sl ([.ref (o 0), .int x0, .int x1, .int x2]) ++ List.replicate (4 - (lg_sl ([.ref (o 0), .int x0, .int x1, .int x2])).length) Slot.unset).toArray = ls at hl ⊢
  have hl : lv_has ls 4 [(0, .ref (o 0)), (1, .int x0), (2, .int x1), (3, .int x2)] := hl
  refine zgenQ (fun Q hQe => ?_)
  obtain ⟨tg, etg⟩ : ∃ z, z = fRG_link P S x0 x1 x2 := ⟨_, rfl⟩
  have E := etg
  unfold fRG_link at E
  refine lv_aload_n hx hb dRG_link_0 rfl (lv_at hl 0 rfl) ?_
  refine lv_iload_n hx hb dRG_link_1 rfl (lv_at hl 1 rfl) ?_
  refine z_bind E (fun k9 h2 E => ?_) (fun u1 h2 E => ?_)
  · cases E.symm.trans (etg.trans hc)
  · skip
    refine zcallo (va_runV (As := [.int x0]) (rest := []) ⟨hx, hb, hml, hown, zno⟩ (tRG_requireBridge l dC dI cI cZ cJ cA a0 s0 o b P S s.heap.size x0 gP gS u1 h2) (zcw 1 (hB.word (zm2 k2_150) rfl) (hB.word (zm1 k1_1) rfl) (hB.word (zm2 k2_147) rfl) (hB.word (zm2 k2_149) rfl) (k2_selects_private (by decide) (hB.word (zm1 k1_18) rfl) (hB.word (zm2 k2_148) rfl) (hB.word (zm2 k2_149) rfl)) rfl rfl (by decide +kernel) ⟨Nat.le_of_ble_eq_true rfl, Nat.le_of_ble_eq_true rfl⟩) ⟨zP_blind, va_recv hK hP (ci := 0) (q0 := 0) rfl rfl, zP_pre hP hK hD hAD (zB_on hB hA0 hS)⟩ rfl rfl hl.1 rfl (lv_room (Nat.le_of_ble_eq_true rfl)) dRG_link_2 ⟨Nat.le_of_ble_eq_true rfl, Nat.le_of_ble_eq_true rfl⟩) hS hA (fun H3 locs hz1 hk1 hS => ?_)
    have hP := zKeep hP hk1
    have r_x0 : zr 0 47 x0 := zk_rB1 gP h2
    have qlb_x0 : x0.toInt < (P.I 0).toInt := zk_rB2 gP h2
    refine lv_aload_n hx hb dRG_link_5 rfl (lv_at hl 0 rfl) ?_
    refine lv_iload_n hx hb dRG_link_6 rfl (lv_at hl 2 rfl) ?_
    refine z_bind E (fun k9 h5 E => ?_) (fun u4 h5 E => ?_)
    · cases E.symm.trans (etg.trans hc)
    · skip
      refine zcallo (va_runV (As := [.int x1]) (rest := []) ⟨hx, hb, hml, hown, zno⟩ (tRG_requireBridge l dC dI cI cZ cJ cA a0 s0 o b P S H3.size x1 gP gS u4 h5) (zcw 1 (hB.word (zm2 k2_150) rfl) (hB.word (zm1 k1_1) rfl) (hB.word (zm2 k2_147) rfl) (hB.word (zm2 k2_149) rfl) (k2_selects_private (by decide) (hB.word (zm1 k1_18) rfl) (hB.word (zm2 k2_148) rfl) (hB.word (zm2 k2_149) rfl)) rfl rfl (by decide +kernel) ⟨Nat.le_of_ble_eq_true rfl, Nat.le_of_ble_eq_true rfl⟩) ⟨zP_blind, va_recv hK hP (ci := 0) (q0 := 0) rfl rfl, zP_pre hP hK hD hAD (zB_on hB hA0 hS)⟩ rfl rfl hl.1 rfl (lv_room (Nat.le_of_ble_eq_true rfl)) dRG_link_7 ⟨Nat.le_of_ble_eq_true rfl, Nat.le_of_ble_eq_true rfl⟩) hS hA (fun H6 locs hz1 hk1 hS => ?_)
      have hP := zKeep hP hk1
      have r_x1 : zr 0 47 x1 := zk_rB1 gP h5
      have qlb_x1 : x1.toInt < (P.I 0).toInt := zk_rB2 gP h5
      refine lv_aload_n hx hb dRG_link_10 rfl (lv_at hl 0 rfl) ?_
      refine lv_iload_n hx hb dRG_link_11 rfl (lv_at hl 3 rfl) ?_
      refine z_bind E (fun k9 h8 E => ?_) (fun u7 h8 E => ?_)
      · cases E.symm.trans (etg.trans hc)
      · skip
        refine zcallo (va_runV (As := [.int x2]) (rest := []) ⟨hx, hb, hml, hown, zno⟩ (tRG_requireRing l dC dI cI cZ cJ cA a0 s0 o b P S H6.size x2 gP gS u7 h8) (zcw 1 (hB.word (zm2 k2_170) rfl) (hB.word (zm1 k1_1) rfl) (hB.word (zm2 k2_167) rfl) (hB.word (zm2 k2_169) rfl) (k2_selects_private (by decide) (hB.word (zm1 k1_18) rfl) (hB.word (zm2 k2_168) rfl) (hB.word (zm2 k2_169) rfl)) rfl rfl (by decide +kernel) ⟨Nat.le_of_ble_eq_true rfl, Nat.le_of_ble_eq_true rfl⟩) ⟨zP_blind, va_recv hK hP (ci := 0) (q0 := 0) rfl rfl, zP_pre hP hK hD hAD (zB_on hB hA0 hS)⟩ rfl rfl hl.1 rfl (lv_room (Nat.le_of_ble_eq_true rfl)) dRG_link_12 ⟨Nat.le_of_ble_eq_true rfl, Nat.le_of_ble_eq_true rfl⟩) hS hA (fun H9 locs hz1 hk1 hS => ?_)
        have hP := zKeep hP hk1
        have r_x2 : zr 0 5 x2 := zk_rR gP h8
        refine lv_iload_n hx hb dRG_link_15 rfl (lv_at hl 1 rfl) ?_
        refine lv_iload_n hx hb dRG_link_16 rfl (lv_at hl 2 rfl) ?_
        refine z_icmp_ne (tgt := 30) hx hb dRG_link_17 (by decide) E (fun c_17 E => ?_) (fun c_17 E => ?_)
        · refine lv_aload_n hx hb dRG_link_30 rfl (lv_at hl 0 rfl) ?_
          refine z_bind E (fun k9 h11 E => ?_) (fun u10 h11 E => ?_)
          · cases E.symm.trans (etg.trans hc)
          · skip
            refine zcallo (va_runV (As := []) (rest := []) ⟨hx, hb, hml, hown, zno⟩ (tRG_requireNotStarted l dC dI cI cZ cJ cA a0 s0 o b P S H9.size gP gS u10 h11) (zcw 0 (hB.word (zm2 k2_70) rfl) (hB.word (zm1 k1_1) rfl) (hB.word (zm2 k2_67) rfl) (hB.word (zm2 k2_69) rfl) (k2_selects_private (by decide) (hB.word (zm1 k1_18) rfl) (hB.word (zm2 k2_68) rfl) (hB.word (zm2 k2_69) rfl)) rfl rfl (by decide +kernel) ⟨Nat.le_of_ble_eq_true rfl, Nat.le_of_ble_eq_true rfl⟩) ⟨zP_blind, va_recv hK hP (ci := 0) (q0 := 0) rfl rfl, zP_pre hP hK hD hAD (zB_on hB hA0 hS)⟩ rfl rfl hl.1 rfl (lv_room (Nat.le_of_ble_eq_true rfl)) dRG_link_31 ⟨Nat.le_of_ble_eq_true rfl, Nat.le_of_ble_eq_true rfl⟩) hS hA (fun H12 locs hz1 hk1 hS => ?_)
            have hP := zKeep hP hk1
            refine lv_aload_n hx hb dRG_link_34 rfl (lv_at hl 0 rfl) ?_
            refine c_getO_RG_plan hx hb (hB.words zU_RG) hown hK hP (hB.word (zm1 k1_235) rfl) dRG_link_35 ?_
            refine c_get_1 hx hb (hB.words zU_PL) hown hK hP (hB.word (zm1 k1_39) rfl) dRG_link_38 E (fun k13 ek13 E => ?_)
            have r_k13 : zr 0 60 k13 := by rw [ek13]; exact gP.2.1 1
            refine lv_bipush (v := 60) hx hb dRG_link_41 (by decide) ?_
            refine z_icmp_lt (tgt := 56) hx hb dRG_link_43 (by decide) E (fun c_43 E => ?_) (fun c_43 E => ?_)
            · have r_k13 : zr 0 59 k13 := zlt_x r_k13 (show zr 60 60 60 from by decide) c_43 (by decide)
              have E := zokE E (etg.trans hc)
              refine lv_aload_n hx hb dRG_link_56 rfl (lv_at hl 0 rfl) ?_
              refine c_getO_RG_plan hx hb (hB.words zU_RG) hown hK hP (hB.word (zm1 k1_235) rfl) dRG_link_57 ?_
              refine lv_iload_n hx hb dRG_link_60 rfl (lv_at hl 1 rfl) ?_
              refine lv_iload_n hx hb dRG_link_61 rfl (lv_at hl 2 rfl) ?_
              refine lv_iload_n hx hb dRG_link_62 rfl (lv_at hl 3 rfl) ?_
              refine zcI (va_runV (As := [.int x0, .int x1, .int x2]) (rest := []) ⟨hx, hb, hml, hown, zno⟩ (tPL_addLink l dC dI cI cZ cJ cA a0 s0 o b P S H12.size x0 x1 x2 gP gS r_x0 r_x1 r_x2 (by have h9 := r_k13.2; rw [ek13] at h9; omega)) (zcw 3 (hB.word (zm2 k2_177) rfl) (hB.word (zm1 k1_2) rfl) (hB.word (zm2 k2_174) rfl) (hB.word (zm2 k2_175) rfl) (hB.word (zm2 k2_176) rfl) rfl rfl (by decide +kernel) ⟨Nat.le_of_ble_eq_true rfl, Nat.le_of_ble_eq_true rfl⟩) ⟨zP_blind, va_recv hK hP (ci := 1) (q0 := 1) rfl rfl, zP_pre hP hK hD hAD (zB_on hB hA0 hS)⟩ rfl rfl hl.1 rfl (lv_room (Nat.le_of_ble_eq_true rfl)) dRG_link_63 ⟨Nat.le_of_ble_eq_true rfl, Nat.le_of_ble_eq_true rfl⟩) hD hS hA (fun k15 x9 H14 locs h18 hP hD hS => ?_)
              obtain ⟨P17, S16⟩ := x9
              have hP : va_P (dC, dI) zCl (CW cI cZ cA o b P17 S16) H14 := hP
              have hD : va_D A (CW cI cZ cA o b P17 S16) := hD
              have E := zl3_s E h18.1
              have gP17 := h18.2.1
              have gS16 := h18.2.2.1
              rw [hQe]
              exact W.iret (v := k15) hx hb hr (fun t ht hW => ⟨⟨k15, (P17, S16), rfl, ⟨E.symm, gP17, gS16, h18.2.2.2⟩, by rw [ht]; exact hP, hD⟩, hS.F ht⟩) hS.2.2 dRG_link_66
            · have r_k13 : zr 60 60 k13 := zle_y (show zr 60 60 60 from by decide) r_k13 (znlt c_43) (by decide)
              cases E.symm.trans (etg.trans hc)
        · cases E.symm.trans (etg.trans hc)
set_option maxHeartbeats 4000000 in
set_option maxRecDepth 100000 in
theorem tRG_link_T1 (l : Launch) (dC : Nat → ClassId) (dI : Nat → Nat → Nat) (cI cZ cJ cA : ClassId) (a0 : Array Value) (s0 : State) (o b : Nat → Nat) (hfl : l.flags = Jvm.pinnedFlags ++ [Jvm.noTraceFlag]) (P S : ZS) (sz : Nat) (x0 : Int32) (x1 : Int32) (x2 : Int32) (gP : cok P) (gS : cok S) (hc : fRG_link P S x0 x1 x2 = .error 1) : tq_Met l yRG_link [Cond.code yRG_link bRG_link 4 (some .int)] ({ frames := 7, cells := 1, slots := 6, locals := 111 } : Room) (zP zCl dC dI (zTZ cI cZ cJ cA) a0 s0 [.ref (o 0), .int x0, .int x1, .int x2] sz (CW cI cZ cA o b P S)) (tq_Q "java/lang/IllegalArgumentException") 1 6 (zN sz) := by
  refine tq_ofW (cc := bRG_link) (maxL := 4) (ret := (some .int)) (by decide) rfl ?_
  intro p e s m args below meth c s₁ B hml htab hv
  obtain ⟨rfl, hsz, hP, hK, hD0, hB⟩ := hv
  have hx := B.exec
  have hb := B.bytes
  have hr := B.returns
  have hown : s.vm.findClass "RingGuard" = some m.cls := findClass_of_methodNamed B.named
  have hlocks := B.notSynchronized
  subst hsz
  have hD := hD0
  have hA0 : ∀ q, zN s.heap.size q → s0.heap.size ≤ q := zA1 hB
  have hAD : ∀ q, zN s0.heap.size q → s0.heap.size ≤ q := fun _ h => h
  have hA : ∀ q : Nat, s.heap.size ≤ q → zN s.heap.size q := fun _ h => h
  have hS : va_S (zN s.heap.size) s.heap s.heap [] := va_S.rf
  have hl := lv_entry ([.ref (o 0), .int x0, .int x1, .int x2]) (n := 4) (Nat.le_of_ble_eq_true rfl)
  rw [lg_entry_eq]
  generalize (lg_sl ([.ref (o 0), .int x0, .int x1, .int x2]) ++ List.replicate (4 - (lg_sl ([.ref (o 0), .int x0, .int x1, .int x2])).length) Slot.unset).toArray = ls at hl ⊢
  have hfl := hfl
  have hl : lv_has ls 4 [(0, .ref (o 0)), (1, .int x0), (2, .int x1), (3, .int x2)] := hl
  refine zgenQ (fun Q hQe => ?_)
  obtain ⟨tg, etg⟩ : ∃ z, z = fRG_link P S x0 x1 x2 := ⟨_, rfl⟩
  have E := etg
  unfold fRG_link at E
  refine lv_aload_n hx hb dRG_link_0 rfl (lv_at hl 0 rfl) ?_
  refine lv_iload_n hx hb dRG_link_1 rfl (lv_at hl 1 rfl) ?_
  refine z_bind E (fun k9 h2 E => ?_) (fun u1 h2 E => ?_)
  · have x9 : k9 = 1 := zerr (E.symm.trans (etg.trans hc))
    subst x9
    rw [hQe]
    exact zpass (tq_runV (As := [.int x0]) (rest := []) ⟨hx, hb, hml, hown, zno⟩ (tRG_requireBridge_T1 l dC dI cI cZ cJ cA a0 s0 o b hfl P S s.heap.size x0 gP gS h2) (zcw 1 (hB.word (zm2 k2_150) rfl) (hB.word (zm1 k1_1) rfl) (hB.word (zm2 k2_147) rfl) (hB.word (zm2 k2_149) rfl) (k2_selects_private (by decide) (hB.word (zm1 k1_18) rfl) (hB.word (zm2 k2_148) rfl) (hB.word (zm2 k2_149) rfl)) rfl rfl (by decide +kernel) ⟨Nat.le_of_ble_eq_true rfl, Nat.le_of_ble_eq_true rfl⟩) ⟨zP_blind, va_recv hK hP (ci := 0) (q0 := 0) rfl rfl, zP_pre hP hK hD hAD (zB_on hB hA0 hS)⟩ rfl rfl hl.1 rfl (lv_room (Nat.le_of_ble_eq_true rfl)) dRG_link_2 ⟨Nat.le_of_ble_eq_true rfl, Nat.le_of_ble_eq_true rfl⟩) htab hlocks hS (Nat.le_of_ble_eq_true rfl) (Nat.le_of_ble_eq_true rfl)
  · skip
    refine zcallo (va_runV (As := [.int x0]) (rest := []) ⟨hx, hb, hml, hown, zno⟩ (tRG_requireBridge l dC dI cI cZ cJ cA a0 s0 o b P S s.heap.size x0 gP gS u1 h2) (zcw 1 (hB.word (zm2 k2_150) rfl) (hB.word (zm1 k1_1) rfl) (hB.word (zm2 k2_147) rfl) (hB.word (zm2 k2_149) rfl) (k2_selects_private (by decide) (hB.word (zm1 k1_18) rfl) (hB.word (zm2 k2_148) rfl) (hB.word (zm2 k2_149) rfl)) rfl rfl (by decide +kernel) ⟨Nat.le_of_ble_eq_true rfl, Nat.le_of_ble_eq_true rfl⟩) ⟨zP_blind, va_recv hK hP (ci := 0) (q0 := 0) rfl rfl, zP_pre hP hK hD hAD (zB_on hB hA0 hS)⟩ rfl rfl hl.1 rfl (lv_room (Nat.le_of_ble_eq_true rfl)) dRG_link_2 ⟨Nat.le_of_ble_eq_true rfl, Nat.le_of_ble_eq_true rfl⟩) hS hA (fun H3 locs hz1 hk1 hS => ?_)
    have hP := zKeep hP hk1
    have r_x0 : zr 0 47 x0 := zk_rB1 gP h2
    have qlb_x0 : x0.toInt < (P.I 0).toInt := zk_rB2 gP h2
    refine lv_aload_n hx hb dRG_link_5 rfl (lv_at hl 0 rfl) ?_
    refine lv_iload_n hx hb dRG_link_6 rfl (lv_at hl 2 rfl) ?_
    refine z_bind E (fun k9 h5 E => ?_) (fun u4 h5 E => ?_)
    · have x9 : k9 = 1 := zerr (E.symm.trans (etg.trans hc))
      subst x9
      rw [hQe]
      exact zpass (tq_runV (As := [.int x1]) (rest := []) ⟨hx, hb, hml, hown, zno⟩ (tRG_requireBridge_T1 l dC dI cI cZ cJ cA a0 s0 o b hfl P S H3.size x1 gP gS h5) (zcw 1 (hB.word (zm2 k2_150) rfl) (hB.word (zm1 k1_1) rfl) (hB.word (zm2 k2_147) rfl) (hB.word (zm2 k2_149) rfl) (k2_selects_private (by decide) (hB.word (zm1 k1_18) rfl) (hB.word (zm2 k2_148) rfl) (hB.word (zm2 k2_149) rfl)) rfl rfl (by decide +kernel) ⟨Nat.le_of_ble_eq_true rfl, Nat.le_of_ble_eq_true rfl⟩) ⟨zP_blind, va_recv hK hP (ci := 0) (q0 := 0) rfl rfl, zP_pre hP hK hD hAD (zB_on hB hA0 hS)⟩ rfl rfl hl.1 rfl (lv_room (Nat.le_of_ble_eq_true rfl)) dRG_link_7 ⟨Nat.le_of_ble_eq_true rfl, Nat.le_of_ble_eq_true rfl⟩) htab hlocks hS (Nat.le_of_ble_eq_true rfl) (Nat.le_of_ble_eq_true rfl)
    · skip
      refine zcallo (va_runV (As := [.int x1]) (rest := []) ⟨hx, hb, hml, hown, zno⟩ (tRG_requireBridge l dC dI cI cZ cJ cA a0 s0 o b P S H3.size x1 gP gS u4 h5) (zcw 1 (hB.word (zm2 k2_150) rfl) (hB.word (zm1 k1_1) rfl) (hB.word (zm2 k2_147) rfl) (hB.word (zm2 k2_149) rfl) (k2_selects_private (by decide) (hB.word (zm1 k1_18) rfl) (hB.word (zm2 k2_148) rfl) (hB.word (zm2 k2_149) rfl)) rfl rfl (by decide +kernel) ⟨Nat.le_of_ble_eq_true rfl, Nat.le_of_ble_eq_true rfl⟩) ⟨zP_blind, va_recv hK hP (ci := 0) (q0 := 0) rfl rfl, zP_pre hP hK hD hAD (zB_on hB hA0 hS)⟩ rfl rfl hl.1 rfl (lv_room (Nat.le_of_ble_eq_true rfl)) dRG_link_7 ⟨Nat.le_of_ble_eq_true rfl, Nat.le_of_ble_eq_true rfl⟩) hS hA (fun H6 locs hz1 hk1 hS => ?_)
      have hP := zKeep hP hk1
      have r_x1 : zr 0 47 x1 := zk_rB1 gP h5
      have qlb_x1 : x1.toInt < (P.I 0).toInt := zk_rB2 gP h5
      refine lv_aload_n hx hb dRG_link_10 rfl (lv_at hl 0 rfl) ?_
      refine lv_iload_n hx hb dRG_link_11 rfl (lv_at hl 3 rfl) ?_
      refine z_bind E (fun k9 h8 E => ?_) (fun u7 h8 E => ?_)
      · have x9 : k9 = 1 := zerr (E.symm.trans (etg.trans hc))
        subst x9
        rw [hQe]
        exact zpass (tq_runV (As := [.int x2]) (rest := []) ⟨hx, hb, hml, hown, zno⟩ (tRG_requireRing_T1 l dC dI cI cZ cJ cA a0 s0 o b hfl P S H6.size x2 gP gS h8) (zcw 1 (hB.word (zm2 k2_170) rfl) (hB.word (zm1 k1_1) rfl) (hB.word (zm2 k2_167) rfl) (hB.word (zm2 k2_169) rfl) (k2_selects_private (by decide) (hB.word (zm1 k1_18) rfl) (hB.word (zm2 k2_168) rfl) (hB.word (zm2 k2_169) rfl)) rfl rfl (by decide +kernel) ⟨Nat.le_of_ble_eq_true rfl, Nat.le_of_ble_eq_true rfl⟩) ⟨zP_blind, va_recv hK hP (ci := 0) (q0 := 0) rfl rfl, zP_pre hP hK hD hAD (zB_on hB hA0 hS)⟩ rfl rfl hl.1 rfl (lv_room (Nat.le_of_ble_eq_true rfl)) dRG_link_12 ⟨Nat.le_of_ble_eq_true rfl, Nat.le_of_ble_eq_true rfl⟩) htab hlocks hS (Nat.le_of_ble_eq_true rfl) (Nat.le_of_ble_eq_true rfl)
      · skip
        refine zcallo (va_runV (As := [.int x2]) (rest := []) ⟨hx, hb, hml, hown, zno⟩ (tRG_requireRing l dC dI cI cZ cJ cA a0 s0 o b P S H6.size x2 gP gS u7 h8) (zcw 1 (hB.word (zm2 k2_170) rfl) (hB.word (zm1 k1_1) rfl) (hB.word (zm2 k2_167) rfl) (hB.word (zm2 k2_169) rfl) (k2_selects_private (by decide) (hB.word (zm1 k1_18) rfl) (hB.word (zm2 k2_168) rfl) (hB.word (zm2 k2_169) rfl)) rfl rfl (by decide +kernel) ⟨Nat.le_of_ble_eq_true rfl, Nat.le_of_ble_eq_true rfl⟩) ⟨zP_blind, va_recv hK hP (ci := 0) (q0 := 0) rfl rfl, zP_pre hP hK hD hAD (zB_on hB hA0 hS)⟩ rfl rfl hl.1 rfl (lv_room (Nat.le_of_ble_eq_true rfl)) dRG_link_12 ⟨Nat.le_of_ble_eq_true rfl, Nat.le_of_ble_eq_true rfl⟩) hS hA (fun H9 locs hz1 hk1 hS => ?_)
        have hP := zKeep hP hk1
        have r_x2 : zr 0 5 x2 := zk_rR gP h8
        refine lv_iload_n hx hb dRG_link_15 rfl (lv_at hl 1 rfl) ?_
        refine lv_iload_n hx hb dRG_link_16 rfl (lv_at hl 2 rfl) ?_
        refine z_icmp_ne (tgt := 30) hx hb dRG_link_17 (by decide) E (fun c_17 E => ?_) (fun c_17 E => ?_)
        · refine lv_aload_n hx hb dRG_link_30 rfl (lv_at hl 0 rfl) ?_
          refine z_bind E (fun k9 h11 E => ?_) (fun u10 h11 E => ?_)
          · have x9 : k9 = 1 := zerr (E.symm.trans (etg.trans hc))
            subst x9
            exact absurd (fRG_requireNotStarted_c h11) (by decide)
          · skip
            refine zcallo (va_runV (As := []) (rest := []) ⟨hx, hb, hml, hown, zno⟩ (tRG_requireNotStarted l dC dI cI cZ cJ cA a0 s0 o b P S H9.size gP gS u10 h11) (zcw 0 (hB.word (zm2 k2_70) rfl) (hB.word (zm1 k1_1) rfl) (hB.word (zm2 k2_67) rfl) (hB.word (zm2 k2_69) rfl) (k2_selects_private (by decide) (hB.word (zm1 k1_18) rfl) (hB.word (zm2 k2_68) rfl) (hB.word (zm2 k2_69) rfl)) rfl rfl (by decide +kernel) ⟨Nat.le_of_ble_eq_true rfl, Nat.le_of_ble_eq_true rfl⟩) ⟨zP_blind, va_recv hK hP (ci := 0) (q0 := 0) rfl rfl, zP_pre hP hK hD hAD (zB_on hB hA0 hS)⟩ rfl rfl hl.1 rfl (lv_room (Nat.le_of_ble_eq_true rfl)) dRG_link_31 ⟨Nat.le_of_ble_eq_true rfl, Nat.le_of_ble_eq_true rfl⟩) hS hA (fun H12 locs hz1 hk1 hS => ?_)
            have hP := zKeep hP hk1
            refine lv_aload_n hx hb dRG_link_34 rfl (lv_at hl 0 rfl) ?_
            refine c_getO_RG_plan hx hb (hB.words zU_RG) hown hK hP (hB.word (zm1 k1_235) rfl) dRG_link_35 ?_
            refine c_get_1 hx hb (hB.words zU_PL) hown hK hP (hB.word (zm1 k1_39) rfl) dRG_link_38 E (fun k13 ek13 E => ?_)
            have r_k13 : zr 0 60 k13 := by rw [ek13]; exact gP.2.1 1
            refine lv_bipush (v := 60) hx hb dRG_link_41 (by decide) ?_
            refine z_icmp_lt (tgt := 56) hx hb dRG_link_43 (by decide) E (fun c_43 E => ?_) (fun c_43 E => ?_)
            · have r_k13 : zr 0 59 k13 := zlt_x r_k13 (show zr 60 60 60 from by decide) c_43 (by decide)
              cases E.symm.trans (etg.trans hc)
            · have r_k13 : zr 60 60 k13 := zle_y (show zr 60 60 60 from by decide) r_k13 (znlt c_43) (by decide)
              cases E.symm.trans (etg.trans hc)
        · obtain ⟨qs, hZ⟩ := hB.str (zm2 k2_172)
          rw [hQe]
          exact zthrow hfl hx hb hown (hB.word (zm2 k2_151) rfl) (hB.word (zm1 k1_14) rfl) hZ (by decide) (hB.words zO_80) (by rw [hml]; exact hl.1) htab hlocks dRG_link_20 dRG_link_23 dRG_link_24 dRG_link_26 dRG_link_29 (Nat.le_of_ble_eq_true rfl) (Nat.le_of_ble_eq_true rfl) (Nat.le_of_ble_eq_true rfl) (Nat.le_of_ble_eq_true rfl) hS rfl rfl
set_option maxHeartbeats 4000000 in
set_option maxRecDepth 100000 in
theorem tRG_link_T2 (l : Launch) (dC : Nat → ClassId) (dI : Nat → Nat → Nat) (cI cZ cJ cA : ClassId) (a0 : Array Value) (s0 : State) (o b : Nat → Nat) (hfl : l.flags = Jvm.pinnedFlags ++ [Jvm.noTraceFlag]) (P S : ZS) (sz : Nat) (x0 : Int32) (x1 : Int32) (x2 : Int32) (gP : cok P) (gS : cok S) (hc : fRG_link P S x0 x1 x2 = .error 2) : tq_Met l yRG_link [Cond.code yRG_link bRG_link 4 (some .int)] ({ frames := 7, cells := 1, slots := 6, locals := 111 } : Room) (zP zCl dC dI (zTZ cI cZ cJ cA) a0 s0 [.ref (o 0), .int x0, .int x1, .int x2] sz (CW cI cZ cA o b P S)) (tq_Q "java/lang/IllegalStateException") 1 6 (zN sz) := by
  refine tq_ofW (cc := bRG_link) (maxL := 4) (ret := (some .int)) (by decide) rfl ?_
  intro p e s m args below meth c s₁ B hml htab hv
  obtain ⟨rfl, hsz, hP, hK, hD0, hB⟩ := hv
  have hx := B.exec
  have hb := B.bytes
  have hr := B.returns
  have hown : s.vm.findClass "RingGuard" = some m.cls := findClass_of_methodNamed B.named
  have hlocks := B.notSynchronized
  subst hsz
  have hD := hD0
  have hA0 : ∀ q, zN s.heap.size q → s0.heap.size ≤ q := zA1 hB
  have hAD : ∀ q, zN s0.heap.size q → s0.heap.size ≤ q := fun _ h => h
  have hA : ∀ q : Nat, s.heap.size ≤ q → zN s.heap.size q := fun _ h => h
  have hS : va_S (zN s.heap.size) s.heap s.heap [] := va_S.rf
  have hl := lv_entry ([.ref (o 0), .int x0, .int x1, .int x2]) (n := 4) (Nat.le_of_ble_eq_true rfl)
  rw [lg_entry_eq]
  generalize (lg_sl ([.ref (o 0), .int x0, .int x1, .int x2]) ++ List.replicate (4 - (lg_sl ([.ref (o 0), .int x0, .int x1, .int x2])).length) Slot.unset).toArray = ls at hl ⊢
  have hfl := hfl
  have hl : lv_has ls 4 [(0, .ref (o 0)), (1, .int x0), (2, .int x1), (3, .int x2)] := hl
  refine zgenQ (fun Q hQe => ?_)
  obtain ⟨tg, etg⟩ : ∃ z, z = fRG_link P S x0 x1 x2 := ⟨_, rfl⟩
  have E := etg
  unfold fRG_link at E
  refine lv_aload_n hx hb dRG_link_0 rfl (lv_at hl 0 rfl) ?_
  refine lv_iload_n hx hb dRG_link_1 rfl (lv_at hl 1 rfl) ?_
  refine z_bind E (fun k9 h2 E => ?_) (fun u1 h2 E => ?_)
  · have x9 : k9 = 2 := zerr (E.symm.trans (etg.trans hc))
    subst x9
    exact absurd (fRG_requireBridge_c h2) (by decide)
  · skip
    refine zcallo (va_runV (As := [.int x0]) (rest := []) ⟨hx, hb, hml, hown, zno⟩ (tRG_requireBridge l dC dI cI cZ cJ cA a0 s0 o b P S s.heap.size x0 gP gS u1 h2) (zcw 1 (hB.word (zm2 k2_150) rfl) (hB.word (zm1 k1_1) rfl) (hB.word (zm2 k2_147) rfl) (hB.word (zm2 k2_149) rfl) (k2_selects_private (by decide) (hB.word (zm1 k1_18) rfl) (hB.word (zm2 k2_148) rfl) (hB.word (zm2 k2_149) rfl)) rfl rfl (by decide +kernel) ⟨Nat.le_of_ble_eq_true rfl, Nat.le_of_ble_eq_true rfl⟩) ⟨zP_blind, va_recv hK hP (ci := 0) (q0 := 0) rfl rfl, zP_pre hP hK hD hAD (zB_on hB hA0 hS)⟩ rfl rfl hl.1 rfl (lv_room (Nat.le_of_ble_eq_true rfl)) dRG_link_2 ⟨Nat.le_of_ble_eq_true rfl, Nat.le_of_ble_eq_true rfl⟩) hS hA (fun H3 locs hz1 hk1 hS => ?_)
    have hP := zKeep hP hk1
    have r_x0 : zr 0 47 x0 := zk_rB1 gP h2
    have qlb_x0 : x0.toInt < (P.I 0).toInt := zk_rB2 gP h2
    refine lv_aload_n hx hb dRG_link_5 rfl (lv_at hl 0 rfl) ?_
    refine lv_iload_n hx hb dRG_link_6 rfl (lv_at hl 2 rfl) ?_
    refine z_bind E (fun k9 h5 E => ?_) (fun u4 h5 E => ?_)
    · have x9 : k9 = 2 := zerr (E.symm.trans (etg.trans hc))
      subst x9
      exact absurd (fRG_requireBridge_c h5) (by decide)
    · skip
      refine zcallo (va_runV (As := [.int x1]) (rest := []) ⟨hx, hb, hml, hown, zno⟩ (tRG_requireBridge l dC dI cI cZ cJ cA a0 s0 o b P S H3.size x1 gP gS u4 h5) (zcw 1 (hB.word (zm2 k2_150) rfl) (hB.word (zm1 k1_1) rfl) (hB.word (zm2 k2_147) rfl) (hB.word (zm2 k2_149) rfl) (k2_selects_private (by decide) (hB.word (zm1 k1_18) rfl) (hB.word (zm2 k2_148) rfl) (hB.word (zm2 k2_149) rfl)) rfl rfl (by decide +kernel) ⟨Nat.le_of_ble_eq_true rfl, Nat.le_of_ble_eq_true rfl⟩) ⟨zP_blind, va_recv hK hP (ci := 0) (q0 := 0) rfl rfl, zP_pre hP hK hD hAD (zB_on hB hA0 hS)⟩ rfl rfl hl.1 rfl (lv_room (Nat.le_of_ble_eq_true rfl)) dRG_link_7 ⟨Nat.le_of_ble_eq_true rfl, Nat.le_of_ble_eq_true rfl⟩) hS hA (fun H6 locs hz1 hk1 hS => ?_)
      have hP := zKeep hP hk1
      have r_x1 : zr 0 47 x1 := zk_rB1 gP h5
      have qlb_x1 : x1.toInt < (P.I 0).toInt := zk_rB2 gP h5
      refine lv_aload_n hx hb dRG_link_10 rfl (lv_at hl 0 rfl) ?_
      refine lv_iload_n hx hb dRG_link_11 rfl (lv_at hl 3 rfl) ?_
      refine z_bind E (fun k9 h8 E => ?_) (fun u7 h8 E => ?_)
      · have x9 : k9 = 2 := zerr (E.symm.trans (etg.trans hc))
        subst x9
        exact absurd (fRG_requireRing_c h8) (by decide)
      · skip
        refine zcallo (va_runV (As := [.int x2]) (rest := []) ⟨hx, hb, hml, hown, zno⟩ (tRG_requireRing l dC dI cI cZ cJ cA a0 s0 o b P S H6.size x2 gP gS u7 h8) (zcw 1 (hB.word (zm2 k2_170) rfl) (hB.word (zm1 k1_1) rfl) (hB.word (zm2 k2_167) rfl) (hB.word (zm2 k2_169) rfl) (k2_selects_private (by decide) (hB.word (zm1 k1_18) rfl) (hB.word (zm2 k2_168) rfl) (hB.word (zm2 k2_169) rfl)) rfl rfl (by decide +kernel) ⟨Nat.le_of_ble_eq_true rfl, Nat.le_of_ble_eq_true rfl⟩) ⟨zP_blind, va_recv hK hP (ci := 0) (q0 := 0) rfl rfl, zP_pre hP hK hD hAD (zB_on hB hA0 hS)⟩ rfl rfl hl.1 rfl (lv_room (Nat.le_of_ble_eq_true rfl)) dRG_link_12 ⟨Nat.le_of_ble_eq_true rfl, Nat.le_of_ble_eq_true rfl⟩) hS hA (fun H9 locs hz1 hk1 hS => ?_)
        have hP := zKeep hP hk1
        have r_x2 : zr 0 5 x2 := zk_rR gP h8
        refine lv_iload_n hx hb dRG_link_15 rfl (lv_at hl 1 rfl) ?_
        refine lv_iload_n hx hb dRG_link_16 rfl (lv_at hl 2 rfl) ?_
        refine z_icmp_ne (tgt := 30) hx hb dRG_link_17 (by decide) E (fun c_17 E => ?_) (fun c_17 E => ?_)
        · refine lv_aload_n hx hb dRG_link_30 rfl (lv_at hl 0 rfl) ?_
          refine z_bind E (fun k9 h11 E => ?_) (fun u10 h11 E => ?_)
          · have x9 : k9 = 2 := zerr (E.symm.trans (etg.trans hc))
            subst x9
            rw [hQe]
            exact zpass (tq_runV (As := []) (rest := []) ⟨hx, hb, hml, hown, zno⟩ (tRG_requireNotStarted_T2 l dC dI cI cZ cJ cA a0 s0 o b hfl P S H9.size gP gS h11) (zcw 0 (hB.word (zm2 k2_70) rfl) (hB.word (zm1 k1_1) rfl) (hB.word (zm2 k2_67) rfl) (hB.word (zm2 k2_69) rfl) (k2_selects_private (by decide) (hB.word (zm1 k1_18) rfl) (hB.word (zm2 k2_68) rfl) (hB.word (zm2 k2_69) rfl)) rfl rfl (by decide +kernel) ⟨Nat.le_of_ble_eq_true rfl, Nat.le_of_ble_eq_true rfl⟩) ⟨zP_blind, va_recv hK hP (ci := 0) (q0 := 0) rfl rfl, zP_pre hP hK hD hAD (zB_on hB hA0 hS)⟩ rfl rfl hl.1 rfl (lv_room (Nat.le_of_ble_eq_true rfl)) dRG_link_31 ⟨Nat.le_of_ble_eq_true rfl, Nat.le_of_ble_eq_true rfl⟩) htab hlocks hS (Nat.le_of_ble_eq_true rfl) (Nat.le_of_ble_eq_true rfl)
          · skip
            refine zcallo (va_runV (As := []) (rest := []) ⟨hx, hb, hml, hown, zno⟩ (tRG_requireNotStarted l dC dI cI cZ cJ cA a0 s0 o b P S H9.size gP gS u10 h11) (zcw 0 (hB.word (zm2 k2_70) rfl) (hB.word (zm1 k1_1) rfl) (hB.word (zm2 k2_67) rfl) (hB.word (zm2 k2_69) rfl) (k2_selects_private (by decide) (hB.word (zm1 k1_18) rfl) (hB.word (zm2 k2_68) rfl) (hB.word (zm2 k2_69) rfl)) rfl rfl (by decide +kernel) ⟨Nat.le_of_ble_eq_true rfl, Nat.le_of_ble_eq_true rfl⟩) ⟨zP_blind, va_recv hK hP (ci := 0) (q0 := 0) rfl rfl, zP_pre hP hK hD hAD (zB_on hB hA0 hS)⟩ rfl rfl hl.1 rfl (lv_room (Nat.le_of_ble_eq_true rfl)) dRG_link_31 ⟨Nat.le_of_ble_eq_true rfl, Nat.le_of_ble_eq_true rfl⟩) hS hA (fun H12 locs hz1 hk1 hS => ?_)
            have hP := zKeep hP hk1
            refine lv_aload_n hx hb dRG_link_34 rfl (lv_at hl 0 rfl) ?_
            refine c_getO_RG_plan hx hb (hB.words zU_RG) hown hK hP (hB.word (zm1 k1_235) rfl) dRG_link_35 ?_
            refine c_get_1 hx hb (hB.words zU_PL) hown hK hP (hB.word (zm1 k1_39) rfl) dRG_link_38 E (fun k13 ek13 E => ?_)
            have r_k13 : zr 0 60 k13 := by rw [ek13]; exact gP.2.1 1
            refine lv_bipush (v := 60) hx hb dRG_link_41 (by decide) ?_
            refine z_icmp_lt (tgt := 56) hx hb dRG_link_43 (by decide) E (fun c_43 E => ?_) (fun c_43 E => ?_)
            · have r_k13 : zr 0 59 k13 := zlt_x r_k13 (show zr 60 60 60 from by decide) c_43 (by decide)
              cases E.symm.trans (etg.trans hc)
            · have r_k13 : zr 60 60 k13 := zle_y (show zr 60 60 60 from by decide) r_k13 (znlt c_43) (by decide)
              obtain ⟨qs, hZ⟩ := hB.str (zm2 k2_173)
              rw [hQe]
              exact zthrow hfl hx hb hown (hB.word (zm2 k2_71) rfl) (hB.word (zm1 k1_13) rfl) hZ (by decide) (hB.words zO_66) (by rw [hml]; exact hl.1) htab hlocks dRG_link_46 dRG_link_49 dRG_link_50 dRG_link_52 dRG_link_55 (Nat.le_of_ble_eq_true rfl) (Nat.le_of_ble_eq_true rfl) (Nat.le_of_ble_eq_true rfl) (Nat.le_of_ble_eq_true rfl) hS rfl rfl
        · cases E.symm.trans (etg.trans hc)
noncomputable def fRG_owner (P S : ZS) (x0 : Int32) (x1 : Int32) (x2 : Int32) : Except Nat (ZS × ZS) := zbind (fRG_requireRing P S x0) (fun u1 => zbind (fRG_requireBridge P S x1) (fun u4 => zbind (fRG_requireLink P S x2) (fun u7 => zbind (fRG_requireNotStarted P S) (fun u10 => .ok (zl (P.setF 3 (x0 : Int32).toNatClampNeg x1) (fun P13 => zl (P13.setF 4 (x0 : Int32).toNatClampNeg x2) (fun P15 => (P15, S))))))))
set_option maxHeartbeats 4000000 in
set_option maxRecDepth 100000 in
theorem tRG_owner (l : Launch) (dC : Nat → ClassId) (dI : Nat → Nat → Nat) (cI cZ cJ cA : ClassId) (a0 : Array Value) (s0 : State) (o b : Nat → Nat) (P S : ZS) (sz : Nat) (x0 : Int32) (x1 : Int32) (x2 : Int32) (gP : cok P) (gS : cok S) (y : ZS × ZS) (hc : fRG_owner P S x0 x1 x2 = .ok y) : Met l yRG_owner [Cond.code yRG_owner bRG_owner 4 none] ({ frames := 1, cells := 0, slots := 0, locals := 21 } : Room) (zP zCl dC dI (zTZ cI cZ cJ cA) a0 s0 [.ref (o 0), .int x0, .int x1, .int x2] sz (CW cI cZ cA o b P S)) (zQG zCl dC dI (fun (x9 : ZS × ZS) => x9 = y ∧ cok x9.1 ∧ cok x9.2) (fun x9 : ZS × ZS => (CW cI cZ cA o b x9.1 x9.2)) (va_A (CW cI cZ cA o b P S) sz)) 0 0 (va_A (CW cI cZ cA o b P S) sz) := by
  refine Met.ofW (cc := bRG_owner) (maxL := 4) (ret := none) (by decide) rfl ?_
  intro p e s m args below meth c s₁ B hml hv
  obtain ⟨rfl, hsz, hP, hK, hD0, hB⟩ := hv
  have hx := B.exec
  have hb := B.bytes
  have hr := B.returns
  have hown : s.vm.findClass "RingGuard" = some m.cls := findClass_of_methodNamed B.named
  have hlocks := B.notSynchronized
  subst hsz
  have hD := hD0.self (sz := s.heap.size)
  have hA0 := zA0 hD0 hB
  generalize hAe : va_A (CW cI cZ cA o b P S) s.heap.size = A at hD hA0 ⊢
  have hAD := hA0
  have hA : ∀ q : Nat, s.heap.size ≤ q → A q := fun q h => by rw [← hAe]; exact Or.inr h
  have hS : va_S A s.heap s.heap [] := va_S.rf
  have hl := lv_entry ([.ref (o 0), .int x0, .int x1, .int x2]) (n := 4) (Nat.le_of_ble_eq_true rfl)
  rw [lg_entry_eq]
  generalize (lg_sl ([.ref (o 0), .int x0, .int x1, .int x2]) ++ List.replicate (4 - (lg_sl ([.ref (o 0), .int x0, .int x1, .int x2])).length) Slot.unset).toArray = ls at hl ⊢
  have hl : lv_has ls 4 [(0, .ref (o 0)), (1, .int x0), (2, .int x1), (3, .int x2)] := hl
  refine zgenQ (fun Q hQe => ?_)
  obtain ⟨tg, etg⟩ : ∃ z, z = fRG_owner P S x0 x1 x2 := ⟨_, rfl⟩
  have E := etg
  unfold fRG_owner at E
  refine lv_aload_n hx hb dRG_owner_0 rfl (lv_at hl 0 rfl) ?_
  refine lv_iload_n hx hb dRG_owner_1 rfl (lv_at hl 1 rfl) ?_
  refine z_bind E (fun k9 h2 E => ?_) (fun u1 h2 E => ?_)
  · cases E.symm.trans (etg.trans hc)
  · skip
    refine zcallo (va_runV (As := [.int x0]) (rest := []) ⟨hx, hb, hml, hown, zno⟩ (tRG_requireRing l dC dI cI cZ cJ cA a0 s0 o b P S s.heap.size x0 gP gS u1 h2) (zcw 1 (hB.word (zm2 k2_170) rfl) (hB.word (zm1 k1_1) rfl) (hB.word (zm2 k2_167) rfl) (hB.word (zm2 k2_169) rfl) (k2_selects_private (by decide) (hB.word (zm1 k1_18) rfl) (hB.word (zm2 k2_168) rfl) (hB.word (zm2 k2_169) rfl)) rfl rfl (by decide +kernel) ⟨Nat.le_of_ble_eq_true rfl, Nat.le_of_ble_eq_true rfl⟩) ⟨zP_blind, va_recv hK hP (ci := 0) (q0 := 0) rfl rfl, zP_pre hP hK hD hAD (zB_on hB hA0 hS)⟩ rfl rfl hl.1 rfl (lv_room (Nat.le_of_ble_eq_true rfl)) dRG_owner_2 ⟨Nat.le_of_ble_eq_true rfl, Nat.le_of_ble_eq_true rfl⟩) hS hA (fun H3 locs hz1 hk1 hS => ?_)
    have hP := zKeep hP hk1
    have r_x0 : zr 0 5 x0 := zk_rR gP h2
    refine lv_aload_n hx hb dRG_owner_5 rfl (lv_at hl 0 rfl) ?_
    refine lv_iload_n hx hb dRG_owner_6 rfl (lv_at hl 2 rfl) ?_
    refine z_bind E (fun k9 h5 E => ?_) (fun u4 h5 E => ?_)
    · cases E.symm.trans (etg.trans hc)
    · skip
      refine zcallo (va_runV (As := [.int x1]) (rest := []) ⟨hx, hb, hml, hown, zno⟩ (tRG_requireBridge l dC dI cI cZ cJ cA a0 s0 o b P S H3.size x1 gP gS u4 h5) (zcw 1 (hB.word (zm2 k2_150) rfl) (hB.word (zm1 k1_1) rfl) (hB.word (zm2 k2_147) rfl) (hB.word (zm2 k2_149) rfl) (k2_selects_private (by decide) (hB.word (zm1 k1_18) rfl) (hB.word (zm2 k2_148) rfl) (hB.word (zm2 k2_149) rfl)) rfl rfl (by decide +kernel) ⟨Nat.le_of_ble_eq_true rfl, Nat.le_of_ble_eq_true rfl⟩) ⟨zP_blind, va_recv hK hP (ci := 0) (q0 := 0) rfl rfl, zP_pre hP hK hD hAD (zB_on hB hA0 hS)⟩ rfl rfl hl.1 rfl (lv_room (Nat.le_of_ble_eq_true rfl)) dRG_owner_7 ⟨Nat.le_of_ble_eq_true rfl, Nat.le_of_ble_eq_true rfl⟩) hS hA (fun H6 locs hz1 hk1 hS => ?_)
      have hP := zKeep hP hk1
      have r_x1 : zr 0 47 x1 := zk_rB1 gP h5
      have qlb_x1 : x1.toInt < (P.I 0).toInt := zk_rB2 gP h5
      refine lv_aload_n hx hb dRG_owner_10 rfl (lv_at hl 0 rfl) ?_
      refine lv_iload_n hx hb dRG_owner_11 rfl (lv_at hl 3 rfl) ?_
      refine z_bind E (fun k9 h8 E => ?_) (fun u7 h8 E => ?_)
      · cases E.symm.trans (etg.trans hc)
      · skip
        refine zcallo (va_runV (As := [.int x2]) (rest := []) ⟨hx, hb, hml, hown, zno⟩ (tRG_requireLink l dC dI cI cZ cJ cA a0 s0 o b P S H6.size x2 gP gS u7 h8) (zcw 1 (hB.word (zm2 k2_188) rfl) (hB.word (zm1 k1_1) rfl) (hB.word (zm2 k2_185) rfl) (hB.word (zm2 k2_187) rfl) (k2_selects_private (by decide) (hB.word (zm1 k1_18) rfl) (hB.word (zm2 k2_186) rfl) (hB.word (zm2 k2_187) rfl)) rfl rfl (by decide +kernel) ⟨Nat.le_of_ble_eq_true rfl, Nat.le_of_ble_eq_true rfl⟩) ⟨zP_blind, va_recv hK hP (ci := 0) (q0 := 0) rfl rfl, zP_pre hP hK hD hAD (zB_on hB hA0 hS)⟩ rfl rfl hl.1 rfl (lv_room (Nat.le_of_ble_eq_true rfl)) dRG_owner_12 ⟨Nat.le_of_ble_eq_true rfl, Nat.le_of_ble_eq_true rfl⟩) hS hA (fun H9 locs hz1 hk1 hS => ?_)
        have hP := zKeep hP hk1
        have r_x2 : zr 0 59 x2 := zk_rL1 gP h8
        have qll_x2 : x2.toInt < (P.I 1).toInt := zk_rL2 gP h8
        refine lv_aload_n hx hb dRG_owner_15 rfl (lv_at hl 0 rfl) ?_
        refine z_bind E (fun k9 h11 E => ?_) (fun u10 h11 E => ?_)
        · cases E.symm.trans (etg.trans hc)
        · skip
          refine zcallo (va_runV (As := []) (rest := []) ⟨hx, hb, hml, hown, zno⟩ (tRG_requireNotStarted l dC dI cI cZ cJ cA a0 s0 o b P S H9.size gP gS u10 h11) (zcw 0 (hB.word (zm2 k2_70) rfl) (hB.word (zm1 k1_1) rfl) (hB.word (zm2 k2_67) rfl) (hB.word (zm2 k2_69) rfl) (k2_selects_private (by decide) (hB.word (zm1 k1_18) rfl) (hB.word (zm2 k2_68) rfl) (hB.word (zm2 k2_69) rfl)) rfl rfl (by decide +kernel) ⟨Nat.le_of_ble_eq_true rfl, Nat.le_of_ble_eq_true rfl⟩) ⟨zP_blind, va_recv hK hP (ci := 0) (q0 := 0) rfl rfl, zP_pre hP hK hD hAD (zB_on hB hA0 hS)⟩ rfl rfl hl.1 rfl (lv_room (Nat.le_of_ble_eq_true rfl)) dRG_owner_16 ⟨Nat.le_of_ble_eq_true rfl, Nat.le_of_ble_eq_true rfl⟩) hS hA (fun H12 locs hz1 hk1 hS => ?_)
          have hP := zKeep hP hk1
          have E := zokE E (etg.trans hc)
          refine lv_aload_n hx hb dRG_owner_19 rfl (lv_at hl 0 rfl) ?_
          refine c_getO_RG_plan hx hb (hB.words zU_RG) hown hK hP (hB.word (zm1 k1_235) rfl) dRG_owner_20 ?_
          refine c_getA_3 hx hb (hB.words zU_PL) hown hK hP (hB.word (zm1 k1_48) rfl) dRG_owner_23 ?_
          refine lv_iload_n hx hb dRG_owner_26 rfl (lv_at hl 1 rfl) ?_
          refine lv_iload_n hx hb dRG_owner_27 rfl (lv_at hl 2 rfl) ?_
          refine c_astP hx hb hK hP hD hS 3 (by decide) rfl r_x0 (by decide) dRG_owner_28 E (fun P13 H14 locs eP13 E hP hD hS => ?_)
          have gP13 : cok P13 := by rw [eP13]; exact gP.setF (k := 3) (zr_mono r_x1 (by decide)) (Or.inl (by decide))
          refine lv_aload_n hx hb dRG_owner_29 rfl (lv_at hl 0 rfl) ?_
          refine c_getO_RG_plan hx hb (hB.words zU_RG) hown hK hP (hB.word (zm1 k1_235) rfl) dRG_owner_30 ?_
          refine c_getA_4 hx hb (hB.words zU_PL) hown hK hP (hB.word (zm1 k1_50) rfl) dRG_owner_33 ?_
          refine lv_iload_n hx hb dRG_owner_36 rfl (lv_at hl 1 rfl) ?_
          refine lv_iload_n hx hb dRG_owner_37 rfl (lv_at hl 3 rfl) ?_
          refine c_astP hx hb hK hP hD hS 4 (by decide) rfl r_x0 (by decide) dRG_owner_38 E (fun P15 H16 locs eP15 E hP hD hS => ?_)
          have gP15 : cok P15 := by rw [eP15]; exact gP13.setF (k := 4) (zr_mono r_x2 (by decide)) (Or.inl (by decide))
          rw [hQe]
          exact W.vret hx hb hr (fun t ht hW => ⟨⟨(P15, S), rfl, ⟨E.symm, gP15, gS⟩, by rw [ht]; exact hP, hD⟩, hS.F ht⟩) hS.2.2 dRG_owner_39
set_option maxHeartbeats 4000000 in
set_option maxRecDepth 100000 in
theorem tRG_owner_T1 (l : Launch) (dC : Nat → ClassId) (dI : Nat → Nat → Nat) (cI cZ cJ cA : ClassId) (a0 : Array Value) (s0 : State) (o b : Nat → Nat) (hfl : l.flags = Jvm.pinnedFlags ++ [Jvm.noTraceFlag]) (P S : ZS) (sz : Nat) (x0 : Int32) (x1 : Int32) (x2 : Int32) (gP : cok P) (gS : cok S) (hc : fRG_owner P S x0 x1 x2 = .error 1) : tq_Met l yRG_owner [Cond.code yRG_owner bRG_owner 4 none] ({ frames := 7, cells := 1, slots := 6, locals := 111 } : Room) (zP zCl dC dI (zTZ cI cZ cJ cA) a0 s0 [.ref (o 0), .int x0, .int x1, .int x2] sz (CW cI cZ cA o b P S)) (tq_Q "java/lang/IllegalArgumentException") 1 6 (zN sz) := by
  refine tq_ofW (cc := bRG_owner) (maxL := 4) (ret := none) (by decide) rfl ?_
  intro p e s m args below meth c s₁ B hml htab hv
  obtain ⟨rfl, hsz, hP, hK, hD0, hB⟩ := hv
  have hx := B.exec
  have hb := B.bytes
  have hr := B.returns
  have hown : s.vm.findClass "RingGuard" = some m.cls := findClass_of_methodNamed B.named
  have hlocks := B.notSynchronized
  subst hsz
  have hD := hD0
  have hA0 : ∀ q, zN s.heap.size q → s0.heap.size ≤ q := zA1 hB
  have hAD : ∀ q, zN s0.heap.size q → s0.heap.size ≤ q := fun _ h => h
  have hA : ∀ q : Nat, s.heap.size ≤ q → zN s.heap.size q := fun _ h => h
  have hS : va_S (zN s.heap.size) s.heap s.heap [] := va_S.rf
  have hl := lv_entry ([.ref (o 0), .int x0, .int x1, .int x2]) (n := 4) (Nat.le_of_ble_eq_true rfl)
  rw [lg_entry_eq]
  generalize (lg_sl ([.ref (o 0), .int x0, .int x1, .int x2]) ++ List.replicate (4 - (lg_sl ([.ref (o 0), .int x0, .int x1, .int x2])).length) Slot.unset).toArray = ls at hl ⊢
  have hfl := hfl
  have hl : lv_has ls 4 [(0, .ref (o 0)), (1, .int x0), (2, .int x1), (3, .int x2)] := hl
  refine zgenQ (fun Q hQe => ?_)
  obtain ⟨tg, etg⟩ : ∃ z, z = fRG_owner P S x0 x1 x2 := ⟨_, rfl⟩
  have E := etg
  unfold fRG_owner at E
  refine lv_aload_n hx hb dRG_owner_0 rfl (lv_at hl 0 rfl) ?_
  refine lv_iload_n hx hb dRG_owner_1 rfl (lv_at hl 1 rfl) ?_
  refine z_bind E (fun k9 h2 E => ?_) (fun u1 h2 E => ?_)
  · have x9 : k9 = 1 := zerr (E.symm.trans (etg.trans hc))
    subst x9
    rw [hQe]
    exact zpass (tq_runV (As := [.int x0]) (rest := []) ⟨hx, hb, hml, hown, zno⟩ (tRG_requireRing_T1 l dC dI cI cZ cJ cA a0 s0 o b hfl P S s.heap.size x0 gP gS h2) (zcw 1 (hB.word (zm2 k2_170) rfl) (hB.word (zm1 k1_1) rfl) (hB.word (zm2 k2_167) rfl) (hB.word (zm2 k2_169) rfl) (k2_selects_private (by decide) (hB.word (zm1 k1_18) rfl) (hB.word (zm2 k2_168) rfl) (hB.word (zm2 k2_169) rfl)) rfl rfl (by decide +kernel) ⟨Nat.le_of_ble_eq_true rfl, Nat.le_of_ble_eq_true rfl⟩) ⟨zP_blind, va_recv hK hP (ci := 0) (q0 := 0) rfl rfl, zP_pre hP hK hD hAD (zB_on hB hA0 hS)⟩ rfl rfl hl.1 rfl (lv_room (Nat.le_of_ble_eq_true rfl)) dRG_owner_2 ⟨Nat.le_of_ble_eq_true rfl, Nat.le_of_ble_eq_true rfl⟩) htab hlocks hS (Nat.le_of_ble_eq_true rfl) (Nat.le_of_ble_eq_true rfl)
  · skip
    refine zcallo (va_runV (As := [.int x0]) (rest := []) ⟨hx, hb, hml, hown, zno⟩ (tRG_requireRing l dC dI cI cZ cJ cA a0 s0 o b P S s.heap.size x0 gP gS u1 h2) (zcw 1 (hB.word (zm2 k2_170) rfl) (hB.word (zm1 k1_1) rfl) (hB.word (zm2 k2_167) rfl) (hB.word (zm2 k2_169) rfl) (k2_selects_private (by decide) (hB.word (zm1 k1_18) rfl) (hB.word (zm2 k2_168) rfl) (hB.word (zm2 k2_169) rfl)) rfl rfl (by decide +kernel) ⟨Nat.le_of_ble_eq_true rfl, Nat.le_of_ble_eq_true rfl⟩) ⟨zP_blind, va_recv hK hP (ci := 0) (q0 := 0) rfl rfl, zP_pre hP hK hD hAD (zB_on hB hA0 hS)⟩ rfl rfl hl.1 rfl (lv_room (Nat.le_of_ble_eq_true rfl)) dRG_owner_2 ⟨Nat.le_of_ble_eq_true rfl, Nat.le_of_ble_eq_true rfl⟩) hS hA (fun H3 locs hz1 hk1 hS => ?_)
    have hP := zKeep hP hk1
    have r_x0 : zr 0 5 x0 := zk_rR gP h2
    refine lv_aload_n hx hb dRG_owner_5 rfl (lv_at hl 0 rfl) ?_
    refine lv_iload_n hx hb dRG_owner_6 rfl (lv_at hl 2 rfl) ?_
    refine z_bind E (fun k9 h5 E => ?_) (fun u4 h5 E => ?_)
    · have x9 : k9 = 1 := zerr (E.symm.trans (etg.trans hc))
      subst x9
      rw [hQe]
      exact zpass (tq_runV (As := [.int x1]) (rest := []) ⟨hx, hb, hml, hown, zno⟩ (tRG_requireBridge_T1 l dC dI cI cZ cJ cA a0 s0 o b hfl P S H3.size x1 gP gS h5) (zcw 1 (hB.word (zm2 k2_150) rfl) (hB.word (zm1 k1_1) rfl) (hB.word (zm2 k2_147) rfl) (hB.word (zm2 k2_149) rfl) (k2_selects_private (by decide) (hB.word (zm1 k1_18) rfl) (hB.word (zm2 k2_148) rfl) (hB.word (zm2 k2_149) rfl)) rfl rfl (by decide +kernel) ⟨Nat.le_of_ble_eq_true rfl, Nat.le_of_ble_eq_true rfl⟩) ⟨zP_blind, va_recv hK hP (ci := 0) (q0 := 0) rfl rfl, zP_pre hP hK hD hAD (zB_on hB hA0 hS)⟩ rfl rfl hl.1 rfl (lv_room (Nat.le_of_ble_eq_true rfl)) dRG_owner_7 ⟨Nat.le_of_ble_eq_true rfl, Nat.le_of_ble_eq_true rfl⟩) htab hlocks hS (Nat.le_of_ble_eq_true rfl) (Nat.le_of_ble_eq_true rfl)
    · skip
      refine zcallo (va_runV (As := [.int x1]) (rest := []) ⟨hx, hb, hml, hown, zno⟩ (tRG_requireBridge l dC dI cI cZ cJ cA a0 s0 o b P S H3.size x1 gP gS u4 h5) (zcw 1 (hB.word (zm2 k2_150) rfl) (hB.word (zm1 k1_1) rfl) (hB.word (zm2 k2_147) rfl) (hB.word (zm2 k2_149) rfl) (k2_selects_private (by decide) (hB.word (zm1 k1_18) rfl) (hB.word (zm2 k2_148) rfl) (hB.word (zm2 k2_149) rfl)) rfl rfl (by decide +kernel) ⟨Nat.le_of_ble_eq_true rfl, Nat.le_of_ble_eq_true rfl⟩) ⟨zP_blind, va_recv hK hP (ci := 0) (q0 := 0) rfl rfl, zP_pre hP hK hD hAD (zB_on hB hA0 hS)⟩ rfl rfl hl.1 rfl (lv_room (Nat.le_of_ble_eq_true rfl)) dRG_owner_7 ⟨Nat.le_of_ble_eq_true rfl, Nat.le_of_ble_eq_true rfl⟩) hS hA (fun H6 locs hz1 hk1 hS => ?_)
      have hP := zKeep hP hk1
      have r_x1 : zr 0 47 x1 := zk_rB1 gP h5
      have qlb_x1 : x1.toInt < (P.I 0).toInt := zk_rB2 gP h5
      refine lv_aload_n hx hb dRG_owner_10 rfl (lv_at hl 0 rfl) ?_
      refine lv_iload_n hx hb dRG_owner_11 rfl (lv_at hl 3 rfl) ?_
      refine z_bind E (fun k9 h8 E => ?_) (fun u7 h8 E => ?_)
      · have x9 : k9 = 1 := zerr (E.symm.trans (etg.trans hc))
        subst x9
        rw [hQe]
        exact zpass (tq_runV (As := [.int x2]) (rest := []) ⟨hx, hb, hml, hown, zno⟩ (tRG_requireLink_T1 l dC dI cI cZ cJ cA a0 s0 o b hfl P S H6.size x2 gP gS h8) (zcw 1 (hB.word (zm2 k2_188) rfl) (hB.word (zm1 k1_1) rfl) (hB.word (zm2 k2_185) rfl) (hB.word (zm2 k2_187) rfl) (k2_selects_private (by decide) (hB.word (zm1 k1_18) rfl) (hB.word (zm2 k2_186) rfl) (hB.word (zm2 k2_187) rfl)) rfl rfl (by decide +kernel) ⟨Nat.le_of_ble_eq_true rfl, Nat.le_of_ble_eq_true rfl⟩) ⟨zP_blind, va_recv hK hP (ci := 0) (q0 := 0) rfl rfl, zP_pre hP hK hD hAD (zB_on hB hA0 hS)⟩ rfl rfl hl.1 rfl (lv_room (Nat.le_of_ble_eq_true rfl)) dRG_owner_12 ⟨Nat.le_of_ble_eq_true rfl, Nat.le_of_ble_eq_true rfl⟩) htab hlocks hS (Nat.le_of_ble_eq_true rfl) (Nat.le_of_ble_eq_true rfl)
      · skip
        refine zcallo (va_runV (As := [.int x2]) (rest := []) ⟨hx, hb, hml, hown, zno⟩ (tRG_requireLink l dC dI cI cZ cJ cA a0 s0 o b P S H6.size x2 gP gS u7 h8) (zcw 1 (hB.word (zm2 k2_188) rfl) (hB.word (zm1 k1_1) rfl) (hB.word (zm2 k2_185) rfl) (hB.word (zm2 k2_187) rfl) (k2_selects_private (by decide) (hB.word (zm1 k1_18) rfl) (hB.word (zm2 k2_186) rfl) (hB.word (zm2 k2_187) rfl)) rfl rfl (by decide +kernel) ⟨Nat.le_of_ble_eq_true rfl, Nat.le_of_ble_eq_true rfl⟩) ⟨zP_blind, va_recv hK hP (ci := 0) (q0 := 0) rfl rfl, zP_pre hP hK hD hAD (zB_on hB hA0 hS)⟩ rfl rfl hl.1 rfl (lv_room (Nat.le_of_ble_eq_true rfl)) dRG_owner_12 ⟨Nat.le_of_ble_eq_true rfl, Nat.le_of_ble_eq_true rfl⟩) hS hA (fun H9 locs hz1 hk1 hS => ?_)
        have hP := zKeep hP hk1
        have r_x2 : zr 0 59 x2 := zk_rL1 gP h8
        have qll_x2 : x2.toInt < (P.I 1).toInt := zk_rL2 gP h8
        refine lv_aload_n hx hb dRG_owner_15 rfl (lv_at hl 0 rfl) ?_
        refine z_bind E (fun k9 h11 E => ?_) (fun u10 h11 E => ?_)
        · have x9 : k9 = 1 := zerr (E.symm.trans (etg.trans hc))
          subst x9
          exact absurd (fRG_requireNotStarted_c h11) (by decide)
        · skip
          refine zcallo (va_runV (As := []) (rest := []) ⟨hx, hb, hml, hown, zno⟩ (tRG_requireNotStarted l dC dI cI cZ cJ cA a0 s0 o b P S H9.size gP gS u10 h11) (zcw 0 (hB.word (zm2 k2_70) rfl) (hB.word (zm1 k1_1) rfl) (hB.word (zm2 k2_67) rfl) (hB.word (zm2 k2_69) rfl) (k2_selects_private (by decide) (hB.word (zm1 k1_18) rfl) (hB.word (zm2 k2_68) rfl) (hB.word (zm2 k2_69) rfl)) rfl rfl (by decide +kernel) ⟨Nat.le_of_ble_eq_true rfl, Nat.le_of_ble_eq_true rfl⟩) ⟨zP_blind, va_recv hK hP (ci := 0) (q0 := 0) rfl rfl, zP_pre hP hK hD hAD (zB_on hB hA0 hS)⟩ rfl rfl hl.1 rfl (lv_room (Nat.le_of_ble_eq_true rfl)) dRG_owner_16 ⟨Nat.le_of_ble_eq_true rfl, Nat.le_of_ble_eq_true rfl⟩) hS hA (fun H12 locs hz1 hk1 hS => ?_)
          have hP := zKeep hP hk1
          cases E.symm.trans (etg.trans hc)
set_option maxHeartbeats 4000000 in
set_option maxRecDepth 100000 in
theorem tRG_owner_T2 (l : Launch) (dC : Nat → ClassId) (dI : Nat → Nat → Nat) (cI cZ cJ cA : ClassId) (a0 : Array Value) (s0 : State) (o b : Nat → Nat) (hfl : l.flags = Jvm.pinnedFlags ++ [Jvm.noTraceFlag]) (P S : ZS) (sz : Nat) (x0 : Int32) (x1 : Int32) (x2 : Int32) (gP : cok P) (gS : cok S) (hc : fRG_owner P S x0 x1 x2 = .error 2) : tq_Met l yRG_owner [Cond.code yRG_owner bRG_owner 4 none] ({ frames := 7, cells := 1, slots := 6, locals := 111 } : Room) (zP zCl dC dI (zTZ cI cZ cJ cA) a0 s0 [.ref (o 0), .int x0, .int x1, .int x2] sz (CW cI cZ cA o b P S)) (tq_Q "java/lang/IllegalStateException") 1 6 (zN sz) := by
  refine tq_ofW (cc := bRG_owner) (maxL := 4) (ret := none) (by decide) rfl ?_
  intro p e s m args below meth c s₁ B hml htab hv
  obtain ⟨rfl, hsz, hP, hK, hD0, hB⟩ := hv
  have hx := B.exec
  have hb := B.bytes
  have hr := B.returns
  have hown : s.vm.findClass "RingGuard" = some m.cls := findClass_of_methodNamed B.named
  have hlocks := B.notSynchronized
  subst hsz
  have hD := hD0
  have hA0 : ∀ q, zN s.heap.size q → s0.heap.size ≤ q := zA1 hB
  have hAD : ∀ q, zN s0.heap.size q → s0.heap.size ≤ q := fun _ h => h
  have hA : ∀ q : Nat, s.heap.size ≤ q → zN s.heap.size q := fun _ h => h
  have hS : va_S (zN s.heap.size) s.heap s.heap [] := va_S.rf
  have hl := lv_entry ([.ref (o 0), .int x0, .int x1, .int x2]) (n := 4) (Nat.le_of_ble_eq_true rfl)
  rw [lg_entry_eq]
  generalize (lg_sl ([.ref (o 0), .int x0, .int x1, .int x2]) ++ List.replicate (4 - (lg_sl ([.ref (o 0), .int x0, .int x1, .int x2])).length) Slot.unset).toArray = ls at hl ⊢
  have hfl := hfl
  have hl : lv_has ls 4 [(0, .ref (o 0)), (1, .int x0), (2, .int x1), (3, .int x2)] := hl
  refine zgenQ (fun Q hQe => ?_)
  obtain ⟨tg, etg⟩ : ∃ z, z = fRG_owner P S x0 x1 x2 := ⟨_, rfl⟩
  have E := etg
  unfold fRG_owner at E
  refine lv_aload_n hx hb dRG_owner_0 rfl (lv_at hl 0 rfl) ?_
  refine lv_iload_n hx hb dRG_owner_1 rfl (lv_at hl 1 rfl) ?_
  refine z_bind E (fun k9 h2 E => ?_) (fun u1 h2 E => ?_)
  · have x9 : k9 = 2 := zerr (E.symm.trans (etg.trans hc))
    subst x9
    exact absurd (fRG_requireRing_c h2) (by decide)
  · skip
    refine zcallo (va_runV (As := [.int x0]) (rest := []) ⟨hx, hb, hml, hown, zno⟩ (tRG_requireRing l dC dI cI cZ cJ cA a0 s0 o b P S s.heap.size x0 gP gS u1 h2) (zcw 1 (hB.word (zm2 k2_170) rfl) (hB.word (zm1 k1_1) rfl) (hB.word (zm2 k2_167) rfl) (hB.word (zm2 k2_169) rfl) (k2_selects_private (by decide) (hB.word (zm1 k1_18) rfl) (hB.word (zm2 k2_168) rfl) (hB.word (zm2 k2_169) rfl)) rfl rfl (by decide +kernel) ⟨Nat.le_of_ble_eq_true rfl, Nat.le_of_ble_eq_true rfl⟩) ⟨zP_blind, va_recv hK hP (ci := 0) (q0 := 0) rfl rfl, zP_pre hP hK hD hAD (zB_on hB hA0 hS)⟩ rfl rfl hl.1 rfl (lv_room (Nat.le_of_ble_eq_true rfl)) dRG_owner_2 ⟨Nat.le_of_ble_eq_true rfl, Nat.le_of_ble_eq_true rfl⟩) hS hA (fun H3 locs hz1 hk1 hS => ?_)
    have hP := zKeep hP hk1
    have r_x0 : zr 0 5 x0 := zk_rR gP h2
    refine lv_aload_n hx hb dRG_owner_5 rfl (lv_at hl 0 rfl) ?_
    refine lv_iload_n hx hb dRG_owner_6 rfl (lv_at hl 2 rfl) ?_
    refine z_bind E (fun k9 h5 E => ?_) (fun u4 h5 E => ?_)
    · have x9 : k9 = 2 := zerr (E.symm.trans (etg.trans hc))
      subst x9
      exact absurd (fRG_requireBridge_c h5) (by decide)
    · skip
      refine zcallo (va_runV (As := [.int x1]) (rest := []) ⟨hx, hb, hml, hown, zno⟩ (tRG_requireBridge l dC dI cI cZ cJ cA a0 s0 o b P S H3.size x1 gP gS u4 h5) (zcw 1 (hB.word (zm2 k2_150) rfl) (hB.word (zm1 k1_1) rfl) (hB.word (zm2 k2_147) rfl) (hB.word (zm2 k2_149) rfl) (k2_selects_private (by decide) (hB.word (zm1 k1_18) rfl) (hB.word (zm2 k2_148) rfl) (hB.word (zm2 k2_149) rfl)) rfl rfl (by decide +kernel) ⟨Nat.le_of_ble_eq_true rfl, Nat.le_of_ble_eq_true rfl⟩) ⟨zP_blind, va_recv hK hP (ci := 0) (q0 := 0) rfl rfl, zP_pre hP hK hD hAD (zB_on hB hA0 hS)⟩ rfl rfl hl.1 rfl (lv_room (Nat.le_of_ble_eq_true rfl)) dRG_owner_7 ⟨Nat.le_of_ble_eq_true rfl, Nat.le_of_ble_eq_true rfl⟩) hS hA (fun H6 locs hz1 hk1 hS => ?_)
      have hP := zKeep hP hk1
      have r_x1 : zr 0 47 x1 := zk_rB1 gP h5
      have qlb_x1 : x1.toInt < (P.I 0).toInt := zk_rB2 gP h5
      refine lv_aload_n hx hb dRG_owner_10 rfl (lv_at hl 0 rfl) ?_
      refine lv_iload_n hx hb dRG_owner_11 rfl (lv_at hl 3 rfl) ?_
      refine z_bind E (fun k9 h8 E => ?_) (fun u7 h8 E => ?_)
      · have x9 : k9 = 2 := zerr (E.symm.trans (etg.trans hc))
        subst x9
        exact absurd (fRG_requireLink_c h8) (by decide)
      · skip
        refine zcallo (va_runV (As := [.int x2]) (rest := []) ⟨hx, hb, hml, hown, zno⟩ (tRG_requireLink l dC dI cI cZ cJ cA a0 s0 o b P S H6.size x2 gP gS u7 h8) (zcw 1 (hB.word (zm2 k2_188) rfl) (hB.word (zm1 k1_1) rfl) (hB.word (zm2 k2_185) rfl) (hB.word (zm2 k2_187) rfl) (k2_selects_private (by decide) (hB.word (zm1 k1_18) rfl) (hB.word (zm2 k2_186) rfl) (hB.word (zm2 k2_187) rfl)) rfl rfl (by decide +kernel) ⟨Nat.le_of_ble_eq_true rfl, Nat.le_of_ble_eq_true rfl⟩) ⟨zP_blind, va_recv hK hP (ci := 0) (q0 := 0) rfl rfl, zP_pre hP hK hD hAD (zB_on hB hA0 hS)⟩ rfl rfl hl.1 rfl (lv_room (Nat.le_of_ble_eq_true rfl)) dRG_owner_12 ⟨Nat.le_of_ble_eq_true rfl, Nat.le_of_ble_eq_true rfl⟩) hS hA (fun H9 locs hz1 hk1 hS => ?_)
        have hP := zKeep hP hk1
        have r_x2 : zr 0 59 x2 := zk_rL1 gP h8
        have qll_x2 : x2.toInt < (P.I 1).toInt := zk_rL2 gP h8
        refine lv_aload_n hx hb dRG_owner_15 rfl (lv_at hl 0 rfl) ?_
        refine z_bind E (fun k9 h11 E => ?_) (fun u10 h11 E => ?_)
        · have x9 : k9 = 2 := zerr (E.symm.trans (etg.trans hc))
          subst x9
          rw [hQe]
          exact zpass (tq_runV (As := []) (rest := []) ⟨hx, hb, hml, hown, zno⟩ (tRG_requireNotStarted_T2 l dC dI cI cZ cJ cA a0 s0 o b hfl P S H9.size gP gS h11) (zcw 0 (hB.word (zm2 k2_70) rfl) (hB.word (zm1 k1_1) rfl) (hB.word (zm2 k2_67) rfl) (hB.word (zm2 k2_69) rfl) (k2_selects_private (by decide) (hB.word (zm1 k1_18) rfl) (hB.word (zm2 k2_68) rfl) (hB.word (zm2 k2_69) rfl)) rfl rfl (by decide +kernel) ⟨Nat.le_of_ble_eq_true rfl, Nat.le_of_ble_eq_true rfl⟩) ⟨zP_blind, va_recv hK hP (ci := 0) (q0 := 0) rfl rfl, zP_pre hP hK hD hAD (zB_on hB hA0 hS)⟩ rfl rfl hl.1 rfl (lv_room (Nat.le_of_ble_eq_true rfl)) dRG_owner_16 ⟨Nat.le_of_ble_eq_true rfl, Nat.le_of_ble_eq_true rfl⟩) htab hlocks hS (Nat.le_of_ble_eq_true rfl) (Nat.le_of_ble_eq_true rfl)
        · skip
          refine zcallo (va_runV (As := []) (rest := []) ⟨hx, hb, hml, hown, zno⟩ (tRG_requireNotStarted l dC dI cI cZ cJ cA a0 s0 o b P S H9.size gP gS u10 h11) (zcw 0 (hB.word (zm2 k2_70) rfl) (hB.word (zm1 k1_1) rfl) (hB.word (zm2 k2_67) rfl) (hB.word (zm2 k2_69) rfl) (k2_selects_private (by decide) (hB.word (zm1 k1_18) rfl) (hB.word (zm2 k2_68) rfl) (hB.word (zm2 k2_69) rfl)) rfl rfl (by decide +kernel) ⟨Nat.le_of_ble_eq_true rfl, Nat.le_of_ble_eq_true rfl⟩) ⟨zP_blind, va_recv hK hP (ci := 0) (q0 := 0) rfl rfl, zP_pre hP hK hD hAD (zB_on hB hA0 hS)⟩ rfl rfl hl.1 rfl (lv_room (Nat.le_of_ble_eq_true rfl)) dRG_owner_16 ⟨Nat.le_of_ble_eq_true rfl, Nat.le_of_ble_eq_true rfl⟩) hS hA (fun H12 locs hz1 hk1 hS => ?_)
          have hP := zKeep hP hk1
          cases E.symm.trans (etg.trans hc)
noncomputable def fRG_fail_30 (P : ZS) (S_30 : ZS) (x30_2 : Int32) : ZS × Int32 := zl (fRG_countCircle P S_30) (fun S2 => (if x30_2 = 0 then (S2, 1) else (S2, 0)))
noncomputable def fRG_fail (P S : ZS) (x0 : Int32) : Except Nat (ZS × Int32) := zbind (fRG_requireLink P S x0) (fun u4 => zbind (fRG_requireStarted P S) (fun u7 => .ok (zl (fPR_hasFailed P S x0) (fun k11 => (if k11 = 0 then zl (fPR_breakLink P S x0) (fun S13 => fRG_fail_30 P S13 k11) else fRG_fail_30 P S k11)))))
set_option maxHeartbeats 4000000 in
set_option maxRecDepth 100000 in
theorem tRG_fail (l : Launch) (dC : Nat → ClassId) (dI : Nat → Nat → Nat) (cI cZ cJ cA : ClassId) (a0 : Array Value) (s0 : State) (o b : Nat → Nat) (P S : ZS) (sz : Nat) (x0 : Int32) (gP : cok P) (gS : cok S) (gQ : zQ P) (y : ZS × Int32) (hc : fRG_fail P S x0 = .ok y) : Met l yRG_fail [Cond.code yRG_fail bRG_fail 3 (some .boolean)] ({ frames := 4, cells := 0, slots := 0, locals := 96 } : Room) (zP zCl dC dI (zTZ cI cZ cJ cA) a0 s0 [.ref (o 0), .int x0] sz (CW cI cZ cA o b P S)) (zQH zCl dC dI (fun (r : Int32) (x9 : ZS) => (x9, r) = y ∧ cok x9 ∧ zr 0 1 r) (fun x9 : ZS => (CW cI cZ cA o b P x9)) (va_A (CW cI cZ cA o b P S) sz)) 0 0 (va_A (CW cI cZ cA o b P S) sz) := by
  refine Met.ofW (cc := bRG_fail) (maxL := 3) (ret := (some .boolean)) (by decide) rfl ?_
  intro p e s m args below meth c s₁ B hml hv
  obtain ⟨rfl, hsz, hP, hK, hD0, hB⟩ := hv
  have hx := B.exec
  have hb := B.bytes
  have hr := B.returns
  have hown : s.vm.findClass "RingGuard" = some m.cls := findClass_of_methodNamed B.named
  have hlocks := B.notSynchronized
  subst hsz
  have hD := hD0.self (sz := s.heap.size)
  have hA0 := zA0 hD0 hB
  generalize hAe : va_A (CW cI cZ cA o b P S) s.heap.size = A at hD hA0 ⊢
  have hAD := hA0
  have hA : ∀ q : Nat, s.heap.size ≤ q → A q := fun q h => by rw [← hAe]; exact Or.inr h
  have hS : va_S A s.heap s.heap [] := va_S.rf
  have hl := lv_entry ([.ref (o 0), .int x0]) (n := 3) (Nat.le_of_ble_eq_true rfl)
  rw [lg_entry_eq]
  generalize (lg_sl ([.ref (o 0), .int x0]) ++ List.replicate (3 - (lg_sl ([.ref (o 0), .int x0])).length) Slot.unset).toArray = ls at hl ⊢
  have hl : lv_has ls 3 [(0, .ref (o 0)), (1, .int x0)] := hl
  refine zgenQ (fun Q hQe => ?_)
  obtain ⟨tg, etg⟩ : ∃ z, z = fRG_fail P S x0 := ⟨_, rfl⟩
  have E := etg
  unfold fRG_fail at E
  have hJ30 : ∀ (H : Heap) (locs : List Loc) (ls : Array Slot) (S_30 : ZS) (x30_2 : Int32), zr 0 1 x30_2 → cok S_30 → y = fRG_fail_30 P S_30 x30_2 → va_P (dC, dI) zCl (CW cI cZ cA o b P S_30) H → va_D A (CW cI cZ cA o b P S_30) → va_S A s.heap H locs → lv_has ls 3 [(0, .ref (o 0)), (2, .int x30_2)] → W p l e ({ frames := 4, cells := 0, slots := 0, locals := 96 } : Room) s m ([.ref (o 0), .int x0] : List Value).toArray below meth c H locs 0 0 Q (F0 m 30 ls []) := by
    intro H locs ls S_30 x30_2 r_x30_2 gS_30 E hP hD hS hl
    unfold fRG_fail_30 at E
    refine lv_aload_n hx hb dRG_fail_30 rfl (lv_at hl 0 rfl) ?_
    refine zcV (va_runV (As := []) (rest := []) ⟨hx, hb, hml, hown, zno⟩ (tRG_countCircle l dC dI cI cZ cJ cA a0 s0 o b P S_30 H.size gP gS_30) (zcw 0 (hB.word (zm3 k3_83) rfl) (hB.word (zm1 k1_1) rfl) (hB.word (zm3 k3_80) rfl) (hB.word (zm3 k3_82) rfl) (k2_selects_private (by decide) (hB.word (zm1 k1_18) rfl) (hB.word (zm3 k3_81) rfl) (hB.word (zm3 k3_82) rfl)) rfl rfl (by decide +kernel) ⟨Nat.le_of_ble_eq_true rfl, Nat.le_of_ble_eq_true rfl⟩) ⟨zP_blind, va_recv hK hP (ci := 0) (q0 := 0) rfl rfl, zP_pre hP hK hD hAD (zB_on hB hA0 hS)⟩ rfl rfl hl.1 rfl (lv_room (Nat.le_of_ble_eq_true rfl)) dRG_fail_31 ⟨Nat.le_of_ble_eq_true rfl, Nat.le_of_ble_eq_true rfl⟩) hD hS hA (fun S2 H1 locs h3 hP hD hS => ?_)
    have E := zl_s E h3.1
    have gS2 := h3.2
    refine lv_iload_n hx hb dRG_fail_34 rfl (lv_at hl 1 rfl) ?_
    refine z_if_ne (tgt := 42) hx hb dRG_fail_35 (by decide) E (fun c_35 E => ?_) (fun c_35 E => ?_)
    · have r_x30_2 : zr 1 1 x30_2 := zne_lo r_x30_2 c_35 (by decide)
      refine lv_iconst (v := 0) hx hb dRG_fail_42 (by decide) ?_
      rw [hQe]
      exact W.zret (v := 0) (ty := .boolean) hx hb hr (znar (show zr 0 1 0 from by decide)) (fun t ht hW => ⟨⟨0, S2, rfl, ⟨E.symm, gS2, (show zr 0 1 0 from by decide)⟩, by rw [ht]; exact hP, hD⟩, hS.F ht⟩) hS.2.2 dRG_fail_43
    · have r_x30_2 : zr 0 0 x30_2 := zeq_x (show zr 0 0 0 from by decide) c_35
      refine lv_iconst (v := 1) hx hb dRG_fail_38 (by decide) ?_
      refine lv_goto (tgt := 43) hx hb dRG_fail_39 (by decide) ?_
      rw [hQe]
      exact W.zret (v := 1) (ty := .boolean) hx hb hr (znar (show zr 0 1 1 from by decide)) (fun t ht hW => ⟨⟨1, S2, rfl, ⟨E.symm, gS2, (show zr 0 1 1 from by decide)⟩, by rw [ht]; exact hP, hD⟩, hS.F ht⟩) hS.2.2 dRG_fail_43
  refine lv_aload_n hx hb dRG_fail_0 rfl (lv_at hl 0 rfl) ?_
  refine lv_iload_n hx hb dRG_fail_1 rfl (lv_at hl 1 rfl) ?_
  refine z_bind E (fun k9 h5 E => ?_) (fun u4 h5 E => ?_)
  · cases E.symm.trans (etg.trans hc)
  · skip
    refine zcallo (va_runV (As := [.int x0]) (rest := []) ⟨hx, hb, hml, hown, zno⟩ (tRG_requireLink l dC dI cI cZ cJ cA a0 s0 o b P S s.heap.size x0 gP gS u4 h5) (zcw 1 (hB.word (zm2 k2_188) rfl) (hB.word (zm1 k1_1) rfl) (hB.word (zm2 k2_185) rfl) (hB.word (zm2 k2_187) rfl) (k2_selects_private (by decide) (hB.word (zm1 k1_18) rfl) (hB.word (zm2 k2_186) rfl) (hB.word (zm2 k2_187) rfl)) rfl rfl (by decide +kernel) ⟨Nat.le_of_ble_eq_true rfl, Nat.le_of_ble_eq_true rfl⟩) ⟨zP_blind, va_recv hK hP (ci := 0) (q0 := 0) rfl rfl, zP_pre hP hK hD hAD (zB_on hB hA0 hS)⟩ rfl rfl hl.1 rfl (lv_room (Nat.le_of_ble_eq_true rfl)) dRG_fail_2 ⟨Nat.le_of_ble_eq_true rfl, Nat.le_of_ble_eq_true rfl⟩) hS hA (fun H6 locs hz1 hk1 hS => ?_)
    have hP := zKeep hP hk1
    have r_x0 : zr 0 59 x0 := zk_rL1 gP h5
    have qll_x0 : x0.toInt < (P.I 1).toInt := zk_rL2 gP h5
    refine lv_aload_n hx hb dRG_fail_5 rfl (lv_at hl 0 rfl) ?_
    refine z_bind E (fun k9 h8 E => ?_) (fun u7 h8 E => ?_)
    · cases E.symm.trans (etg.trans hc)
    · skip
      refine zcallo (va_runV (As := []) (rest := []) ⟨hx, hb, hml, hown, zno⟩ (tRG_requireStarted l dC dI cI cZ cJ cA a0 s0 o b P S H6.size gP gS u7 h8) (zcw 0 (hB.word (zm3 k3_58) rfl) (hB.word (zm1 k1_1) rfl) (hB.word (zm3 k3_55) rfl) (hB.word (zm3 k3_57) rfl) (k2_selects_private (by decide) (hB.word (zm1 k1_18) rfl) (hB.word (zm3 k3_56) rfl) (hB.word (zm3 k3_57) rfl)) rfl rfl (by decide +kernel) ⟨Nat.le_of_ble_eq_true rfl, Nat.le_of_ble_eq_true rfl⟩) ⟨zP_blind, va_recv hK hP (ci := 0) (q0 := 0) rfl rfl, zP_pre hP hK hD hAD (zB_on hB hA0 hS)⟩ rfl rfl hl.1 rfl (lv_room (Nat.le_of_ble_eq_true rfl)) dRG_fail_6 ⟨Nat.le_of_ble_eq_true rfl, Nat.le_of_ble_eq_true rfl⟩) hS hA (fun H9 locs hz1 hk1 hS => ?_)
      have hP := zKeep hP hk1
      have E := zokE E (etg.trans hc)
      refine lv_aload_n hx hb dRG_fail_9 rfl (lv_at hl 0 rfl) ?_
      refine c_getO_RG_protocol hx hb (hB.words zU_RG) hown hK hP (hB.word (zm1 k1_238) rfl) dRG_fail_10 ?_
      refine lv_iload_n hx hb dRG_fail_13 rfl (lv_at hl 1 rfl) ?_
      refine zcallp (va_runV (As := [.int x0]) (rest := []) ⟨hx, hb, hml, hown, zno⟩ (tPR_hasFailed l dC dI cI cZ cJ cA a0 s0 o b P S H9.size x0 gP gS r_x0) (zcw 1 (hB.word (zm3 k3_63) rfl) (hB.word (zm1 k1_6) rfl) (hB.word (zm3 k3_60) rfl) (hB.word (zm3 k3_61) rfl) (hB.word (zm3 k3_62) rfl) rfl rfl (by decide +kernel) ⟨Nat.le_of_ble_eq_true rfl, Nat.le_of_ble_eq_true rfl⟩) ⟨zP_blind, va_recv hK hP (ci := 4) (q0 := 4) rfl rfl, zP_pre hP hK hD hAD (zB_on hB hA0 hS)⟩ rfl rfl hl.1 rfl (lv_room (Nat.le_of_ble_eq_true rfl)) dRG_fail_14 ⟨Nat.le_of_ble_eq_true rfl, Nat.le_of_ble_eq_true rfl⟩) hS hA (fun k11 H10 locs hk11 hz1 hk1 hS => ?_)
      have hP := zKeep hP hk1
      have E := zl_s E hk11.1
      refine lv_istore_n (lv' := [(2, .int k11), (0, .ref (o 0)), (1, .int x0)]) hx hb dRG_fail_17 rfl hl (by decide) rfl (fun ls hl => ?_)
      refine lv_iload_n hx hb dRG_fail_18 rfl (lv_at hl 0 rfl) ?_
      refine z_if_ne (tgt := 30) hx hb dRG_fail_19 (by decide) E (fun c_19 E => ?_) (fun c_19 E => ?_)
      · have r_k11 : zr 1 1 k11 := zne_lo hk11.2 c_19 (by decide)
        exact hJ30 H10 locs ls S k11 (zr_mono r_k11 (by decide)) gS E hP hD hS (lv_sub hl [1, 0] rfl)
      · have r_k11 : zr 0 0 k11 := zeq_x (show zr 0 0 0 from by decide) c_19
        refine lv_aload_n hx hb dRG_fail_22 rfl (lv_at hl 1 rfl) ?_
        refine c_getO_RG_protocol hx hb (hB.words zU_RG) hown hK hP (hB.word (zm1 k1_238) rfl) dRG_fail_23 ?_
        refine lv_iload_n hx hb dRG_fail_26 rfl (lv_at hl 2 rfl) ?_
        refine zcV (va_runV (As := [.int x0]) (rest := []) ⟨hx, hb, hml, hown, zno⟩ (tPR_breakLink l dC dI cI cZ cJ cA a0 s0 o b P S H10.size x0 gP gS gQ r_x0 qll_x0) (zcw 1 (hB.word (zm3 k3_67) rfl) (hB.word (zm1 k1_6) rfl) (hB.word (zm3 k3_64) rfl) (hB.word (zm3 k3_65) rfl) (hB.word (zm3 k3_66) rfl) rfl rfl (by decide +kernel) ⟨Nat.le_of_ble_eq_true rfl, Nat.le_of_ble_eq_true rfl⟩) ⟨zP_blind, va_recv hK hP (ci := 4) (q0 := 4) rfl rfl, zP_pre hP hK hD hAD (zB_on hB hA0 hS)⟩ rfl rfl hl.1 rfl (lv_room (Nat.le_of_ble_eq_true rfl)) dRG_fail_27 ⟨Nat.le_of_ble_eq_true rfl, Nat.le_of_ble_eq_true rfl⟩) hD hS hA (fun S13 H12 locs h14 hP hD hS => ?_)
        have E := zl_s E h14.1
        have gS13 := h14.2
        exact hJ30 H12 locs ls S13 k11 (zr_mono r_k11 (by decide)) gS13 E hP hD hS (lv_sub hl [1, 0] rfl)
set_option maxHeartbeats 4000000 in
set_option maxRecDepth 100000 in
theorem tRG_fail_T1 (l : Launch) (dC : Nat → ClassId) (dI : Nat → Nat → Nat) (cI cZ cJ cA : ClassId) (a0 : Array Value) (s0 : State) (o b : Nat → Nat) (hfl : l.flags = Jvm.pinnedFlags ++ [Jvm.noTraceFlag]) (P S : ZS) (sz : Nat) (x0 : Int32) (gP : cok P) (gS : cok S) (hc : fRG_fail P S x0 = .error 1) : tq_Met l yRG_fail [Cond.code yRG_fail bRG_fail 3 (some .boolean)] ({ frames := 7, cells := 1, slots := 6, locals := 111 } : Room) (zP zCl dC dI (zTZ cI cZ cJ cA) a0 s0 [.ref (o 0), .int x0] sz (CW cI cZ cA o b P S)) (tq_Q "java/lang/IllegalArgumentException") 1 6 (zN sz) := by
  refine tq_ofW (cc := bRG_fail) (maxL := 3) (ret := (some .boolean)) (by decide) rfl ?_
  intro p e s m args below meth c s₁ B hml htab hv
  obtain ⟨rfl, hsz, hP, hK, hD0, hB⟩ := hv
  have hx := B.exec
  have hb := B.bytes
  have hr := B.returns
  have hown : s.vm.findClass "RingGuard" = some m.cls := findClass_of_methodNamed B.named
  have hlocks := B.notSynchronized
  subst hsz
  have hD := hD0
  have hA0 : ∀ q, zN s.heap.size q → s0.heap.size ≤ q := zA1 hB
  have hAD : ∀ q, zN s0.heap.size q → s0.heap.size ≤ q := fun _ h => h
  have hA : ∀ q : Nat, s.heap.size ≤ q → zN s.heap.size q := fun _ h => h
  have hS : va_S (zN s.heap.size) s.heap s.heap [] := va_S.rf
  have hl := lv_entry ([.ref (o 0), .int x0]) (n := 3) (Nat.le_of_ble_eq_true rfl)
  rw [lg_entry_eq]
  generalize (lg_sl ([.ref (o 0), .int x0]) ++ List.replicate (3 - (lg_sl ([.ref (o 0), .int x0])).length) Slot.unset).toArray = ls at hl ⊢
  have hfl := hfl
  have hl : lv_has ls 3 [(0, .ref (o 0)), (1, .int x0)] := hl
  refine zgenQ (fun Q hQe => ?_)
  obtain ⟨tg, etg⟩ : ∃ z, z = fRG_fail P S x0 := ⟨_, rfl⟩
  have E := etg
  unfold fRG_fail at E
  refine lv_aload_n hx hb dRG_fail_0 rfl (lv_at hl 0 rfl) ?_
  refine lv_iload_n hx hb dRG_fail_1 rfl (lv_at hl 1 rfl) ?_
  refine z_bind E (fun k9 h2 E => ?_) (fun u1 h2 E => ?_)
  · have x9 : k9 = 1 := zerr (E.symm.trans (etg.trans hc))
    subst x9
    rw [hQe]
    exact zpass (tq_runV (As := [.int x0]) (rest := []) ⟨hx, hb, hml, hown, zno⟩ (tRG_requireLink_T1 l dC dI cI cZ cJ cA a0 s0 o b hfl P S s.heap.size x0 gP gS h2) (zcw 1 (hB.word (zm2 k2_188) rfl) (hB.word (zm1 k1_1) rfl) (hB.word (zm2 k2_185) rfl) (hB.word (zm2 k2_187) rfl) (k2_selects_private (by decide) (hB.word (zm1 k1_18) rfl) (hB.word (zm2 k2_186) rfl) (hB.word (zm2 k2_187) rfl)) rfl rfl (by decide +kernel) ⟨Nat.le_of_ble_eq_true rfl, Nat.le_of_ble_eq_true rfl⟩) ⟨zP_blind, va_recv hK hP (ci := 0) (q0 := 0) rfl rfl, zP_pre hP hK hD hAD (zB_on hB hA0 hS)⟩ rfl rfl hl.1 rfl (lv_room (Nat.le_of_ble_eq_true rfl)) dRG_fail_2 ⟨Nat.le_of_ble_eq_true rfl, Nat.le_of_ble_eq_true rfl⟩) htab hlocks hS (Nat.le_of_ble_eq_true rfl) (Nat.le_of_ble_eq_true rfl)
  · skip
    refine zcallo (va_runV (As := [.int x0]) (rest := []) ⟨hx, hb, hml, hown, zno⟩ (tRG_requireLink l dC dI cI cZ cJ cA a0 s0 o b P S s.heap.size x0 gP gS u1 h2) (zcw 1 (hB.word (zm2 k2_188) rfl) (hB.word (zm1 k1_1) rfl) (hB.word (zm2 k2_185) rfl) (hB.word (zm2 k2_187) rfl) (k2_selects_private (by decide) (hB.word (zm1 k1_18) rfl) (hB.word (zm2 k2_186) rfl) (hB.word (zm2 k2_187) rfl)) rfl rfl (by decide +kernel) ⟨Nat.le_of_ble_eq_true rfl, Nat.le_of_ble_eq_true rfl⟩) ⟨zP_blind, va_recv hK hP (ci := 0) (q0 := 0) rfl rfl, zP_pre hP hK hD hAD (zB_on hB hA0 hS)⟩ rfl rfl hl.1 rfl (lv_room (Nat.le_of_ble_eq_true rfl)) dRG_fail_2 ⟨Nat.le_of_ble_eq_true rfl, Nat.le_of_ble_eq_true rfl⟩) hS hA (fun H3 locs hz1 hk1 hS => ?_)
    have hP := zKeep hP hk1
    have r_x0 : zr 0 59 x0 := zk_rL1 gP h2
    have qll_x0 : x0.toInt < (P.I 1).toInt := zk_rL2 gP h2
    refine lv_aload_n hx hb dRG_fail_5 rfl (lv_at hl 0 rfl) ?_
    refine z_bind E (fun k9 h5 E => ?_) (fun u4 h5 E => ?_)
    · have x9 : k9 = 1 := zerr (E.symm.trans (etg.trans hc))
      subst x9
      exact absurd (fRG_requireStarted_c h5) (by decide)
    · skip
      refine zcallo (va_runV (As := []) (rest := []) ⟨hx, hb, hml, hown, zno⟩ (tRG_requireStarted l dC dI cI cZ cJ cA a0 s0 o b P S H3.size gP gS u4 h5) (zcw 0 (hB.word (zm3 k3_58) rfl) (hB.word (zm1 k1_1) rfl) (hB.word (zm3 k3_55) rfl) (hB.word (zm3 k3_57) rfl) (k2_selects_private (by decide) (hB.word (zm1 k1_18) rfl) (hB.word (zm3 k3_56) rfl) (hB.word (zm3 k3_57) rfl)) rfl rfl (by decide +kernel) ⟨Nat.le_of_ble_eq_true rfl, Nat.le_of_ble_eq_true rfl⟩) ⟨zP_blind, va_recv hK hP (ci := 0) (q0 := 0) rfl rfl, zP_pre hP hK hD hAD (zB_on hB hA0 hS)⟩ rfl rfl hl.1 rfl (lv_room (Nat.le_of_ble_eq_true rfl)) dRG_fail_6 ⟨Nat.le_of_ble_eq_true rfl, Nat.le_of_ble_eq_true rfl⟩) hS hA (fun H6 locs hz1 hk1 hS => ?_)
      have hP := zKeep hP hk1
      cases E.symm.trans (etg.trans hc)
set_option maxHeartbeats 4000000 in
set_option maxRecDepth 100000 in
theorem tRG_fail_T2 (l : Launch) (dC : Nat → ClassId) (dI : Nat → Nat → Nat) (cI cZ cJ cA : ClassId) (a0 : Array Value) (s0 : State) (o b : Nat → Nat) (hfl : l.flags = Jvm.pinnedFlags ++ [Jvm.noTraceFlag]) (P S : ZS) (sz : Nat) (x0 : Int32) (gP : cok P) (gS : cok S) (hc : fRG_fail P S x0 = .error 2) : tq_Met l yRG_fail [Cond.code yRG_fail bRG_fail 3 (some .boolean)] ({ frames := 7, cells := 1, slots := 6, locals := 111 } : Room) (zP zCl dC dI (zTZ cI cZ cJ cA) a0 s0 [.ref (o 0), .int x0] sz (CW cI cZ cA o b P S)) (tq_Q "java/lang/IllegalStateException") 1 6 (zN sz) := by
  refine tq_ofW (cc := bRG_fail) (maxL := 3) (ret := (some .boolean)) (by decide) rfl ?_
  intro p e s m args below meth c s₁ B hml htab hv
  obtain ⟨rfl, hsz, hP, hK, hD0, hB⟩ := hv
  have hx := B.exec
  have hb := B.bytes
  have hr := B.returns
  have hown : s.vm.findClass "RingGuard" = some m.cls := findClass_of_methodNamed B.named
  have hlocks := B.notSynchronized
  subst hsz
  have hD := hD0
  have hA0 : ∀ q, zN s.heap.size q → s0.heap.size ≤ q := zA1 hB
  have hAD : ∀ q, zN s0.heap.size q → s0.heap.size ≤ q := fun _ h => h
  have hA : ∀ q : Nat, s.heap.size ≤ q → zN s.heap.size q := fun _ h => h
  have hS : va_S (zN s.heap.size) s.heap s.heap [] := va_S.rf
  have hl := lv_entry ([.ref (o 0), .int x0]) (n := 3) (Nat.le_of_ble_eq_true rfl)
  rw [lg_entry_eq]
  generalize (lg_sl ([.ref (o 0), .int x0]) ++ List.replicate (3 - (lg_sl ([.ref (o 0), .int x0])).length) Slot.unset).toArray = ls at hl ⊢
  have hfl := hfl
  have hl : lv_has ls 3 [(0, .ref (o 0)), (1, .int x0)] := hl
  refine zgenQ (fun Q hQe => ?_)
  obtain ⟨tg, etg⟩ : ∃ z, z = fRG_fail P S x0 := ⟨_, rfl⟩
  have E := etg
  unfold fRG_fail at E
  refine lv_aload_n hx hb dRG_fail_0 rfl (lv_at hl 0 rfl) ?_
  refine lv_iload_n hx hb dRG_fail_1 rfl (lv_at hl 1 rfl) ?_
  refine z_bind E (fun k9 h2 E => ?_) (fun u1 h2 E => ?_)
  · have x9 : k9 = 2 := zerr (E.symm.trans (etg.trans hc))
    subst x9
    exact absurd (fRG_requireLink_c h2) (by decide)
  · skip
    refine zcallo (va_runV (As := [.int x0]) (rest := []) ⟨hx, hb, hml, hown, zno⟩ (tRG_requireLink l dC dI cI cZ cJ cA a0 s0 o b P S s.heap.size x0 gP gS u1 h2) (zcw 1 (hB.word (zm2 k2_188) rfl) (hB.word (zm1 k1_1) rfl) (hB.word (zm2 k2_185) rfl) (hB.word (zm2 k2_187) rfl) (k2_selects_private (by decide) (hB.word (zm1 k1_18) rfl) (hB.word (zm2 k2_186) rfl) (hB.word (zm2 k2_187) rfl)) rfl rfl (by decide +kernel) ⟨Nat.le_of_ble_eq_true rfl, Nat.le_of_ble_eq_true rfl⟩) ⟨zP_blind, va_recv hK hP (ci := 0) (q0 := 0) rfl rfl, zP_pre hP hK hD hAD (zB_on hB hA0 hS)⟩ rfl rfl hl.1 rfl (lv_room (Nat.le_of_ble_eq_true rfl)) dRG_fail_2 ⟨Nat.le_of_ble_eq_true rfl, Nat.le_of_ble_eq_true rfl⟩) hS hA (fun H3 locs hz1 hk1 hS => ?_)
    have hP := zKeep hP hk1
    have r_x0 : zr 0 59 x0 := zk_rL1 gP h2
    have qll_x0 : x0.toInt < (P.I 1).toInt := zk_rL2 gP h2
    refine lv_aload_n hx hb dRG_fail_5 rfl (lv_at hl 0 rfl) ?_
    refine z_bind E (fun k9 h5 E => ?_) (fun u4 h5 E => ?_)
    · have x9 : k9 = 2 := zerr (E.symm.trans (etg.trans hc))
      subst x9
      rw [hQe]
      exact zpass (tq_runV (As := []) (rest := []) ⟨hx, hb, hml, hown, zno⟩ (tRG_requireStarted_T2 l dC dI cI cZ cJ cA a0 s0 o b hfl P S H3.size gP gS h5) (zcw 0 (hB.word (zm3 k3_58) rfl) (hB.word (zm1 k1_1) rfl) (hB.word (zm3 k3_55) rfl) (hB.word (zm3 k3_57) rfl) (k2_selects_private (by decide) (hB.word (zm1 k1_18) rfl) (hB.word (zm3 k3_56) rfl) (hB.word (zm3 k3_57) rfl)) rfl rfl (by decide +kernel) ⟨Nat.le_of_ble_eq_true rfl, Nat.le_of_ble_eq_true rfl⟩) ⟨zP_blind, va_recv hK hP (ci := 0) (q0 := 0) rfl rfl, zP_pre hP hK hD hAD (zB_on hB hA0 hS)⟩ rfl rfl hl.1 rfl (lv_room (Nat.le_of_ble_eq_true rfl)) dRG_fail_6 ⟨Nat.le_of_ble_eq_true rfl, Nat.le_of_ble_eq_true rfl⟩) htab hlocks hS (Nat.le_of_ble_eq_true rfl) (Nat.le_of_ble_eq_true rfl)
    · skip
      refine zcallo (va_runV (As := []) (rest := []) ⟨hx, hb, hml, hown, zno⟩ (tRG_requireStarted l dC dI cI cZ cJ cA a0 s0 o b P S H3.size gP gS u4 h5) (zcw 0 (hB.word (zm3 k3_58) rfl) (hB.word (zm1 k1_1) rfl) (hB.word (zm3 k3_55) rfl) (hB.word (zm3 k3_57) rfl) (k2_selects_private (by decide) (hB.word (zm1 k1_18) rfl) (hB.word (zm3 k3_56) rfl) (hB.word (zm3 k3_57) rfl)) rfl rfl (by decide +kernel) ⟨Nat.le_of_ble_eq_true rfl, Nat.le_of_ble_eq_true rfl⟩) ⟨zP_blind, va_recv hK hP (ci := 0) (q0 := 0) rfl rfl, zP_pre hP hK hD hAD (zB_on hB hA0 hS)⟩ rfl rfl hl.1 rfl (lv_room (Nat.le_of_ble_eq_true rfl)) dRG_fail_6 ⟨Nat.le_of_ble_eq_true rfl, Nat.le_of_ble_eq_true rfl⟩) hS hA (fun H6 locs hz1 hk1 hS => ?_)
      have hP := zKeep hP hk1
      cases E.symm.trans (etg.trans hc)
noncomputable def fRG_heal_30 (P : ZS) (S_30 : ZS) (x30_2 : Int32) : ZS × Int32 := zl (fRG_countCircle P S_30) (fun S2 => (S2, x30_2))
noncomputable def fRG_heal (P S : ZS) (x0 : Int32) : Except Nat (ZS × Int32) := zbind (fRG_requireLink P S x0) (fun u4 => zbind (fRG_requireStarted P S) (fun u7 => .ok (zl (fPR_hasFailed P S x0) (fun k11 => (if k11 = 0 then fRG_heal_30 P S k11 else zl (fPR_mendLink P S x0) (fun S13 => fRG_heal_30 P S13 k11))))))
set_option maxHeartbeats 4000000 in
set_option maxRecDepth 100000 in
theorem tRG_heal (l : Launch) (dC : Nat → ClassId) (dI : Nat → Nat → Nat) (cI cZ cJ cA : ClassId) (a0 : Array Value) (s0 : State) (o b : Nat → Nat) (P S : ZS) (sz : Nat) (x0 : Int32) (gP : cok P) (gS : cok S) (gQ : zQ P) (y : ZS × Int32) (hc : fRG_heal P S x0 = .ok y) : Met l yRG_heal [Cond.code yRG_heal bRG_heal 3 (some .boolean)] ({ frames := 3, cells := 0, slots := 0, locals := 66 } : Room) (zP zCl dC dI (zTZ cI cZ cJ cA) a0 s0 [.ref (o 0), .int x0] sz (CW cI cZ cA o b P S)) (zQH zCl dC dI (fun (r : Int32) (x9 : ZS) => (x9, r) = y ∧ cok x9 ∧ zr 0 1 r) (fun x9 : ZS => (CW cI cZ cA o b P x9)) (va_A (CW cI cZ cA o b P S) sz)) 0 0 (va_A (CW cI cZ cA o b P S) sz) := by
  refine Met.ofW (cc := bRG_heal) (maxL := 3) (ret := (some .boolean)) (by decide) rfl ?_
  intro p e s m args below meth c s₁ B hml hv
  obtain ⟨rfl, hsz, hP, hK, hD0, hB⟩ := hv
  have hx := B.exec
  have hb := B.bytes
  have hr := B.returns
  have hown : s.vm.findClass "RingGuard" = some m.cls := findClass_of_methodNamed B.named
  have hlocks := B.notSynchronized
  subst hsz
  have hD := hD0.self (sz := s.heap.size)
  have hA0 := zA0 hD0 hB
  generalize hAe : va_A (CW cI cZ cA o b P S) s.heap.size = A at hD hA0 ⊢
  have hAD := hA0
  have hA : ∀ q : Nat, s.heap.size ≤ q → A q := fun q h => by rw [← hAe]; exact Or.inr h
  have hS : va_S A s.heap s.heap [] := va_S.rf
  have hl := lv_entry ([.ref (o 0), .int x0]) (n := 3) (Nat.le_of_ble_eq_true rfl)
  rw [lg_entry_eq]
  generalize (lg_sl ([.ref (o 0), .int x0]) ++ List.replicate (3 - (lg_sl ([.ref (o 0), .int x0])).length) Slot.unset).toArray = ls at hl ⊢
  have hl : lv_has ls 3 [(0, .ref (o 0)), (1, .int x0)] := hl
  refine zgenQ (fun Q hQe => ?_)
  obtain ⟨tg, etg⟩ : ∃ z, z = fRG_heal P S x0 := ⟨_, rfl⟩
  have E := etg
  unfold fRG_heal at E
  have hJ30 : ∀ (H : Heap) (locs : List Loc) (ls : Array Slot) (S_30 : ZS) (x30_2 : Int32), zr 0 1 x30_2 → cok S_30 → y = fRG_heal_30 P S_30 x30_2 → va_P (dC, dI) zCl (CW cI cZ cA o b P S_30) H → va_D A (CW cI cZ cA o b P S_30) → va_S A s.heap H locs → lv_has ls 3 [(0, .ref (o 0)), (2, .int x30_2)] → W p l e ({ frames := 3, cells := 0, slots := 0, locals := 66 } : Room) s m ([.ref (o 0), .int x0] : List Value).toArray below meth c H locs 0 0 Q (F0 m 30 ls []) := by
    intro H locs ls S_30 x30_2 r_x30_2 gS_30 E hP hD hS hl
    unfold fRG_heal_30 at E
    refine lv_aload_n hx hb dRG_heal_30 rfl (lv_at hl 0 rfl) ?_
    refine zcV (va_runV (As := []) (rest := []) ⟨hx, hb, hml, hown, zno⟩ (tRG_countCircle l dC dI cI cZ cJ cA a0 s0 o b P S_30 H.size gP gS_30) (zcw 0 (hB.word (zm3 k3_83) rfl) (hB.word (zm1 k1_1) rfl) (hB.word (zm3 k3_80) rfl) (hB.word (zm3 k3_82) rfl) (k2_selects_private (by decide) (hB.word (zm1 k1_18) rfl) (hB.word (zm3 k3_81) rfl) (hB.word (zm3 k3_82) rfl)) rfl rfl (by decide +kernel) ⟨Nat.le_of_ble_eq_true rfl, Nat.le_of_ble_eq_true rfl⟩) ⟨zP_blind, va_recv hK hP (ci := 0) (q0 := 0) rfl rfl, zP_pre hP hK hD hAD (zB_on hB hA0 hS)⟩ rfl rfl hl.1 rfl (lv_room (Nat.le_of_ble_eq_true rfl)) dRG_heal_31 ⟨Nat.le_of_ble_eq_true rfl, Nat.le_of_ble_eq_true rfl⟩) hD hS hA (fun S2 H1 locs h3 hP hD hS => ?_)
    have E := zl_s E h3.1
    have gS2 := h3.2
    refine lv_iload_n hx hb dRG_heal_34 rfl (lv_at hl 1 rfl) ?_
    rw [hQe]
    exact W.zret (v := x30_2) (ty := .boolean) hx hb hr (znar r_x30_2) (fun t ht hW => ⟨⟨x30_2, S2, rfl, ⟨E.symm, gS2, r_x30_2⟩, by rw [ht]; exact hP, hD⟩, hS.F ht⟩) hS.2.2 dRG_heal_35
  refine lv_aload_n hx hb dRG_heal_0 rfl (lv_at hl 0 rfl) ?_
  refine lv_iload_n hx hb dRG_heal_1 rfl (lv_at hl 1 rfl) ?_
  refine z_bind E (fun k9 h5 E => ?_) (fun u4 h5 E => ?_)
  · cases E.symm.trans (etg.trans hc)
  · skip
    refine zcallo (va_runV (As := [.int x0]) (rest := []) ⟨hx, hb, hml, hown, zno⟩ (tRG_requireLink l dC dI cI cZ cJ cA a0 s0 o b P S s.heap.size x0 gP gS u4 h5) (zcw 1 (hB.word (zm2 k2_188) rfl) (hB.word (zm1 k1_1) rfl) (hB.word (zm2 k2_185) rfl) (hB.word (zm2 k2_187) rfl) (k2_selects_private (by decide) (hB.word (zm1 k1_18) rfl) (hB.word (zm2 k2_186) rfl) (hB.word (zm2 k2_187) rfl)) rfl rfl (by decide +kernel) ⟨Nat.le_of_ble_eq_true rfl, Nat.le_of_ble_eq_true rfl⟩) ⟨zP_blind, va_recv hK hP (ci := 0) (q0 := 0) rfl rfl, zP_pre hP hK hD hAD (zB_on hB hA0 hS)⟩ rfl rfl hl.1 rfl (lv_room (Nat.le_of_ble_eq_true rfl)) dRG_heal_2 ⟨Nat.le_of_ble_eq_true rfl, Nat.le_of_ble_eq_true rfl⟩) hS hA (fun H6 locs hz1 hk1 hS => ?_)
    have hP := zKeep hP hk1
    have r_x0 : zr 0 59 x0 := zk_rL1 gP h5
    have qll_x0 : x0.toInt < (P.I 1).toInt := zk_rL2 gP h5
    refine lv_aload_n hx hb dRG_heal_5 rfl (lv_at hl 0 rfl) ?_
    refine z_bind E (fun k9 h8 E => ?_) (fun u7 h8 E => ?_)
    · cases E.symm.trans (etg.trans hc)
    · skip
      refine zcallo (va_runV (As := []) (rest := []) ⟨hx, hb, hml, hown, zno⟩ (tRG_requireStarted l dC dI cI cZ cJ cA a0 s0 o b P S H6.size gP gS u7 h8) (zcw 0 (hB.word (zm3 k3_58) rfl) (hB.word (zm1 k1_1) rfl) (hB.word (zm3 k3_55) rfl) (hB.word (zm3 k3_57) rfl) (k2_selects_private (by decide) (hB.word (zm1 k1_18) rfl) (hB.word (zm3 k3_56) rfl) (hB.word (zm3 k3_57) rfl)) rfl rfl (by decide +kernel) ⟨Nat.le_of_ble_eq_true rfl, Nat.le_of_ble_eq_true rfl⟩) ⟨zP_blind, va_recv hK hP (ci := 0) (q0 := 0) rfl rfl, zP_pre hP hK hD hAD (zB_on hB hA0 hS)⟩ rfl rfl hl.1 rfl (lv_room (Nat.le_of_ble_eq_true rfl)) dRG_heal_6 ⟨Nat.le_of_ble_eq_true rfl, Nat.le_of_ble_eq_true rfl⟩) hS hA (fun H9 locs hz1 hk1 hS => ?_)
      have hP := zKeep hP hk1
      have E := zokE E (etg.trans hc)
      refine lv_aload_n hx hb dRG_heal_9 rfl (lv_at hl 0 rfl) ?_
      refine c_getO_RG_protocol hx hb (hB.words zU_RG) hown hK hP (hB.word (zm1 k1_238) rfl) dRG_heal_10 ?_
      refine lv_iload_n hx hb dRG_heal_13 rfl (lv_at hl 1 rfl) ?_
      refine zcallp (va_runV (As := [.int x0]) (rest := []) ⟨hx, hb, hml, hown, zno⟩ (tPR_hasFailed l dC dI cI cZ cJ cA a0 s0 o b P S H9.size x0 gP gS r_x0) (zcw 1 (hB.word (zm3 k3_63) rfl) (hB.word (zm1 k1_6) rfl) (hB.word (zm3 k3_60) rfl) (hB.word (zm3 k3_61) rfl) (hB.word (zm3 k3_62) rfl) rfl rfl (by decide +kernel) ⟨Nat.le_of_ble_eq_true rfl, Nat.le_of_ble_eq_true rfl⟩) ⟨zP_blind, va_recv hK hP (ci := 4) (q0 := 4) rfl rfl, zP_pre hP hK hD hAD (zB_on hB hA0 hS)⟩ rfl rfl hl.1 rfl (lv_room (Nat.le_of_ble_eq_true rfl)) dRG_heal_14 ⟨Nat.le_of_ble_eq_true rfl, Nat.le_of_ble_eq_true rfl⟩) hS hA (fun k11 H10 locs hk11 hz1 hk1 hS => ?_)
      have hP := zKeep hP hk1
      have E := zl_s E hk11.1
      refine lv_istore_n (lv' := [(2, .int k11), (0, .ref (o 0)), (1, .int x0)]) hx hb dRG_heal_17 rfl hl (by decide) rfl (fun ls hl => ?_)
      refine lv_iload_n hx hb dRG_heal_18 rfl (lv_at hl 0 rfl) ?_
      refine z_if_eq (tgt := 30) hx hb dRG_heal_19 (by decide) E (fun c_19 E => ?_) (fun c_19 E => ?_)
      · have r_k11 : zr 0 0 k11 := zeq_x (show zr 0 0 0 from by decide) c_19
        exact hJ30 H10 locs ls S k11 (zr_mono r_k11 (by decide)) gS E hP hD hS (lv_sub hl [1, 0] rfl)
      · have r_k11 : zr 1 1 k11 := zne_lo hk11.2 c_19 (by decide)
        refine lv_aload_n hx hb dRG_heal_22 rfl (lv_at hl 1 rfl) ?_
        refine c_getO_RG_protocol hx hb (hB.words zU_RG) hown hK hP (hB.word (zm1 k1_238) rfl) dRG_heal_23 ?_
        refine lv_iload_n hx hb dRG_heal_26 rfl (lv_at hl 2 rfl) ?_
        refine zcV (va_runV (As := [.int x0]) (rest := []) ⟨hx, hb, hml, hown, zno⟩ (tPR_mendLink l dC dI cI cZ cJ cA a0 s0 o b P S H10.size x0 gP gS r_x0) (zcw 1 (hB.word (zm3 k3_104) rfl) (hB.word (zm1 k1_6) rfl) (hB.word (zm3 k3_101) rfl) (hB.word (zm3 k3_102) rfl) (hB.word (zm3 k3_103) rfl) rfl rfl (by decide +kernel) ⟨Nat.le_of_ble_eq_true rfl, Nat.le_of_ble_eq_true rfl⟩) ⟨zP_blind, va_recv hK hP (ci := 4) (q0 := 4) rfl rfl, zP_pre hP hK hD hAD (zB_on hB hA0 hS)⟩ rfl rfl hl.1 rfl (lv_room (Nat.le_of_ble_eq_true rfl)) dRG_heal_27 ⟨Nat.le_of_ble_eq_true rfl, Nat.le_of_ble_eq_true rfl⟩) hD hS hA (fun S13 H12 locs h14 hP hD hS => ?_)
        have E := zl_s E h14.1
        have gS13 := h14.2
        exact hJ30 H12 locs ls S13 k11 (zr_mono r_k11 (by decide)) gS13 E hP hD hS (lv_sub hl [1, 0] rfl)
set_option maxHeartbeats 4000000 in
set_option maxRecDepth 100000 in
theorem tRG_heal_T1 (l : Launch) (dC : Nat → ClassId) (dI : Nat → Nat → Nat) (cI cZ cJ cA : ClassId) (a0 : Array Value) (s0 : State) (o b : Nat → Nat) (hfl : l.flags = Jvm.pinnedFlags ++ [Jvm.noTraceFlag]) (P S : ZS) (sz : Nat) (x0 : Int32) (gP : cok P) (gS : cok S) (hc : fRG_heal P S x0 = .error 1) : tq_Met l yRG_heal [Cond.code yRG_heal bRG_heal 3 (some .boolean)] ({ frames := 7, cells := 1, slots := 6, locals := 111 } : Room) (zP zCl dC dI (zTZ cI cZ cJ cA) a0 s0 [.ref (o 0), .int x0] sz (CW cI cZ cA o b P S)) (tq_Q "java/lang/IllegalArgumentException") 1 6 (zN sz) := by
  refine tq_ofW (cc := bRG_heal) (maxL := 3) (ret := (some .boolean)) (by decide) rfl ?_
  intro p e s m args below meth c s₁ B hml htab hv
  obtain ⟨rfl, hsz, hP, hK, hD0, hB⟩ := hv
  have hx := B.exec
  have hb := B.bytes
  have hr := B.returns
  have hown : s.vm.findClass "RingGuard" = some m.cls := findClass_of_methodNamed B.named
  have hlocks := B.notSynchronized
  subst hsz
  have hD := hD0
  have hA0 : ∀ q, zN s.heap.size q → s0.heap.size ≤ q := zA1 hB
  have hAD : ∀ q, zN s0.heap.size q → s0.heap.size ≤ q := fun _ h => h
  have hA : ∀ q : Nat, s.heap.size ≤ q → zN s.heap.size q := fun _ h => h
  have hS : va_S (zN s.heap.size) s.heap s.heap [] := va_S.rf
  have hl := lv_entry ([.ref (o 0), .int x0]) (n := 3) (Nat.le_of_ble_eq_true rfl)
  rw [lg_entry_eq]
  generalize (lg_sl ([.ref (o 0), .int x0]) ++ List.replicate (3 - (lg_sl ([.ref (o 0), .int x0])).length) Slot.unset).toArray = ls at hl ⊢
  have hfl := hfl
  have hl : lv_has ls 3 [(0, .ref (o 0)), (1, .int x0)] := hl
  refine zgenQ (fun Q hQe => ?_)
  obtain ⟨tg, etg⟩ : ∃ z, z = fRG_heal P S x0 := ⟨_, rfl⟩
  have E := etg
  unfold fRG_heal at E
  refine lv_aload_n hx hb dRG_heal_0 rfl (lv_at hl 0 rfl) ?_
  refine lv_iload_n hx hb dRG_heal_1 rfl (lv_at hl 1 rfl) ?_
  refine z_bind E (fun k9 h2 E => ?_) (fun u1 h2 E => ?_)
  · have x9 : k9 = 1 := zerr (E.symm.trans (etg.trans hc))
    subst x9
    rw [hQe]
    exact zpass (tq_runV (As := [.int x0]) (rest := []) ⟨hx, hb, hml, hown, zno⟩ (tRG_requireLink_T1 l dC dI cI cZ cJ cA a0 s0 o b hfl P S s.heap.size x0 gP gS h2) (zcw 1 (hB.word (zm2 k2_188) rfl) (hB.word (zm1 k1_1) rfl) (hB.word (zm2 k2_185) rfl) (hB.word (zm2 k2_187) rfl) (k2_selects_private (by decide) (hB.word (zm1 k1_18) rfl) (hB.word (zm2 k2_186) rfl) (hB.word (zm2 k2_187) rfl)) rfl rfl (by decide +kernel) ⟨Nat.le_of_ble_eq_true rfl, Nat.le_of_ble_eq_true rfl⟩) ⟨zP_blind, va_recv hK hP (ci := 0) (q0 := 0) rfl rfl, zP_pre hP hK hD hAD (zB_on hB hA0 hS)⟩ rfl rfl hl.1 rfl (lv_room (Nat.le_of_ble_eq_true rfl)) dRG_heal_2 ⟨Nat.le_of_ble_eq_true rfl, Nat.le_of_ble_eq_true rfl⟩) htab hlocks hS (Nat.le_of_ble_eq_true rfl) (Nat.le_of_ble_eq_true rfl)
  · skip
    refine zcallo (va_runV (As := [.int x0]) (rest := []) ⟨hx, hb, hml, hown, zno⟩ (tRG_requireLink l dC dI cI cZ cJ cA a0 s0 o b P S s.heap.size x0 gP gS u1 h2) (zcw 1 (hB.word (zm2 k2_188) rfl) (hB.word (zm1 k1_1) rfl) (hB.word (zm2 k2_185) rfl) (hB.word (zm2 k2_187) rfl) (k2_selects_private (by decide) (hB.word (zm1 k1_18) rfl) (hB.word (zm2 k2_186) rfl) (hB.word (zm2 k2_187) rfl)) rfl rfl (by decide +kernel) ⟨Nat.le_of_ble_eq_true rfl, Nat.le_of_ble_eq_true rfl⟩) ⟨zP_blind, va_recv hK hP (ci := 0) (q0 := 0) rfl rfl, zP_pre hP hK hD hAD (zB_on hB hA0 hS)⟩ rfl rfl hl.1 rfl (lv_room (Nat.le_of_ble_eq_true rfl)) dRG_heal_2 ⟨Nat.le_of_ble_eq_true rfl, Nat.le_of_ble_eq_true rfl⟩) hS hA (fun H3 locs hz1 hk1 hS => ?_)
    have hP := zKeep hP hk1
    have r_x0 : zr 0 59 x0 := zk_rL1 gP h2
    have qll_x0 : x0.toInt < (P.I 1).toInt := zk_rL2 gP h2
    refine lv_aload_n hx hb dRG_heal_5 rfl (lv_at hl 0 rfl) ?_
    refine z_bind E (fun k9 h5 E => ?_) (fun u4 h5 E => ?_)
    · have x9 : k9 = 1 := zerr (E.symm.trans (etg.trans hc))
      subst x9
      exact absurd (fRG_requireStarted_c h5) (by decide)
    · skip
      refine zcallo (va_runV (As := []) (rest := []) ⟨hx, hb, hml, hown, zno⟩ (tRG_requireStarted l dC dI cI cZ cJ cA a0 s0 o b P S H3.size gP gS u4 h5) (zcw 0 (hB.word (zm3 k3_58) rfl) (hB.word (zm1 k1_1) rfl) (hB.word (zm3 k3_55) rfl) (hB.word (zm3 k3_57) rfl) (k2_selects_private (by decide) (hB.word (zm1 k1_18) rfl) (hB.word (zm3 k3_56) rfl) (hB.word (zm3 k3_57) rfl)) rfl rfl (by decide +kernel) ⟨Nat.le_of_ble_eq_true rfl, Nat.le_of_ble_eq_true rfl⟩) ⟨zP_blind, va_recv hK hP (ci := 0) (q0 := 0) rfl rfl, zP_pre hP hK hD hAD (zB_on hB hA0 hS)⟩ rfl rfl hl.1 rfl (lv_room (Nat.le_of_ble_eq_true rfl)) dRG_heal_6 ⟨Nat.le_of_ble_eq_true rfl, Nat.le_of_ble_eq_true rfl⟩) hS hA (fun H6 locs hz1 hk1 hS => ?_)
      have hP := zKeep hP hk1
      cases E.symm.trans (etg.trans hc)
set_option maxHeartbeats 4000000 in
set_option maxRecDepth 100000 in
theorem tRG_heal_T2 (l : Launch) (dC : Nat → ClassId) (dI : Nat → Nat → Nat) (cI cZ cJ cA : ClassId) (a0 : Array Value) (s0 : State) (o b : Nat → Nat) (hfl : l.flags = Jvm.pinnedFlags ++ [Jvm.noTraceFlag]) (P S : ZS) (sz : Nat) (x0 : Int32) (gP : cok P) (gS : cok S) (hc : fRG_heal P S x0 = .error 2) : tq_Met l yRG_heal [Cond.code yRG_heal bRG_heal 3 (some .boolean)] ({ frames := 7, cells := 1, slots := 6, locals := 111 } : Room) (zP zCl dC dI (zTZ cI cZ cJ cA) a0 s0 [.ref (o 0), .int x0] sz (CW cI cZ cA o b P S)) (tq_Q "java/lang/IllegalStateException") 1 6 (zN sz) := by
  refine tq_ofW (cc := bRG_heal) (maxL := 3) (ret := (some .boolean)) (by decide) rfl ?_
  intro p e s m args below meth c s₁ B hml htab hv
  obtain ⟨rfl, hsz, hP, hK, hD0, hB⟩ := hv
  have hx := B.exec
  have hb := B.bytes
  have hr := B.returns
  have hown : s.vm.findClass "RingGuard" = some m.cls := findClass_of_methodNamed B.named
  have hlocks := B.notSynchronized
  subst hsz
  have hD := hD0
  have hA0 : ∀ q, zN s.heap.size q → s0.heap.size ≤ q := zA1 hB
  have hAD : ∀ q, zN s0.heap.size q → s0.heap.size ≤ q := fun _ h => h
  have hA : ∀ q : Nat, s.heap.size ≤ q → zN s.heap.size q := fun _ h => h
  have hS : va_S (zN s.heap.size) s.heap s.heap [] := va_S.rf
  have hl := lv_entry ([.ref (o 0), .int x0]) (n := 3) (Nat.le_of_ble_eq_true rfl)
  rw [lg_entry_eq]
  generalize (lg_sl ([.ref (o 0), .int x0]) ++ List.replicate (3 - (lg_sl ([.ref (o 0), .int x0])).length) Slot.unset).toArray = ls at hl ⊢
  have hfl := hfl
  have hl : lv_has ls 3 [(0, .ref (o 0)), (1, .int x0)] := hl
  refine zgenQ (fun Q hQe => ?_)
  obtain ⟨tg, etg⟩ : ∃ z, z = fRG_heal P S x0 := ⟨_, rfl⟩
  have E := etg
  unfold fRG_heal at E
  refine lv_aload_n hx hb dRG_heal_0 rfl (lv_at hl 0 rfl) ?_
  refine lv_iload_n hx hb dRG_heal_1 rfl (lv_at hl 1 rfl) ?_
  refine z_bind E (fun k9 h2 E => ?_) (fun u1 h2 E => ?_)
  · have x9 : k9 = 2 := zerr (E.symm.trans (etg.trans hc))
    subst x9
    exact absurd (fRG_requireLink_c h2) (by decide)
  · skip
    refine zcallo (va_runV (As := [.int x0]) (rest := []) ⟨hx, hb, hml, hown, zno⟩ (tRG_requireLink l dC dI cI cZ cJ cA a0 s0 o b P S s.heap.size x0 gP gS u1 h2) (zcw 1 (hB.word (zm2 k2_188) rfl) (hB.word (zm1 k1_1) rfl) (hB.word (zm2 k2_185) rfl) (hB.word (zm2 k2_187) rfl) (k2_selects_private (by decide) (hB.word (zm1 k1_18) rfl) (hB.word (zm2 k2_186) rfl) (hB.word (zm2 k2_187) rfl)) rfl rfl (by decide +kernel) ⟨Nat.le_of_ble_eq_true rfl, Nat.le_of_ble_eq_true rfl⟩) ⟨zP_blind, va_recv hK hP (ci := 0) (q0 := 0) rfl rfl, zP_pre hP hK hD hAD (zB_on hB hA0 hS)⟩ rfl rfl hl.1 rfl (lv_room (Nat.le_of_ble_eq_true rfl)) dRG_heal_2 ⟨Nat.le_of_ble_eq_true rfl, Nat.le_of_ble_eq_true rfl⟩) hS hA (fun H3 locs hz1 hk1 hS => ?_)
    have hP := zKeep hP hk1
    have r_x0 : zr 0 59 x0 := zk_rL1 gP h2
    have qll_x0 : x0.toInt < (P.I 1).toInt := zk_rL2 gP h2
    refine lv_aload_n hx hb dRG_heal_5 rfl (lv_at hl 0 rfl) ?_
    refine z_bind E (fun k9 h5 E => ?_) (fun u4 h5 E => ?_)
    · have x9 : k9 = 2 := zerr (E.symm.trans (etg.trans hc))
      subst x9
      rw [hQe]
      exact zpass (tq_runV (As := []) (rest := []) ⟨hx, hb, hml, hown, zno⟩ (tRG_requireStarted_T2 l dC dI cI cZ cJ cA a0 s0 o b hfl P S H3.size gP gS h5) (zcw 0 (hB.word (zm3 k3_58) rfl) (hB.word (zm1 k1_1) rfl) (hB.word (zm3 k3_55) rfl) (hB.word (zm3 k3_57) rfl) (k2_selects_private (by decide) (hB.word (zm1 k1_18) rfl) (hB.word (zm3 k3_56) rfl) (hB.word (zm3 k3_57) rfl)) rfl rfl (by decide +kernel) ⟨Nat.le_of_ble_eq_true rfl, Nat.le_of_ble_eq_true rfl⟩) ⟨zP_blind, va_recv hK hP (ci := 0) (q0 := 0) rfl rfl, zP_pre hP hK hD hAD (zB_on hB hA0 hS)⟩ rfl rfl hl.1 rfl (lv_room (Nat.le_of_ble_eq_true rfl)) dRG_heal_6 ⟨Nat.le_of_ble_eq_true rfl, Nat.le_of_ble_eq_true rfl⟩) htab hlocks hS (Nat.le_of_ble_eq_true rfl) (Nat.le_of_ble_eq_true rfl)
    · skip
      refine zcallo (va_runV (As := []) (rest := []) ⟨hx, hb, hml, hown, zno⟩ (tRG_requireStarted l dC dI cI cZ cJ cA a0 s0 o b P S H3.size gP gS u4 h5) (zcw 0 (hB.word (zm3 k3_58) rfl) (hB.word (zm1 k1_1) rfl) (hB.word (zm3 k3_55) rfl) (hB.word (zm3 k3_57) rfl) (k2_selects_private (by decide) (hB.word (zm1 k1_18) rfl) (hB.word (zm3 k3_56) rfl) (hB.word (zm3 k3_57) rfl)) rfl rfl (by decide +kernel) ⟨Nat.le_of_ble_eq_true rfl, Nat.le_of_ble_eq_true rfl⟩) ⟨zP_blind, va_recv hK hP (ci := 0) (q0 := 0) rfl rfl, zP_pre hP hK hD hAD (zB_on hB hA0 hS)⟩ rfl rfl hl.1 rfl (lv_room (Nat.le_of_ble_eq_true rfl)) dRG_heal_6 ⟨Nat.le_of_ble_eq_true rfl, Nat.le_of_ble_eq_true rfl⟩) hS hA (fun H6 locs hz1 hk1 hS => ?_)
      have hP := zKeep hP hk1
      cases E.symm.trans (etg.trans hc)
noncomputable def fRG_lose_16 (P : ZS) (S_16 : ZS) : Except Nat (ZS × Int32) := .error 1
noncomputable def fRG_lose (P S : ZS) (x0 : Int32) (x1 : Int32) : Except Nat (ZS × Int32) := zbind (fRG_requireLink P S x0) (fun u1 => (if x1 < 0 then fRG_lose_16 P S else (if x1 ≤ 1000 then zbind (fRG_requireStarted P S) (fun u4 => .ok (zl (S.F 13 (x0 : Int32).toNatClampNeg) (fun k7 => zl (S.setF 13 (x0 : Int32).toNatClampNeg x1) (fun S8 => (S8, k7))))) else fRG_lose_16 P S)))
set_option maxHeartbeats 4000000 in
set_option maxRecDepth 100000 in
theorem tRG_lose (l : Launch) (dC : Nat → ClassId) (dI : Nat → Nat → Nat) (cI cZ cJ cA : ClassId) (a0 : Array Value) (s0 : State) (o b : Nat → Nat) (P S : ZS) (sz : Nat) (x0 : Int32) (x1 : Int32) (gP : cok P) (gS : cok S) (y : ZS × Int32) (hc : fRG_lose P S x0 x1 = .ok y) : Met l yRG_lose [Cond.code yRG_lose bRG_lose 4 (some .int)] ({ frames := 1, cells := 0, slots := 0, locals := 21 } : Room) (zP zCl dC dI (zTZ cI cZ cJ cA) a0 s0 [.ref (o 0), .int x0, .int x1] sz (CW cI cZ cA o b P S)) (zQH zCl dC dI (fun (r : Int32) (x9 : ZS) => (x9, r) = y ∧ cok x9 ∧ True) (fun x9 : ZS => (CW cI cZ cA o b P x9)) (va_A (CW cI cZ cA o b P S) sz)) 0 0 (va_A (CW cI cZ cA o b P S) sz) := by
  refine Met.ofW (cc := bRG_lose) (maxL := 4) (ret := (some .int)) (by decide) rfl ?_
  intro p e s m args below meth c s₁ B hml hv
  obtain ⟨rfl, hsz, hP, hK, hD0, hB⟩ := hv
  have hx := B.exec
  have hb := B.bytes
  have hr := B.returns
  have hown : s.vm.findClass "RingGuard" = some m.cls := findClass_of_methodNamed B.named
  have hlocks := B.notSynchronized
  subst hsz
  have hD := hD0.self (sz := s.heap.size)
  have hA0 := zA0 hD0 hB
  generalize hAe : va_A (CW cI cZ cA o b P S) s.heap.size = A at hD hA0 ⊢
  have hAD := hA0
  have hA : ∀ q : Nat, s.heap.size ≤ q → A q := fun q h => by rw [← hAe]; exact Or.inr h
  have hS : va_S A s.heap s.heap [] := va_S.rf
  have hl := lv_entry ([.ref (o 0), .int x0, .int x1]) (n := 4) (Nat.le_of_ble_eq_true rfl)
  rw [lg_entry_eq]
  generalize (lg_sl ([.ref (o 0), .int x0, .int x1]) ++ List.replicate (4 - (lg_sl ([.ref (o 0), .int x0, .int x1])).length) Slot.unset).toArray = ls at hl ⊢
  have hl : lv_has ls 4 [(0, .ref (o 0)), (1, .int x0), (2, .int x1)] := hl
  refine zgenQ (fun Q hQe => ?_)
  obtain ⟨tg, etg⟩ : ∃ z, z = fRG_lose P S x0 x1 := ⟨_, rfl⟩
  have E := etg
  unfold fRG_lose at E
  have hJ16 : ∀ (H : Heap) (locs : List Loc) (ls : Array Slot) (S_16 : ZS), cok S_16 → tg = fRG_lose_16 P S_16 → va_P (dC, dI) zCl (CW cI cZ cA o b P S_16) H → va_D A (CW cI cZ cA o b P S_16) → va_S A s.heap H locs → lv_has ls 4 [] → W p l e ({ frames := 1, cells := 0, slots := 0, locals := 21 } : Room) s m ([.ref (o 0), .int x0, .int x1] : List Value).toArray below meth c H locs 0 0 Q (F0 m 16 ls []) := by
    intro H locs ls S_16 gS_16 E hP hD hS hl
    unfold fRG_lose_16 at E
    cases E.symm.trans (etg.trans hc)
  refine lv_aload_n hx hb dRG_lose_0 rfl (lv_at hl 0 rfl) ?_
  refine lv_iload_n hx hb dRG_lose_1 rfl (lv_at hl 1 rfl) ?_
  refine z_bind E (fun k9 h2 E => ?_) (fun u1 h2 E => ?_)
  · cases E.symm.trans (etg.trans hc)
  · skip
    refine zcallo (va_runV (As := [.int x0]) (rest := []) ⟨hx, hb, hml, hown, zno⟩ (tRG_requireLink l dC dI cI cZ cJ cA a0 s0 o b P S s.heap.size x0 gP gS u1 h2) (zcw 1 (hB.word (zm2 k2_188) rfl) (hB.word (zm1 k1_1) rfl) (hB.word (zm2 k2_185) rfl) (hB.word (zm2 k2_187) rfl) (k2_selects_private (by decide) (hB.word (zm1 k1_18) rfl) (hB.word (zm2 k2_186) rfl) (hB.word (zm2 k2_187) rfl)) rfl rfl (by decide +kernel) ⟨Nat.le_of_ble_eq_true rfl, Nat.le_of_ble_eq_true rfl⟩) ⟨zP_blind, va_recv hK hP (ci := 0) (q0 := 0) rfl rfl, zP_pre hP hK hD hAD (zB_on hB hA0 hS)⟩ rfl rfl hl.1 rfl (lv_room (Nat.le_of_ble_eq_true rfl)) dRG_lose_2 ⟨Nat.le_of_ble_eq_true rfl, Nat.le_of_ble_eq_true rfl⟩) hS hA (fun H3 locs hz1 hk1 hS => ?_)
    have hP := zKeep hP hk1
    have r_x0 : zr 0 59 x0 := zk_rL1 gP h2
    have qll_x0 : x0.toInt < (P.I 1).toInt := zk_rL2 gP h2
    refine lv_iload_n hx hb dRG_lose_5 rfl (lv_at hl 2 rfl) ?_
    refine z_if_lt (tgt := 16) hx hb dRG_lose_6 (by decide) E (fun c_6 E => ?_) (fun c_6 E => ?_)
    · have r_x1 : zr (-2147483648) (-1) x1 := zlt_x (zr_any x1) (show zr 0 0 0 from by decide) c_6 (by decide)
      exact hJ16 H3 locs ls S gS E hP hD hS (lv_sub hl [] rfl)
    · have r_x1 : zr 0 2147483647 x1 := zle_y (show zr 0 0 0 from by decide) (zr_any x1) (znlt c_6) (by decide)
      refine lv_iload_n hx hb dRG_lose_9 rfl (lv_at hl 2 rfl) ?_
      refine lv_sipush (v := 1000) hx hb dRG_lose_10 (by decide) ?_
      refine z_icmp_le (tgt := 26) hx hb dRG_lose_13 (by decide) E (fun c_13 E => ?_) (fun c_13 E => ?_)
      · have r_x1 : zr 0 1000 x1 := zle_x r_x1 (show zr 1000 1000 1000 from by decide) c_13 (by decide)
        refine lv_aload_n hx hb dRG_lose_26 rfl (lv_at hl 0 rfl) ?_
        refine z_bind E (fun k9 h5 E => ?_) (fun u4 h5 E => ?_)
        · cases E.symm.trans (etg.trans hc)
        · skip
          refine zcallo (va_runV (As := []) (rest := []) ⟨hx, hb, hml, hown, zno⟩ (tRG_requireStarted l dC dI cI cZ cJ cA a0 s0 o b P S H3.size gP gS u4 h5) (zcw 0 (hB.word (zm3 k3_58) rfl) (hB.word (zm1 k1_1) rfl) (hB.word (zm3 k3_55) rfl) (hB.word (zm3 k3_57) rfl) (k2_selects_private (by decide) (hB.word (zm1 k1_18) rfl) (hB.word (zm3 k3_56) rfl) (hB.word (zm3 k3_57) rfl)) rfl rfl (by decide +kernel) ⟨Nat.le_of_ble_eq_true rfl, Nat.le_of_ble_eq_true rfl⟩) ⟨zP_blind, va_recv hK hP (ci := 0) (q0 := 0) rfl rfl, zP_pre hP hK hD hAD (zB_on hB hA0 hS)⟩ rfl rfl hl.1 rfl (lv_room (Nat.le_of_ble_eq_true rfl)) dRG_lose_27 ⟨Nat.le_of_ble_eq_true rfl, Nat.le_of_ble_eq_true rfl⟩) hS hA (fun H6 locs hz1 hk1 hS => ?_)
          have hP := zKeep hP hk1
          have E := zokE E (etg.trans hc)
          refine lv_aload_n hx hb dRG_lose_30 rfl (lv_at hl 0 rfl) ?_
          refine c_getO_RG_wires hx hb (hB.words zU_RG) hown hK hP (hB.word (zm1 k1_236) rfl) dRG_lose_31 ?_
          refine c_getA_13 hx hb (hB.words zU_WI) hown hK hP (hB.word (zm1 k1_95) rfl) dRG_lose_34 ?_
          refine lv_iload_n hx hb dRG_lose_37 rfl (lv_at hl 1 rfl) ?_
          refine c_aldS hx hb hK hP 13 (by decide) rfl r_x0 (by decide) dRG_lose_38 E (fun k7 ek7 E => ?_)
          refine lv_istore_n (lv' := [(3, .int k7), (0, .ref (o 0)), (1, .int x0), (2, .int x1)]) hx hb dRG_lose_39 rfl hl (by decide) rfl (fun ls hl => ?_)
          refine lv_aload_n hx hb dRG_lose_40 rfl (lv_at hl 1 rfl) ?_
          refine c_getO_RG_wires hx hb (hB.words zU_RG) hown hK hP (hB.word (zm1 k1_236) rfl) dRG_lose_41 ?_
          refine c_getA_13 hx hb (hB.words zU_WI) hown hK hP (hB.word (zm1 k1_95) rfl) dRG_lose_44 ?_
          refine lv_iload_n hx hb dRG_lose_47 rfl (lv_at hl 2 rfl) ?_
          refine lv_iload_n hx hb dRG_lose_48 rfl (lv_at hl 3 rfl) ?_
          refine c_astS hx hb hK hP hD hS 13 (by decide) rfl r_x0 (by decide) dRG_lose_49 E (fun S8 H9 locs eS8 E hP hD hS => ?_)
          have gS8 : cok S8 := by rw [eS8]; exact gS.setF (k := 13) (zr_any x1) (Or.inl (by decide))
          refine lv_iload_n hx hb dRG_lose_50 rfl (lv_at hl 0 rfl) ?_
          rw [hQe]
          exact W.iret (v := k7) hx hb hr (fun t ht hW => ⟨⟨k7, S8, rfl, ⟨E.symm, gS8, trivial⟩, by rw [ht]; exact hP, hD⟩, hS.F ht⟩) hS.2.2 dRG_lose_51
      · have r_x1 : zr 1001 2147483647 x1 := zlt_y (show zr 1000 1000 1000 from by decide) r_x1 (znle c_13) (by decide)
        exact hJ16 H3 locs ls S gS E hP hD hS (lv_sub hl [] rfl)
set_option maxHeartbeats 4000000 in
set_option maxRecDepth 100000 in
theorem tRG_lose_T1 (l : Launch) (dC : Nat → ClassId) (dI : Nat → Nat → Nat) (cI cZ cJ cA : ClassId) (a0 : Array Value) (s0 : State) (o b : Nat → Nat) (hfl : l.flags = Jvm.pinnedFlags ++ [Jvm.noTraceFlag]) (P S : ZS) (sz : Nat) (x0 : Int32) (x1 : Int32) (gP : cok P) (gS : cok S) (hc : fRG_lose P S x0 x1 = .error 1) : tq_Met l yRG_lose [Cond.code yRG_lose bRG_lose 4 (some .int)] ({ frames := 7, cells := 1, slots := 6, locals := 111 } : Room) (zP zCl dC dI (zTZ cI cZ cJ cA) a0 s0 [.ref (o 0), .int x0, .int x1] sz (CW cI cZ cA o b P S)) (tq_Q "java/lang/IllegalArgumentException") 1 6 (zN sz) := by
  refine tq_ofW (cc := bRG_lose) (maxL := 4) (ret := (some .int)) (by decide) rfl ?_
  intro p e s m args below meth c s₁ B hml htab hv
  obtain ⟨rfl, hsz, hP, hK, hD0, hB⟩ := hv
  have hx := B.exec
  have hb := B.bytes
  have hr := B.returns
  have hown : s.vm.findClass "RingGuard" = some m.cls := findClass_of_methodNamed B.named
  have hlocks := B.notSynchronized
  subst hsz
  have hD := hD0
  have hA0 : ∀ q, zN s.heap.size q → s0.heap.size ≤ q := zA1 hB
  have hAD : ∀ q, zN s0.heap.size q → s0.heap.size ≤ q := fun _ h => h
  have hA : ∀ q : Nat, s.heap.size ≤ q → zN s.heap.size q := fun _ h => h
  have hS : va_S (zN s.heap.size) s.heap s.heap [] := va_S.rf
  have hl := lv_entry ([.ref (o 0), .int x0, .int x1]) (n := 4) (Nat.le_of_ble_eq_true rfl)
  rw [lg_entry_eq]
  generalize (lg_sl ([.ref (o 0), .int x0, .int x1]) ++ List.replicate (4 - (lg_sl ([.ref (o 0), .int x0, .int x1])).length) Slot.unset).toArray = ls at hl ⊢
  have hfl := hfl
  have hl : lv_has ls 4 [(0, .ref (o 0)), (1, .int x0), (2, .int x1)] := hl
  refine zgenQ (fun Q hQe => ?_)
  obtain ⟨tg, etg⟩ : ∃ z, z = fRG_lose P S x0 x1 := ⟨_, rfl⟩
  have E := etg
  unfold fRG_lose at E
  have hJ16 : ∀ (H : Heap) (locs : List Loc) (ls : Array Slot), tg = fRG_lose_16 P S  → va_P (dC, dI) zCl (CW cI cZ cA o b P S) H → va_S (zN s.heap.size) s.heap H locs → lv_has ls 4 [] → W p l e ({ frames := 7, cells := 1, slots := 6, locals := 111 } : Room) s m ([.ref (o 0), .int x0, .int x1] : List Value).toArray below meth c H locs 0 0 Q (F0 m 16 ls []) := by
    intro H locs ls E hP hS hl
    unfold fRG_lose_16 at E
    obtain ⟨qs, hZ⟩ := hB.str (zm3 k3_116)
    rw [hQe]
    exact zthrow hfl hx hb hown (hB.word (zm2 k2_151) rfl) (hB.word (zm1 k1_14) rfl) hZ (by decide) (hB.words zO_80) (by rw [hml]; exact hl.1) htab hlocks dRG_lose_16 dRG_lose_19 dRG_lose_20 dRG_lose_22 dRG_lose_25 (Nat.le_of_ble_eq_true rfl) (Nat.le_of_ble_eq_true rfl) (Nat.le_of_ble_eq_true rfl) (Nat.le_of_ble_eq_true rfl) hS rfl rfl
  refine lv_aload_n hx hb dRG_lose_0 rfl (lv_at hl 0 rfl) ?_
  refine lv_iload_n hx hb dRG_lose_1 rfl (lv_at hl 1 rfl) ?_
  refine z_bind E (fun k9 h2 E => ?_) (fun u1 h2 E => ?_)
  · have x9 : k9 = 1 := zerr (E.symm.trans (etg.trans hc))
    subst x9
    rw [hQe]
    exact zpass (tq_runV (As := [.int x0]) (rest := []) ⟨hx, hb, hml, hown, zno⟩ (tRG_requireLink_T1 l dC dI cI cZ cJ cA a0 s0 o b hfl P S s.heap.size x0 gP gS h2) (zcw 1 (hB.word (zm2 k2_188) rfl) (hB.word (zm1 k1_1) rfl) (hB.word (zm2 k2_185) rfl) (hB.word (zm2 k2_187) rfl) (k2_selects_private (by decide) (hB.word (zm1 k1_18) rfl) (hB.word (zm2 k2_186) rfl) (hB.word (zm2 k2_187) rfl)) rfl rfl (by decide +kernel) ⟨Nat.le_of_ble_eq_true rfl, Nat.le_of_ble_eq_true rfl⟩) ⟨zP_blind, va_recv hK hP (ci := 0) (q0 := 0) rfl rfl, zP_pre hP hK hD hAD (zB_on hB hA0 hS)⟩ rfl rfl hl.1 rfl (lv_room (Nat.le_of_ble_eq_true rfl)) dRG_lose_2 ⟨Nat.le_of_ble_eq_true rfl, Nat.le_of_ble_eq_true rfl⟩) htab hlocks hS (Nat.le_of_ble_eq_true rfl) (Nat.le_of_ble_eq_true rfl)
  · skip
    refine zcallo (va_runV (As := [.int x0]) (rest := []) ⟨hx, hb, hml, hown, zno⟩ (tRG_requireLink l dC dI cI cZ cJ cA a0 s0 o b P S s.heap.size x0 gP gS u1 h2) (zcw 1 (hB.word (zm2 k2_188) rfl) (hB.word (zm1 k1_1) rfl) (hB.word (zm2 k2_185) rfl) (hB.word (zm2 k2_187) rfl) (k2_selects_private (by decide) (hB.word (zm1 k1_18) rfl) (hB.word (zm2 k2_186) rfl) (hB.word (zm2 k2_187) rfl)) rfl rfl (by decide +kernel) ⟨Nat.le_of_ble_eq_true rfl, Nat.le_of_ble_eq_true rfl⟩) ⟨zP_blind, va_recv hK hP (ci := 0) (q0 := 0) rfl rfl, zP_pre hP hK hD hAD (zB_on hB hA0 hS)⟩ rfl rfl hl.1 rfl (lv_room (Nat.le_of_ble_eq_true rfl)) dRG_lose_2 ⟨Nat.le_of_ble_eq_true rfl, Nat.le_of_ble_eq_true rfl⟩) hS hA (fun H3 locs hz1 hk1 hS => ?_)
    have hP := zKeep hP hk1
    have r_x0 : zr 0 59 x0 := zk_rL1 gP h2
    have qll_x0 : x0.toInt < (P.I 1).toInt := zk_rL2 gP h2
    refine lv_iload_n hx hb dRG_lose_5 rfl (lv_at hl 2 rfl) ?_
    refine z_if_lt (tgt := 16) hx hb dRG_lose_6 (by decide) E (fun c_6 E => ?_) (fun c_6 E => ?_)
    · have r_x1 : zr (-2147483648) (-1) x1 := zlt_x (zr_any x1) (show zr 0 0 0 from by decide) c_6 (by decide)
      exact hJ16 H3 locs ls  E hP hS (lv_sub hl [] rfl)
    · have r_x1 : zr 0 2147483647 x1 := zle_y (show zr 0 0 0 from by decide) (zr_any x1) (znlt c_6) (by decide)
      refine lv_iload_n hx hb dRG_lose_9 rfl (lv_at hl 2 rfl) ?_
      refine lv_sipush (v := 1000) hx hb dRG_lose_10 (by decide) ?_
      refine z_icmp_le (tgt := 26) hx hb dRG_lose_13 (by decide) E (fun c_13 E => ?_) (fun c_13 E => ?_)
      · have r_x1 : zr 0 1000 x1 := zle_x r_x1 (show zr 1000 1000 1000 from by decide) c_13 (by decide)
        refine lv_aload_n hx hb dRG_lose_26 rfl (lv_at hl 0 rfl) ?_
        refine z_bind E (fun k9 h5 E => ?_) (fun u4 h5 E => ?_)
        · have x9 : k9 = 1 := zerr (E.symm.trans (etg.trans hc))
          subst x9
          exact absurd (fRG_requireStarted_c h5) (by decide)
        · skip
          refine zcallo (va_runV (As := []) (rest := []) ⟨hx, hb, hml, hown, zno⟩ (tRG_requireStarted l dC dI cI cZ cJ cA a0 s0 o b P S H3.size gP gS u4 h5) (zcw 0 (hB.word (zm3 k3_58) rfl) (hB.word (zm1 k1_1) rfl) (hB.word (zm3 k3_55) rfl) (hB.word (zm3 k3_57) rfl) (k2_selects_private (by decide) (hB.word (zm1 k1_18) rfl) (hB.word (zm3 k3_56) rfl) (hB.word (zm3 k3_57) rfl)) rfl rfl (by decide +kernel) ⟨Nat.le_of_ble_eq_true rfl, Nat.le_of_ble_eq_true rfl⟩) ⟨zP_blind, va_recv hK hP (ci := 0) (q0 := 0) rfl rfl, zP_pre hP hK hD hAD (zB_on hB hA0 hS)⟩ rfl rfl hl.1 rfl (lv_room (Nat.le_of_ble_eq_true rfl)) dRG_lose_27 ⟨Nat.le_of_ble_eq_true rfl, Nat.le_of_ble_eq_true rfl⟩) hS hA (fun H6 locs hz1 hk1 hS => ?_)
          have hP := zKeep hP hk1
          cases E.symm.trans (etg.trans hc)
      · have r_x1 : zr 1001 2147483647 x1 := zlt_y (show zr 1000 1000 1000 from by decide) r_x1 (znle c_13) (by decide)
        exact hJ16 H3 locs ls  E hP hS (lv_sub hl [] rfl)
set_option maxHeartbeats 4000000 in
set_option maxRecDepth 100000 in
theorem tRG_lose_T2 (l : Launch) (dC : Nat → ClassId) (dI : Nat → Nat → Nat) (cI cZ cJ cA : ClassId) (a0 : Array Value) (s0 : State) (o b : Nat → Nat) (hfl : l.flags = Jvm.pinnedFlags ++ [Jvm.noTraceFlag]) (P S : ZS) (sz : Nat) (x0 : Int32) (x1 : Int32) (gP : cok P) (gS : cok S) (hc : fRG_lose P S x0 x1 = .error 2) : tq_Met l yRG_lose [Cond.code yRG_lose bRG_lose 4 (some .int)] ({ frames := 7, cells := 1, slots := 6, locals := 111 } : Room) (zP zCl dC dI (zTZ cI cZ cJ cA) a0 s0 [.ref (o 0), .int x0, .int x1] sz (CW cI cZ cA o b P S)) (tq_Q "java/lang/IllegalStateException") 1 6 (zN sz) := by
  refine tq_ofW (cc := bRG_lose) (maxL := 4) (ret := (some .int)) (by decide) rfl ?_
  intro p e s m args below meth c s₁ B hml htab hv
  obtain ⟨rfl, hsz, hP, hK, hD0, hB⟩ := hv
  have hx := B.exec
  have hb := B.bytes
  have hr := B.returns
  have hown : s.vm.findClass "RingGuard" = some m.cls := findClass_of_methodNamed B.named
  have hlocks := B.notSynchronized
  subst hsz
  have hD := hD0
  have hA0 : ∀ q, zN s.heap.size q → s0.heap.size ≤ q := zA1 hB
  have hAD : ∀ q, zN s0.heap.size q → s0.heap.size ≤ q := fun _ h => h
  have hA : ∀ q : Nat, s.heap.size ≤ q → zN s.heap.size q := fun _ h => h
  have hS : va_S (zN s.heap.size) s.heap s.heap [] := va_S.rf
  have hl := lv_entry ([.ref (o 0), .int x0, .int x1]) (n := 4) (Nat.le_of_ble_eq_true rfl)
  rw [lg_entry_eq]
  generalize (lg_sl ([.ref (o 0), .int x0, .int x1]) ++ List.replicate (4 - (lg_sl ([.ref (o 0), .int x0, .int x1])).length) Slot.unset).toArray = ls at hl ⊢
  have hfl := hfl
  have hl : lv_has ls 4 [(0, .ref (o 0)), (1, .int x0), (2, .int x1)] := hl
  refine zgenQ (fun Q hQe => ?_)
  obtain ⟨tg, etg⟩ : ∃ z, z = fRG_lose P S x0 x1 := ⟨_, rfl⟩
  have E := etg
  unfold fRG_lose at E
  have hJ16 : ∀ (H : Heap) (locs : List Loc) (ls : Array Slot), tg = fRG_lose_16 P S  → va_P (dC, dI) zCl (CW cI cZ cA o b P S) H → va_S (zN s.heap.size) s.heap H locs → lv_has ls 4 [] → W p l e ({ frames := 7, cells := 1, slots := 6, locals := 111 } : Room) s m ([.ref (o 0), .int x0, .int x1] : List Value).toArray below meth c H locs 0 0 Q (F0 m 16 ls []) := by
    intro H locs ls E hP hS hl
    unfold fRG_lose_16 at E
    cases E.symm.trans (etg.trans hc)
  refine lv_aload_n hx hb dRG_lose_0 rfl (lv_at hl 0 rfl) ?_
  refine lv_iload_n hx hb dRG_lose_1 rfl (lv_at hl 1 rfl) ?_
  refine z_bind E (fun k9 h2 E => ?_) (fun u1 h2 E => ?_)
  · have x9 : k9 = 2 := zerr (E.symm.trans (etg.trans hc))
    subst x9
    exact absurd (fRG_requireLink_c h2) (by decide)
  · skip
    refine zcallo (va_runV (As := [.int x0]) (rest := []) ⟨hx, hb, hml, hown, zno⟩ (tRG_requireLink l dC dI cI cZ cJ cA a0 s0 o b P S s.heap.size x0 gP gS u1 h2) (zcw 1 (hB.word (zm2 k2_188) rfl) (hB.word (zm1 k1_1) rfl) (hB.word (zm2 k2_185) rfl) (hB.word (zm2 k2_187) rfl) (k2_selects_private (by decide) (hB.word (zm1 k1_18) rfl) (hB.word (zm2 k2_186) rfl) (hB.word (zm2 k2_187) rfl)) rfl rfl (by decide +kernel) ⟨Nat.le_of_ble_eq_true rfl, Nat.le_of_ble_eq_true rfl⟩) ⟨zP_blind, va_recv hK hP (ci := 0) (q0 := 0) rfl rfl, zP_pre hP hK hD hAD (zB_on hB hA0 hS)⟩ rfl rfl hl.1 rfl (lv_room (Nat.le_of_ble_eq_true rfl)) dRG_lose_2 ⟨Nat.le_of_ble_eq_true rfl, Nat.le_of_ble_eq_true rfl⟩) hS hA (fun H3 locs hz1 hk1 hS => ?_)
    have hP := zKeep hP hk1
    have r_x0 : zr 0 59 x0 := zk_rL1 gP h2
    have qll_x0 : x0.toInt < (P.I 1).toInt := zk_rL2 gP h2
    refine lv_iload_n hx hb dRG_lose_5 rfl (lv_at hl 2 rfl) ?_
    refine z_if_lt (tgt := 16) hx hb dRG_lose_6 (by decide) E (fun c_6 E => ?_) (fun c_6 E => ?_)
    · have r_x1 : zr (-2147483648) (-1) x1 := zlt_x (zr_any x1) (show zr 0 0 0 from by decide) c_6 (by decide)
      exact hJ16 H3 locs ls  E hP hS (lv_sub hl [] rfl)
    · have r_x1 : zr 0 2147483647 x1 := zle_y (show zr 0 0 0 from by decide) (zr_any x1) (znlt c_6) (by decide)
      refine lv_iload_n hx hb dRG_lose_9 rfl (lv_at hl 2 rfl) ?_
      refine lv_sipush (v := 1000) hx hb dRG_lose_10 (by decide) ?_
      refine z_icmp_le (tgt := 26) hx hb dRG_lose_13 (by decide) E (fun c_13 E => ?_) (fun c_13 E => ?_)
      · have r_x1 : zr 0 1000 x1 := zle_x r_x1 (show zr 1000 1000 1000 from by decide) c_13 (by decide)
        refine lv_aload_n hx hb dRG_lose_26 rfl (lv_at hl 0 rfl) ?_
        refine z_bind E (fun k9 h5 E => ?_) (fun u4 h5 E => ?_)
        · have x9 : k9 = 2 := zerr (E.symm.trans (etg.trans hc))
          subst x9
          rw [hQe]
          exact zpass (tq_runV (As := []) (rest := []) ⟨hx, hb, hml, hown, zno⟩ (tRG_requireStarted_T2 l dC dI cI cZ cJ cA a0 s0 o b hfl P S H3.size gP gS h5) (zcw 0 (hB.word (zm3 k3_58) rfl) (hB.word (zm1 k1_1) rfl) (hB.word (zm3 k3_55) rfl) (hB.word (zm3 k3_57) rfl) (k2_selects_private (by decide) (hB.word (zm1 k1_18) rfl) (hB.word (zm3 k3_56) rfl) (hB.word (zm3 k3_57) rfl)) rfl rfl (by decide +kernel) ⟨Nat.le_of_ble_eq_true rfl, Nat.le_of_ble_eq_true rfl⟩) ⟨zP_blind, va_recv hK hP (ci := 0) (q0 := 0) rfl rfl, zP_pre hP hK hD hAD (zB_on hB hA0 hS)⟩ rfl rfl hl.1 rfl (lv_room (Nat.le_of_ble_eq_true rfl)) dRG_lose_27 ⟨Nat.le_of_ble_eq_true rfl, Nat.le_of_ble_eq_true rfl⟩) htab hlocks hS (Nat.le_of_ble_eq_true rfl) (Nat.le_of_ble_eq_true rfl)
        · skip
          refine zcallo (va_runV (As := []) (rest := []) ⟨hx, hb, hml, hown, zno⟩ (tRG_requireStarted l dC dI cI cZ cJ cA a0 s0 o b P S H3.size gP gS u4 h5) (zcw 0 (hB.word (zm3 k3_58) rfl) (hB.word (zm1 k1_1) rfl) (hB.word (zm3 k3_55) rfl) (hB.word (zm3 k3_57) rfl) (k2_selects_private (by decide) (hB.word (zm1 k1_18) rfl) (hB.word (zm3 k3_56) rfl) (hB.word (zm3 k3_57) rfl)) rfl rfl (by decide +kernel) ⟨Nat.le_of_ble_eq_true rfl, Nat.le_of_ble_eq_true rfl⟩) ⟨zP_blind, va_recv hK hP (ci := 0) (q0 := 0) rfl rfl, zP_pre hP hK hD hAD (zB_on hB hA0 hS)⟩ rfl rfl hl.1 rfl (lv_room (Nat.le_of_ble_eq_true rfl)) dRG_lose_27 ⟨Nat.le_of_ble_eq_true rfl, Nat.le_of_ble_eq_true rfl⟩) hS hA (fun H6 locs hz1 hk1 hS => ?_)
          have hP := zKeep hP hk1
          cases E.symm.trans (etg.trans hc)
      · have r_x1 : zr 1001 2147483647 x1 := zlt_y (show zr 1000 1000 1000 from by decide) r_x1 (znle c_13) (by decide)
        exact hJ16 H3 locs ls  E hP hS (lv_sub hl [] rfl)
noncomputable def fRG_order_32 (P : ZS) (S_32 : ZS) (y32_0 : Int32) (y32_1 : Int32) : ZS × Int32 := zl2 (fPR_giveCommand P S_32 y32_1 y32_0) (fun S3 k2 => zl (fRG_countCircle P S3) (fun S6 => (S6, k2)))
noncomputable def fRG_order (P S : ZS) (x0 : Int32) (x1 : Int32) (x2 : Int32) : Except Nat (ZS × Int32) := zbind (fRG_requirePort P S x0 x1) (fun u8 => zbind (fRG_requireStarted P S) (fun u11 => .ok (zl (fPL_portOf P S x0 x1) (fun k15 => (if x2 = 0 then fRG_order_32 P S 4 k15 else fRG_order_32 P S 2 k15)))))
set_option maxHeartbeats 4000000 in
set_option maxRecDepth 100000 in
theorem tRG_order (l : Launch) (dC : Nat → ClassId) (dI : Nat → Nat → Nat) (cI cZ cJ cA : ClassId) (a0 : Array Value) (s0 : State) (o b : Nat → Nat) (P S : ZS) (sz : Nat) (x0 : Int32) (x1 : Int32) (x2 : Int32) (gP : cok P) (gS : cok S) (gQ : zQ P) (r_x2 : zr 0 1 x2) (y : ZS × Int32) (hc : fRG_order P S x0 x1 x2 = .ok y) : Met l yRG_order [Cond.code yRG_order bRG_order 5 (some .boolean)] ({ frames := 4, cells := 0, slots := 0, locals := 98 } : Room) (zP zCl dC dI (zTZ cI cZ cJ cA) a0 s0 [.ref (o 0), .int x0, .int x1, .int x2] sz (CW cI cZ cA o b P S)) (zQH zCl dC dI (fun (r : Int32) (x9 : ZS) => (x9, r) = y ∧ cok x9 ∧ zr 0 1 r) (fun x9 : ZS => (CW cI cZ cA o b P x9)) (va_A (CW cI cZ cA o b P S) sz)) 0 0 (va_A (CW cI cZ cA o b P S) sz) := by
  refine Met.ofW (cc := bRG_order) (maxL := 5) (ret := (some .boolean)) (by decide) rfl ?_
  intro p e s m args below meth c s₁ B hml hv
  obtain ⟨rfl, hsz, hP, hK, hD0, hB⟩ := hv
  have hx := B.exec
  have hb := B.bytes
  have hr := B.returns
  have hown : s.vm.findClass "RingGuard" = some m.cls := findClass_of_methodNamed B.named
  have hlocks := B.notSynchronized
  subst hsz
  have hD := hD0.self (sz := s.heap.size)
  have hA0 := zA0 hD0 hB
  generalize hAe : va_A (CW cI cZ cA o b P S) s.heap.size = A at hD hA0 ⊢
  have hAD := hA0
  have hA : ∀ q : Nat, s.heap.size ≤ q → A q := fun q h => by rw [← hAe]; exact Or.inr h
  have hS : va_S A s.heap s.heap [] := va_S.rf
  have hl := lv_entry ([.ref (o 0), .int x0, .int x1, .int x2]) (n := 5) (Nat.le_of_ble_eq_true rfl)
  rw [lg_entry_eq]
  generalize (lg_sl ([.ref (o 0), .int x0, .int x1, .int x2]) ++ List.replicate (5 - (lg_sl ([.ref (o 0), .int x0, .int x1, .int x2])).length) Slot.unset).toArray = ls at hl ⊢
  have hl : lv_has ls 5 [(0, .ref (o 0)), (1, .int x0), (2, .int x1), (3, .int x2)] := hl
  refine zgenQ (fun Q hQe => ?_)
  obtain ⟨tg, etg⟩ : ∃ z, z = fRG_order P S x0 x1 x2 := ⟨_, rfl⟩
  have E := etg
  unfold fRG_order at E
  have hJ32 : ∀ (H : Heap) (locs : List Loc) (ls : Array Slot) (S_32 : ZS) (y32_0 : Int32) (y32_1 : Int32), zr 2 4 y32_0 → zr 0 119 y32_1 → (zgt P y32_1) → (y32_1 = -1 ∨ zgt P y32_1) → cok S_32 → y = fRG_order_32 P S_32 y32_0 y32_1 → va_P (dC, dI) zCl (CW cI cZ cA o b P S_32) H → va_D A (CW cI cZ cA o b P S_32) → va_S A s.heap H locs → lv_has ls 5 [(0, .ref (o 0))] → W p l e ({ frames := 4, cells := 0, slots := 0, locals := 98 } : Room) s m ([.ref (o 0), .int x0, .int x1, .int x2] : List Value).toArray below meth c H locs 0 0 Q (F0 m 32 ls [.int y32_0, .int y32_1, .ref (o 4)]) := by
    intro H locs ls S_32 y32_0 y32_1 r_y32_0 r_y32_1 qgp_y32_1 qogp_y32_1 gS_32 E hP hD hS hl
    unfold fRG_order_32 at E
    refine zcI (va_runV (As := [.int y32_1, .int y32_0]) (rest := []) ⟨hx, hb, hml, hown, zno⟩ (tPR_giveCommand l dC dI cI cZ cJ cA a0 s0 o b P S_32 H.size y32_1 y32_0 gP gS_32 gQ r_y32_1 qgp_y32_1) (zcw 2 (hB.word (zm3 k3_133) rfl) (hB.word (zm1 k1_6) rfl) (hB.word (zm3 k3_130) rfl) (hB.word (zm3 k3_131) rfl) (hB.word (zm3 k3_132) rfl) rfl rfl (by decide +kernel) ⟨Nat.le_of_ble_eq_true rfl, Nat.le_of_ble_eq_true rfl⟩) ⟨zP_blind, va_recv hK hP (ci := 4) (q0 := 4) rfl rfl, zP_pre hP hK hD hAD (zB_on hB hA0 hS)⟩ rfl rfl hl.1 rfl (lv_room (Nat.le_of_ble_eq_true rfl)) dRG_order_32 ⟨Nat.le_of_ble_eq_true rfl, Nat.le_of_ble_eq_true rfl⟩) hD hS hA (fun k2 S3 H1 locs h4 hP hD hS => ?_)
    have E := zl2_s E h4.1
    have gS3 := h4.2.1
    refine lv_istore (lv' := [(4, .int k2), (0, .ref (o 0))]) hx hb dRG_order_35 hl (by decide) rfl (fun ls hl => ?_)
    refine lv_aload_n hx hb dRG_order_37 rfl (lv_at hl 1 rfl) ?_
    refine zcV (va_runV (As := []) (rest := []) ⟨hx, hb, hml, hown, zno⟩ (tRG_countCircle l dC dI cI cZ cJ cA a0 s0 o b P S3 H1.size gP gS3) (zcw 0 (hB.word (zm3 k3_83) rfl) (hB.word (zm1 k1_1) rfl) (hB.word (zm3 k3_80) rfl) (hB.word (zm3 k3_82) rfl) (k2_selects_private (by decide) (hB.word (zm1 k1_18) rfl) (hB.word (zm3 k3_81) rfl) (hB.word (zm3 k3_82) rfl)) rfl rfl (by decide +kernel) ⟨Nat.le_of_ble_eq_true rfl, Nat.le_of_ble_eq_true rfl⟩) ⟨zP_blind, va_recv hK hP (ci := 0) (q0 := 0) rfl rfl, zP_pre hP hK hD hAD (zB_on hB hA0 hS)⟩ rfl rfl hl.1 rfl (lv_room (Nat.le_of_ble_eq_true rfl)) dRG_order_38 ⟨Nat.le_of_ble_eq_true rfl, Nat.le_of_ble_eq_true rfl⟩) hD hS hA (fun S6 H5 locs h7 hP hD hS => ?_)
    have E := zl_s E h7.1
    have gS6 := h7.2
    refine lv_iload hx hb dRG_order_41 (lv_at hl 0 rfl) ?_
    rw [hQe]
    exact W.zret (v := k2) (ty := .boolean) hx hb hr (znar h4.2.2) (fun t ht hW => ⟨⟨k2, S6, rfl, ⟨E.symm, gS6, h4.2.2⟩, by rw [ht]; exact hP, hD⟩, hS.F ht⟩) hS.2.2 dRG_order_43
  refine lv_aload_n hx hb dRG_order_0 rfl (lv_at hl 0 rfl) ?_
  refine lv_iload_n hx hb dRG_order_1 rfl (lv_at hl 1 rfl) ?_
  refine lv_iload_n hx hb dRG_order_2 rfl (lv_at hl 2 rfl) ?_
  refine z_bind E (fun k9 h9 E => ?_) (fun u8 h9 E => ?_)
  · cases E.symm.trans (etg.trans hc)
  · skip
    refine zcallo (va_runV (As := [.int x0, .int x1]) (rest := []) ⟨hx, hb, hml, hown, zno⟩ (tRG_requirePort l dC dI cI cZ cJ cA a0 s0 o b P S s.heap.size x0 x1 gP gS u8 h9) (zcw 2 (hB.word (zm3 k3_127) rfl) (hB.word (zm1 k1_1) rfl) (hB.word (zm3 k3_124) rfl) (hB.word (zm3 k3_126) rfl) (k2_selects_private (by decide) (hB.word (zm1 k1_18) rfl) (hB.word (zm3 k3_125) rfl) (hB.word (zm3 k3_126) rfl)) rfl rfl (by decide +kernel) ⟨Nat.le_of_ble_eq_true rfl, Nat.le_of_ble_eq_true rfl⟩) ⟨zP_blind, va_recv hK hP (ci := 0) (q0 := 0) rfl rfl, zP_pre hP hK hD hAD (zB_on hB hA0 hS)⟩ rfl rfl hl.1 rfl (lv_room (Nat.le_of_ble_eq_true rfl)) dRG_order_3 ⟨Nat.le_of_ble_eq_true rfl, Nat.le_of_ble_eq_true rfl⟩) hS hA (fun H10 locs hz1 hk1 hS => ?_)
    have hP := zKeep hP hk1
    have r_x0 : zr 0 47 x0 := zk_rP1 gP h9
    have r_x1 : zr 0 59 x1 := zk_rP2 gP h9
    have qll_x1 : x1.toInt < (P.I 1).toInt := zk_rP3 gP h9
    refine lv_aload_n hx hb dRG_order_6 rfl (lv_at hl 0 rfl) ?_
    refine z_bind E (fun k9 h12 E => ?_) (fun u11 h12 E => ?_)
    · cases E.symm.trans (etg.trans hc)
    · skip
      refine zcallo (va_runV (As := []) (rest := []) ⟨hx, hb, hml, hown, zno⟩ (tRG_requireStarted l dC dI cI cZ cJ cA a0 s0 o b P S H10.size gP gS u11 h12) (zcw 0 (hB.word (zm3 k3_58) rfl) (hB.word (zm1 k1_1) rfl) (hB.word (zm3 k3_55) rfl) (hB.word (zm3 k3_57) rfl) (k2_selects_private (by decide) (hB.word (zm1 k1_18) rfl) (hB.word (zm3 k3_56) rfl) (hB.word (zm3 k3_57) rfl)) rfl rfl (by decide +kernel) ⟨Nat.le_of_ble_eq_true rfl, Nat.le_of_ble_eq_true rfl⟩) ⟨zP_blind, va_recv hK hP (ci := 0) (q0 := 0) rfl rfl, zP_pre hP hK hD hAD (zB_on hB hA0 hS)⟩ rfl rfl hl.1 rfl (lv_room (Nat.le_of_ble_eq_true rfl)) dRG_order_7 ⟨Nat.le_of_ble_eq_true rfl, Nat.le_of_ble_eq_true rfl⟩) hS hA (fun H13 locs hz1 hk1 hS => ?_)
      have hP := zKeep hP hk1
      have E := zokE E (etg.trans hc)
      refine lv_aload_n hx hb dRG_order_10 rfl (lv_at hl 0 rfl) ?_
      refine c_getO_RG_protocol hx hb (hB.words zU_RG) hown hK hP (hB.word (zm1 k1_238) rfl) dRG_order_11 ?_
      refine lv_aload_n hx hb dRG_order_14 rfl (lv_at hl 0 rfl) ?_
      refine c_getO_RG_plan hx hb (hB.words zU_RG) hown hK hP (hB.word (zm1 k1_235) rfl) dRG_order_15 ?_
      refine lv_iload_n hx hb dRG_order_18 rfl (lv_at hl 1 rfl) ?_
      refine lv_iload_n hx hb dRG_order_19 rfl (lv_at hl 2 rfl) ?_
      refine zcallp (va_runV (As := [.int x0, .int x1]) (rest := [.ref (o 4)]) ⟨hx, hb, hml, hown, zno⟩ (tPL_portOf l dC dI cI cZ cJ cA a0 s0 o b P S H13.size x0 x1 gP gS r_x1) (zcw 2 (hB.word (zm2 k2_212) rfl) (hB.word (zm1 k1_2) rfl) (hB.word (zm3 k3_128) rfl) (hB.word (zm2 k2_210) rfl) (hB.word (zm2 k2_211) rfl) rfl rfl (by decide +kernel) ⟨Nat.le_of_ble_eq_true rfl, Nat.le_of_ble_eq_true rfl⟩) ⟨zP_blind, va_recv hK hP (ci := 1) (q0 := 1) rfl rfl, zP_pre hP hK hD hAD (zB_on hB hA0 hS)⟩ rfl rfl hl.1 rfl (lv_room (Nat.le_of_ble_eq_true rfl)) dRG_order_20 ⟨Nat.le_of_ble_eq_true rfl, Nat.le_of_ble_eq_true rfl⟩) hS hA (fun k15 H14 locs hk15 hz1 hk1 hS => ?_)
      have hP := zKeep hP hk1
      have E := zl_s E hk15.1
      have hz9 := zport_gp gQ r_x1 qll_x1 (zk_rP4 h9) hk15.1
      have r_k152 : zr 0 119 k15 := hz9.1
      have qgp_k15 : zgt P k15 := hz9.2
      refine lv_iload_n hx hb dRG_order_23 rfl (lv_at hl 3 rfl) ?_
      refine z_if_eq (tgt := 31) hx hb dRG_order_24 (by decide) E (fun c_24 E => ?_) (fun c_24 E => ?_)
      · have r_x2 : zr 0 0 x2 := zeq_x (show zr 0 0 0 from by decide) c_24
        refine lv_iconst (v := 4) hx hb dRG_order_31 (by decide) ?_
        exact hJ32 H14 locs ls S 4 k15 (show zr 2 4 4 from by decide) r_k152 qgp_k15 (Or.inr qgp_k15) gS E hP hD hS (lv_sub hl [0] rfl)
      · have r_x2 : zr 1 1 x2 := zne_lo r_x2 c_24 (by decide)
        refine lv_iconst (v := 2) hx hb dRG_order_27 (by decide) ?_
        refine lv_goto (tgt := 32) hx hb dRG_order_28 (by decide) ?_
        exact hJ32 H14 locs ls S 2 k15 (show zr 2 4 2 from by decide) r_k152 qgp_k15 (Or.inr qgp_k15) gS E hP hD hS (lv_sub hl [0] rfl)
set_option maxHeartbeats 4000000 in
set_option maxRecDepth 100000 in
theorem tRG_order_T1 (l : Launch) (dC : Nat → ClassId) (dI : Nat → Nat → Nat) (cI cZ cJ cA : ClassId) (a0 : Array Value) (s0 : State) (o b : Nat → Nat) (hfl : l.flags = Jvm.pinnedFlags ++ [Jvm.noTraceFlag]) (P S : ZS) (sz : Nat) (x0 : Int32) (x1 : Int32) (x2 : Int32) (gP : cok P) (gS : cok S) (hc : fRG_order P S x0 x1 x2 = .error 1) : tq_Met l yRG_order [Cond.code yRG_order bRG_order 5 (some .boolean)] ({ frames := 8, cells := 1, slots := 6, locals := 133 } : Room) (zP zCl dC dI (zTZ cI cZ cJ cA) a0 s0 [.ref (o 0), .int x0, .int x1, .int x2] sz (CW cI cZ cA o b P S)) (tq_Q "java/lang/IllegalArgumentException") 1 6 (zN sz) := by
  refine tq_ofW (cc := bRG_order) (maxL := 5) (ret := (some .boolean)) (by decide) rfl ?_
  intro p e s m args below meth c s₁ B hml htab hv
  obtain ⟨rfl, hsz, hP, hK, hD0, hB⟩ := hv
  have hx := B.exec
  have hb := B.bytes
  have hr := B.returns
  have hown : s.vm.findClass "RingGuard" = some m.cls := findClass_of_methodNamed B.named
  have hlocks := B.notSynchronized
  subst hsz
  have hD := hD0
  have hA0 : ∀ q, zN s.heap.size q → s0.heap.size ≤ q := zA1 hB
  have hAD : ∀ q, zN s0.heap.size q → s0.heap.size ≤ q := fun _ h => h
  have hA : ∀ q : Nat, s.heap.size ≤ q → zN s.heap.size q := fun _ h => h
  have hS : va_S (zN s.heap.size) s.heap s.heap [] := va_S.rf
  have hl := lv_entry ([.ref (o 0), .int x0, .int x1, .int x2]) (n := 5) (Nat.le_of_ble_eq_true rfl)
  rw [lg_entry_eq]
  generalize (lg_sl ([.ref (o 0), .int x0, .int x1, .int x2]) ++ List.replicate (5 - (lg_sl ([.ref (o 0), .int x0, .int x1, .int x2])).length) Slot.unset).toArray = ls at hl ⊢
  have hfl := hfl
  have hl : lv_has ls 5 [(0, .ref (o 0)), (1, .int x0), (2, .int x1), (3, .int x2)] := hl
  refine zgenQ (fun Q hQe => ?_)
  obtain ⟨tg, etg⟩ : ∃ z, z = fRG_order P S x0 x1 x2 := ⟨_, rfl⟩
  have E := etg
  unfold fRG_order at E
  refine lv_aload_n hx hb dRG_order_0 rfl (lv_at hl 0 rfl) ?_
  refine lv_iload_n hx hb dRG_order_1 rfl (lv_at hl 1 rfl) ?_
  refine lv_iload_n hx hb dRG_order_2 rfl (lv_at hl 2 rfl) ?_
  refine z_bind E (fun k9 h2 E => ?_) (fun u1 h2 E => ?_)
  · have x9 : k9 = 1 := zerr (E.symm.trans (etg.trans hc))
    subst x9
    rw [hQe]
    exact zpass (tq_runV (As := [.int x0, .int x1]) (rest := []) ⟨hx, hb, hml, hown, zno⟩ (tRG_requirePort_T1 l dC dI cI cZ cJ cA a0 s0 o b hfl P S s.heap.size x0 x1 gP gS h2) (zcw 2 (hB.word (zm3 k3_127) rfl) (hB.word (zm1 k1_1) rfl) (hB.word (zm3 k3_124) rfl) (hB.word (zm3 k3_126) rfl) (k2_selects_private (by decide) (hB.word (zm1 k1_18) rfl) (hB.word (zm3 k3_125) rfl) (hB.word (zm3 k3_126) rfl)) rfl rfl (by decide +kernel) ⟨Nat.le_of_ble_eq_true rfl, Nat.le_of_ble_eq_true rfl⟩) ⟨zP_blind, va_recv hK hP (ci := 0) (q0 := 0) rfl rfl, zP_pre hP hK hD hAD (zB_on hB hA0 hS)⟩ rfl rfl hl.1 rfl (lv_room (Nat.le_of_ble_eq_true rfl)) dRG_order_3 ⟨Nat.le_of_ble_eq_true rfl, Nat.le_of_ble_eq_true rfl⟩) htab hlocks hS (Nat.le_of_ble_eq_true rfl) (Nat.le_of_ble_eq_true rfl)
  · skip
    refine zcallo (va_runV (As := [.int x0, .int x1]) (rest := []) ⟨hx, hb, hml, hown, zno⟩ (tRG_requirePort l dC dI cI cZ cJ cA a0 s0 o b P S s.heap.size x0 x1 gP gS u1 h2) (zcw 2 (hB.word (zm3 k3_127) rfl) (hB.word (zm1 k1_1) rfl) (hB.word (zm3 k3_124) rfl) (hB.word (zm3 k3_126) rfl) (k2_selects_private (by decide) (hB.word (zm1 k1_18) rfl) (hB.word (zm3 k3_125) rfl) (hB.word (zm3 k3_126) rfl)) rfl rfl (by decide +kernel) ⟨Nat.le_of_ble_eq_true rfl, Nat.le_of_ble_eq_true rfl⟩) ⟨zP_blind, va_recv hK hP (ci := 0) (q0 := 0) rfl rfl, zP_pre hP hK hD hAD (zB_on hB hA0 hS)⟩ rfl rfl hl.1 rfl (lv_room (Nat.le_of_ble_eq_true rfl)) dRG_order_3 ⟨Nat.le_of_ble_eq_true rfl, Nat.le_of_ble_eq_true rfl⟩) hS hA (fun H3 locs hz1 hk1 hS => ?_)
    have hP := zKeep hP hk1
    have r_x0 : zr 0 47 x0 := zk_rP1 gP h2
    have r_x1 : zr 0 59 x1 := zk_rP2 gP h2
    have qll_x1 : x1.toInt < (P.I 1).toInt := zk_rP3 gP h2
    refine lv_aload_n hx hb dRG_order_6 rfl (lv_at hl 0 rfl) ?_
    refine z_bind E (fun k9 h5 E => ?_) (fun u4 h5 E => ?_)
    · have x9 : k9 = 1 := zerr (E.symm.trans (etg.trans hc))
      subst x9
      exact absurd (fRG_requireStarted_c h5) (by decide)
    · skip
      refine zcallo (va_runV (As := []) (rest := []) ⟨hx, hb, hml, hown, zno⟩ (tRG_requireStarted l dC dI cI cZ cJ cA a0 s0 o b P S H3.size gP gS u4 h5) (zcw 0 (hB.word (zm3 k3_58) rfl) (hB.word (zm1 k1_1) rfl) (hB.word (zm3 k3_55) rfl) (hB.word (zm3 k3_57) rfl) (k2_selects_private (by decide) (hB.word (zm1 k1_18) rfl) (hB.word (zm3 k3_56) rfl) (hB.word (zm3 k3_57) rfl)) rfl rfl (by decide +kernel) ⟨Nat.le_of_ble_eq_true rfl, Nat.le_of_ble_eq_true rfl⟩) ⟨zP_blind, va_recv hK hP (ci := 0) (q0 := 0) rfl rfl, zP_pre hP hK hD hAD (zB_on hB hA0 hS)⟩ rfl rfl hl.1 rfl (lv_room (Nat.le_of_ble_eq_true rfl)) dRG_order_7 ⟨Nat.le_of_ble_eq_true rfl, Nat.le_of_ble_eq_true rfl⟩) hS hA (fun H6 locs hz1 hk1 hS => ?_)
      have hP := zKeep hP hk1
      cases E.symm.trans (etg.trans hc)
set_option maxHeartbeats 4000000 in
set_option maxRecDepth 100000 in
theorem tRG_order_T2 (l : Launch) (dC : Nat → ClassId) (dI : Nat → Nat → Nat) (cI cZ cJ cA : ClassId) (a0 : Array Value) (s0 : State) (o b : Nat → Nat) (hfl : l.flags = Jvm.pinnedFlags ++ [Jvm.noTraceFlag]) (P S : ZS) (sz : Nat) (x0 : Int32) (x1 : Int32) (x2 : Int32) (gP : cok P) (gS : cok S) (hc : fRG_order P S x0 x1 x2 = .error 2) : tq_Met l yRG_order [Cond.code yRG_order bRG_order 5 (some .boolean)] ({ frames := 8, cells := 1, slots := 6, locals := 133 } : Room) (zP zCl dC dI (zTZ cI cZ cJ cA) a0 s0 [.ref (o 0), .int x0, .int x1, .int x2] sz (CW cI cZ cA o b P S)) (tq_Q "java/lang/IllegalStateException") 1 6 (zN sz) := by
  refine tq_ofW (cc := bRG_order) (maxL := 5) (ret := (some .boolean)) (by decide) rfl ?_
  intro p e s m args below meth c s₁ B hml htab hv
  obtain ⟨rfl, hsz, hP, hK, hD0, hB⟩ := hv
  have hx := B.exec
  have hb := B.bytes
  have hr := B.returns
  have hown : s.vm.findClass "RingGuard" = some m.cls := findClass_of_methodNamed B.named
  have hlocks := B.notSynchronized
  subst hsz
  have hD := hD0
  have hA0 : ∀ q, zN s.heap.size q → s0.heap.size ≤ q := zA1 hB
  have hAD : ∀ q, zN s0.heap.size q → s0.heap.size ≤ q := fun _ h => h
  have hA : ∀ q : Nat, s.heap.size ≤ q → zN s.heap.size q := fun _ h => h
  have hS : va_S (zN s.heap.size) s.heap s.heap [] := va_S.rf
  have hl := lv_entry ([.ref (o 0), .int x0, .int x1, .int x2]) (n := 5) (Nat.le_of_ble_eq_true rfl)
  rw [lg_entry_eq]
  generalize (lg_sl ([.ref (o 0), .int x0, .int x1, .int x2]) ++ List.replicate (5 - (lg_sl ([.ref (o 0), .int x0, .int x1, .int x2])).length) Slot.unset).toArray = ls at hl ⊢
  have hfl := hfl
  have hl : lv_has ls 5 [(0, .ref (o 0)), (1, .int x0), (2, .int x1), (3, .int x2)] := hl
  refine zgenQ (fun Q hQe => ?_)
  obtain ⟨tg, etg⟩ : ∃ z, z = fRG_order P S x0 x1 x2 := ⟨_, rfl⟩
  have E := etg
  unfold fRG_order at E
  refine lv_aload_n hx hb dRG_order_0 rfl (lv_at hl 0 rfl) ?_
  refine lv_iload_n hx hb dRG_order_1 rfl (lv_at hl 1 rfl) ?_
  refine lv_iload_n hx hb dRG_order_2 rfl (lv_at hl 2 rfl) ?_
  refine z_bind E (fun k9 h2 E => ?_) (fun u1 h2 E => ?_)
  · have x9 : k9 = 2 := zerr (E.symm.trans (etg.trans hc))
    subst x9
    exact absurd (fRG_requirePort_c h2) (by decide)
  · skip
    refine zcallo (va_runV (As := [.int x0, .int x1]) (rest := []) ⟨hx, hb, hml, hown, zno⟩ (tRG_requirePort l dC dI cI cZ cJ cA a0 s0 o b P S s.heap.size x0 x1 gP gS u1 h2) (zcw 2 (hB.word (zm3 k3_127) rfl) (hB.word (zm1 k1_1) rfl) (hB.word (zm3 k3_124) rfl) (hB.word (zm3 k3_126) rfl) (k2_selects_private (by decide) (hB.word (zm1 k1_18) rfl) (hB.word (zm3 k3_125) rfl) (hB.word (zm3 k3_126) rfl)) rfl rfl (by decide +kernel) ⟨Nat.le_of_ble_eq_true rfl, Nat.le_of_ble_eq_true rfl⟩) ⟨zP_blind, va_recv hK hP (ci := 0) (q0 := 0) rfl rfl, zP_pre hP hK hD hAD (zB_on hB hA0 hS)⟩ rfl rfl hl.1 rfl (lv_room (Nat.le_of_ble_eq_true rfl)) dRG_order_3 ⟨Nat.le_of_ble_eq_true rfl, Nat.le_of_ble_eq_true rfl⟩) hS hA (fun H3 locs hz1 hk1 hS => ?_)
    have hP := zKeep hP hk1
    have r_x0 : zr 0 47 x0 := zk_rP1 gP h2
    have r_x1 : zr 0 59 x1 := zk_rP2 gP h2
    have qll_x1 : x1.toInt < (P.I 1).toInt := zk_rP3 gP h2
    refine lv_aload_n hx hb dRG_order_6 rfl (lv_at hl 0 rfl) ?_
    refine z_bind E (fun k9 h5 E => ?_) (fun u4 h5 E => ?_)
    · have x9 : k9 = 2 := zerr (E.symm.trans (etg.trans hc))
      subst x9
      rw [hQe]
      exact zpass (tq_runV (As := []) (rest := []) ⟨hx, hb, hml, hown, zno⟩ (tRG_requireStarted_T2 l dC dI cI cZ cJ cA a0 s0 o b hfl P S H3.size gP gS h5) (zcw 0 (hB.word (zm3 k3_58) rfl) (hB.word (zm1 k1_1) rfl) (hB.word (zm3 k3_55) rfl) (hB.word (zm3 k3_57) rfl) (k2_selects_private (by decide) (hB.word (zm1 k1_18) rfl) (hB.word (zm3 k3_56) rfl) (hB.word (zm3 k3_57) rfl)) rfl rfl (by decide +kernel) ⟨Nat.le_of_ble_eq_true rfl, Nat.le_of_ble_eq_true rfl⟩) ⟨zP_blind, va_recv hK hP (ci := 0) (q0 := 0) rfl rfl, zP_pre hP hK hD hAD (zB_on hB hA0 hS)⟩ rfl rfl hl.1 rfl (lv_room (Nat.le_of_ble_eq_true rfl)) dRG_order_7 ⟨Nat.le_of_ble_eq_true rfl, Nat.le_of_ble_eq_true rfl⟩) htab hlocks hS (Nat.le_of_ble_eq_true rfl) (Nat.le_of_ble_eq_true rfl)
    · skip
      refine zcallo (va_runV (As := []) (rest := []) ⟨hx, hb, hml, hown, zno⟩ (tRG_requireStarted l dC dI cI cZ cJ cA a0 s0 o b P S H3.size gP gS u4 h5) (zcw 0 (hB.word (zm3 k3_58) rfl) (hB.word (zm1 k1_1) rfl) (hB.word (zm3 k3_55) rfl) (hB.word (zm3 k3_57) rfl) (k2_selects_private (by decide) (hB.word (zm1 k1_18) rfl) (hB.word (zm3 k3_56) rfl) (hB.word (zm3 k3_57) rfl)) rfl rfl (by decide +kernel) ⟨Nat.le_of_ble_eq_true rfl, Nat.le_of_ble_eq_true rfl⟩) ⟨zP_blind, va_recv hK hP (ci := 0) (q0 := 0) rfl rfl, zP_pre hP hK hD hAD (zB_on hB hA0 hS)⟩ rfl rfl hl.1 rfl (lv_room (Nat.le_of_ble_eq_true rfl)) dRG_order_7 ⟨Nat.le_of_ble_eq_true rfl, Nat.le_of_ble_eq_true rfl⟩) hS hA (fun H6 locs hz1 hk1 hS => ?_)
      have hP := zKeep hP hk1
      cases E.symm.trans (etg.trans hc)
noncomputable def fRG_holds (P S : ZS) (x0 : Int32) (x1 : Int32) : Except Nat (Int32) := zbind (fRG_requirePort P S x0 x1) (fun u1 => .ok (zl (fPL_portOf P S x0 x1) (fun k5 => zl (S.F 14 (k5 : Int32).toNatClampNeg) (fun k6 => k6))))
set_option maxHeartbeats 4000000 in
set_option maxRecDepth 100000 in
theorem tRG_holds (l : Launch) (dC : Nat → ClassId) (dI : Nat → Nat → Nat) (cI cZ cJ cA : ClassId) (a0 : Array Value) (s0 : State) (o b : Nat → Nat) (P S : ZS) (sz : Nat) (x0 : Int32) (x1 : Int32) (gP : cok P) (gS : cok S) (y : Int32) (hc : fRG_holds P S x0 x1 = .ok y) : Met l yRG_holds [Cond.code yRG_holds bRG_holds 3 (some .int)] ({ frames := 2, cells := 0, slots := 0, locals := 44 } : Room) (zP zCl dC dI (zTZ cI cZ cJ cA) a0 s0 [.ref (o 0), .int x0, .int x1] sz (CW cI cZ cA o b P S)) (zQp (fun r => r = y ∧ True) sz) 0 0 (zN sz) := by
  refine Met.ofW (cc := bRG_holds) (maxL := 3) (ret := (some .int)) (by decide) rfl ?_
  intro p e s m args below meth c s₁ B hml hv
  obtain ⟨rfl, hsz, hP, hK, hD0, hB⟩ := hv
  have hx := B.exec
  have hb := B.bytes
  have hr := B.returns
  have hown : s.vm.findClass "RingGuard" = some m.cls := findClass_of_methodNamed B.named
  have hlocks := B.notSynchronized
  subst hsz
  have hD := hD0
  have hA0 : ∀ q, zN s.heap.size q → s0.heap.size ≤ q := zA1 hB
  have hAD : ∀ q, zN s0.heap.size q → s0.heap.size ≤ q := fun _ h => h
  have hA : ∀ q : Nat, s.heap.size ≤ q → zN s.heap.size q := fun _ h => h
  have hS : va_S (zN s.heap.size) s.heap s.heap [] := va_S.rf
  have hl := lv_entry ([.ref (o 0), .int x0, .int x1]) (n := 3) (Nat.le_of_ble_eq_true rfl)
  rw [lg_entry_eq]
  generalize (lg_sl ([.ref (o 0), .int x0, .int x1]) ++ List.replicate (3 - (lg_sl ([.ref (o 0), .int x0, .int x1])).length) Slot.unset).toArray = ls at hl ⊢
  have hl : lv_has ls 3 [(0, .ref (o 0)), (1, .int x0), (2, .int x1)] := hl
  refine zgenQ (fun Q hQe => ?_)
  obtain ⟨tg, etg⟩ : ∃ z, z = fRG_holds P S x0 x1 := ⟨_, rfl⟩
  have E := etg
  unfold fRG_holds at E
  refine lv_aload_n hx hb dRG_holds_0 rfl (lv_at hl 0 rfl) ?_
  refine lv_iload_n hx hb dRG_holds_1 rfl (lv_at hl 1 rfl) ?_
  refine lv_iload_n hx hb dRG_holds_2 rfl (lv_at hl 2 rfl) ?_
  refine z_bind E (fun k9 h2 E => ?_) (fun u1 h2 E => ?_)
  · cases E.symm.trans (etg.trans hc)
  · skip
    refine zcallo (va_runV (As := [.int x0, .int x1]) (rest := []) ⟨hx, hb, hml, hown, zno⟩ (tRG_requirePort l dC dI cI cZ cJ cA a0 s0 o b P S s.heap.size x0 x1 gP gS u1 h2) (zcw 2 (hB.word (zm3 k3_127) rfl) (hB.word (zm1 k1_1) rfl) (hB.word (zm3 k3_124) rfl) (hB.word (zm3 k3_126) rfl) (k2_selects_private (by decide) (hB.word (zm1 k1_18) rfl) (hB.word (zm3 k3_125) rfl) (hB.word (zm3 k3_126) rfl)) rfl rfl (by decide +kernel) ⟨Nat.le_of_ble_eq_true rfl, Nat.le_of_ble_eq_true rfl⟩) ⟨zP_blind, va_recv hK hP (ci := 0) (q0 := 0) rfl rfl, zP_pre hP hK hD hAD (zB_on hB hA0 hS)⟩ rfl rfl hl.1 rfl (lv_room (Nat.le_of_ble_eq_true rfl)) dRG_holds_3 ⟨Nat.le_of_ble_eq_true rfl, Nat.le_of_ble_eq_true rfl⟩) hS hA (fun H3 locs hz1 hk1 hS => ?_)
    have hP := zKeep hP hk1
    have r_x0 : zr 0 47 x0 := zk_rP1 gP h2
    have r_x1 : zr 0 59 x1 := zk_rP2 gP h2
    have qll_x1 : x1.toInt < (P.I 1).toInt := zk_rP3 gP h2
    have E := zokE E (etg.trans hc)
    refine lv_aload_n hx hb dRG_holds_6 rfl (lv_at hl 0 rfl) ?_
    refine c_getO_RG_protocol hx hb (hB.words zU_RG) hown hK hP (hB.word (zm1 k1_238) rfl) dRG_holds_7 ?_
    refine c_getA_14 hx hb (hB.words zU_PR) hown hK hP (hB.word (zm1 k1_134) rfl) dRG_holds_10 ?_
    refine lv_aload_n hx hb dRG_holds_13 rfl (lv_at hl 0 rfl) ?_
    refine c_getO_RG_plan hx hb (hB.words zU_RG) hown hK hP (hB.word (zm1 k1_235) rfl) dRG_holds_14 ?_
    refine lv_iload_n hx hb dRG_holds_17 rfl (lv_at hl 1 rfl) ?_
    refine lv_iload_n hx hb dRG_holds_18 rfl (lv_at hl 2 rfl) ?_
    refine zcallp (va_runV (As := [.int x0, .int x1]) (rest := [.ref (b 14)]) ⟨hx, hb, hml, hown, zno⟩ (tPL_portOf l dC dI cI cZ cJ cA a0 s0 o b P S H3.size x0 x1 gP gS r_x1) (zcw 2 (hB.word (zm2 k2_212) rfl) (hB.word (zm1 k1_2) rfl) (hB.word (zm3 k3_128) rfl) (hB.word (zm2 k2_210) rfl) (hB.word (zm2 k2_211) rfl) rfl rfl (by decide +kernel) ⟨Nat.le_of_ble_eq_true rfl, Nat.le_of_ble_eq_true rfl⟩) ⟨zP_blind, va_recv hK hP (ci := 1) (q0 := 1) rfl rfl, zP_pre hP hK hD hAD (zB_on hB hA0 hS)⟩ rfl rfl hl.1 rfl (lv_room (Nat.le_of_ble_eq_true rfl)) dRG_holds_19 ⟨Nat.le_of_ble_eq_true rfl, Nat.le_of_ble_eq_true rfl⟩) hS hA (fun k5 H4 locs hk5 hz1 hk1 hS => ?_)
    have hP := zKeep hP hk1
    have E := zl_s E hk5.1
    have hz9 := zport_r r_x1 (zk_rP4 h2) hk5.1
    have r_k52 : zr 0 119 k5 := hz9.1
    refine c_aldS hx hb hK hP 14 (by decide) rfl r_k52 (by decide) dRG_holds_22 E (fun k6 ek6 E => ?_)
    rw [hQe]
    exact W.iret (v := k6) hx hb hr (fun t ht hW => ⟨⟨k6, (), rfl, ⟨E.symm, trivial⟩, trivial⟩, hS.F ht⟩) hS.2.2 dRG_holds_23
set_option maxHeartbeats 4000000 in
set_option maxRecDepth 100000 in
theorem tRG_holds_T1 (l : Launch) (dC : Nat → ClassId) (dI : Nat → Nat → Nat) (cI cZ cJ cA : ClassId) (a0 : Array Value) (s0 : State) (o b : Nat → Nat) (hfl : l.flags = Jvm.pinnedFlags ++ [Jvm.noTraceFlag]) (P S : ZS) (sz : Nat) (x0 : Int32) (x1 : Int32) (gP : cok P) (gS : cok S) (hc : fRG_holds P S x0 x1 = .error 1) : tq_Met l yRG_holds [Cond.code yRG_holds bRG_holds 3 (some .int)] ({ frames := 8, cells := 1, slots := 6, locals := 133 } : Room) (zP zCl dC dI (zTZ cI cZ cJ cA) a0 s0 [.ref (o 0), .int x0, .int x1] sz (CW cI cZ cA o b P S)) (tq_Q "java/lang/IllegalArgumentException") 1 6 (zN sz) := by
  refine tq_ofW (cc := bRG_holds) (maxL := 3) (ret := (some .int)) (by decide) rfl ?_
  intro p e s m args below meth c s₁ B hml htab hv
  obtain ⟨rfl, hsz, hP, hK, hD0, hB⟩ := hv
  have hx := B.exec
  have hb := B.bytes
  have hr := B.returns
  have hown : s.vm.findClass "RingGuard" = some m.cls := findClass_of_methodNamed B.named
  have hlocks := B.notSynchronized
  subst hsz
  have hD := hD0
  have hA0 : ∀ q, zN s.heap.size q → s0.heap.size ≤ q := zA1 hB
  have hAD : ∀ q, zN s0.heap.size q → s0.heap.size ≤ q := fun _ h => h
  have hA : ∀ q : Nat, s.heap.size ≤ q → zN s.heap.size q := fun _ h => h
  have hS : va_S (zN s.heap.size) s.heap s.heap [] := va_S.rf
  have hl := lv_entry ([.ref (o 0), .int x0, .int x1]) (n := 3) (Nat.le_of_ble_eq_true rfl)
  rw [lg_entry_eq]
  generalize (lg_sl ([.ref (o 0), .int x0, .int x1]) ++ List.replicate (3 - (lg_sl ([.ref (o 0), .int x0, .int x1])).length) Slot.unset).toArray = ls at hl ⊢
  have hfl := hfl
  have hl : lv_has ls 3 [(0, .ref (o 0)), (1, .int x0), (2, .int x1)] := hl
  refine zgenQ (fun Q hQe => ?_)
  obtain ⟨tg, etg⟩ : ∃ z, z = fRG_holds P S x0 x1 := ⟨_, rfl⟩
  have E := etg
  unfold fRG_holds at E
  refine lv_aload_n hx hb dRG_holds_0 rfl (lv_at hl 0 rfl) ?_
  refine lv_iload_n hx hb dRG_holds_1 rfl (lv_at hl 1 rfl) ?_
  refine lv_iload_n hx hb dRG_holds_2 rfl (lv_at hl 2 rfl) ?_
  refine z_bind E (fun k9 h2 E => ?_) (fun u1 h2 E => ?_)
  · have x9 : k9 = 1 := zerr (E.symm.trans (etg.trans hc))
    subst x9
    rw [hQe]
    exact zpass (tq_runV (As := [.int x0, .int x1]) (rest := []) ⟨hx, hb, hml, hown, zno⟩ (tRG_requirePort_T1 l dC dI cI cZ cJ cA a0 s0 o b hfl P S s.heap.size x0 x1 gP gS h2) (zcw 2 (hB.word (zm3 k3_127) rfl) (hB.word (zm1 k1_1) rfl) (hB.word (zm3 k3_124) rfl) (hB.word (zm3 k3_126) rfl) (k2_selects_private (by decide) (hB.word (zm1 k1_18) rfl) (hB.word (zm3 k3_125) rfl) (hB.word (zm3 k3_126) rfl)) rfl rfl (by decide +kernel) ⟨Nat.le_of_ble_eq_true rfl, Nat.le_of_ble_eq_true rfl⟩) ⟨zP_blind, va_recv hK hP (ci := 0) (q0 := 0) rfl rfl, zP_pre hP hK hD hAD (zB_on hB hA0 hS)⟩ rfl rfl hl.1 rfl (lv_room (Nat.le_of_ble_eq_true rfl)) dRG_holds_3 ⟨Nat.le_of_ble_eq_true rfl, Nat.le_of_ble_eq_true rfl⟩) htab hlocks hS (Nat.le_of_ble_eq_true rfl) (Nat.le_of_ble_eq_true rfl)
  · skip
    refine zcallo (va_runV (As := [.int x0, .int x1]) (rest := []) ⟨hx, hb, hml, hown, zno⟩ (tRG_requirePort l dC dI cI cZ cJ cA a0 s0 o b P S s.heap.size x0 x1 gP gS u1 h2) (zcw 2 (hB.word (zm3 k3_127) rfl) (hB.word (zm1 k1_1) rfl) (hB.word (zm3 k3_124) rfl) (hB.word (zm3 k3_126) rfl) (k2_selects_private (by decide) (hB.word (zm1 k1_18) rfl) (hB.word (zm3 k3_125) rfl) (hB.word (zm3 k3_126) rfl)) rfl rfl (by decide +kernel) ⟨Nat.le_of_ble_eq_true rfl, Nat.le_of_ble_eq_true rfl⟩) ⟨zP_blind, va_recv hK hP (ci := 0) (q0 := 0) rfl rfl, zP_pre hP hK hD hAD (zB_on hB hA0 hS)⟩ rfl rfl hl.1 rfl (lv_room (Nat.le_of_ble_eq_true rfl)) dRG_holds_3 ⟨Nat.le_of_ble_eq_true rfl, Nat.le_of_ble_eq_true rfl⟩) hS hA (fun H3 locs hz1 hk1 hS => ?_)
    have hP := zKeep hP hk1
    have r_x0 : zr 0 47 x0 := zk_rP1 gP h2
    have r_x1 : zr 0 59 x1 := zk_rP2 gP h2
    have qll_x1 : x1.toInt < (P.I 1).toInt := zk_rP3 gP h2
    cases E.symm.trans (etg.trans hc)
noncomputable def fRG_clear (P S : ZS) (x0 : Int32) (x1 : Int32) : Except Nat (ZS × Int32) := zbind (fRG_requireBridge P S x0) (fun u1 => zbind (fRG_requireRing P S x1) (fun u4 => zbind (fRG_requireStarted P S) (fun u7 => .ok (zl (x0 * 6) (fun k10 => zl (k10 + x1) (fun k11 => zl2 (fPR_endCommand P S k11) (fun S14 k13 => zl (fRG_countCircle P S14) (fun S17 => (S17, k13)))))))))
set_option maxHeartbeats 4000000 in
set_option maxRecDepth 100000 in
theorem tRG_clear (l : Launch) (dC : Nat → ClassId) (dI : Nat → Nat → Nat) (cI cZ cJ cA : ClassId) (a0 : Array Value) (s0 : State) (o b : Nat → Nat) (P S : ZS) (sz : Nat) (x0 : Int32) (x1 : Int32) (gP : cok P) (gS : cok S) (gQ : zQ P) (y : ZS × Int32) (hc : fRG_clear P S x0 x1 = .ok y) : Met l yRG_clear [Cond.code yRG_clear bRG_clear 4 (some .boolean)] ({ frames := 3, cells := 0, slots := 0, locals := 66 } : Room) (zP zCl dC dI (zTZ cI cZ cJ cA) a0 s0 [.ref (o 0), .int x0, .int x1] sz (CW cI cZ cA o b P S)) (zQH zCl dC dI (fun (r : Int32) (x9 : ZS) => (x9, r) = y ∧ cok x9 ∧ zr 0 1 r) (fun x9 : ZS => (CW cI cZ cA o b P x9)) (va_A (CW cI cZ cA o b P S) sz)) 0 0 (va_A (CW cI cZ cA o b P S) sz) := by
  refine Met.ofW (cc := bRG_clear) (maxL := 4) (ret := (some .boolean)) (by decide) rfl ?_
  intro p e s m args below meth c s₁ B hml hv
  obtain ⟨rfl, hsz, hP, hK, hD0, hB⟩ := hv
  have hx := B.exec
  have hb := B.bytes
  have hr := B.returns
  have hown : s.vm.findClass "RingGuard" = some m.cls := findClass_of_methodNamed B.named
  have hlocks := B.notSynchronized
  subst hsz
  have hD := hD0.self (sz := s.heap.size)
  have hA0 := zA0 hD0 hB
  generalize hAe : va_A (CW cI cZ cA o b P S) s.heap.size = A at hD hA0 ⊢
  have hAD := hA0
  have hA : ∀ q : Nat, s.heap.size ≤ q → A q := fun q h => by rw [← hAe]; exact Or.inr h
  have hS : va_S A s.heap s.heap [] := va_S.rf
  have hl := lv_entry ([.ref (o 0), .int x0, .int x1]) (n := 4) (Nat.le_of_ble_eq_true rfl)
  rw [lg_entry_eq]
  generalize (lg_sl ([.ref (o 0), .int x0, .int x1]) ++ List.replicate (4 - (lg_sl ([.ref (o 0), .int x0, .int x1])).length) Slot.unset).toArray = ls at hl ⊢
  have hl : lv_has ls 4 [(0, .ref (o 0)), (1, .int x0), (2, .int x1)] := hl
  refine zgenQ (fun Q hQe => ?_)
  obtain ⟨tg, etg⟩ : ∃ z, z = fRG_clear P S x0 x1 := ⟨_, rfl⟩
  have E := etg
  unfold fRG_clear at E
  refine lv_aload_n hx hb dRG_clear_0 rfl (lv_at hl 0 rfl) ?_
  refine lv_iload_n hx hb dRG_clear_1 rfl (lv_at hl 1 rfl) ?_
  refine z_bind E (fun k9 h2 E => ?_) (fun u1 h2 E => ?_)
  · cases E.symm.trans (etg.trans hc)
  · skip
    refine zcallo (va_runV (As := [.int x0]) (rest := []) ⟨hx, hb, hml, hown, zno⟩ (tRG_requireBridge l dC dI cI cZ cJ cA a0 s0 o b P S s.heap.size x0 gP gS u1 h2) (zcw 1 (hB.word (zm2 k2_150) rfl) (hB.word (zm1 k1_1) rfl) (hB.word (zm2 k2_147) rfl) (hB.word (zm2 k2_149) rfl) (k2_selects_private (by decide) (hB.word (zm1 k1_18) rfl) (hB.word (zm2 k2_148) rfl) (hB.word (zm2 k2_149) rfl)) rfl rfl (by decide +kernel) ⟨Nat.le_of_ble_eq_true rfl, Nat.le_of_ble_eq_true rfl⟩) ⟨zP_blind, va_recv hK hP (ci := 0) (q0 := 0) rfl rfl, zP_pre hP hK hD hAD (zB_on hB hA0 hS)⟩ rfl rfl hl.1 rfl (lv_room (Nat.le_of_ble_eq_true rfl)) dRG_clear_2 ⟨Nat.le_of_ble_eq_true rfl, Nat.le_of_ble_eq_true rfl⟩) hS hA (fun H3 locs hz1 hk1 hS => ?_)
    have hP := zKeep hP hk1
    have r_x0 : zr 0 47 x0 := zk_rB1 gP h2
    have qlb_x0 : x0.toInt < (P.I 0).toInt := zk_rB2 gP h2
    refine lv_aload_n hx hb dRG_clear_5 rfl (lv_at hl 0 rfl) ?_
    refine lv_iload_n hx hb dRG_clear_6 rfl (lv_at hl 2 rfl) ?_
    refine z_bind E (fun k9 h5 E => ?_) (fun u4 h5 E => ?_)
    · cases E.symm.trans (etg.trans hc)
    · skip
      refine zcallo (va_runV (As := [.int x1]) (rest := []) ⟨hx, hb, hml, hown, zno⟩ (tRG_requireRing l dC dI cI cZ cJ cA a0 s0 o b P S H3.size x1 gP gS u4 h5) (zcw 1 (hB.word (zm2 k2_170) rfl) (hB.word (zm1 k1_1) rfl) (hB.word (zm2 k2_167) rfl) (hB.word (zm2 k2_169) rfl) (k2_selects_private (by decide) (hB.word (zm1 k1_18) rfl) (hB.word (zm2 k2_168) rfl) (hB.word (zm2 k2_169) rfl)) rfl rfl (by decide +kernel) ⟨Nat.le_of_ble_eq_true rfl, Nat.le_of_ble_eq_true rfl⟩) ⟨zP_blind, va_recv hK hP (ci := 0) (q0 := 0) rfl rfl, zP_pre hP hK hD hAD (zB_on hB hA0 hS)⟩ rfl rfl hl.1 rfl (lv_room (Nat.le_of_ble_eq_true rfl)) dRG_clear_7 ⟨Nat.le_of_ble_eq_true rfl, Nat.le_of_ble_eq_true rfl⟩) hS hA (fun H6 locs hz1 hk1 hS => ?_)
      have hP := zKeep hP hk1
      have r_x1 : zr 0 5 x1 := zk_rR gP h5
      refine lv_aload_n hx hb dRG_clear_10 rfl (lv_at hl 0 rfl) ?_
      refine z_bind E (fun k9 h8 E => ?_) (fun u7 h8 E => ?_)
      · cases E.symm.trans (etg.trans hc)
      · skip
        refine zcallo (va_runV (As := []) (rest := []) ⟨hx, hb, hml, hown, zno⟩ (tRG_requireStarted l dC dI cI cZ cJ cA a0 s0 o b P S H6.size gP gS u7 h8) (zcw 0 (hB.word (zm3 k3_58) rfl) (hB.word (zm1 k1_1) rfl) (hB.word (zm3 k3_55) rfl) (hB.word (zm3 k3_57) rfl) (k2_selects_private (by decide) (hB.word (zm1 k1_18) rfl) (hB.word (zm3 k3_56) rfl) (hB.word (zm3 k3_57) rfl)) rfl rfl (by decide +kernel) ⟨Nat.le_of_ble_eq_true rfl, Nat.le_of_ble_eq_true rfl⟩) ⟨zP_blind, va_recv hK hP (ci := 0) (q0 := 0) rfl rfl, zP_pre hP hK hD hAD (zB_on hB hA0 hS)⟩ rfl rfl hl.1 rfl (lv_room (Nat.le_of_ble_eq_true rfl)) dRG_clear_11 ⟨Nat.le_of_ble_eq_true rfl, Nat.le_of_ble_eq_true rfl⟩) hS hA (fun H9 locs hz1 hk1 hS => ?_)
        have hP := zKeep hP hk1
        have E := zokE E (etg.trans hc)
        refine lv_aload_n hx hb dRG_clear_14 rfl (lv_at hl 0 rfl) ?_
        refine c_getO_RG_protocol hx hb (hB.words zU_RG) hown hK hP (hB.word (zm1 k1_238) rfl) dRG_clear_15 ?_
        refine lv_iload_n hx hb dRG_clear_18 rfl (lv_at hl 1 rfl) ?_
        refine lv_bipush (v := 6) hx hb dRG_clear_19 (by decide) ?_
        refine z_imul hx hb dRG_clear_21 E (fun k10 ek10 E => ?_)
        have r_k10 : zr 0 282 k10 := zr_mul r_x0 (show zr 6 6 6 from by decide) ek10 (by decide)
        refine lv_iload_n hx hb dRG_clear_22 rfl (lv_at hl 2 rfl) ?_
        refine z_iadd hx hb dRG_clear_23 E (fun k11 ek11 E => ?_)
        have r_k11 : zr 0 287 k11 := zr_add r_k10 r_x1 ek11 (by decide)
        refine zcI (va_runV (As := [.int k11]) (rest := []) ⟨hx, hb, hml, hown, zno⟩ (tPR_endCommand l dC dI cI cZ cJ cA a0 s0 o b P S H9.size k11 gP gS gQ r_k11) (zcw 1 (hB.word (zm3 k3_137) rfl) (hB.word (zm1 k1_6) rfl) (hB.word (zm3 k3_149) rfl) (hB.word (zm3 k3_135) rfl) (hB.word (zm3 k3_136) rfl) rfl rfl (by decide +kernel) ⟨Nat.le_of_ble_eq_true rfl, Nat.le_of_ble_eq_true rfl⟩) ⟨zP_blind, va_recv hK hP (ci := 4) (q0 := 4) rfl rfl, zP_pre hP hK hD hAD (zB_on hB hA0 hS)⟩ rfl rfl hl.1 rfl (lv_room (Nat.le_of_ble_eq_true rfl)) dRG_clear_24 ⟨Nat.le_of_ble_eq_true rfl, Nat.le_of_ble_eq_true rfl⟩) hD hS hA (fun k13 S14 H12 locs h15 hP hD hS => ?_)
        have E := zl2_s E h15.1
        have gS14 := h15.2.1
        refine lv_istore_n (lv' := [(3, .int k13), (0, .ref (o 0)), (1, .int x0), (2, .int x1)]) hx hb dRG_clear_27 rfl hl (by decide) rfl (fun ls hl => ?_)
        refine lv_aload_n hx hb dRG_clear_28 rfl (lv_at hl 1 rfl) ?_
        refine zcV (va_runV (As := []) (rest := []) ⟨hx, hb, hml, hown, zno⟩ (tRG_countCircle l dC dI cI cZ cJ cA a0 s0 o b P S14 H12.size gP gS14) (zcw 0 (hB.word (zm3 k3_83) rfl) (hB.word (zm1 k1_1) rfl) (hB.word (zm3 k3_80) rfl) (hB.word (zm3 k3_82) rfl) (k2_selects_private (by decide) (hB.word (zm1 k1_18) rfl) (hB.word (zm3 k3_81) rfl) (hB.word (zm3 k3_82) rfl)) rfl rfl (by decide +kernel) ⟨Nat.le_of_ble_eq_true rfl, Nat.le_of_ble_eq_true rfl⟩) ⟨zP_blind, va_recv hK hP (ci := 0) (q0 := 0) rfl rfl, zP_pre hP hK hD hAD (zB_on hB hA0 hS)⟩ rfl rfl hl.1 rfl (lv_room (Nat.le_of_ble_eq_true rfl)) dRG_clear_29 ⟨Nat.le_of_ble_eq_true rfl, Nat.le_of_ble_eq_true rfl⟩) hD hS hA (fun S17 H16 locs h18 hP hD hS => ?_)
        have E := zl_s E h18.1
        have gS17 := h18.2
        refine lv_iload_n hx hb dRG_clear_32 rfl (lv_at hl 0 rfl) ?_
        rw [hQe]
        exact W.zret (v := k13) (ty := .boolean) hx hb hr (znar h15.2.2) (fun t ht hW => ⟨⟨k13, S17, rfl, ⟨E.symm, gS17, h15.2.2⟩, by rw [ht]; exact hP, hD⟩, hS.F ht⟩) hS.2.2 dRG_clear_33
set_option maxHeartbeats 4000000 in
set_option maxRecDepth 100000 in
theorem tRG_clear_T1 (l : Launch) (dC : Nat → ClassId) (dI : Nat → Nat → Nat) (cI cZ cJ cA : ClassId) (a0 : Array Value) (s0 : State) (o b : Nat → Nat) (hfl : l.flags = Jvm.pinnedFlags ++ [Jvm.noTraceFlag]) (P S : ZS) (sz : Nat) (x0 : Int32) (x1 : Int32) (gP : cok P) (gS : cok S) (hc : fRG_clear P S x0 x1 = .error 1) : tq_Met l yRG_clear [Cond.code yRG_clear bRG_clear 4 (some .boolean)] ({ frames := 7, cells := 1, slots := 6, locals := 111 } : Room) (zP zCl dC dI (zTZ cI cZ cJ cA) a0 s0 [.ref (o 0), .int x0, .int x1] sz (CW cI cZ cA o b P S)) (tq_Q "java/lang/IllegalArgumentException") 1 6 (zN sz) := by
  refine tq_ofW (cc := bRG_clear) (maxL := 4) (ret := (some .boolean)) (by decide) rfl ?_
  intro p e s m args below meth c s₁ B hml htab hv
  obtain ⟨rfl, hsz, hP, hK, hD0, hB⟩ := hv
  have hx := B.exec
  have hb := B.bytes
  have hr := B.returns
  have hown : s.vm.findClass "RingGuard" = some m.cls := findClass_of_methodNamed B.named
  have hlocks := B.notSynchronized
  subst hsz
  have hD := hD0
  have hA0 : ∀ q, zN s.heap.size q → s0.heap.size ≤ q := zA1 hB
  have hAD : ∀ q, zN s0.heap.size q → s0.heap.size ≤ q := fun _ h => h
  have hA : ∀ q : Nat, s.heap.size ≤ q → zN s.heap.size q := fun _ h => h
  have hS : va_S (zN s.heap.size) s.heap s.heap [] := va_S.rf
  have hl := lv_entry ([.ref (o 0), .int x0, .int x1]) (n := 4) (Nat.le_of_ble_eq_true rfl)
  rw [lg_entry_eq]
  generalize (lg_sl ([.ref (o 0), .int x0, .int x1]) ++ List.replicate (4 - (lg_sl ([.ref (o 0), .int x0, .int x1])).length) Slot.unset).toArray = ls at hl ⊢
  have hfl := hfl
  have hl : lv_has ls 4 [(0, .ref (o 0)), (1, .int x0), (2, .int x1)] := hl
  refine zgenQ (fun Q hQe => ?_)
  obtain ⟨tg, etg⟩ : ∃ z, z = fRG_clear P S x0 x1 := ⟨_, rfl⟩
  have E := etg
  unfold fRG_clear at E
  refine lv_aload_n hx hb dRG_clear_0 rfl (lv_at hl 0 rfl) ?_
  refine lv_iload_n hx hb dRG_clear_1 rfl (lv_at hl 1 rfl) ?_
  refine z_bind E (fun k9 h2 E => ?_) (fun u1 h2 E => ?_)
  · have x9 : k9 = 1 := zerr (E.symm.trans (etg.trans hc))
    subst x9
    rw [hQe]
    exact zpass (tq_runV (As := [.int x0]) (rest := []) ⟨hx, hb, hml, hown, zno⟩ (tRG_requireBridge_T1 l dC dI cI cZ cJ cA a0 s0 o b hfl P S s.heap.size x0 gP gS h2) (zcw 1 (hB.word (zm2 k2_150) rfl) (hB.word (zm1 k1_1) rfl) (hB.word (zm2 k2_147) rfl) (hB.word (zm2 k2_149) rfl) (k2_selects_private (by decide) (hB.word (zm1 k1_18) rfl) (hB.word (zm2 k2_148) rfl) (hB.word (zm2 k2_149) rfl)) rfl rfl (by decide +kernel) ⟨Nat.le_of_ble_eq_true rfl, Nat.le_of_ble_eq_true rfl⟩) ⟨zP_blind, va_recv hK hP (ci := 0) (q0 := 0) rfl rfl, zP_pre hP hK hD hAD (zB_on hB hA0 hS)⟩ rfl rfl hl.1 rfl (lv_room (Nat.le_of_ble_eq_true rfl)) dRG_clear_2 ⟨Nat.le_of_ble_eq_true rfl, Nat.le_of_ble_eq_true rfl⟩) htab hlocks hS (Nat.le_of_ble_eq_true rfl) (Nat.le_of_ble_eq_true rfl)
  · skip
    refine zcallo (va_runV (As := [.int x0]) (rest := []) ⟨hx, hb, hml, hown, zno⟩ (tRG_requireBridge l dC dI cI cZ cJ cA a0 s0 o b P S s.heap.size x0 gP gS u1 h2) (zcw 1 (hB.word (zm2 k2_150) rfl) (hB.word (zm1 k1_1) rfl) (hB.word (zm2 k2_147) rfl) (hB.word (zm2 k2_149) rfl) (k2_selects_private (by decide) (hB.word (zm1 k1_18) rfl) (hB.word (zm2 k2_148) rfl) (hB.word (zm2 k2_149) rfl)) rfl rfl (by decide +kernel) ⟨Nat.le_of_ble_eq_true rfl, Nat.le_of_ble_eq_true rfl⟩) ⟨zP_blind, va_recv hK hP (ci := 0) (q0 := 0) rfl rfl, zP_pre hP hK hD hAD (zB_on hB hA0 hS)⟩ rfl rfl hl.1 rfl (lv_room (Nat.le_of_ble_eq_true rfl)) dRG_clear_2 ⟨Nat.le_of_ble_eq_true rfl, Nat.le_of_ble_eq_true rfl⟩) hS hA (fun H3 locs hz1 hk1 hS => ?_)
    have hP := zKeep hP hk1
    have r_x0 : zr 0 47 x0 := zk_rB1 gP h2
    have qlb_x0 : x0.toInt < (P.I 0).toInt := zk_rB2 gP h2
    refine lv_aload_n hx hb dRG_clear_5 rfl (lv_at hl 0 rfl) ?_
    refine lv_iload_n hx hb dRG_clear_6 rfl (lv_at hl 2 rfl) ?_
    refine z_bind E (fun k9 h5 E => ?_) (fun u4 h5 E => ?_)
    · have x9 : k9 = 1 := zerr (E.symm.trans (etg.trans hc))
      subst x9
      rw [hQe]
      exact zpass (tq_runV (As := [.int x1]) (rest := []) ⟨hx, hb, hml, hown, zno⟩ (tRG_requireRing_T1 l dC dI cI cZ cJ cA a0 s0 o b hfl P S H3.size x1 gP gS h5) (zcw 1 (hB.word (zm2 k2_170) rfl) (hB.word (zm1 k1_1) rfl) (hB.word (zm2 k2_167) rfl) (hB.word (zm2 k2_169) rfl) (k2_selects_private (by decide) (hB.word (zm1 k1_18) rfl) (hB.word (zm2 k2_168) rfl) (hB.word (zm2 k2_169) rfl)) rfl rfl (by decide +kernel) ⟨Nat.le_of_ble_eq_true rfl, Nat.le_of_ble_eq_true rfl⟩) ⟨zP_blind, va_recv hK hP (ci := 0) (q0 := 0) rfl rfl, zP_pre hP hK hD hAD (zB_on hB hA0 hS)⟩ rfl rfl hl.1 rfl (lv_room (Nat.le_of_ble_eq_true rfl)) dRG_clear_7 ⟨Nat.le_of_ble_eq_true rfl, Nat.le_of_ble_eq_true rfl⟩) htab hlocks hS (Nat.le_of_ble_eq_true rfl) (Nat.le_of_ble_eq_true rfl)
    · skip
      refine zcallo (va_runV (As := [.int x1]) (rest := []) ⟨hx, hb, hml, hown, zno⟩ (tRG_requireRing l dC dI cI cZ cJ cA a0 s0 o b P S H3.size x1 gP gS u4 h5) (zcw 1 (hB.word (zm2 k2_170) rfl) (hB.word (zm1 k1_1) rfl) (hB.word (zm2 k2_167) rfl) (hB.word (zm2 k2_169) rfl) (k2_selects_private (by decide) (hB.word (zm1 k1_18) rfl) (hB.word (zm2 k2_168) rfl) (hB.word (zm2 k2_169) rfl)) rfl rfl (by decide +kernel) ⟨Nat.le_of_ble_eq_true rfl, Nat.le_of_ble_eq_true rfl⟩) ⟨zP_blind, va_recv hK hP (ci := 0) (q0 := 0) rfl rfl, zP_pre hP hK hD hAD (zB_on hB hA0 hS)⟩ rfl rfl hl.1 rfl (lv_room (Nat.le_of_ble_eq_true rfl)) dRG_clear_7 ⟨Nat.le_of_ble_eq_true rfl, Nat.le_of_ble_eq_true rfl⟩) hS hA (fun H6 locs hz1 hk1 hS => ?_)
      have hP := zKeep hP hk1
      have r_x1 : zr 0 5 x1 := zk_rR gP h5
      refine lv_aload_n hx hb dRG_clear_10 rfl (lv_at hl 0 rfl) ?_
      refine z_bind E (fun k9 h8 E => ?_) (fun u7 h8 E => ?_)
      · have x9 : k9 = 1 := zerr (E.symm.trans (etg.trans hc))
        subst x9
        exact absurd (fRG_requireStarted_c h8) (by decide)
      · skip
        refine zcallo (va_runV (As := []) (rest := []) ⟨hx, hb, hml, hown, zno⟩ (tRG_requireStarted l dC dI cI cZ cJ cA a0 s0 o b P S H6.size gP gS u7 h8) (zcw 0 (hB.word (zm3 k3_58) rfl) (hB.word (zm1 k1_1) rfl) (hB.word (zm3 k3_55) rfl) (hB.word (zm3 k3_57) rfl) (k2_selects_private (by decide) (hB.word (zm1 k1_18) rfl) (hB.word (zm3 k3_56) rfl) (hB.word (zm3 k3_57) rfl)) rfl rfl (by decide +kernel) ⟨Nat.le_of_ble_eq_true rfl, Nat.le_of_ble_eq_true rfl⟩) ⟨zP_blind, va_recv hK hP (ci := 0) (q0 := 0) rfl rfl, zP_pre hP hK hD hAD (zB_on hB hA0 hS)⟩ rfl rfl hl.1 rfl (lv_room (Nat.le_of_ble_eq_true rfl)) dRG_clear_11 ⟨Nat.le_of_ble_eq_true rfl, Nat.le_of_ble_eq_true rfl⟩) hS hA (fun H9 locs hz1 hk1 hS => ?_)
        have hP := zKeep hP hk1
        cases E.symm.trans (etg.trans hc)
set_option maxHeartbeats 4000000 in
set_option maxRecDepth 100000 in
theorem tRG_clear_T2 (l : Launch) (dC : Nat → ClassId) (dI : Nat → Nat → Nat) (cI cZ cJ cA : ClassId) (a0 : Array Value) (s0 : State) (o b : Nat → Nat) (hfl : l.flags = Jvm.pinnedFlags ++ [Jvm.noTraceFlag]) (P S : ZS) (sz : Nat) (x0 : Int32) (x1 : Int32) (gP : cok P) (gS : cok S) (hc : fRG_clear P S x0 x1 = .error 2) : tq_Met l yRG_clear [Cond.code yRG_clear bRG_clear 4 (some .boolean)] ({ frames := 7, cells := 1, slots := 6, locals := 111 } : Room) (zP zCl dC dI (zTZ cI cZ cJ cA) a0 s0 [.ref (o 0), .int x0, .int x1] sz (CW cI cZ cA o b P S)) (tq_Q "java/lang/IllegalStateException") 1 6 (zN sz) := by
  refine tq_ofW (cc := bRG_clear) (maxL := 4) (ret := (some .boolean)) (by decide) rfl ?_
  intro p e s m args below meth c s₁ B hml htab hv
  obtain ⟨rfl, hsz, hP, hK, hD0, hB⟩ := hv
  have hx := B.exec
  have hb := B.bytes
  have hr := B.returns
  have hown : s.vm.findClass "RingGuard" = some m.cls := findClass_of_methodNamed B.named
  have hlocks := B.notSynchronized
  subst hsz
  have hD := hD0
  have hA0 : ∀ q, zN s.heap.size q → s0.heap.size ≤ q := zA1 hB
  have hAD : ∀ q, zN s0.heap.size q → s0.heap.size ≤ q := fun _ h => h
  have hA : ∀ q : Nat, s.heap.size ≤ q → zN s.heap.size q := fun _ h => h
  have hS : va_S (zN s.heap.size) s.heap s.heap [] := va_S.rf
  have hl := lv_entry ([.ref (o 0), .int x0, .int x1]) (n := 4) (Nat.le_of_ble_eq_true rfl)
  rw [lg_entry_eq]
  generalize (lg_sl ([.ref (o 0), .int x0, .int x1]) ++ List.replicate (4 - (lg_sl ([.ref (o 0), .int x0, .int x1])).length) Slot.unset).toArray = ls at hl ⊢
  have hfl := hfl
  have hl : lv_has ls 4 [(0, .ref (o 0)), (1, .int x0), (2, .int x1)] := hl
  refine zgenQ (fun Q hQe => ?_)
  obtain ⟨tg, etg⟩ : ∃ z, z = fRG_clear P S x0 x1 := ⟨_, rfl⟩
  have E := etg
  unfold fRG_clear at E
  refine lv_aload_n hx hb dRG_clear_0 rfl (lv_at hl 0 rfl) ?_
  refine lv_iload_n hx hb dRG_clear_1 rfl (lv_at hl 1 rfl) ?_
  refine z_bind E (fun k9 h2 E => ?_) (fun u1 h2 E => ?_)
  · have x9 : k9 = 2 := zerr (E.symm.trans (etg.trans hc))
    subst x9
    exact absurd (fRG_requireBridge_c h2) (by decide)
  · skip
    refine zcallo (va_runV (As := [.int x0]) (rest := []) ⟨hx, hb, hml, hown, zno⟩ (tRG_requireBridge l dC dI cI cZ cJ cA a0 s0 o b P S s.heap.size x0 gP gS u1 h2) (zcw 1 (hB.word (zm2 k2_150) rfl) (hB.word (zm1 k1_1) rfl) (hB.word (zm2 k2_147) rfl) (hB.word (zm2 k2_149) rfl) (k2_selects_private (by decide) (hB.word (zm1 k1_18) rfl) (hB.word (zm2 k2_148) rfl) (hB.word (zm2 k2_149) rfl)) rfl rfl (by decide +kernel) ⟨Nat.le_of_ble_eq_true rfl, Nat.le_of_ble_eq_true rfl⟩) ⟨zP_blind, va_recv hK hP (ci := 0) (q0 := 0) rfl rfl, zP_pre hP hK hD hAD (zB_on hB hA0 hS)⟩ rfl rfl hl.1 rfl (lv_room (Nat.le_of_ble_eq_true rfl)) dRG_clear_2 ⟨Nat.le_of_ble_eq_true rfl, Nat.le_of_ble_eq_true rfl⟩) hS hA (fun H3 locs hz1 hk1 hS => ?_)
    have hP := zKeep hP hk1
    have r_x0 : zr 0 47 x0 := zk_rB1 gP h2
    have qlb_x0 : x0.toInt < (P.I 0).toInt := zk_rB2 gP h2
    refine lv_aload_n hx hb dRG_clear_5 rfl (lv_at hl 0 rfl) ?_
    refine lv_iload_n hx hb dRG_clear_6 rfl (lv_at hl 2 rfl) ?_
    refine z_bind E (fun k9 h5 E => ?_) (fun u4 h5 E => ?_)
    · have x9 : k9 = 2 := zerr (E.symm.trans (etg.trans hc))
      subst x9
      exact absurd (fRG_requireRing_c h5) (by decide)
    · skip
      refine zcallo (va_runV (As := [.int x1]) (rest := []) ⟨hx, hb, hml, hown, zno⟩ (tRG_requireRing l dC dI cI cZ cJ cA a0 s0 o b P S H3.size x1 gP gS u4 h5) (zcw 1 (hB.word (zm2 k2_170) rfl) (hB.word (zm1 k1_1) rfl) (hB.word (zm2 k2_167) rfl) (hB.word (zm2 k2_169) rfl) (k2_selects_private (by decide) (hB.word (zm1 k1_18) rfl) (hB.word (zm2 k2_168) rfl) (hB.word (zm2 k2_169) rfl)) rfl rfl (by decide +kernel) ⟨Nat.le_of_ble_eq_true rfl, Nat.le_of_ble_eq_true rfl⟩) ⟨zP_blind, va_recv hK hP (ci := 0) (q0 := 0) rfl rfl, zP_pre hP hK hD hAD (zB_on hB hA0 hS)⟩ rfl rfl hl.1 rfl (lv_room (Nat.le_of_ble_eq_true rfl)) dRG_clear_7 ⟨Nat.le_of_ble_eq_true rfl, Nat.le_of_ble_eq_true rfl⟩) hS hA (fun H6 locs hz1 hk1 hS => ?_)
      have hP := zKeep hP hk1
      have r_x1 : zr 0 5 x1 := zk_rR gP h5
      refine lv_aload_n hx hb dRG_clear_10 rfl (lv_at hl 0 rfl) ?_
      refine z_bind E (fun k9 h8 E => ?_) (fun u7 h8 E => ?_)
      · have x9 : k9 = 2 := zerr (E.symm.trans (etg.trans hc))
        subst x9
        rw [hQe]
        exact zpass (tq_runV (As := []) (rest := []) ⟨hx, hb, hml, hown, zno⟩ (tRG_requireStarted_T2 l dC dI cI cZ cJ cA a0 s0 o b hfl P S H6.size gP gS h8) (zcw 0 (hB.word (zm3 k3_58) rfl) (hB.word (zm1 k1_1) rfl) (hB.word (zm3 k3_55) rfl) (hB.word (zm3 k3_57) rfl) (k2_selects_private (by decide) (hB.word (zm1 k1_18) rfl) (hB.word (zm3 k3_56) rfl) (hB.word (zm3 k3_57) rfl)) rfl rfl (by decide +kernel) ⟨Nat.le_of_ble_eq_true rfl, Nat.le_of_ble_eq_true rfl⟩) ⟨zP_blind, va_recv hK hP (ci := 0) (q0 := 0) rfl rfl, zP_pre hP hK hD hAD (zB_on hB hA0 hS)⟩ rfl rfl hl.1 rfl (lv_room (Nat.le_of_ble_eq_true rfl)) dRG_clear_11 ⟨Nat.le_of_ble_eq_true rfl, Nat.le_of_ble_eq_true rfl⟩) htab hlocks hS (Nat.le_of_ble_eq_true rfl) (Nat.le_of_ble_eq_true rfl)
      · skip
        refine zcallo (va_runV (As := []) (rest := []) ⟨hx, hb, hml, hown, zno⟩ (tRG_requireStarted l dC dI cI cZ cJ cA a0 s0 o b P S H6.size gP gS u7 h8) (zcw 0 (hB.word (zm3 k3_58) rfl) (hB.word (zm1 k1_1) rfl) (hB.word (zm3 k3_55) rfl) (hB.word (zm3 k3_57) rfl) (k2_selects_private (by decide) (hB.word (zm1 k1_18) rfl) (hB.word (zm3 k3_56) rfl) (hB.word (zm3 k3_57) rfl)) rfl rfl (by decide +kernel) ⟨Nat.le_of_ble_eq_true rfl, Nat.le_of_ble_eq_true rfl⟩) ⟨zP_blind, va_recv hK hP (ci := 0) (q0 := 0) rfl rfl, zP_pre hP hK hD hAD (zB_on hB hA0 hS)⟩ rfl rfl hl.1 rfl (lv_room (Nat.le_of_ble_eq_true rfl)) dRG_clear_11 ⟨Nat.le_of_ble_eq_true rfl, Nat.le_of_ble_eq_true rfl⟩) hS hA (fun H9 locs hz1 hk1 hS => ?_)
        have hP := zKeep hP hk1
        cases E.symm.trans (etg.trans hc)
noncomputable def fRG_ticks_12 (P : ZS) (S_12 : ZS) : Except Nat (ZS × Int32) := .error 1
noncomputable def fRG_ticks_124 (P : ZS) (rc50 : ZS → Int32 → Int32 → (ZS × Int32)) (S_124 : ZS) (x124_1 : Int32) (x124_2 : Int32) (y124_0 : Int32) : ZS × Int32 := zl (S_124.setI 4 y124_0) (fun S1 => zl (fRG_countCircle P S1) (fun S4 => zl (fRG_countApart P S4) (fun S7 => zl (x124_2 + 1) (fun k9 => rc50 S7 x124_1 k9))))
noncomputable def fRG_ticks_73 (P : ZS) (rc50 : ZS → Int32 → Int32 → (ZS × Int32)) (S_73 : ZS) (x73_1 : Int32) (x73_2 : Int32) (x73_3 : Int32) : ZS × Int32 := zl (S_73.I 3) (fun k10 => zl (k10 + 1) (fun k11 => zl (S_73.setI 3 k11) (fun S12 => zl (fPR_arriveAll P S12) (fun S15 => zl (fPR_turnAll P S15) (fun S18 => zl (fRG_countStirs P S18) (fun k21 => zl (S18.setI 5 k21) (fun S22 => zl (S22.I 5) (fun k24 => (if k21 = x73_3 then zl (S22.I 4) (fun k25 => zl (k25 + 1) (fun k26 => fRG_ticks_124 P rc50 S22 x73_1 x73_2 k26)) else fRG_ticks_124 P rc50 S22 x73_1 x73_2 0)))))))))
noncomputable def fRG_ticks_50 (P : ZS) (rc50 : ZS → Int32 → Int32 → (ZS × Int32)) (S_50 : ZS) (x50_1 : Int32) (x50_2 : Int32) : ZS × Int32 := (if x50_1 ≤ x50_2 then zl (S_50.I 3) (fun k27 => (S_50, k27)) else zl (fRG_countStirs P S_50) (fun k29 => zl (S_50.I 5) (fun k30 => (if k29 = k30 then fRG_ticks_73 P rc50 S_50 x50_1 x50_2 k29 else zl (S_50.setI 4 0) (fun S31 => fRG_ticks_73 P rc50 S31 x50_1 x50_2 k29)))))
noncomputable def fRG_ticks (P S : ZS) (x0 : Int32) : Except Nat (ZS × Int32) := (if x0 < 1 then fRG_ticks_12 P S else (if x0 ≤ 200 then zbind (fRG_requireStarted P S) (fun u33 => zl (S.I 3) (fun k36 => zl (k36 + x0) (fun k37 => (if k37 ≤ 20000 then .ok (zfix (fun S9 _ _ => (S9, 0)) (fRG_ticks_50 P) 258 S x0 0) else .error 2)))) else fRG_ticks_12 P S))
set_option maxHeartbeats 4000000 in
set_option maxRecDepth 100000 in
theorem tRG_ticks (l : Launch) (dC : Nat → ClassId) (dI : Nat → Nat → Nat) (cI cZ cJ cA : ClassId) (a0 : Array Value) (s0 : State) (o b : Nat → Nat) (P S : ZS) (sz : Nat) (x0 : Int32) (gP : cok P) (gS : cok S) (gQ : zQ P) (y : ZS × Int32) (hc : fRG_ticks P S x0 = .ok y) : Met l yRG_ticks [Cond.code yRG_ticks bRG_ticks 4 (some .int)] ({ frames := 6, cells := 0, slots := 0, locals := 144 } : Room) (zP zCl dC dI (zTZ cI cZ cJ cA) a0 s0 [.ref (o 0), .int x0] sz (CW cI cZ cA o b P S)) (zQH zCl dC dI (fun (r : Int32) (x9 : (Nat → Nat) × ZS) => (x9.2, r) = y ∧ cok x9.2 ∧ True) (fun x9 : (Nat → Nat) × ZS => (CW cI cZ cA o x9.1 P x9.2)) (va_A (CW cI cZ cA o b P S) sz)) 0 0 (va_A (CW cI cZ cA o b P S) sz) := by
  refine Met.ofW (cc := bRG_ticks) (maxL := 4) (ret := (some .int)) (by decide) rfl ?_
  intro p e s m args below meth c s₁ B hml hv
  obtain ⟨rfl, hsz, hP, hK, hD0, hB⟩ := hv
  have hx := B.exec
  have hb := B.bytes
  have hr := B.returns
  have hown : s.vm.findClass "RingGuard" = some m.cls := findClass_of_methodNamed B.named
  have hlocks := B.notSynchronized
  subst hsz
  have hD := hD0.self (sz := s.heap.size)
  have hA0 := zA0 hD0 hB
  generalize hAe : va_A (CW cI cZ cA o b P S) s.heap.size = A at hD hA0 ⊢
  have hAD := hA0
  have hA : ∀ q : Nat, s.heap.size ≤ q → A q := fun q h => by rw [← hAe]; exact Or.inr h
  have hS : va_S A s.heap s.heap [] := va_S.rf
  have hl := lv_entry ([.ref (o 0), .int x0]) (n := 4) (Nat.le_of_ble_eq_true rfl)
  rw [lg_entry_eq]
  generalize (lg_sl ([.ref (o 0), .int x0]) ++ List.replicate (4 - (lg_sl ([.ref (o 0), .int x0])).length) Slot.unset).toArray = ls at hl ⊢
  have hl : lv_has ls 4 [(0, .ref (o 0)), (1, .int x0)] := hl
  refine zgenQ (fun Q hQe => ?_)
  obtain ⟨tg, etg⟩ : ∃ z, z = fRG_ticks P S x0 := ⟨_, rfl⟩
  have E := etg
  unfold fRG_ticks at E
  have hJ12 : ∀ (H : Heap) (locs : List Loc) (ls : Array Slot) (S_12 : ZS), cok S_12 → tg = fRG_ticks_12 P S_12 → va_P (dC, dI) zCl (CW cI cZ cA o b P S_12) H → va_D A (CW cI cZ cA o b P S_12) → va_S A s.heap H locs → lv_has ls 4 [] → W p l e ({ frames := 6, cells := 0, slots := 0, locals := 144 } : Room) s m ([.ref (o 0), .int x0] : List Value).toArray below meth c H locs 0 0 Q (F0 m 12 ls []) := by
    intro H locs ls S_12 gS_12 E hP hD hS hl
    unfold fRG_ticks_12 at E
    cases E.symm.trans (etg.trans hc)
  have hL50 : ∀ (n50 : Nat) (H : Heap) (locs : List Loc) (ls : Array Slot) (b_50 : Nat → Nat) (S_50 : ZS) (x50_1 : Int32) (x50_2 : Int32), zr 1 200 x50_1 → zr 0 257 x50_2 → cok S_50 → 257 + 1 - x50_2.toInt ≤ (n50 : Int) → y = zfix (fun S9 _ _ => (S9, 0)) (fRG_ticks_50 P) n50 S_50 x50_1 x50_2 → va_P (dC, dI) zCl (CW cI cZ cA o b_50 P S_50) H → va_D A (CW cI cZ cA o b_50 P S_50) → va_S A s.heap H locs → lv_has ls 4 [(0, .ref (o 0)), (1, .int x50_1), (2, .int x50_2)] → W p l e ({ frames := 6, cells := 0, slots := 0, locals := 144 } : Room) s m ([.ref (o 0), .int x0] : List Value).toArray below meth c H locs 0 0 Q (F0 m 50 ls []) := by
    intro n50
    induction n50 with
    | zero => intro H locs ls b_50 S_50 x50_1 x50_2 r_x50_1 r_x50_2 gS_50 hm50 E hP hD hS hl; exact absurd hm50 (zfuel0U r_x50_2)
    | succ n50 ih50 =>
      intro H locs ls b_50 S_50 x50_1 x50_2 r_x50_1 r_x50_2 gS_50 hm50 E hP hD hS hl
      rw [zfix_s] at E
      generalize zfix (fun S9 _ _ => (S9, 0)) (fRG_ticks_50 P) n50 = rc50 at ih50 E
      unfold fRG_ticks_50 at E
      have hJ73 : ∀ (H : Heap) (locs : List Loc) (ls : Array Slot) (b_73 : Nat → Nat) (S_73 : ZS) (x73_1 : Int32) (x73_2 : Int32) (x73_3 : Int32), zr 1 200 x73_1 → zr 0 256 x73_2 → cok S_73 → 257 + 1 - x73_2.toInt ≤ ((n50 + 1 : Nat) : Int) → y = fRG_ticks_73 P rc50 S_73 x73_1 x73_2 x73_3 → va_P (dC, dI) zCl (CW cI cZ cA o b_73 P S_73) H → va_D A (CW cI cZ cA o b_73 P S_73) → va_S A s.heap H locs → lv_has ls 4 [(0, .ref (o 0)), (1, .int x73_1), (2, .int x73_2), (3, .int x73_3)] → W p l e ({ frames := 6, cells := 0, slots := 0, locals := 144 } : Room) s m ([.ref (o 0), .int x0] : List Value).toArray below meth c H locs 0 0 Q (F0 m 73 ls []) := by
        intro H locs ls b_73 S_73 x73_1 x73_2 x73_3 r_x73_1 r_x73_2 gS_73 hm50_73 E hP hD hS hl
        unfold fRG_ticks_73 at E
        have hJ124 : ∀ (H : Heap) (locs : List Loc) (ls : Array Slot) (b_124 : Nat → Nat) (S_124 : ZS) (x124_1 : Int32) (x124_2 : Int32) (y124_0 : Int32), zr 1 200 x124_1 → zr 0 256 x124_2 → cok S_124 → 257 + 1 - x124_2.toInt ≤ ((n50 + 1 : Nat) : Int) → y = fRG_ticks_124 P rc50 S_124 x124_1 x124_2 y124_0 → va_P (dC, dI) zCl (CW cI cZ cA o b_124 P S_124) H → va_D A (CW cI cZ cA o b_124 P S_124) → va_S A s.heap H locs → lv_has ls 4 [(0, .ref (o 0)), (1, .int x124_1), (2, .int x124_2)] → W p l e ({ frames := 6, cells := 0, slots := 0, locals := 144 } : Room) s m ([.ref (o 0), .int x0] : List Value).toArray below meth c H locs 0 0 Q (F0 m 124 ls [.int y124_0, .ref (o 0)]) := by
          intro H locs ls b_124 S_124 x124_1 x124_2 y124_0 r_x124_1 r_x124_2 gS_124 hm50_124 E hP hD hS hl
          unfold fRG_ticks_124 at E
          refine c_put_4 hx hb (hB.words zU_RG) hown hK hP hD hS (hB.word (zm2 k2_3) rfl) dRG_ticks_124 E (fun S1 H2 locs eS1 E hP hD hS => ?_)
          have gS1 : cok S1 := by rw [eS1]; exact gS_124.setI (t := 4) (zr_any y124_0)
          refine lv_aload_n hx hb dRG_ticks_127 rfl (lv_at hl 0 rfl) ?_
          refine zcV (va_runV (As := []) (rest := []) ⟨hx, hb, hml, hown, zno⟩ (tRG_countCircle l dC dI cI cZ cJ cA a0 s0 o b_124 P S1 H2.size gP gS1) (zcw 0 (hB.word (zm3 k3_83) rfl) (hB.word (zm1 k1_1) rfl) (hB.word (zm3 k3_80) rfl) (hB.word (zm3 k3_82) rfl) (k2_selects_private (by decide) (hB.word (zm1 k1_18) rfl) (hB.word (zm3 k3_81) rfl) (hB.word (zm3 k3_82) rfl)) rfl rfl (by decide +kernel) ⟨Nat.le_of_ble_eq_true rfl, Nat.le_of_ble_eq_true rfl⟩) ⟨zP_blind, va_recv hK hP (ci := 0) (q0 := 0) rfl rfl, zP_pre hP hK hD hAD (zB_on hB hA0 hS)⟩ rfl rfl hl.1 rfl (lv_room (Nat.le_of_ble_eq_true rfl)) dRG_ticks_128 ⟨Nat.le_of_ble_eq_true rfl, Nat.le_of_ble_eq_true rfl⟩) hD hS hA (fun S4 H3 locs h5 hP hD hS => ?_)
          have E := zl_s E h5.1
          have gS4 := h5.2
          refine lv_aload_n hx hb dRG_ticks_131 rfl (lv_at hl 0 rfl) ?_
          refine zcV (va_runV (As := []) (rest := []) ⟨hx, hb, hml, hown, zno⟩ (tRG_countApart l dC dI cI cZ cJ cA a0 s0 o b_124 P S4 H3.size gP gS4) (zcw 0 (hB.word (zm4 k4_10) rfl) (hB.word (zm1 k1_1) rfl) (hB.word (zm4 k4_7) rfl) (hB.word (zm4 k4_9) rfl) (k2_selects_private (by decide) (hB.word (zm1 k1_18) rfl) (hB.word (zm4 k4_8) rfl) (hB.word (zm4 k4_9) rfl)) rfl rfl (by decide +kernel) ⟨Nat.le_of_ble_eq_true rfl, Nat.le_of_ble_eq_true rfl⟩) ⟨zP_blind, va_recv hK hP (ci := 0) (q0 := 0) rfl rfl, zP_pre hP hK hD hAD (zB_on hB hA0 hS)⟩ rfl rfl hl.1 rfl (lv_room (Nat.le_of_ble_eq_true rfl)) dRG_ticks_132 ⟨Nat.le_of_ble_eq_true rfl, Nat.le_of_ble_eq_true rfl⟩) hD hS hA (fun S7 H6 locs h8 hP hD hS => ?_)
          have E := zl_s E h8.1
          have gS7 := h8.2
          refine z_iinc (lv' := fun v9 => [(2, .int v9), (0, .ref (o 0)), (1, .int x124_1)]) (cst := 1) hx hb dRG_ticks_135 hl (k := 2) rfl (by decide) (by decide) (fun _ => rfl) E (fun k9 ls ek9 E hl => ?_)
          have r_k9 : zr 1 257 k9 := zr_add r_x124_2 (show zr 1 1 1 from by decide) ek9 (by decide)
          refine lv_goto (tgt := 50) hx hb dRG_ticks_138 (by decide) ?_
          exact ih50 H6 locs ls b_124 S7 x124_1 k9 r_x124_1 (zr_mono r_k9 (by decide)) gS7 (zstepU ek9 r_x124_2 (by decide) hm50_124) E hP hD hS (lv_sub hl [1, 2, 0] rfl)
        refine lv_aload_n hx hb dRG_ticks_73 rfl (lv_at hl 0 rfl) ?_
        refine lv_dup hx hb dRG_ticks_74 rfl ?_
        refine c_get_3 hx hb (hB.words zU_RG) hown hK hP (hB.word (zm2 k2_2) rfl) dRG_ticks_75 E (fun k10 ek10 E => ?_)
        refine lv_iconst (v := 1) hx hb dRG_ticks_78 (by decide) ?_
        refine z_iadd hx hb dRG_ticks_79 E (fun k11 ek11 E => ?_)
        refine c_put_3 hx hb (hB.words zU_RG) hown hK hP hD hS (hB.word (zm2 k2_2) rfl) dRG_ticks_80 E (fun S12 H13 locs eS12 E hP hD hS => ?_)
        have gS12 : cok S12 := by rw [eS12]; exact gS_73.setI (t := 3) (zr_any k11)
        refine lv_aload_n hx hb dRG_ticks_83 rfl (lv_at hl 0 rfl) ?_
        refine c_getO_RG_protocol hx hb (hB.words zU_RG) hown hK hP (hB.word (zm1 k1_238) rfl) dRG_ticks_84 ?_
        refine zcV (va_runV (As := []) (rest := []) ⟨hx, hb, hml, hown, zno⟩ (tPR_arriveAll l dC dI cI cZ cJ cA a0 s0 o b_73 P S12 H13.size gP gS12 gQ) (zcw 0 (hB.word (zm3 k3_166) rfl) (hB.word (zm1 k1_6) rfl) (hB.word (zm3 k3_163) rfl) (hB.word (zm3 k3_164) rfl) (hB.word (zm3 k3_165) rfl) rfl rfl (by decide +kernel) ⟨Nat.le_of_ble_eq_true rfl, Nat.le_of_ble_eq_true rfl⟩) ⟨zP_blind, va_recv hK hP (ci := 4) (q0 := 4) rfl rfl, zP_pre hP hK hD hAD (zB_on hB hA0 hS)⟩ rfl rfl hl.1 rfl (lv_room (Nat.le_of_ble_eq_true rfl)) dRG_ticks_87 ⟨Nat.le_of_ble_eq_true rfl, Nat.le_of_ble_eq_true rfl⟩) hD hS hA (fun S15 H14 locs h16 hP hD hS => ?_)
        have E := zl_s E h16.1
        have gS15 := h16.2
        refine lv_aload_n hx hb dRG_ticks_90 rfl (lv_at hl 0 rfl) ?_
        refine c_getO_RG_protocol hx hb (hB.words zU_RG) hown hK hP (hB.word (zm1 k1_238) rfl) dRG_ticks_91 ?_
        refine zcV (va_runV (As := []) (rest := []) ⟨hx, hb, hml, hown, zno⟩ (tPR_turnAll l dC dI cI cZ cJ cA a0 s0 o (zsw b_73) P S15 H14.size gP gS15 gQ) (zcw 0 (hB.word (zm3 k3_227) rfl) (hB.word (zm1 k1_6) rfl) (hB.word (zm3 k3_224) rfl) (hB.word (zm3 k3_225) rfl) (hB.word (zm3 k3_226) rfl) rfl rfl (by decide +kernel) ⟨Nat.le_of_ble_eq_true rfl, Nat.le_of_ble_eq_true rfl⟩) ⟨zP_blind, va_recv hK hP (ci := 4) (q0 := 4) rfl rfl, zP_pre hP hK hD hAD (zB_on hB hA0 hS)⟩ rfl rfl hl.1 rfl (lv_room (Nat.le_of_ble_eq_true rfl)) dRG_ticks_94 ⟨Nat.le_of_ble_eq_true rfl, Nat.le_of_ble_eq_true rfl⟩) hD hS hA (fun S18 H17 locs h19 hP hD hS => ?_)
        have E := zl_s E h19.1
        have gS18 := h19.2
        refine lv_aload_n hx hb dRG_ticks_97 rfl (lv_at hl 0 rfl) ?_
        refine lv_aload_n hx hb dRG_ticks_98 rfl (lv_at hl 0 rfl) ?_
        refine zcallp (va_runV (As := []) (rest := [.ref (o 0)]) ⟨hx, hb, hml, hown, zno⟩ (tRG_countStirs l dC dI cI cZ cJ cA a0 s0 o (zsw b_73) P S18 H17.size gP gS18) (zcw 0 (hB.word (zm3 k3_162) rfl) (hB.word (zm1 k1_1) rfl) (hB.word (zm3 k3_159) rfl) (hB.word (zm3 k3_161) rfl) (k2_selects_private (by decide) (hB.word (zm1 k1_18) rfl) (hB.word (zm3 k3_160) rfl) (hB.word (zm3 k3_161) rfl)) rfl rfl (by decide +kernel) ⟨Nat.le_of_ble_eq_true rfl, Nat.le_of_ble_eq_true rfl⟩) ⟨zP_blind, va_recv hK hP (ci := 0) (q0 := 0) rfl rfl, zP_pre hP hK hD hAD (zB_on hB hA0 hS)⟩ rfl rfl hl.1 rfl (lv_room (Nat.le_of_ble_eq_true rfl)) dRG_ticks_99 ⟨Nat.le_of_ble_eq_true rfl, Nat.le_of_ble_eq_true rfl⟩) hS hA (fun k21 H20 locs hk21 hz1 hk1 hS => ?_)
        have hP := zKeep hP hk1
        have E := zl_s E hk21.1
        refine c_put_5 hx hb (hB.words zU_RG) hown hK hP hD hS (hB.word (zm2 k2_4) rfl) dRG_ticks_102 E (fun S22 H23 locs eS22 E hP hD hS => ?_)
        have gS22 : cok S22 := by rw [eS22]; exact gS18.setI (t := 5) (zr_any k21)
        refine lv_aload_n hx hb dRG_ticks_105 rfl (lv_at hl 0 rfl) ?_
        refine lv_aload_n hx hb dRG_ticks_106 rfl (lv_at hl 0 rfl) ?_
        refine c_get_5 hx hb (hB.words zU_RG) hown hK hP (hB.word (zm2 k2_4) rfl) dRG_ticks_107 E (fun k24 ek24 E => ?_)
        have x9 : k21 = k24 := by rw [ek24, eS22]; rfl
        subst x9
        refine lv_iload_n hx hb dRG_ticks_110 rfl (lv_at hl 3 rfl) ?_
        refine z_icmp_ne (tgt := 123) hx hb dRG_ticks_111 (by decide) E (fun c_111 E => ?_) (fun c_111 E => ?_)
        · refine lv_iconst (v := 0) hx hb dRG_ticks_123 (by decide) ?_
          exact hJ124 H23 locs ls (zsw b_73) S22 x73_1 x73_2 0 r_x73_1 r_x73_2 gS22 hm50_73 E hP hD hS (lv_sub hl [0, 1, 2] rfl)
        · refine lv_aload_n hx hb dRG_ticks_114 rfl (lv_at hl 0 rfl) ?_
          refine c_get_4 hx hb (hB.words zU_RG) hown hK hP (hB.word (zm2 k2_3) rfl) dRG_ticks_115 E (fun k25 ek25 E => ?_)
          refine lv_iconst (v := 1) hx hb dRG_ticks_118 (by decide) ?_
          refine z_iadd hx hb dRG_ticks_119 E (fun k26 ek26 E => ?_)
          refine lv_goto (tgt := 124) hx hb dRG_ticks_120 (by decide) ?_
          exact hJ124 H23 locs ls (zsw b_73) S22 x73_1 x73_2 k26 r_x73_1 r_x73_2 gS22 hm50_73 E hP hD hS (lv_sub hl [0, 1, 2] rfl)
      refine lv_iload_n hx hb dRG_ticks_50 rfl (lv_at hl 2 rfl) ?_
      refine lv_iload_n hx hb dRG_ticks_51 rfl (lv_at hl 1 rfl) ?_
      refine z_icmp_ge (tgt := 141) hx hb dRG_ticks_52 (by decide) E (fun c_52 E => ?_) (fun c_52 E => ?_)
      · have r_x50_2 : zr 1 257 x50_2 := zle_y r_x50_1 r_x50_2 c_52 (by decide)
        refine lv_aload_n hx hb dRG_ticks_141 rfl (lv_at hl 0 rfl) ?_
        refine c_get_3 hx hb (hB.words zU_RG) hown hK hP (hB.word (zm2 k2_2) rfl) dRG_ticks_142 E (fun k27 ek27 E => ?_)
        rw [hQe]
        exact W.iret (v := k27) hx hb hr (fun t ht hW => ⟨⟨k27, (b_50, S_50), rfl, ⟨E.symm, gS_50, trivial⟩, by rw [ht]; exact hP, hD⟩, hS.F ht⟩) hS.2.2 dRG_ticks_145
      · have r_x50_2 : zr 0 199 x50_2 := zlt_x r_x50_2 r_x50_1 (znle c_52) (by decide)
        refine lv_aload_n hx hb dRG_ticks_55 rfl (lv_at hl 0 rfl) ?_
        refine zcallp (va_runV (As := []) (rest := []) ⟨hx, hb, hml, hown, zno⟩ (tRG_countStirs l dC dI cI cZ cJ cA a0 s0 o b_50 P S_50 H.size gP gS_50) (zcw 0 (hB.word (zm3 k3_162) rfl) (hB.word (zm1 k1_1) rfl) (hB.word (zm3 k3_159) rfl) (hB.word (zm3 k3_161) rfl) (k2_selects_private (by decide) (hB.word (zm1 k1_18) rfl) (hB.word (zm3 k3_160) rfl) (hB.word (zm3 k3_161) rfl)) rfl rfl (by decide +kernel) ⟨Nat.le_of_ble_eq_true rfl, Nat.le_of_ble_eq_true rfl⟩) ⟨zP_blind, va_recv hK hP (ci := 0) (q0 := 0) rfl rfl, zP_pre hP hK hD hAD (zB_on hB hA0 hS)⟩ rfl rfl hl.1 rfl (lv_room (Nat.le_of_ble_eq_true rfl)) dRG_ticks_56 ⟨Nat.le_of_ble_eq_true rfl, Nat.le_of_ble_eq_true rfl⟩) hS hA (fun k29 H28 locs hk29 hz1 hk1 hS => ?_)
        have hP := zKeep hP hk1
        have E := zl_s E hk29.1
        refine lv_istore_n (lv' := [(3, .int k29), (0, .ref (o 0)), (1, .int x50_1), (2, .int x50_2)]) hx hb dRG_ticks_59 rfl hl (by decide) rfl (fun ls hl => ?_)
        refine lv_iload_n hx hb dRG_ticks_60 rfl (lv_at hl 0 rfl) ?_
        refine lv_aload_n hx hb dRG_ticks_61 rfl (lv_at hl 1 rfl) ?_
        refine c_get_5 hx hb (hB.words zU_RG) hown hK hP (hB.word (zm2 k2_4) rfl) dRG_ticks_62 E (fun k30 ek30 E => ?_)
        refine z_icmp_eq (tgt := 73) hx hb dRG_ticks_65 (by decide) E (fun c_65 E => ?_) (fun c_65 E => ?_)
        · exact hJ73 H28 locs ls b_50 S_50 x50_1 x50_2 k29 r_x50_1 (zr_mono r_x50_2 (by decide)) gS_50 hm50 E hP hD hS (lv_sub hl [1, 2, 3, 0] rfl)
        · refine lv_aload_n hx hb dRG_ticks_68 rfl (lv_at hl 1 rfl) ?_
          refine lv_iconst (v := 0) hx hb dRG_ticks_69 (by decide) ?_
          refine c_put_4 hx hb (hB.words zU_RG) hown hK hP hD hS (hB.word (zm2 k2_3) rfl) dRG_ticks_70 E (fun S31 H32 locs eS31 E hP hD hS => ?_)
          have gS31 : cok S31 := by rw [eS31]; exact gS_50.setI (t := 4) (show zr (-2147483648) 2147483647 0 from by decide)
          exact hJ73 H32 locs ls b_50 S31 x50_1 x50_2 k29 r_x50_1 (zr_mono r_x50_2 (by decide)) gS31 hm50 E hP hD hS (lv_sub hl [1, 2, 3, 0] rfl)
  refine lv_iload_n hx hb dRG_ticks_0 rfl (lv_at hl 1 rfl) ?_
  refine lv_iconst (v := 1) hx hb dRG_ticks_1 (by decide) ?_
  refine z_icmp_lt (tgt := 12) hx hb dRG_ticks_2 (by decide) E (fun c_2 E => ?_) (fun c_2 E => ?_)
  · have r_x0 : zr (-2147483648) 0 x0 := zlt_x (zr_any x0) (show zr 1 1 1 from by decide) c_2 (by decide)
    exact hJ12 s.heap [] ls S gS E hP hD hS (lv_sub hl [] rfl)
  · have r_x0 : zr 1 2147483647 x0 := zle_y (show zr 1 1 1 from by decide) (zr_any x0) (znlt c_2) (by decide)
    refine lv_iload_n hx hb dRG_ticks_5 rfl (lv_at hl 1 rfl) ?_
    refine lv_sipush (v := 200) hx hb dRG_ticks_6 (by decide) ?_
    refine z_icmp_le (tgt := 22) hx hb dRG_ticks_9 (by decide) E (fun c_9 E => ?_) (fun c_9 E => ?_)
    · have r_x0 : zr 1 200 x0 := zle_x r_x0 (show zr 200 200 200 from by decide) c_9 (by decide)
      refine lv_aload_n hx hb dRG_ticks_22 rfl (lv_at hl 0 rfl) ?_
      refine z_bind E (fun k9 h34 E => ?_) (fun u33 h34 E => ?_)
      · cases E.symm.trans (etg.trans hc)
      · skip
        refine zcallo (va_runV (As := []) (rest := []) ⟨hx, hb, hml, hown, zno⟩ (tRG_requireStarted l dC dI cI cZ cJ cA a0 s0 o b P S s.heap.size gP gS u33 h34) (zcw 0 (hB.word (zm3 k3_58) rfl) (hB.word (zm1 k1_1) rfl) (hB.word (zm3 k3_55) rfl) (hB.word (zm3 k3_57) rfl) (k2_selects_private (by decide) (hB.word (zm1 k1_18) rfl) (hB.word (zm3 k3_56) rfl) (hB.word (zm3 k3_57) rfl)) rfl rfl (by decide +kernel) ⟨Nat.le_of_ble_eq_true rfl, Nat.le_of_ble_eq_true rfl⟩) ⟨zP_blind, va_recv hK hP (ci := 0) (q0 := 0) rfl rfl, zP_pre hP hK hD hAD (zB_on hB hA0 hS)⟩ rfl rfl hl.1 rfl (lv_room (Nat.le_of_ble_eq_true rfl)) dRG_ticks_23 ⟨Nat.le_of_ble_eq_true rfl, Nat.le_of_ble_eq_true rfl⟩) hS hA (fun H35 locs hz1 hk1 hS => ?_)
        have hP := zKeep hP hk1
        refine lv_aload_n hx hb dRG_ticks_26 rfl (lv_at hl 0 rfl) ?_
        refine c_get_3 hx hb (hB.words zU_RG) hown hK hP (hB.word (zm2 k2_2) rfl) dRG_ticks_27 E (fun k36 ek36 E => ?_)
        refine lv_iload_n hx hb dRG_ticks_30 rfl (lv_at hl 1 rfl) ?_
        refine z_iadd hx hb dRG_ticks_31 E (fun k37 ek37 E => ?_)
        refine lv_sipush (v := 20000) hx hb dRG_ticks_32 (by decide) ?_
        refine z_icmp_le (tgt := 48) hx hb dRG_ticks_35 (by decide) E (fun c_35 E => ?_) (fun c_35 E => ?_)
        · have r_k37 : zr (-2147483648) 20000 k37 := zle_x (zr_any k37) (show zr 20000 20000 20000 from by decide) c_35 (by decide)
          have E := zokE E (etg.trans hc)
          refine lv_iconst (v := 0) hx hb dRG_ticks_48 (by decide) ?_
          refine lv_istore_n (lv' := [(2, .int 0), (0, .ref (o 0)), (1, .int x0)]) hx hb dRG_ticks_49 rfl hl (by decide) rfl (fun ls hl => ?_)
          exact hL50 258 H35 locs ls b S x0 0 r_x0 (show zr 0 257 0 from by decide) gS (by have h9 := (show zr 0 0 0 from by decide); exact zfuelU h9 (by decide)) E hP hD hS (lv_sub hl [1, 2, 0] rfl)
        · have r_k37 : zr 20001 2147483647 k37 := zlt_y (show zr 20000 20000 20000 from by decide) (zr_any k37) (znle c_35) (by decide)
          cases E.symm.trans (etg.trans hc)
    · have r_x0 : zr 201 2147483647 x0 := zlt_y (show zr 200 200 200 from by decide) r_x0 (znle c_9) (by decide)
      exact hJ12 s.heap [] ls S gS E hP hD hS (lv_sub hl [] rfl)
set_option maxHeartbeats 4000000 in
set_option maxRecDepth 100000 in
theorem tRG_ticks_T1 (l : Launch) (dC : Nat → ClassId) (dI : Nat → Nat → Nat) (cI cZ cJ cA : ClassId) (a0 : Array Value) (s0 : State) (o b : Nat → Nat) (hfl : l.flags = Jvm.pinnedFlags ++ [Jvm.noTraceFlag]) (P S : ZS) (sz : Nat) (x0 : Int32) (gP : cok P) (gS : cok S) (hc : fRG_ticks P S x0 = .error 1) : tq_Met l yRG_ticks [Cond.code yRG_ticks bRG_ticks 4 (some .int)] ({ frames := 7, cells := 1, slots := 6, locals := 110 } : Room) (zP zCl dC dI (zTZ cI cZ cJ cA) a0 s0 [.ref (o 0), .int x0] sz (CW cI cZ cA o b P S)) (tq_Q "java/lang/IllegalArgumentException") 1 6 (zN sz) := by
  refine tq_ofW (cc := bRG_ticks) (maxL := 4) (ret := (some .int)) (by decide) rfl ?_
  intro p e s m args below meth c s₁ B hml htab hv
  obtain ⟨rfl, hsz, hP, hK, hD0, hB⟩ := hv
  have hx := B.exec
  have hb := B.bytes
  have hr := B.returns
  have hown : s.vm.findClass "RingGuard" = some m.cls := findClass_of_methodNamed B.named
  have hlocks := B.notSynchronized
  subst hsz
  have hD := hD0
  have hA0 : ∀ q, zN s.heap.size q → s0.heap.size ≤ q := zA1 hB
  have hAD : ∀ q, zN s0.heap.size q → s0.heap.size ≤ q := fun _ h => h
  have hA : ∀ q : Nat, s.heap.size ≤ q → zN s.heap.size q := fun _ h => h
  have hS : va_S (zN s.heap.size) s.heap s.heap [] := va_S.rf
  have hl := lv_entry ([.ref (o 0), .int x0]) (n := 4) (Nat.le_of_ble_eq_true rfl)
  rw [lg_entry_eq]
  generalize (lg_sl ([.ref (o 0), .int x0]) ++ List.replicate (4 - (lg_sl ([.ref (o 0), .int x0])).length) Slot.unset).toArray = ls at hl ⊢
  have hfl := hfl
  have hl : lv_has ls 4 [(0, .ref (o 0)), (1, .int x0)] := hl
  refine zgenQ (fun Q hQe => ?_)
  obtain ⟨tg, etg⟩ : ∃ z, z = fRG_ticks P S x0 := ⟨_, rfl⟩
  have E := etg
  unfold fRG_ticks at E
  have hJ12 : ∀ (H : Heap) (locs : List Loc) (ls : Array Slot), tg = fRG_ticks_12 P S  → va_P (dC, dI) zCl (CW cI cZ cA o b P S) H → va_S (zN s.heap.size) s.heap H locs → lv_has ls 4 [] → W p l e ({ frames := 7, cells := 1, slots := 6, locals := 110 } : Room) s m ([.ref (o 0), .int x0] : List Value).toArray below meth c H locs 0 0 Q (F0 m 12 ls []) := by
    intro H locs ls E hP hS hl
    unfold fRG_ticks_12 at E
    obtain ⟨qs, hZ⟩ := hB.str (zm3 k3_157)
    rw [hQe]
    exact zthrow hfl hx hb hown (hB.word (zm2 k2_151) rfl) (hB.word (zm1 k1_14) rfl) hZ (by decide) (hB.words zO_80) (by rw [hml]; exact hl.1) htab hlocks dRG_ticks_12 dRG_ticks_15 dRG_ticks_16 dRG_ticks_18 dRG_ticks_21 (Nat.le_of_ble_eq_true rfl) (Nat.le_of_ble_eq_true rfl) (Nat.le_of_ble_eq_true rfl) (Nat.le_of_ble_eq_true rfl) hS rfl rfl
  refine lv_iload_n hx hb dRG_ticks_0 rfl (lv_at hl 1 rfl) ?_
  refine lv_iconst (v := 1) hx hb dRG_ticks_1 (by decide) ?_
  refine z_icmp_lt (tgt := 12) hx hb dRG_ticks_2 (by decide) E (fun c_2 E => ?_) (fun c_2 E => ?_)
  · have r_x0 : zr (-2147483648) 0 x0 := zlt_x (zr_any x0) (show zr 1 1 1 from by decide) c_2 (by decide)
    exact hJ12 s.heap [] ls  E hP hS (lv_sub hl [] rfl)
  · have r_x0 : zr 1 2147483647 x0 := zle_y (show zr 1 1 1 from by decide) (zr_any x0) (znlt c_2) (by decide)
    refine lv_iload_n hx hb dRG_ticks_5 rfl (lv_at hl 1 rfl) ?_
    refine lv_sipush (v := 200) hx hb dRG_ticks_6 (by decide) ?_
    refine z_icmp_le (tgt := 22) hx hb dRG_ticks_9 (by decide) E (fun c_9 E => ?_) (fun c_9 E => ?_)
    · have r_x0 : zr 1 200 x0 := zle_x r_x0 (show zr 200 200 200 from by decide) c_9 (by decide)
      refine lv_aload_n hx hb dRG_ticks_22 rfl (lv_at hl 0 rfl) ?_
      refine z_bind E (fun k9 h2 E => ?_) (fun u1 h2 E => ?_)
      · have x9 : k9 = 1 := zerr (E.symm.trans (etg.trans hc))
        subst x9
        exact absurd (fRG_requireStarted_c h2) (by decide)
      · skip
        refine zcallo (va_runV (As := []) (rest := []) ⟨hx, hb, hml, hown, zno⟩ (tRG_requireStarted l dC dI cI cZ cJ cA a0 s0 o b P S s.heap.size gP gS u1 h2) (zcw 0 (hB.word (zm3 k3_58) rfl) (hB.word (zm1 k1_1) rfl) (hB.word (zm3 k3_55) rfl) (hB.word (zm3 k3_57) rfl) (k2_selects_private (by decide) (hB.word (zm1 k1_18) rfl) (hB.word (zm3 k3_56) rfl) (hB.word (zm3 k3_57) rfl)) rfl rfl (by decide +kernel) ⟨Nat.le_of_ble_eq_true rfl, Nat.le_of_ble_eq_true rfl⟩) ⟨zP_blind, va_recv hK hP (ci := 0) (q0 := 0) rfl rfl, zP_pre hP hK hD hAD (zB_on hB hA0 hS)⟩ rfl rfl hl.1 rfl (lv_room (Nat.le_of_ble_eq_true rfl)) dRG_ticks_23 ⟨Nat.le_of_ble_eq_true rfl, Nat.le_of_ble_eq_true rfl⟩) hS hA (fun H3 locs hz1 hk1 hS => ?_)
        have hP := zKeep hP hk1
        refine lv_aload_n hx hb dRG_ticks_26 rfl (lv_at hl 0 rfl) ?_
        refine c_get_3 hx hb (hB.words zU_RG) hown hK hP (hB.word (zm2 k2_2) rfl) dRG_ticks_27 E (fun k4 ek4 E => ?_)
        refine lv_iload_n hx hb dRG_ticks_30 rfl (lv_at hl 1 rfl) ?_
        refine z_iadd hx hb dRG_ticks_31 E (fun k5 ek5 E => ?_)
        refine lv_sipush (v := 20000) hx hb dRG_ticks_32 (by decide) ?_
        refine z_icmp_le (tgt := 48) hx hb dRG_ticks_35 (by decide) E (fun c_35 E => ?_) (fun c_35 E => ?_)
        · have r_k5 : zr (-2147483648) 20000 k5 := zle_x (zr_any k5) (show zr 20000 20000 20000 from by decide) c_35 (by decide)
          cases E.symm.trans (etg.trans hc)
        · have r_k5 : zr 20001 2147483647 k5 := zlt_y (show zr 20000 20000 20000 from by decide) (zr_any k5) (znle c_35) (by decide)
          cases E.symm.trans (etg.trans hc)
    · have r_x0 : zr 201 2147483647 x0 := zlt_y (show zr 200 200 200 from by decide) r_x0 (znle c_9) (by decide)
      exact hJ12 s.heap [] ls  E hP hS (lv_sub hl [] rfl)
set_option maxHeartbeats 4000000 in
set_option maxRecDepth 100000 in
theorem tRG_ticks_T2 (l : Launch) (dC : Nat → ClassId) (dI : Nat → Nat → Nat) (cI cZ cJ cA : ClassId) (a0 : Array Value) (s0 : State) (o b : Nat → Nat) (hfl : l.flags = Jvm.pinnedFlags ++ [Jvm.noTraceFlag]) (P S : ZS) (sz : Nat) (x0 : Int32) (gP : cok P) (gS : cok S) (hc : fRG_ticks P S x0 = .error 2) : tq_Met l yRG_ticks [Cond.code yRG_ticks bRG_ticks 4 (some .int)] ({ frames := 7, cells := 1, slots := 6, locals := 110 } : Room) (zP zCl dC dI (zTZ cI cZ cJ cA) a0 s0 [.ref (o 0), .int x0] sz (CW cI cZ cA o b P S)) (tq_Q "java/lang/IllegalStateException") 1 6 (zN sz) := by
  refine tq_ofW (cc := bRG_ticks) (maxL := 4) (ret := (some .int)) (by decide) rfl ?_
  intro p e s m args below meth c s₁ B hml htab hv
  obtain ⟨rfl, hsz, hP, hK, hD0, hB⟩ := hv
  have hx := B.exec
  have hb := B.bytes
  have hr := B.returns
  have hown : s.vm.findClass "RingGuard" = some m.cls := findClass_of_methodNamed B.named
  have hlocks := B.notSynchronized
  subst hsz
  have hD := hD0
  have hA0 : ∀ q, zN s.heap.size q → s0.heap.size ≤ q := zA1 hB
  have hAD : ∀ q, zN s0.heap.size q → s0.heap.size ≤ q := fun _ h => h
  have hA : ∀ q : Nat, s.heap.size ≤ q → zN s.heap.size q := fun _ h => h
  have hS : va_S (zN s.heap.size) s.heap s.heap [] := va_S.rf
  have hl := lv_entry ([.ref (o 0), .int x0]) (n := 4) (Nat.le_of_ble_eq_true rfl)
  rw [lg_entry_eq]
  generalize (lg_sl ([.ref (o 0), .int x0]) ++ List.replicate (4 - (lg_sl ([.ref (o 0), .int x0])).length) Slot.unset).toArray = ls at hl ⊢
  have hfl := hfl
  have hl : lv_has ls 4 [(0, .ref (o 0)), (1, .int x0)] := hl
  refine zgenQ (fun Q hQe => ?_)
  obtain ⟨tg, etg⟩ : ∃ z, z = fRG_ticks P S x0 := ⟨_, rfl⟩
  have E := etg
  unfold fRG_ticks at E
  have hJ12 : ∀ (H : Heap) (locs : List Loc) (ls : Array Slot), tg = fRG_ticks_12 P S  → va_P (dC, dI) zCl (CW cI cZ cA o b P S) H → va_S (zN s.heap.size) s.heap H locs → lv_has ls 4 [] → W p l e ({ frames := 7, cells := 1, slots := 6, locals := 110 } : Room) s m ([.ref (o 0), .int x0] : List Value).toArray below meth c H locs 0 0 Q (F0 m 12 ls []) := by
    intro H locs ls E hP hS hl
    unfold fRG_ticks_12 at E
    cases E.symm.trans (etg.trans hc)
  refine lv_iload_n hx hb dRG_ticks_0 rfl (lv_at hl 1 rfl) ?_
  refine lv_iconst (v := 1) hx hb dRG_ticks_1 (by decide) ?_
  refine z_icmp_lt (tgt := 12) hx hb dRG_ticks_2 (by decide) E (fun c_2 E => ?_) (fun c_2 E => ?_)
  · have r_x0 : zr (-2147483648) 0 x0 := zlt_x (zr_any x0) (show zr 1 1 1 from by decide) c_2 (by decide)
    exact hJ12 s.heap [] ls  E hP hS (lv_sub hl [] rfl)
  · have r_x0 : zr 1 2147483647 x0 := zle_y (show zr 1 1 1 from by decide) (zr_any x0) (znlt c_2) (by decide)
    refine lv_iload_n hx hb dRG_ticks_5 rfl (lv_at hl 1 rfl) ?_
    refine lv_sipush (v := 200) hx hb dRG_ticks_6 (by decide) ?_
    refine z_icmp_le (tgt := 22) hx hb dRG_ticks_9 (by decide) E (fun c_9 E => ?_) (fun c_9 E => ?_)
    · have r_x0 : zr 1 200 x0 := zle_x r_x0 (show zr 200 200 200 from by decide) c_9 (by decide)
      refine lv_aload_n hx hb dRG_ticks_22 rfl (lv_at hl 0 rfl) ?_
      refine z_bind E (fun k9 h2 E => ?_) (fun u1 h2 E => ?_)
      · have x9 : k9 = 2 := zerr (E.symm.trans (etg.trans hc))
        subst x9
        rw [hQe]
        exact zpass (tq_runV (As := []) (rest := []) ⟨hx, hb, hml, hown, zno⟩ (tRG_requireStarted_T2 l dC dI cI cZ cJ cA a0 s0 o b hfl P S s.heap.size gP gS h2) (zcw 0 (hB.word (zm3 k3_58) rfl) (hB.word (zm1 k1_1) rfl) (hB.word (zm3 k3_55) rfl) (hB.word (zm3 k3_57) rfl) (k2_selects_private (by decide) (hB.word (zm1 k1_18) rfl) (hB.word (zm3 k3_56) rfl) (hB.word (zm3 k3_57) rfl)) rfl rfl (by decide +kernel) ⟨Nat.le_of_ble_eq_true rfl, Nat.le_of_ble_eq_true rfl⟩) ⟨zP_blind, va_recv hK hP (ci := 0) (q0 := 0) rfl rfl, zP_pre hP hK hD hAD (zB_on hB hA0 hS)⟩ rfl rfl hl.1 rfl (lv_room (Nat.le_of_ble_eq_true rfl)) dRG_ticks_23 ⟨Nat.le_of_ble_eq_true rfl, Nat.le_of_ble_eq_true rfl⟩) htab hlocks hS (Nat.le_of_ble_eq_true rfl) (Nat.le_of_ble_eq_true rfl)
      · skip
        refine zcallo (va_runV (As := []) (rest := []) ⟨hx, hb, hml, hown, zno⟩ (tRG_requireStarted l dC dI cI cZ cJ cA a0 s0 o b P S s.heap.size gP gS u1 h2) (zcw 0 (hB.word (zm3 k3_58) rfl) (hB.word (zm1 k1_1) rfl) (hB.word (zm3 k3_55) rfl) (hB.word (zm3 k3_57) rfl) (k2_selects_private (by decide) (hB.word (zm1 k1_18) rfl) (hB.word (zm3 k3_56) rfl) (hB.word (zm3 k3_57) rfl)) rfl rfl (by decide +kernel) ⟨Nat.le_of_ble_eq_true rfl, Nat.le_of_ble_eq_true rfl⟩) ⟨zP_blind, va_recv hK hP (ci := 0) (q0 := 0) rfl rfl, zP_pre hP hK hD hAD (zB_on hB hA0 hS)⟩ rfl rfl hl.1 rfl (lv_room (Nat.le_of_ble_eq_true rfl)) dRG_ticks_23 ⟨Nat.le_of_ble_eq_true rfl, Nat.le_of_ble_eq_true rfl⟩) hS hA (fun H3 locs hz1 hk1 hS => ?_)
        have hP := zKeep hP hk1
        refine lv_aload_n hx hb dRG_ticks_26 rfl (lv_at hl 0 rfl) ?_
        refine c_get_3 hx hb (hB.words zU_RG) hown hK hP (hB.word (zm2 k2_2) rfl) dRG_ticks_27 E (fun k4 ek4 E => ?_)
        refine lv_iload_n hx hb dRG_ticks_30 rfl (lv_at hl 1 rfl) ?_
        refine z_iadd hx hb dRG_ticks_31 E (fun k5 ek5 E => ?_)
        refine lv_sipush (v := 20000) hx hb dRG_ticks_32 (by decide) ?_
        refine z_icmp_le (tgt := 48) hx hb dRG_ticks_35 (by decide) E (fun c_35 E => ?_) (fun c_35 E => ?_)
        · have r_k5 : zr (-2147483648) 20000 k5 := zle_x (zr_any k5) (show zr 20000 20000 20000 from by decide) c_35 (by decide)
          cases E.symm.trans (etg.trans hc)
        · have r_k5 : zr 20001 2147483647 k5 := zlt_y (show zr 20000 20000 20000 from by decide) (zr_any k5) (znle c_35) (by decide)
          obtain ⟨qs, hZ⟩ := hB.str (zm3 k3_158)
          rw [hQe]
          exact zthrow hfl hx hb hown (hB.word (zm2 k2_71) rfl) (hB.word (zm1 k1_13) rfl) hZ (by decide) (hB.words zO_66) (by rw [hml]; exact hl.1) htab hlocks dRG_ticks_38 dRG_ticks_41 dRG_ticks_42 dRG_ticks_44 dRG_ticks_47 (Nat.le_of_ble_eq_true rfl) (Nat.le_of_ble_eq_true rfl) (Nat.le_of_ble_eq_true rfl) (Nat.le_of_ble_eq_true rfl) hS rfl rfl
    · have r_x0 : zr 201 2147483647 x0 := zlt_y (show zr 200 200 200 from by decide) r_x0 (znle c_9) (by decide)
      exact hJ12 s.heap [] ls  E hP hS (lv_sub hl [] rfl)
noncomputable def fRG_host (P S : ZS) (x0 : Int32) (x1 : Int32) : Except Nat (ZS × Int32) := zbind (fRG_requireHost P S x0) (fun u1 => zbind (fRG_requireBridge P S x1) (fun u4 => zbind (fRG_requireStarted P S) (fun u7 => .ok (zl (S.F 23 (x0 : Int32).toNatClampNeg) (fun k10 => zl (S.setF 23 (x0 : Int32).toNatClampNeg x1) (fun S11 => zl (fTA_forgetHost P S11 x0) (fun S14 => (S14, k10))))))))
set_option maxHeartbeats 4000000 in
set_option maxRecDepth 100000 in
theorem tRG_host (l : Launch) (dC : Nat → ClassId) (dI : Nat → Nat → Nat) (cI cZ cJ cA : ClassId) (a0 : Array Value) (s0 : State) (o b : Nat → Nat) (P S : ZS) (sz : Nat) (x0 : Int32) (x1 : Int32) (gP : cok P) (gS : cok S) (y : ZS × Int32) (hc : fRG_host P S x0 x1 = .ok y) : Met l yRG_host [Cond.code yRG_host bRG_host 4 (some .int)] ({ frames := 1, cells := 0, slots := 0, locals := 23 } : Room) (zP zCl dC dI (zTZ cI cZ cJ cA) a0 s0 [.ref (o 0), .int x0, .int x1] sz (CW cI cZ cA o b P S)) (zQH zCl dC dI (fun (r : Int32) (x9 : ZS) => (x9, r) = y ∧ cok x9 ∧ zr (-1) 47 r) (fun x9 : ZS => (CW cI cZ cA o b P x9)) (va_A (CW cI cZ cA o b P S) sz)) 0 0 (va_A (CW cI cZ cA o b P S) sz) := by
  refine Met.ofW (cc := bRG_host) (maxL := 4) (ret := (some .int)) (by decide) rfl ?_
  intro p e s m args below meth c s₁ B hml hv
  obtain ⟨rfl, hsz, hP, hK, hD0, hB⟩ := hv
  have hx := B.exec
  have hb := B.bytes
  have hr := B.returns
  have hown : s.vm.findClass "RingGuard" = some m.cls := findClass_of_methodNamed B.named
  have hlocks := B.notSynchronized
  subst hsz
  have hD := hD0.self (sz := s.heap.size)
  have hA0 := zA0 hD0 hB
  generalize hAe : va_A (CW cI cZ cA o b P S) s.heap.size = A at hD hA0 ⊢
  have hAD := hA0
  have hA : ∀ q : Nat, s.heap.size ≤ q → A q := fun q h => by rw [← hAe]; exact Or.inr h
  have hS : va_S A s.heap s.heap [] := va_S.rf
  have hl := lv_entry ([.ref (o 0), .int x0, .int x1]) (n := 4) (Nat.le_of_ble_eq_true rfl)
  rw [lg_entry_eq]
  generalize (lg_sl ([.ref (o 0), .int x0, .int x1]) ++ List.replicate (4 - (lg_sl ([.ref (o 0), .int x0, .int x1])).length) Slot.unset).toArray = ls at hl ⊢
  have hl : lv_has ls 4 [(0, .ref (o 0)), (1, .int x0), (2, .int x1)] := hl
  refine zgenQ (fun Q hQe => ?_)
  obtain ⟨tg, etg⟩ : ∃ z, z = fRG_host P S x0 x1 := ⟨_, rfl⟩
  have E := etg
  unfold fRG_host at E
  refine lv_aload_n hx hb dRG_host_0 rfl (lv_at hl 0 rfl) ?_
  refine lv_iload_n hx hb dRG_host_1 rfl (lv_at hl 1 rfl) ?_
  refine z_bind E (fun k9 h2 E => ?_) (fun u1 h2 E => ?_)
  · cases E.symm.trans (etg.trans hc)
  · skip
    refine zcallo (va_runV (As := [.int x0]) (rest := []) ⟨hx, hb, hml, hown, zno⟩ (tRG_requireHost l dC dI cI cZ cJ cA a0 s0 o b P S s.heap.size x0 gP gS u1 h2) (zcw 1 (hB.word (zm4 k4_30) rfl) (hB.word (zm1 k1_1) rfl) (hB.word (zm4 k4_27) rfl) (hB.word (zm4 k4_29) rfl) (k2_selects_private (by decide) (hB.word (zm1 k1_18) rfl) (hB.word (zm4 k4_28) rfl) (hB.word (zm4 k4_29) rfl)) rfl rfl (by decide +kernel) ⟨Nat.le_of_ble_eq_true rfl, Nat.le_of_ble_eq_true rfl⟩) ⟨zP_blind, va_recv hK hP (ci := 0) (q0 := 0) rfl rfl, zP_pre hP hK hD hAD (zB_on hB hA0 hS)⟩ rfl rfl hl.1 rfl (lv_room (Nat.le_of_ble_eq_true rfl)) dRG_host_2 ⟨Nat.le_of_ble_eq_true rfl, Nat.le_of_ble_eq_true rfl⟩) hS hA (fun H3 locs hz1 hk1 hS => ?_)
    have hP := zKeep hP hk1
    have r_x0 : zr 0 63 x0 := zk_rH gP h2
    refine lv_aload_n hx hb dRG_host_5 rfl (lv_at hl 0 rfl) ?_
    refine lv_iload_n hx hb dRG_host_6 rfl (lv_at hl 2 rfl) ?_
    refine z_bind E (fun k9 h5 E => ?_) (fun u4 h5 E => ?_)
    · cases E.symm.trans (etg.trans hc)
    · skip
      refine zcallo (va_runV (As := [.int x1]) (rest := []) ⟨hx, hb, hml, hown, zno⟩ (tRG_requireBridge l dC dI cI cZ cJ cA a0 s0 o b P S H3.size x1 gP gS u4 h5) (zcw 1 (hB.word (zm2 k2_150) rfl) (hB.word (zm1 k1_1) rfl) (hB.word (zm2 k2_147) rfl) (hB.word (zm2 k2_149) rfl) (k2_selects_private (by decide) (hB.word (zm1 k1_18) rfl) (hB.word (zm2 k2_148) rfl) (hB.word (zm2 k2_149) rfl)) rfl rfl (by decide +kernel) ⟨Nat.le_of_ble_eq_true rfl, Nat.le_of_ble_eq_true rfl⟩) ⟨zP_blind, va_recv hK hP (ci := 0) (q0 := 0) rfl rfl, zP_pre hP hK hD hAD (zB_on hB hA0 hS)⟩ rfl rfl hl.1 rfl (lv_room (Nat.le_of_ble_eq_true rfl)) dRG_host_7 ⟨Nat.le_of_ble_eq_true rfl, Nat.le_of_ble_eq_true rfl⟩) hS hA (fun H6 locs hz1 hk1 hS => ?_)
      have hP := zKeep hP hk1
      have r_x1 : zr 0 47 x1 := zk_rB1 gP h5
      have qlb_x1 : x1.toInt < (P.I 0).toInt := zk_rB2 gP h5
      refine lv_aload_n hx hb dRG_host_10 rfl (lv_at hl 0 rfl) ?_
      refine z_bind E (fun k9 h8 E => ?_) (fun u7 h8 E => ?_)
      · cases E.symm.trans (etg.trans hc)
      · skip
        refine zcallo (va_runV (As := []) (rest := []) ⟨hx, hb, hml, hown, zno⟩ (tRG_requireStarted l dC dI cI cZ cJ cA a0 s0 o b P S H6.size gP gS u7 h8) (zcw 0 (hB.word (zm3 k3_58) rfl) (hB.word (zm1 k1_1) rfl) (hB.word (zm3 k3_55) rfl) (hB.word (zm3 k3_57) rfl) (k2_selects_private (by decide) (hB.word (zm1 k1_18) rfl) (hB.word (zm3 k3_56) rfl) (hB.word (zm3 k3_57) rfl)) rfl rfl (by decide +kernel) ⟨Nat.le_of_ble_eq_true rfl, Nat.le_of_ble_eq_true rfl⟩) ⟨zP_blind, va_recv hK hP (ci := 0) (q0 := 0) rfl rfl, zP_pre hP hK hD hAD (zB_on hB hA0 hS)⟩ rfl rfl hl.1 rfl (lv_room (Nat.le_of_ble_eq_true rfl)) dRG_host_11 ⟨Nat.le_of_ble_eq_true rfl, Nat.le_of_ble_eq_true rfl⟩) hS hA (fun H9 locs hz1 hk1 hS => ?_)
        have hP := zKeep hP hk1
        have E := zokE E (etg.trans hc)
        refine lv_aload_n hx hb dRG_host_14 rfl (lv_at hl 0 rfl) ?_
        refine c_getO_RG_frames hx hb (hB.words zU_RG) hown hK hP (hB.word (zm1 k1_239) rfl) dRG_host_15 ?_
        refine c_getA_23 hx hb (hB.words zU_FR) hown hK hP (hB.word (zm1 k1_190) rfl) dRG_host_18 ?_
        refine lv_iload_n hx hb dRG_host_21 rfl (lv_at hl 1 rfl) ?_
        refine c_aldS hx hb hK hP 23 (by decide) rfl r_x0 (by decide) dRG_host_22 E (fun k10 ek10 E => ?_)
        have r_k10 : zr (-1) 47 k10 := by rw [ek10]; exact gS.1 23 _
        refine lv_istore_n (lv' := [(3, .int k10), (0, .ref (o 0)), (1, .int x0), (2, .int x1)]) hx hb dRG_host_23 rfl hl (by decide) rfl (fun ls hl => ?_)
        refine lv_aload_n hx hb dRG_host_24 rfl (lv_at hl 1 rfl) ?_
        refine c_getO_RG_frames hx hb (hB.words zU_RG) hown hK hP (hB.word (zm1 k1_239) rfl) dRG_host_25 ?_
        refine c_getA_23 hx hb (hB.words zU_FR) hown hK hP (hB.word (zm1 k1_190) rfl) dRG_host_28 ?_
        refine lv_iload_n hx hb dRG_host_31 rfl (lv_at hl 2 rfl) ?_
        refine lv_iload_n hx hb dRG_host_32 rfl (lv_at hl 3 rfl) ?_
        refine c_astS hx hb hK hP hD hS 23 (by decide) rfl r_x0 (by decide) dRG_host_33 E (fun S11 H12 locs eS11 E hP hD hS => ?_)
        have gS11 : cok S11 := by rw [eS11]; exact gS.setF (k := 23) (zr_mono r_x1 (by decide)) (Or.inl (by decide))
        refine lv_aload_n hx hb dRG_host_34 rfl (lv_at hl 1 rfl) ?_
        refine c_getO_RG_tables hx hb (hB.words zU_RG) hown hK hP (hB.word (zm1 k1_237) rfl) dRG_host_35 ?_
        refine lv_iload_n hx hb dRG_host_38 rfl (lv_at hl 2 rfl) ?_
        refine zcV (va_runV (As := [.int x0]) (rest := []) ⟨hx, hb, hml, hown, zno⟩ (tTA_forgetHost l dC dI cI cZ cJ cA a0 s0 o b P S11 H12.size x0 gP gS11 r_x0) (zcw 1 (hB.word (zm4 k4_35) rfl) (hB.word (zm1 k1_5) rfl) (hB.word (zm4 k4_32) rfl) (hB.word (zm4 k4_33) rfl) (hB.word (zm4 k4_34) rfl) rfl rfl (by decide +kernel) ⟨Nat.le_of_ble_eq_true rfl, Nat.le_of_ble_eq_true rfl⟩) ⟨zP_blind, va_recv hK hP (ci := 3) (q0 := 3) rfl rfl, zP_pre hP hK hD hAD (zB_on hB hA0 hS)⟩ rfl rfl hl.1 rfl (lv_room (Nat.le_of_ble_eq_true rfl)) dRG_host_39 ⟨Nat.le_of_ble_eq_true rfl, Nat.le_of_ble_eq_true rfl⟩) hD hS hA (fun S14 H13 locs h15 hP hD hS => ?_)
        have E := zl_s E h15.1
        have gS14 := h15.2
        refine lv_iload_n hx hb dRG_host_42 rfl (lv_at hl 0 rfl) ?_
        rw [hQe]
        exact W.iret (v := k10) hx hb hr (fun t ht hW => ⟨⟨k10, S14, rfl, ⟨E.symm, gS14, r_k10⟩, by rw [ht]; exact hP, hD⟩, hS.F ht⟩) hS.2.2 dRG_host_43
set_option maxHeartbeats 4000000 in
set_option maxRecDepth 100000 in
theorem tRG_host_T1 (l : Launch) (dC : Nat → ClassId) (dI : Nat → Nat → Nat) (cI cZ cJ cA : ClassId) (a0 : Array Value) (s0 : State) (o b : Nat → Nat) (hfl : l.flags = Jvm.pinnedFlags ++ [Jvm.noTraceFlag]) (P S : ZS) (sz : Nat) (x0 : Int32) (x1 : Int32) (gP : cok P) (gS : cok S) (hc : fRG_host P S x0 x1 = .error 1) : tq_Met l yRG_host [Cond.code yRG_host bRG_host 4 (some .int)] ({ frames := 7, cells := 1, slots := 6, locals := 111 } : Room) (zP zCl dC dI (zTZ cI cZ cJ cA) a0 s0 [.ref (o 0), .int x0, .int x1] sz (CW cI cZ cA o b P S)) (tq_Q "java/lang/IllegalArgumentException") 1 6 (zN sz) := by
  refine tq_ofW (cc := bRG_host) (maxL := 4) (ret := (some .int)) (by decide) rfl ?_
  intro p e s m args below meth c s₁ B hml htab hv
  obtain ⟨rfl, hsz, hP, hK, hD0, hB⟩ := hv
  have hx := B.exec
  have hb := B.bytes
  have hr := B.returns
  have hown : s.vm.findClass "RingGuard" = some m.cls := findClass_of_methodNamed B.named
  have hlocks := B.notSynchronized
  subst hsz
  have hD := hD0
  have hA0 : ∀ q, zN s.heap.size q → s0.heap.size ≤ q := zA1 hB
  have hAD : ∀ q, zN s0.heap.size q → s0.heap.size ≤ q := fun _ h => h
  have hA : ∀ q : Nat, s.heap.size ≤ q → zN s.heap.size q := fun _ h => h
  have hS : va_S (zN s.heap.size) s.heap s.heap [] := va_S.rf
  have hl := lv_entry ([.ref (o 0), .int x0, .int x1]) (n := 4) (Nat.le_of_ble_eq_true rfl)
  rw [lg_entry_eq]
  generalize (lg_sl ([.ref (o 0), .int x0, .int x1]) ++ List.replicate (4 - (lg_sl ([.ref (o 0), .int x0, .int x1])).length) Slot.unset).toArray = ls at hl ⊢
  have hfl := hfl
  have hl : lv_has ls 4 [(0, .ref (o 0)), (1, .int x0), (2, .int x1)] := hl
  refine zgenQ (fun Q hQe => ?_)
  obtain ⟨tg, etg⟩ : ∃ z, z = fRG_host P S x0 x1 := ⟨_, rfl⟩
  have E := etg
  unfold fRG_host at E
  refine lv_aload_n hx hb dRG_host_0 rfl (lv_at hl 0 rfl) ?_
  refine lv_iload_n hx hb dRG_host_1 rfl (lv_at hl 1 rfl) ?_
  refine z_bind E (fun k9 h2 E => ?_) (fun u1 h2 E => ?_)
  · have x9 : k9 = 1 := zerr (E.symm.trans (etg.trans hc))
    subst x9
    rw [hQe]
    exact zpass (tq_runV (As := [.int x0]) (rest := []) ⟨hx, hb, hml, hown, zno⟩ (tRG_requireHost_T1 l dC dI cI cZ cJ cA a0 s0 o b hfl P S s.heap.size x0 gP gS h2) (zcw 1 (hB.word (zm4 k4_30) rfl) (hB.word (zm1 k1_1) rfl) (hB.word (zm4 k4_27) rfl) (hB.word (zm4 k4_29) rfl) (k2_selects_private (by decide) (hB.word (zm1 k1_18) rfl) (hB.word (zm4 k4_28) rfl) (hB.word (zm4 k4_29) rfl)) rfl rfl (by decide +kernel) ⟨Nat.le_of_ble_eq_true rfl, Nat.le_of_ble_eq_true rfl⟩) ⟨zP_blind, va_recv hK hP (ci := 0) (q0 := 0) rfl rfl, zP_pre hP hK hD hAD (zB_on hB hA0 hS)⟩ rfl rfl hl.1 rfl (lv_room (Nat.le_of_ble_eq_true rfl)) dRG_host_2 ⟨Nat.le_of_ble_eq_true rfl, Nat.le_of_ble_eq_true rfl⟩) htab hlocks hS (Nat.le_of_ble_eq_true rfl) (Nat.le_of_ble_eq_true rfl)
  · skip
    refine zcallo (va_runV (As := [.int x0]) (rest := []) ⟨hx, hb, hml, hown, zno⟩ (tRG_requireHost l dC dI cI cZ cJ cA a0 s0 o b P S s.heap.size x0 gP gS u1 h2) (zcw 1 (hB.word (zm4 k4_30) rfl) (hB.word (zm1 k1_1) rfl) (hB.word (zm4 k4_27) rfl) (hB.word (zm4 k4_29) rfl) (k2_selects_private (by decide) (hB.word (zm1 k1_18) rfl) (hB.word (zm4 k4_28) rfl) (hB.word (zm4 k4_29) rfl)) rfl rfl (by decide +kernel) ⟨Nat.le_of_ble_eq_true rfl, Nat.le_of_ble_eq_true rfl⟩) ⟨zP_blind, va_recv hK hP (ci := 0) (q0 := 0) rfl rfl, zP_pre hP hK hD hAD (zB_on hB hA0 hS)⟩ rfl rfl hl.1 rfl (lv_room (Nat.le_of_ble_eq_true rfl)) dRG_host_2 ⟨Nat.le_of_ble_eq_true rfl, Nat.le_of_ble_eq_true rfl⟩) hS hA (fun H3 locs hz1 hk1 hS => ?_)
    have hP := zKeep hP hk1
    have r_x0 : zr 0 63 x0 := zk_rH gP h2
    refine lv_aload_n hx hb dRG_host_5 rfl (lv_at hl 0 rfl) ?_
    refine lv_iload_n hx hb dRG_host_6 rfl (lv_at hl 2 rfl) ?_
    refine z_bind E (fun k9 h5 E => ?_) (fun u4 h5 E => ?_)
    · have x9 : k9 = 1 := zerr (E.symm.trans (etg.trans hc))
      subst x9
      rw [hQe]
      exact zpass (tq_runV (As := [.int x1]) (rest := []) ⟨hx, hb, hml, hown, zno⟩ (tRG_requireBridge_T1 l dC dI cI cZ cJ cA a0 s0 o b hfl P S H3.size x1 gP gS h5) (zcw 1 (hB.word (zm2 k2_150) rfl) (hB.word (zm1 k1_1) rfl) (hB.word (zm2 k2_147) rfl) (hB.word (zm2 k2_149) rfl) (k2_selects_private (by decide) (hB.word (zm1 k1_18) rfl) (hB.word (zm2 k2_148) rfl) (hB.word (zm2 k2_149) rfl)) rfl rfl (by decide +kernel) ⟨Nat.le_of_ble_eq_true rfl, Nat.le_of_ble_eq_true rfl⟩) ⟨zP_blind, va_recv hK hP (ci := 0) (q0 := 0) rfl rfl, zP_pre hP hK hD hAD (zB_on hB hA0 hS)⟩ rfl rfl hl.1 rfl (lv_room (Nat.le_of_ble_eq_true rfl)) dRG_host_7 ⟨Nat.le_of_ble_eq_true rfl, Nat.le_of_ble_eq_true rfl⟩) htab hlocks hS (Nat.le_of_ble_eq_true rfl) (Nat.le_of_ble_eq_true rfl)
    · skip
      refine zcallo (va_runV (As := [.int x1]) (rest := []) ⟨hx, hb, hml, hown, zno⟩ (tRG_requireBridge l dC dI cI cZ cJ cA a0 s0 o b P S H3.size x1 gP gS u4 h5) (zcw 1 (hB.word (zm2 k2_150) rfl) (hB.word (zm1 k1_1) rfl) (hB.word (zm2 k2_147) rfl) (hB.word (zm2 k2_149) rfl) (k2_selects_private (by decide) (hB.word (zm1 k1_18) rfl) (hB.word (zm2 k2_148) rfl) (hB.word (zm2 k2_149) rfl)) rfl rfl (by decide +kernel) ⟨Nat.le_of_ble_eq_true rfl, Nat.le_of_ble_eq_true rfl⟩) ⟨zP_blind, va_recv hK hP (ci := 0) (q0 := 0) rfl rfl, zP_pre hP hK hD hAD (zB_on hB hA0 hS)⟩ rfl rfl hl.1 rfl (lv_room (Nat.le_of_ble_eq_true rfl)) dRG_host_7 ⟨Nat.le_of_ble_eq_true rfl, Nat.le_of_ble_eq_true rfl⟩) hS hA (fun H6 locs hz1 hk1 hS => ?_)
      have hP := zKeep hP hk1
      have r_x1 : zr 0 47 x1 := zk_rB1 gP h5
      have qlb_x1 : x1.toInt < (P.I 0).toInt := zk_rB2 gP h5
      refine lv_aload_n hx hb dRG_host_10 rfl (lv_at hl 0 rfl) ?_
      refine z_bind E (fun k9 h8 E => ?_) (fun u7 h8 E => ?_)
      · have x9 : k9 = 1 := zerr (E.symm.trans (etg.trans hc))
        subst x9
        exact absurd (fRG_requireStarted_c h8) (by decide)
      · skip
        refine zcallo (va_runV (As := []) (rest := []) ⟨hx, hb, hml, hown, zno⟩ (tRG_requireStarted l dC dI cI cZ cJ cA a0 s0 o b P S H6.size gP gS u7 h8) (zcw 0 (hB.word (zm3 k3_58) rfl) (hB.word (zm1 k1_1) rfl) (hB.word (zm3 k3_55) rfl) (hB.word (zm3 k3_57) rfl) (k2_selects_private (by decide) (hB.word (zm1 k1_18) rfl) (hB.word (zm3 k3_56) rfl) (hB.word (zm3 k3_57) rfl)) rfl rfl (by decide +kernel) ⟨Nat.le_of_ble_eq_true rfl, Nat.le_of_ble_eq_true rfl⟩) ⟨zP_blind, va_recv hK hP (ci := 0) (q0 := 0) rfl rfl, zP_pre hP hK hD hAD (zB_on hB hA0 hS)⟩ rfl rfl hl.1 rfl (lv_room (Nat.le_of_ble_eq_true rfl)) dRG_host_11 ⟨Nat.le_of_ble_eq_true rfl, Nat.le_of_ble_eq_true rfl⟩) hS hA (fun H9 locs hz1 hk1 hS => ?_)
        have hP := zKeep hP hk1
        cases E.symm.trans (etg.trans hc)
set_option maxHeartbeats 4000000 in
set_option maxRecDepth 100000 in
theorem tRG_host_T2 (l : Launch) (dC : Nat → ClassId) (dI : Nat → Nat → Nat) (cI cZ cJ cA : ClassId) (a0 : Array Value) (s0 : State) (o b : Nat → Nat) (hfl : l.flags = Jvm.pinnedFlags ++ [Jvm.noTraceFlag]) (P S : ZS) (sz : Nat) (x0 : Int32) (x1 : Int32) (gP : cok P) (gS : cok S) (hc : fRG_host P S x0 x1 = .error 2) : tq_Met l yRG_host [Cond.code yRG_host bRG_host 4 (some .int)] ({ frames := 7, cells := 1, slots := 6, locals := 111 } : Room) (zP zCl dC dI (zTZ cI cZ cJ cA) a0 s0 [.ref (o 0), .int x0, .int x1] sz (CW cI cZ cA o b P S)) (tq_Q "java/lang/IllegalStateException") 1 6 (zN sz) := by
  refine tq_ofW (cc := bRG_host) (maxL := 4) (ret := (some .int)) (by decide) rfl ?_
  intro p e s m args below meth c s₁ B hml htab hv
  obtain ⟨rfl, hsz, hP, hK, hD0, hB⟩ := hv
  have hx := B.exec
  have hb := B.bytes
  have hr := B.returns
  have hown : s.vm.findClass "RingGuard" = some m.cls := findClass_of_methodNamed B.named
  have hlocks := B.notSynchronized
  subst hsz
  have hD := hD0
  have hA0 : ∀ q, zN s.heap.size q → s0.heap.size ≤ q := zA1 hB
  have hAD : ∀ q, zN s0.heap.size q → s0.heap.size ≤ q := fun _ h => h
  have hA : ∀ q : Nat, s.heap.size ≤ q → zN s.heap.size q := fun _ h => h
  have hS : va_S (zN s.heap.size) s.heap s.heap [] := va_S.rf
  have hl := lv_entry ([.ref (o 0), .int x0, .int x1]) (n := 4) (Nat.le_of_ble_eq_true rfl)
  rw [lg_entry_eq]
  generalize (lg_sl ([.ref (o 0), .int x0, .int x1]) ++ List.replicate (4 - (lg_sl ([.ref (o 0), .int x0, .int x1])).length) Slot.unset).toArray = ls at hl ⊢
  have hfl := hfl
  have hl : lv_has ls 4 [(0, .ref (o 0)), (1, .int x0), (2, .int x1)] := hl
  refine zgenQ (fun Q hQe => ?_)
  obtain ⟨tg, etg⟩ : ∃ z, z = fRG_host P S x0 x1 := ⟨_, rfl⟩
  have E := etg
  unfold fRG_host at E
  refine lv_aload_n hx hb dRG_host_0 rfl (lv_at hl 0 rfl) ?_
  refine lv_iload_n hx hb dRG_host_1 rfl (lv_at hl 1 rfl) ?_
  refine z_bind E (fun k9 h2 E => ?_) (fun u1 h2 E => ?_)
  · have x9 : k9 = 2 := zerr (E.symm.trans (etg.trans hc))
    subst x9
    exact absurd (fRG_requireHost_c h2) (by decide)
  · skip
    refine zcallo (va_runV (As := [.int x0]) (rest := []) ⟨hx, hb, hml, hown, zno⟩ (tRG_requireHost l dC dI cI cZ cJ cA a0 s0 o b P S s.heap.size x0 gP gS u1 h2) (zcw 1 (hB.word (zm4 k4_30) rfl) (hB.word (zm1 k1_1) rfl) (hB.word (zm4 k4_27) rfl) (hB.word (zm4 k4_29) rfl) (k2_selects_private (by decide) (hB.word (zm1 k1_18) rfl) (hB.word (zm4 k4_28) rfl) (hB.word (zm4 k4_29) rfl)) rfl rfl (by decide +kernel) ⟨Nat.le_of_ble_eq_true rfl, Nat.le_of_ble_eq_true rfl⟩) ⟨zP_blind, va_recv hK hP (ci := 0) (q0 := 0) rfl rfl, zP_pre hP hK hD hAD (zB_on hB hA0 hS)⟩ rfl rfl hl.1 rfl (lv_room (Nat.le_of_ble_eq_true rfl)) dRG_host_2 ⟨Nat.le_of_ble_eq_true rfl, Nat.le_of_ble_eq_true rfl⟩) hS hA (fun H3 locs hz1 hk1 hS => ?_)
    have hP := zKeep hP hk1
    have r_x0 : zr 0 63 x0 := zk_rH gP h2
    refine lv_aload_n hx hb dRG_host_5 rfl (lv_at hl 0 rfl) ?_
    refine lv_iload_n hx hb dRG_host_6 rfl (lv_at hl 2 rfl) ?_
    refine z_bind E (fun k9 h5 E => ?_) (fun u4 h5 E => ?_)
    · have x9 : k9 = 2 := zerr (E.symm.trans (etg.trans hc))
      subst x9
      exact absurd (fRG_requireBridge_c h5) (by decide)
    · skip
      refine zcallo (va_runV (As := [.int x1]) (rest := []) ⟨hx, hb, hml, hown, zno⟩ (tRG_requireBridge l dC dI cI cZ cJ cA a0 s0 o b P S H3.size x1 gP gS u4 h5) (zcw 1 (hB.word (zm2 k2_150) rfl) (hB.word (zm1 k1_1) rfl) (hB.word (zm2 k2_147) rfl) (hB.word (zm2 k2_149) rfl) (k2_selects_private (by decide) (hB.word (zm1 k1_18) rfl) (hB.word (zm2 k2_148) rfl) (hB.word (zm2 k2_149) rfl)) rfl rfl (by decide +kernel) ⟨Nat.le_of_ble_eq_true rfl, Nat.le_of_ble_eq_true rfl⟩) ⟨zP_blind, va_recv hK hP (ci := 0) (q0 := 0) rfl rfl, zP_pre hP hK hD hAD (zB_on hB hA0 hS)⟩ rfl rfl hl.1 rfl (lv_room (Nat.le_of_ble_eq_true rfl)) dRG_host_7 ⟨Nat.le_of_ble_eq_true rfl, Nat.le_of_ble_eq_true rfl⟩) hS hA (fun H6 locs hz1 hk1 hS => ?_)
      have hP := zKeep hP hk1
      have r_x1 : zr 0 47 x1 := zk_rB1 gP h5
      have qlb_x1 : x1.toInt < (P.I 0).toInt := zk_rB2 gP h5
      refine lv_aload_n hx hb dRG_host_10 rfl (lv_at hl 0 rfl) ?_
      refine z_bind E (fun k9 h8 E => ?_) (fun u7 h8 E => ?_)
      · have x9 : k9 = 2 := zerr (E.symm.trans (etg.trans hc))
        subst x9
        rw [hQe]
        exact zpass (tq_runV (As := []) (rest := []) ⟨hx, hb, hml, hown, zno⟩ (tRG_requireStarted_T2 l dC dI cI cZ cJ cA a0 s0 o b hfl P S H6.size gP gS h8) (zcw 0 (hB.word (zm3 k3_58) rfl) (hB.word (zm1 k1_1) rfl) (hB.word (zm3 k3_55) rfl) (hB.word (zm3 k3_57) rfl) (k2_selects_private (by decide) (hB.word (zm1 k1_18) rfl) (hB.word (zm3 k3_56) rfl) (hB.word (zm3 k3_57) rfl)) rfl rfl (by decide +kernel) ⟨Nat.le_of_ble_eq_true rfl, Nat.le_of_ble_eq_true rfl⟩) ⟨zP_blind, va_recv hK hP (ci := 0) (q0 := 0) rfl rfl, zP_pre hP hK hD hAD (zB_on hB hA0 hS)⟩ rfl rfl hl.1 rfl (lv_room (Nat.le_of_ble_eq_true rfl)) dRG_host_11 ⟨Nat.le_of_ble_eq_true rfl, Nat.le_of_ble_eq_true rfl⟩) htab hlocks hS (Nat.le_of_ble_eq_true rfl) (Nat.le_of_ble_eq_true rfl)
      · skip
        refine zcallo (va_runV (As := []) (rest := []) ⟨hx, hb, hml, hown, zno⟩ (tRG_requireStarted l dC dI cI cZ cJ cA a0 s0 o b P S H6.size gP gS u7 h8) (zcw 0 (hB.word (zm3 k3_58) rfl) (hB.word (zm1 k1_1) rfl) (hB.word (zm3 k3_55) rfl) (hB.word (zm3 k3_57) rfl) (k2_selects_private (by decide) (hB.word (zm1 k1_18) rfl) (hB.word (zm3 k3_56) rfl) (hB.word (zm3 k3_57) rfl)) rfl rfl (by decide +kernel) ⟨Nat.le_of_ble_eq_true rfl, Nat.le_of_ble_eq_true rfl⟩) ⟨zP_blind, va_recv hK hP (ci := 0) (q0 := 0) rfl rfl, zP_pre hP hK hD hAD (zB_on hB hA0 hS)⟩ rfl rfl hl.1 rfl (lv_room (Nat.le_of_ble_eq_true rfl)) dRG_host_11 ⟨Nat.le_of_ble_eq_true rfl, Nat.le_of_ble_eq_true rfl⟩) hS hA (fun H9 locs hz1 hk1 hS => ?_)
        have hP := zKeep hP hk1
        cases E.symm.trans (etg.trans hc)
noncomputable def fRG_learned (P S : ZS) (x0 : Int32) (x1 : Int32) (x2 : Int32) : Except Nat (Int32) := zbind (fRG_requireBridge P S x0) (fun u1 => zbind (fRG_requireTag P S x1) (fun u4 => zbind (fRG_requireHost P S x2) (fun u7 => .ok (zl (S.I 3) (fun k10 => zl (fTA_linkTo P S x0 x1 x2 k10) (fun k12 => k12))))))
set_option maxHeartbeats 4000000 in
set_option maxRecDepth 100000 in
theorem tRG_learned (l : Launch) (dC : Nat → ClassId) (dI : Nat → Nat → Nat) (cI cZ cJ cA : ClassId) (a0 : Array Value) (s0 : State) (o b : Nat → Nat) (P S : ZS) (sz : Nat) (x0 : Int32) (x1 : Int32) (x2 : Int32) (gP : cok P) (gS : cok S) (y : Int32) (hc : fRG_learned P S x0 x1 x2 = .ok y) : Met l yRG_learned [Cond.code yRG_learned bRG_learned 4 (some .int)] ({ frames := 1, cells := 0, slots := 0, locals := 25 } : Room) (zP zCl dC dI (zTZ cI cZ cJ cA) a0 s0 [.ref (o 0), .int x0, .int x1, .int x2] sz (CW cI cZ cA o b P S)) (zQp (fun r => r = y ∧ True) sz) 0 0 (zN sz) := by
  refine Met.ofW (cc := bRG_learned) (maxL := 4) (ret := (some .int)) (by decide) rfl ?_
  intro p e s m args below meth c s₁ B hml hv
  obtain ⟨rfl, hsz, hP, hK, hD0, hB⟩ := hv
  have hx := B.exec
  have hb := B.bytes
  have hr := B.returns
  have hown : s.vm.findClass "RingGuard" = some m.cls := findClass_of_methodNamed B.named
  have hlocks := B.notSynchronized
  subst hsz
  have hD := hD0
  have hA0 : ∀ q, zN s.heap.size q → s0.heap.size ≤ q := zA1 hB
  have hAD : ∀ q, zN s0.heap.size q → s0.heap.size ≤ q := fun _ h => h
  have hA : ∀ q : Nat, s.heap.size ≤ q → zN s.heap.size q := fun _ h => h
  have hS : va_S (zN s.heap.size) s.heap s.heap [] := va_S.rf
  have hl := lv_entry ([.ref (o 0), .int x0, .int x1, .int x2]) (n := 4) (Nat.le_of_ble_eq_true rfl)
  rw [lg_entry_eq]
  generalize (lg_sl ([.ref (o 0), .int x0, .int x1, .int x2]) ++ List.replicate (4 - (lg_sl ([.ref (o 0), .int x0, .int x1, .int x2])).length) Slot.unset).toArray = ls at hl ⊢
  have hl : lv_has ls 4 [(0, .ref (o 0)), (1, .int x0), (2, .int x1), (3, .int x2)] := hl
  refine zgenQ (fun Q hQe => ?_)
  obtain ⟨tg, etg⟩ : ∃ z, z = fRG_learned P S x0 x1 x2 := ⟨_, rfl⟩
  have E := etg
  unfold fRG_learned at E
  refine lv_aload_n hx hb dRG_learned_0 rfl (lv_at hl 0 rfl) ?_
  refine lv_iload_n hx hb dRG_learned_1 rfl (lv_at hl 1 rfl) ?_
  refine z_bind E (fun k9 h2 E => ?_) (fun u1 h2 E => ?_)
  · cases E.symm.trans (etg.trans hc)
  · skip
    refine zcallo (va_runV (As := [.int x0]) (rest := []) ⟨hx, hb, hml, hown, zno⟩ (tRG_requireBridge l dC dI cI cZ cJ cA a0 s0 o b P S s.heap.size x0 gP gS u1 h2) (zcw 1 (hB.word (zm2 k2_150) rfl) (hB.word (zm1 k1_1) rfl) (hB.word (zm2 k2_147) rfl) (hB.word (zm2 k2_149) rfl) (k2_selects_private (by decide) (hB.word (zm1 k1_18) rfl) (hB.word (zm2 k2_148) rfl) (hB.word (zm2 k2_149) rfl)) rfl rfl (by decide +kernel) ⟨Nat.le_of_ble_eq_true rfl, Nat.le_of_ble_eq_true rfl⟩) ⟨zP_blind, va_recv hK hP (ci := 0) (q0 := 0) rfl rfl, zP_pre hP hK hD hAD (zB_on hB hA0 hS)⟩ rfl rfl hl.1 rfl (lv_room (Nat.le_of_ble_eq_true rfl)) dRG_learned_2 ⟨Nat.le_of_ble_eq_true rfl, Nat.le_of_ble_eq_true rfl⟩) hS hA (fun H3 locs hz1 hk1 hS => ?_)
    have hP := zKeep hP hk1
    have r_x0 : zr 0 47 x0 := zk_rB1 gP h2
    have qlb_x0 : x0.toInt < (P.I 0).toInt := zk_rB2 gP h2
    refine lv_aload_n hx hb dRG_learned_5 rfl (lv_at hl 0 rfl) ?_
    refine lv_iload_n hx hb dRG_learned_6 rfl (lv_at hl 2 rfl) ?_
    refine z_bind E (fun k9 h5 E => ?_) (fun u4 h5 E => ?_)
    · cases E.symm.trans (etg.trans hc)
    · skip
      refine zcallo (va_runV (As := [.int x1]) (rest := []) ⟨hx, hb, hml, hown, zno⟩ (tRG_requireTag l dC dI cI cZ cJ cA a0 s0 o b P S H3.size x1 gP gS u4 h5) (zcw 1 (hB.word (zm4 k4_46) rfl) (hB.word (zm1 k1_1) rfl) (hB.word (zm4 k4_43) rfl) (hB.word (zm4 k4_45) rfl) (k2_selects_private (by decide) (hB.word (zm1 k1_18) rfl) (hB.word (zm4 k4_44) rfl) (hB.word (zm4 k4_45) rfl)) rfl rfl (by decide +kernel) ⟨Nat.le_of_ble_eq_true rfl, Nat.le_of_ble_eq_true rfl⟩) ⟨zP_blind, va_recv hK hP (ci := 0) (q0 := 0) rfl rfl, zP_pre hP hK hD hAD (zB_on hB hA0 hS)⟩ rfl rfl hl.1 rfl (lv_room (Nat.le_of_ble_eq_true rfl)) dRG_learned_7 ⟨Nat.le_of_ble_eq_true rfl, Nat.le_of_ble_eq_true rfl⟩) hS hA (fun H6 locs hz1 hk1 hS => ?_)
      have hP := zKeep hP hk1
      have r_x1 : zr 0 3 x1 := zk_rT gP h5
      refine lv_aload_n hx hb dRG_learned_10 rfl (lv_at hl 0 rfl) ?_
      refine lv_iload_n hx hb dRG_learned_11 rfl (lv_at hl 3 rfl) ?_
      refine z_bind E (fun k9 h8 E => ?_) (fun u7 h8 E => ?_)
      · cases E.symm.trans (etg.trans hc)
      · skip
        refine zcallo (va_runV (As := [.int x2]) (rest := []) ⟨hx, hb, hml, hown, zno⟩ (tRG_requireHost l dC dI cI cZ cJ cA a0 s0 o b P S H6.size x2 gP gS u7 h8) (zcw 1 (hB.word (zm4 k4_30) rfl) (hB.word (zm1 k1_1) rfl) (hB.word (zm4 k4_27) rfl) (hB.word (zm4 k4_29) rfl) (k2_selects_private (by decide) (hB.word (zm1 k1_18) rfl) (hB.word (zm4 k4_28) rfl) (hB.word (zm4 k4_29) rfl)) rfl rfl (by decide +kernel) ⟨Nat.le_of_ble_eq_true rfl, Nat.le_of_ble_eq_true rfl⟩) ⟨zP_blind, va_recv hK hP (ci := 0) (q0 := 0) rfl rfl, zP_pre hP hK hD hAD (zB_on hB hA0 hS)⟩ rfl rfl hl.1 rfl (lv_room (Nat.le_of_ble_eq_true rfl)) dRG_learned_12 ⟨Nat.le_of_ble_eq_true rfl, Nat.le_of_ble_eq_true rfl⟩) hS hA (fun H9 locs hz1 hk1 hS => ?_)
        have hP := zKeep hP hk1
        have r_x2 : zr 0 63 x2 := zk_rH gP h8
        have E := zokE E (etg.trans hc)
        refine lv_aload_n hx hb dRG_learned_15 rfl (lv_at hl 0 rfl) ?_
        refine c_getO_RG_tables hx hb (hB.words zU_RG) hown hK hP (hB.word (zm1 k1_237) rfl) dRG_learned_16 ?_
        refine lv_iload_n hx hb dRG_learned_19 rfl (lv_at hl 1 rfl) ?_
        refine lv_iload_n hx hb dRG_learned_20 rfl (lv_at hl 2 rfl) ?_
        refine lv_iload_n hx hb dRG_learned_21 rfl (lv_at hl 3 rfl) ?_
        refine lv_aload_n hx hb dRG_learned_22 rfl (lv_at hl 0 rfl) ?_
        refine c_get_3 hx hb (hB.words zU_RG) hown hK hP (hB.word (zm2 k2_2) rfl) dRG_learned_23 E (fun k10 ek10 E => ?_)
        refine zcallp (va_runV (As := [.int x0, .int x1, .int x2, .int k10]) (rest := []) ⟨hx, hb, hml, hown, zno⟩ (tTA_linkTo l dC dI cI cZ cJ cA a0 s0 o b P S H9.size x0 x1 x2 k10 gP gS r_x0 r_x1 r_x2) (zcw 4 (hB.word (zm4 k4_64) rfl) (hB.word (zm1 k1_5) rfl) (hB.word (zm4 k4_100) rfl) (hB.word (zm4 k4_62) rfl) (hB.word (zm4 k4_63) rfl) rfl rfl (by decide +kernel) ⟨Nat.le_of_ble_eq_true rfl, Nat.le_of_ble_eq_true rfl⟩) ⟨zP_blind, va_recv hK hP (ci := 3) (q0 := 3) rfl rfl, zP_pre hP hK hD hAD (zB_on hB hA0 hS)⟩ rfl rfl hl.1 rfl (lv_room (Nat.le_of_ble_eq_true rfl)) dRG_learned_26 ⟨Nat.le_of_ble_eq_true rfl, Nat.le_of_ble_eq_true rfl⟩) hS hA (fun k12 H11 locs hk12 hz1 hk1 hS => ?_)
        have hP := zKeep hP hk1
        have E := zl_s E hk12.1
        rw [hQe]
        exact W.iret (v := k12) hx hb hr (fun t ht hW => ⟨⟨k12, (), rfl, ⟨E.symm, trivial⟩, trivial⟩, hS.F ht⟩) hS.2.2 dRG_learned_29
set_option maxHeartbeats 4000000 in
set_option maxRecDepth 100000 in
theorem tRG_learned_T1 (l : Launch) (dC : Nat → ClassId) (dI : Nat → Nat → Nat) (cI cZ cJ cA : ClassId) (a0 : Array Value) (s0 : State) (o b : Nat → Nat) (hfl : l.flags = Jvm.pinnedFlags ++ [Jvm.noTraceFlag]) (P S : ZS) (sz : Nat) (x0 : Int32) (x1 : Int32) (x2 : Int32) (gP : cok P) (gS : cok S) (hc : fRG_learned P S x0 x1 x2 = .error 1) : tq_Met l yRG_learned [Cond.code yRG_learned bRG_learned 4 (some .int)] ({ frames := 7, cells := 1, slots := 6, locals := 111 } : Room) (zP zCl dC dI (zTZ cI cZ cJ cA) a0 s0 [.ref (o 0), .int x0, .int x1, .int x2] sz (CW cI cZ cA o b P S)) (tq_Q "java/lang/IllegalArgumentException") 1 6 (zN sz) := by
  refine tq_ofW (cc := bRG_learned) (maxL := 4) (ret := (some .int)) (by decide) rfl ?_
  intro p e s m args below meth c s₁ B hml htab hv
  obtain ⟨rfl, hsz, hP, hK, hD0, hB⟩ := hv
  have hx := B.exec
  have hb := B.bytes
  have hr := B.returns
  have hown : s.vm.findClass "RingGuard" = some m.cls := findClass_of_methodNamed B.named
  have hlocks := B.notSynchronized
  subst hsz
  have hD := hD0
  have hA0 : ∀ q, zN s.heap.size q → s0.heap.size ≤ q := zA1 hB
  have hAD : ∀ q, zN s0.heap.size q → s0.heap.size ≤ q := fun _ h => h
  have hA : ∀ q : Nat, s.heap.size ≤ q → zN s.heap.size q := fun _ h => h
  have hS : va_S (zN s.heap.size) s.heap s.heap [] := va_S.rf
  have hl := lv_entry ([.ref (o 0), .int x0, .int x1, .int x2]) (n := 4) (Nat.le_of_ble_eq_true rfl)
  rw [lg_entry_eq]
  generalize (lg_sl ([.ref (o 0), .int x0, .int x1, .int x2]) ++ List.replicate (4 - (lg_sl ([.ref (o 0), .int x0, .int x1, .int x2])).length) Slot.unset).toArray = ls at hl ⊢
  have hfl := hfl
  have hl : lv_has ls 4 [(0, .ref (o 0)), (1, .int x0), (2, .int x1), (3, .int x2)] := hl
  refine zgenQ (fun Q hQe => ?_)
  obtain ⟨tg, etg⟩ : ∃ z, z = fRG_learned P S x0 x1 x2 := ⟨_, rfl⟩
  have E := etg
  unfold fRG_learned at E
  refine lv_aload_n hx hb dRG_learned_0 rfl (lv_at hl 0 rfl) ?_
  refine lv_iload_n hx hb dRG_learned_1 rfl (lv_at hl 1 rfl) ?_
  refine z_bind E (fun k9 h2 E => ?_) (fun u1 h2 E => ?_)
  · have x9 : k9 = 1 := zerr (E.symm.trans (etg.trans hc))
    subst x9
    rw [hQe]
    exact zpass (tq_runV (As := [.int x0]) (rest := []) ⟨hx, hb, hml, hown, zno⟩ (tRG_requireBridge_T1 l dC dI cI cZ cJ cA a0 s0 o b hfl P S s.heap.size x0 gP gS h2) (zcw 1 (hB.word (zm2 k2_150) rfl) (hB.word (zm1 k1_1) rfl) (hB.word (zm2 k2_147) rfl) (hB.word (zm2 k2_149) rfl) (k2_selects_private (by decide) (hB.word (zm1 k1_18) rfl) (hB.word (zm2 k2_148) rfl) (hB.word (zm2 k2_149) rfl)) rfl rfl (by decide +kernel) ⟨Nat.le_of_ble_eq_true rfl, Nat.le_of_ble_eq_true rfl⟩) ⟨zP_blind, va_recv hK hP (ci := 0) (q0 := 0) rfl rfl, zP_pre hP hK hD hAD (zB_on hB hA0 hS)⟩ rfl rfl hl.1 rfl (lv_room (Nat.le_of_ble_eq_true rfl)) dRG_learned_2 ⟨Nat.le_of_ble_eq_true rfl, Nat.le_of_ble_eq_true rfl⟩) htab hlocks hS (Nat.le_of_ble_eq_true rfl) (Nat.le_of_ble_eq_true rfl)
  · skip
    refine zcallo (va_runV (As := [.int x0]) (rest := []) ⟨hx, hb, hml, hown, zno⟩ (tRG_requireBridge l dC dI cI cZ cJ cA a0 s0 o b P S s.heap.size x0 gP gS u1 h2) (zcw 1 (hB.word (zm2 k2_150) rfl) (hB.word (zm1 k1_1) rfl) (hB.word (zm2 k2_147) rfl) (hB.word (zm2 k2_149) rfl) (k2_selects_private (by decide) (hB.word (zm1 k1_18) rfl) (hB.word (zm2 k2_148) rfl) (hB.word (zm2 k2_149) rfl)) rfl rfl (by decide +kernel) ⟨Nat.le_of_ble_eq_true rfl, Nat.le_of_ble_eq_true rfl⟩) ⟨zP_blind, va_recv hK hP (ci := 0) (q0 := 0) rfl rfl, zP_pre hP hK hD hAD (zB_on hB hA0 hS)⟩ rfl rfl hl.1 rfl (lv_room (Nat.le_of_ble_eq_true rfl)) dRG_learned_2 ⟨Nat.le_of_ble_eq_true rfl, Nat.le_of_ble_eq_true rfl⟩) hS hA (fun H3 locs hz1 hk1 hS => ?_)
    have hP := zKeep hP hk1
    have r_x0 : zr 0 47 x0 := zk_rB1 gP h2
    have qlb_x0 : x0.toInt < (P.I 0).toInt := zk_rB2 gP h2
    refine lv_aload_n hx hb dRG_learned_5 rfl (lv_at hl 0 rfl) ?_
    refine lv_iload_n hx hb dRG_learned_6 rfl (lv_at hl 2 rfl) ?_
    refine z_bind E (fun k9 h5 E => ?_) (fun u4 h5 E => ?_)
    · have x9 : k9 = 1 := zerr (E.symm.trans (etg.trans hc))
      subst x9
      rw [hQe]
      exact zpass (tq_runV (As := [.int x1]) (rest := []) ⟨hx, hb, hml, hown, zno⟩ (tRG_requireTag_T1 l dC dI cI cZ cJ cA a0 s0 o b hfl P S H3.size x1 gP gS h5) (zcw 1 (hB.word (zm4 k4_46) rfl) (hB.word (zm1 k1_1) rfl) (hB.word (zm4 k4_43) rfl) (hB.word (zm4 k4_45) rfl) (k2_selects_private (by decide) (hB.word (zm1 k1_18) rfl) (hB.word (zm4 k4_44) rfl) (hB.word (zm4 k4_45) rfl)) rfl rfl (by decide +kernel) ⟨Nat.le_of_ble_eq_true rfl, Nat.le_of_ble_eq_true rfl⟩) ⟨zP_blind, va_recv hK hP (ci := 0) (q0 := 0) rfl rfl, zP_pre hP hK hD hAD (zB_on hB hA0 hS)⟩ rfl rfl hl.1 rfl (lv_room (Nat.le_of_ble_eq_true rfl)) dRG_learned_7 ⟨Nat.le_of_ble_eq_true rfl, Nat.le_of_ble_eq_true rfl⟩) htab hlocks hS (Nat.le_of_ble_eq_true rfl) (Nat.le_of_ble_eq_true rfl)
    · skip
      refine zcallo (va_runV (As := [.int x1]) (rest := []) ⟨hx, hb, hml, hown, zno⟩ (tRG_requireTag l dC dI cI cZ cJ cA a0 s0 o b P S H3.size x1 gP gS u4 h5) (zcw 1 (hB.word (zm4 k4_46) rfl) (hB.word (zm1 k1_1) rfl) (hB.word (zm4 k4_43) rfl) (hB.word (zm4 k4_45) rfl) (k2_selects_private (by decide) (hB.word (zm1 k1_18) rfl) (hB.word (zm4 k4_44) rfl) (hB.word (zm4 k4_45) rfl)) rfl rfl (by decide +kernel) ⟨Nat.le_of_ble_eq_true rfl, Nat.le_of_ble_eq_true rfl⟩) ⟨zP_blind, va_recv hK hP (ci := 0) (q0 := 0) rfl rfl, zP_pre hP hK hD hAD (zB_on hB hA0 hS)⟩ rfl rfl hl.1 rfl (lv_room (Nat.le_of_ble_eq_true rfl)) dRG_learned_7 ⟨Nat.le_of_ble_eq_true rfl, Nat.le_of_ble_eq_true rfl⟩) hS hA (fun H6 locs hz1 hk1 hS => ?_)
      have hP := zKeep hP hk1
      have r_x1 : zr 0 3 x1 := zk_rT gP h5
      refine lv_aload_n hx hb dRG_learned_10 rfl (lv_at hl 0 rfl) ?_
      refine lv_iload_n hx hb dRG_learned_11 rfl (lv_at hl 3 rfl) ?_
      refine z_bind E (fun k9 h8 E => ?_) (fun u7 h8 E => ?_)
      · have x9 : k9 = 1 := zerr (E.symm.trans (etg.trans hc))
        subst x9
        rw [hQe]
        exact zpass (tq_runV (As := [.int x2]) (rest := []) ⟨hx, hb, hml, hown, zno⟩ (tRG_requireHost_T1 l dC dI cI cZ cJ cA a0 s0 o b hfl P S H6.size x2 gP gS h8) (zcw 1 (hB.word (zm4 k4_30) rfl) (hB.word (zm1 k1_1) rfl) (hB.word (zm4 k4_27) rfl) (hB.word (zm4 k4_29) rfl) (k2_selects_private (by decide) (hB.word (zm1 k1_18) rfl) (hB.word (zm4 k4_28) rfl) (hB.word (zm4 k4_29) rfl)) rfl rfl (by decide +kernel) ⟨Nat.le_of_ble_eq_true rfl, Nat.le_of_ble_eq_true rfl⟩) ⟨zP_blind, va_recv hK hP (ci := 0) (q0 := 0) rfl rfl, zP_pre hP hK hD hAD (zB_on hB hA0 hS)⟩ rfl rfl hl.1 rfl (lv_room (Nat.le_of_ble_eq_true rfl)) dRG_learned_12 ⟨Nat.le_of_ble_eq_true rfl, Nat.le_of_ble_eq_true rfl⟩) htab hlocks hS (Nat.le_of_ble_eq_true rfl) (Nat.le_of_ble_eq_true rfl)
      · skip
        refine zcallo (va_runV (As := [.int x2]) (rest := []) ⟨hx, hb, hml, hown, zno⟩ (tRG_requireHost l dC dI cI cZ cJ cA a0 s0 o b P S H6.size x2 gP gS u7 h8) (zcw 1 (hB.word (zm4 k4_30) rfl) (hB.word (zm1 k1_1) rfl) (hB.word (zm4 k4_27) rfl) (hB.word (zm4 k4_29) rfl) (k2_selects_private (by decide) (hB.word (zm1 k1_18) rfl) (hB.word (zm4 k4_28) rfl) (hB.word (zm4 k4_29) rfl)) rfl rfl (by decide +kernel) ⟨Nat.le_of_ble_eq_true rfl, Nat.le_of_ble_eq_true rfl⟩) ⟨zP_blind, va_recv hK hP (ci := 0) (q0 := 0) rfl rfl, zP_pre hP hK hD hAD (zB_on hB hA0 hS)⟩ rfl rfl hl.1 rfl (lv_room (Nat.le_of_ble_eq_true rfl)) dRG_learned_12 ⟨Nat.le_of_ble_eq_true rfl, Nat.le_of_ble_eq_true rfl⟩) hS hA (fun H9 locs hz1 hk1 hS => ?_)
        have hP := zKeep hP hk1
        have r_x2 : zr 0 63 x2 := zk_rH gP h8
        cases E.symm.trans (etg.trans hc)
noncomputable def fRG_joined (P S : ZS) (x0 : Int32) (x1 : Int32) : Except Nat (ZS × Int32) := zbind (fRG_requireBridge P S x0) (fun u1 => zbind (fRG_requireBridge P S x1) (fun u4 => .ok (zl (fRG_groupByOpenLinks P S) (fun S8 => zl (S8.F 27 (x0 : Int32).toNatClampNeg) (fun k10 => zl (S8.F 27 (x1 : Int32).toNatClampNeg) (fun k11 => (if k10 = k11 then (S8, 1) else (S8, 0))))))))
set_option maxHeartbeats 4000000 in
set_option maxRecDepth 100000 in
theorem tRG_joined (l : Launch) (dC : Nat → ClassId) (dI : Nat → Nat → Nat) (cI cZ cJ cA : ClassId) (a0 : Array Value) (s0 : State) (o b : Nat → Nat) (P S : ZS) (sz : Nat) (x0 : Int32) (x1 : Int32) (gP : cok P) (gS : cok S) (y : ZS × Int32) (hc : fRG_joined P S x0 x1 = .ok y) : Met l yRG_joined [Cond.code yRG_joined bRG_joined 3 (some .boolean)] ({ frames := 2, cells := 0, slots := 0, locals := 46 } : Room) (zP zCl dC dI (zTZ cI cZ cJ cA) a0 s0 [.ref (o 0), .int x0, .int x1] sz (CW cI cZ cA o b P S)) (zQH zCl dC dI (fun (r : Int32) (x9 : ZS) => (x9, r) = y ∧ cok x9 ∧ zr 0 1 r) (fun x9 : ZS => (CW cI cZ cA o b P x9)) (va_A (CW cI cZ cA o b P S) sz)) 0 0 (va_A (CW cI cZ cA o b P S) sz) := by
  refine Met.ofW (cc := bRG_joined) (maxL := 3) (ret := (some .boolean)) (by decide) rfl ?_
  intro p e s m args below meth c s₁ B hml hv
  obtain ⟨rfl, hsz, hP, hK, hD0, hB⟩ := hv
  have hx := B.exec
  have hb := B.bytes
  have hr := B.returns
  have hown : s.vm.findClass "RingGuard" = some m.cls := findClass_of_methodNamed B.named
  have hlocks := B.notSynchronized
  subst hsz
  have hD := hD0.self (sz := s.heap.size)
  have hA0 := zA0 hD0 hB
  generalize hAe : va_A (CW cI cZ cA o b P S) s.heap.size = A at hD hA0 ⊢
  have hAD := hA0
  have hA : ∀ q : Nat, s.heap.size ≤ q → A q := fun q h => by rw [← hAe]; exact Or.inr h
  have hS : va_S A s.heap s.heap [] := va_S.rf
  have hl := lv_entry ([.ref (o 0), .int x0, .int x1]) (n := 3) (Nat.le_of_ble_eq_true rfl)
  rw [lg_entry_eq]
  generalize (lg_sl ([.ref (o 0), .int x0, .int x1]) ++ List.replicate (3 - (lg_sl ([.ref (o 0), .int x0, .int x1])).length) Slot.unset).toArray = ls at hl ⊢
  have hl : lv_has ls 3 [(0, .ref (o 0)), (1, .int x0), (2, .int x1)] := hl
  refine zgenQ (fun Q hQe => ?_)
  obtain ⟨tg, etg⟩ : ∃ z, z = fRG_joined P S x0 x1 := ⟨_, rfl⟩
  have E := etg
  unfold fRG_joined at E
  refine lv_aload_n hx hb dRG_joined_0 rfl (lv_at hl 0 rfl) ?_
  refine lv_iload_n hx hb dRG_joined_1 rfl (lv_at hl 1 rfl) ?_
  refine z_bind E (fun k9 h2 E => ?_) (fun u1 h2 E => ?_)
  · cases E.symm.trans (etg.trans hc)
  · skip
    refine zcallo (va_runV (As := [.int x0]) (rest := []) ⟨hx, hb, hml, hown, zno⟩ (tRG_requireBridge l dC dI cI cZ cJ cA a0 s0 o b P S s.heap.size x0 gP gS u1 h2) (zcw 1 (hB.word (zm2 k2_150) rfl) (hB.word (zm1 k1_1) rfl) (hB.word (zm2 k2_147) rfl) (hB.word (zm2 k2_149) rfl) (k2_selects_private (by decide) (hB.word (zm1 k1_18) rfl) (hB.word (zm2 k2_148) rfl) (hB.word (zm2 k2_149) rfl)) rfl rfl (by decide +kernel) ⟨Nat.le_of_ble_eq_true rfl, Nat.le_of_ble_eq_true rfl⟩) ⟨zP_blind, va_recv hK hP (ci := 0) (q0 := 0) rfl rfl, zP_pre hP hK hD hAD (zB_on hB hA0 hS)⟩ rfl rfl hl.1 rfl (lv_room (Nat.le_of_ble_eq_true rfl)) dRG_joined_2 ⟨Nat.le_of_ble_eq_true rfl, Nat.le_of_ble_eq_true rfl⟩) hS hA (fun H3 locs hz1 hk1 hS => ?_)
    have hP := zKeep hP hk1
    have r_x0 : zr 0 47 x0 := zk_rB1 gP h2
    have qlb_x0 : x0.toInt < (P.I 0).toInt := zk_rB2 gP h2
    refine lv_aload_n hx hb dRG_joined_5 rfl (lv_at hl 0 rfl) ?_
    refine lv_iload_n hx hb dRG_joined_6 rfl (lv_at hl 2 rfl) ?_
    refine z_bind E (fun k9 h5 E => ?_) (fun u4 h5 E => ?_)
    · cases E.symm.trans (etg.trans hc)
    · skip
      refine zcallo (va_runV (As := [.int x1]) (rest := []) ⟨hx, hb, hml, hown, zno⟩ (tRG_requireBridge l dC dI cI cZ cJ cA a0 s0 o b P S H3.size x1 gP gS u4 h5) (zcw 1 (hB.word (zm2 k2_150) rfl) (hB.word (zm1 k1_1) rfl) (hB.word (zm2 k2_147) rfl) (hB.word (zm2 k2_149) rfl) (k2_selects_private (by decide) (hB.word (zm1 k1_18) rfl) (hB.word (zm2 k2_148) rfl) (hB.word (zm2 k2_149) rfl)) rfl rfl (by decide +kernel) ⟨Nat.le_of_ble_eq_true rfl, Nat.le_of_ble_eq_true rfl⟩) ⟨zP_blind, va_recv hK hP (ci := 0) (q0 := 0) rfl rfl, zP_pre hP hK hD hAD (zB_on hB hA0 hS)⟩ rfl rfl hl.1 rfl (lv_room (Nat.le_of_ble_eq_true rfl)) dRG_joined_7 ⟨Nat.le_of_ble_eq_true rfl, Nat.le_of_ble_eq_true rfl⟩) hS hA (fun H6 locs hz1 hk1 hS => ?_)
      have hP := zKeep hP hk1
      have r_x1 : zr 0 47 x1 := zk_rB1 gP h5
      have qlb_x1 : x1.toInt < (P.I 0).toInt := zk_rB2 gP h5
      have E := zokE E (etg.trans hc)
      refine lv_aload_n hx hb dRG_joined_10 rfl (lv_at hl 0 rfl) ?_
      refine zcV (va_runV (As := []) (rest := []) ⟨hx, hb, hml, hown, zno⟩ (tRG_groupByOpenLinks l dC dI cI cZ cJ cA a0 s0 o b P S H6.size gP gS) (zcw 0 (hB.word (zm3 k3_87) rfl) (hB.word (zm1 k1_1) rfl) (hB.word (zm3 k3_84) rfl) (hB.word (zm3 k3_86) rfl) (k2_selects_private (by decide) (hB.word (zm1 k1_18) rfl) (hB.word (zm3 k3_85) rfl) (hB.word (zm3 k3_86) rfl)) rfl rfl (by decide +kernel) ⟨Nat.le_of_ble_eq_true rfl, Nat.le_of_ble_eq_true rfl⟩) ⟨zP_blind, va_recv hK hP (ci := 0) (q0 := 0) rfl rfl, zP_pre hP hK hD hAD (zB_on hB hA0 hS)⟩ rfl rfl hl.1 rfl (lv_room (Nat.le_of_ble_eq_true rfl)) dRG_joined_11 ⟨Nat.le_of_ble_eq_true rfl, Nat.le_of_ble_eq_true rfl⟩) hD hS hA (fun S8 H7 locs h9 hP hD hS => ?_)
      have E := zl_s E h9.1
      have gS8 := h9.2
      refine lv_aload_n hx hb dRG_joined_14 rfl (lv_at hl 0 rfl) ?_
      refine c_getO_RG_groups hx hb (hB.words zU_RG) hown hK hP (hB.word (zm2 k2_0) rfl) dRG_joined_15 ?_
      refine c_getA_27 hx hb (hB.words zU_GR) hown hK hP (hB.word (zm1 k1_223) rfl) dRG_joined_18 ?_
      refine lv_iload_n hx hb dRG_joined_21 rfl (lv_at hl 1 rfl) ?_
      refine c_aldS hx hb hK hP 27 (by decide) rfl r_x0 (by decide) dRG_joined_22 E (fun k10 ek10 E => ?_)
      have r_k10 : zr 0 47 k10 := by rw [ek10]; exact gS8.1 27 _
      refine lv_aload_n hx hb dRG_joined_23 rfl (lv_at hl 0 rfl) ?_
      refine c_getO_RG_groups hx hb (hB.words zU_RG) hown hK hP (hB.word (zm2 k2_0) rfl) dRG_joined_24 ?_
      refine c_getA_27 hx hb (hB.words zU_GR) hown hK hP (hB.word (zm1 k1_223) rfl) dRG_joined_27 ?_
      refine lv_iload_n hx hb dRG_joined_30 rfl (lv_at hl 2 rfl) ?_
      refine c_aldS hx hb hK hP 27 (by decide) rfl r_x1 (by decide) dRG_joined_31 E (fun k11 ek11 E => ?_)
      have r_k11 : zr 0 47 k11 := by rw [ek11]; exact gS8.1 27 _
      refine z_icmp_ne (tgt := 39) hx hb dRG_joined_32 (by decide) E (fun c_32 E => ?_) (fun c_32 E => ?_)
      · refine lv_iconst (v := 0) hx hb dRG_joined_39 (by decide) ?_
        rw [hQe]
        exact W.zret (v := 0) (ty := .boolean) hx hb hr (znar (show zr 0 1 0 from by decide)) (fun t ht hW => ⟨⟨0, S8, rfl, ⟨E.symm, gS8, (show zr 0 1 0 from by decide)⟩, by rw [ht]; exact hP, hD⟩, hS.F ht⟩) hS.2.2 dRG_joined_40
      · refine lv_iconst (v := 1) hx hb dRG_joined_35 (by decide) ?_
        refine lv_goto (tgt := 40) hx hb dRG_joined_36 (by decide) ?_
        rw [hQe]
        exact W.zret (v := 1) (ty := .boolean) hx hb hr (znar (show zr 0 1 1 from by decide)) (fun t ht hW => ⟨⟨1, S8, rfl, ⟨E.symm, gS8, (show zr 0 1 1 from by decide)⟩, by rw [ht]; exact hP, hD⟩, hS.F ht⟩) hS.2.2 dRG_joined_40
set_option maxHeartbeats 4000000 in
set_option maxRecDepth 100000 in
theorem tRG_joined_T1 (l : Launch) (dC : Nat → ClassId) (dI : Nat → Nat → Nat) (cI cZ cJ cA : ClassId) (a0 : Array Value) (s0 : State) (o b : Nat → Nat) (hfl : l.flags = Jvm.pinnedFlags ++ [Jvm.noTraceFlag]) (P S : ZS) (sz : Nat) (x0 : Int32) (x1 : Int32) (gP : cok P) (gS : cok S) (hc : fRG_joined P S x0 x1 = .error 1) : tq_Met l yRG_joined [Cond.code yRG_joined bRG_joined 3 (some .boolean)] ({ frames := 7, cells := 1, slots := 6, locals := 111 } : Room) (zP zCl dC dI (zTZ cI cZ cJ cA) a0 s0 [.ref (o 0), .int x0, .int x1] sz (CW cI cZ cA o b P S)) (tq_Q "java/lang/IllegalArgumentException") 1 6 (zN sz) := by
  refine tq_ofW (cc := bRG_joined) (maxL := 3) (ret := (some .boolean)) (by decide) rfl ?_
  intro p e s m args below meth c s₁ B hml htab hv
  obtain ⟨rfl, hsz, hP, hK, hD0, hB⟩ := hv
  have hx := B.exec
  have hb := B.bytes
  have hr := B.returns
  have hown : s.vm.findClass "RingGuard" = some m.cls := findClass_of_methodNamed B.named
  have hlocks := B.notSynchronized
  subst hsz
  have hD := hD0
  have hA0 : ∀ q, zN s.heap.size q → s0.heap.size ≤ q := zA1 hB
  have hAD : ∀ q, zN s0.heap.size q → s0.heap.size ≤ q := fun _ h => h
  have hA : ∀ q : Nat, s.heap.size ≤ q → zN s.heap.size q := fun _ h => h
  have hS : va_S (zN s.heap.size) s.heap s.heap [] := va_S.rf
  have hl := lv_entry ([.ref (o 0), .int x0, .int x1]) (n := 3) (Nat.le_of_ble_eq_true rfl)
  rw [lg_entry_eq]
  generalize (lg_sl ([.ref (o 0), .int x0, .int x1]) ++ List.replicate (3 - (lg_sl ([.ref (o 0), .int x0, .int x1])).length) Slot.unset).toArray = ls at hl ⊢
  have hfl := hfl
  have hl : lv_has ls 3 [(0, .ref (o 0)), (1, .int x0), (2, .int x1)] := hl
  refine zgenQ (fun Q hQe => ?_)
  obtain ⟨tg, etg⟩ : ∃ z, z = fRG_joined P S x0 x1 := ⟨_, rfl⟩
  have E := etg
  unfold fRG_joined at E
  refine lv_aload_n hx hb dRG_joined_0 rfl (lv_at hl 0 rfl) ?_
  refine lv_iload_n hx hb dRG_joined_1 rfl (lv_at hl 1 rfl) ?_
  refine z_bind E (fun k9 h2 E => ?_) (fun u1 h2 E => ?_)
  · have x9 : k9 = 1 := zerr (E.symm.trans (etg.trans hc))
    subst x9
    rw [hQe]
    exact zpass (tq_runV (As := [.int x0]) (rest := []) ⟨hx, hb, hml, hown, zno⟩ (tRG_requireBridge_T1 l dC dI cI cZ cJ cA a0 s0 o b hfl P S s.heap.size x0 gP gS h2) (zcw 1 (hB.word (zm2 k2_150) rfl) (hB.word (zm1 k1_1) rfl) (hB.word (zm2 k2_147) rfl) (hB.word (zm2 k2_149) rfl) (k2_selects_private (by decide) (hB.word (zm1 k1_18) rfl) (hB.word (zm2 k2_148) rfl) (hB.word (zm2 k2_149) rfl)) rfl rfl (by decide +kernel) ⟨Nat.le_of_ble_eq_true rfl, Nat.le_of_ble_eq_true rfl⟩) ⟨zP_blind, va_recv hK hP (ci := 0) (q0 := 0) rfl rfl, zP_pre hP hK hD hAD (zB_on hB hA0 hS)⟩ rfl rfl hl.1 rfl (lv_room (Nat.le_of_ble_eq_true rfl)) dRG_joined_2 ⟨Nat.le_of_ble_eq_true rfl, Nat.le_of_ble_eq_true rfl⟩) htab hlocks hS (Nat.le_of_ble_eq_true rfl) (Nat.le_of_ble_eq_true rfl)
  · skip
    refine zcallo (va_runV (As := [.int x0]) (rest := []) ⟨hx, hb, hml, hown, zno⟩ (tRG_requireBridge l dC dI cI cZ cJ cA a0 s0 o b P S s.heap.size x0 gP gS u1 h2) (zcw 1 (hB.word (zm2 k2_150) rfl) (hB.word (zm1 k1_1) rfl) (hB.word (zm2 k2_147) rfl) (hB.word (zm2 k2_149) rfl) (k2_selects_private (by decide) (hB.word (zm1 k1_18) rfl) (hB.word (zm2 k2_148) rfl) (hB.word (zm2 k2_149) rfl)) rfl rfl (by decide +kernel) ⟨Nat.le_of_ble_eq_true rfl, Nat.le_of_ble_eq_true rfl⟩) ⟨zP_blind, va_recv hK hP (ci := 0) (q0 := 0) rfl rfl, zP_pre hP hK hD hAD (zB_on hB hA0 hS)⟩ rfl rfl hl.1 rfl (lv_room (Nat.le_of_ble_eq_true rfl)) dRG_joined_2 ⟨Nat.le_of_ble_eq_true rfl, Nat.le_of_ble_eq_true rfl⟩) hS hA (fun H3 locs hz1 hk1 hS => ?_)
    have hP := zKeep hP hk1
    have r_x0 : zr 0 47 x0 := zk_rB1 gP h2
    have qlb_x0 : x0.toInt < (P.I 0).toInt := zk_rB2 gP h2
    refine lv_aload_n hx hb dRG_joined_5 rfl (lv_at hl 0 rfl) ?_
    refine lv_iload_n hx hb dRG_joined_6 rfl (lv_at hl 2 rfl) ?_
    refine z_bind E (fun k9 h5 E => ?_) (fun u4 h5 E => ?_)
    · have x9 : k9 = 1 := zerr (E.symm.trans (etg.trans hc))
      subst x9
      rw [hQe]
      exact zpass (tq_runV (As := [.int x1]) (rest := []) ⟨hx, hb, hml, hown, zno⟩ (tRG_requireBridge_T1 l dC dI cI cZ cJ cA a0 s0 o b hfl P S H3.size x1 gP gS h5) (zcw 1 (hB.word (zm2 k2_150) rfl) (hB.word (zm1 k1_1) rfl) (hB.word (zm2 k2_147) rfl) (hB.word (zm2 k2_149) rfl) (k2_selects_private (by decide) (hB.word (zm1 k1_18) rfl) (hB.word (zm2 k2_148) rfl) (hB.word (zm2 k2_149) rfl)) rfl rfl (by decide +kernel) ⟨Nat.le_of_ble_eq_true rfl, Nat.le_of_ble_eq_true rfl⟩) ⟨zP_blind, va_recv hK hP (ci := 0) (q0 := 0) rfl rfl, zP_pre hP hK hD hAD (zB_on hB hA0 hS)⟩ rfl rfl hl.1 rfl (lv_room (Nat.le_of_ble_eq_true rfl)) dRG_joined_7 ⟨Nat.le_of_ble_eq_true rfl, Nat.le_of_ble_eq_true rfl⟩) htab hlocks hS (Nat.le_of_ble_eq_true rfl) (Nat.le_of_ble_eq_true rfl)
    · skip
      refine zcallo (va_runV (As := [.int x1]) (rest := []) ⟨hx, hb, hml, hown, zno⟩ (tRG_requireBridge l dC dI cI cZ cJ cA a0 s0 o b P S H3.size x1 gP gS u4 h5) (zcw 1 (hB.word (zm2 k2_150) rfl) (hB.word (zm1 k1_1) rfl) (hB.word (zm2 k2_147) rfl) (hB.word (zm2 k2_149) rfl) (k2_selects_private (by decide) (hB.word (zm1 k1_18) rfl) (hB.word (zm2 k2_148) rfl) (hB.word (zm2 k2_149) rfl)) rfl rfl (by decide +kernel) ⟨Nat.le_of_ble_eq_true rfl, Nat.le_of_ble_eq_true rfl⟩) ⟨zP_blind, va_recv hK hP (ci := 0) (q0 := 0) rfl rfl, zP_pre hP hK hD hAD (zB_on hB hA0 hS)⟩ rfl rfl hl.1 rfl (lv_room (Nat.le_of_ble_eq_true rfl)) dRG_joined_7 ⟨Nat.le_of_ble_eq_true rfl, Nat.le_of_ble_eq_true rfl⟩) hS hA (fun H6 locs hz1 hk1 hS => ?_)
      have hP := zKeep hP hk1
      have r_x1 : zr 0 47 x1 := zk_rB1 gP h5
      have qlb_x1 : x1.toInt < (P.I 0).toInt := zk_rB2 gP h5
      cases E.symm.trans (etg.trans hc)
noncomputable def fRG_told (P S : ZS) (x0 : Int32) (x1 : Int32) (x2 : Int32) : Except Nat (Int32) := zbind (fRG_requireBridge P S x0) (fun u1 => zbind (fRG_requireRing P S x1) (fun u4 => (if x2 = 0 then .ok (zl (S.F 22 (x0 : Int32).toNatClampNeg) (fun k7 => k7)) else (if x2 = 1 then .ok (zl (x0 * 6) (fun k8 => zl (k8 + x1) (fun k9 => zl (S.F 15 (k9 : Int32).toNatClampNeg) (fun k10 => k10)))) else (if x2 = 2 then .ok (zl (S.F 17 (x1 : Int32).toNatClampNeg) (fun k11 => k11)) else .error 1)))))
set_option maxHeartbeats 4000000 in
set_option maxRecDepth 100000 in
theorem tRG_told (l : Launch) (dC : Nat → ClassId) (dI : Nat → Nat → Nat) (cI cZ cJ cA : ClassId) (a0 : Array Value) (s0 : State) (o b : Nat → Nat) (P S : ZS) (sz : Nat) (x0 : Int32) (x1 : Int32) (x2 : Int32) (gP : cok P) (gS : cok S) (y : Int32) (hc : fRG_told P S x0 x1 x2 = .ok y) : Met l yRG_told [Cond.code yRG_told bRG_told 4 (some .int)] ({ frames := 1, cells := 0, slots := 0, locals := 21 } : Room) (zP zCl dC dI (zTZ cI cZ cJ cA) a0 s0 [.ref (o 0), .int x0, .int x1, .int x2] sz (CW cI cZ cA o b P S)) (zQp (fun r => r = y ∧ True) sz) 0 0 (zN sz) := by
  refine Met.ofW (cc := bRG_told) (maxL := 4) (ret := (some .int)) (by decide) rfl ?_
  intro p e s m args below meth c s₁ B hml hv
  obtain ⟨rfl, hsz, hP, hK, hD0, hB⟩ := hv
  have hx := B.exec
  have hb := B.bytes
  have hr := B.returns
  have hown : s.vm.findClass "RingGuard" = some m.cls := findClass_of_methodNamed B.named
  have hlocks := B.notSynchronized
  subst hsz
  have hD := hD0
  have hA0 : ∀ q, zN s.heap.size q → s0.heap.size ≤ q := zA1 hB
  have hAD : ∀ q, zN s0.heap.size q → s0.heap.size ≤ q := fun _ h => h
  have hA : ∀ q : Nat, s.heap.size ≤ q → zN s.heap.size q := fun _ h => h
  have hS : va_S (zN s.heap.size) s.heap s.heap [] := va_S.rf
  have hl := lv_entry ([.ref (o 0), .int x0, .int x1, .int x2]) (n := 4) (Nat.le_of_ble_eq_true rfl)
  rw [lg_entry_eq]
  generalize (lg_sl ([.ref (o 0), .int x0, .int x1, .int x2]) ++ List.replicate (4 - (lg_sl ([.ref (o 0), .int x0, .int x1, .int x2])).length) Slot.unset).toArray = ls at hl ⊢
  have hl : lv_has ls 4 [(0, .ref (o 0)), (1, .int x0), (2, .int x1), (3, .int x2)] := hl
  refine zgenQ (fun Q hQe => ?_)
  obtain ⟨tg, etg⟩ : ∃ z, z = fRG_told P S x0 x1 x2 := ⟨_, rfl⟩
  have E := etg
  unfold fRG_told at E
  refine lv_aload_n hx hb dRG_told_0 rfl (lv_at hl 0 rfl) ?_
  refine lv_iload_n hx hb dRG_told_1 rfl (lv_at hl 1 rfl) ?_
  refine z_bind E (fun k9 h2 E => ?_) (fun u1 h2 E => ?_)
  · cases E.symm.trans (etg.trans hc)
  · skip
    refine zcallo (va_runV (As := [.int x0]) (rest := []) ⟨hx, hb, hml, hown, zno⟩ (tRG_requireBridge l dC dI cI cZ cJ cA a0 s0 o b P S s.heap.size x0 gP gS u1 h2) (zcw 1 (hB.word (zm2 k2_150) rfl) (hB.word (zm1 k1_1) rfl) (hB.word (zm2 k2_147) rfl) (hB.word (zm2 k2_149) rfl) (k2_selects_private (by decide) (hB.word (zm1 k1_18) rfl) (hB.word (zm2 k2_148) rfl) (hB.word (zm2 k2_149) rfl)) rfl rfl (by decide +kernel) ⟨Nat.le_of_ble_eq_true rfl, Nat.le_of_ble_eq_true rfl⟩) ⟨zP_blind, va_recv hK hP (ci := 0) (q0 := 0) rfl rfl, zP_pre hP hK hD hAD (zB_on hB hA0 hS)⟩ rfl rfl hl.1 rfl (lv_room (Nat.le_of_ble_eq_true rfl)) dRG_told_2 ⟨Nat.le_of_ble_eq_true rfl, Nat.le_of_ble_eq_true rfl⟩) hS hA (fun H3 locs hz1 hk1 hS => ?_)
    have hP := zKeep hP hk1
    have r_x0 : zr 0 47 x0 := zk_rB1 gP h2
    have qlb_x0 : x0.toInt < (P.I 0).toInt := zk_rB2 gP h2
    refine lv_aload_n hx hb dRG_told_5 rfl (lv_at hl 0 rfl) ?_
    refine lv_iload_n hx hb dRG_told_6 rfl (lv_at hl 2 rfl) ?_
    refine z_bind E (fun k9 h5 E => ?_) (fun u4 h5 E => ?_)
    · cases E.symm.trans (etg.trans hc)
    · skip
      refine zcallo (va_runV (As := [.int x1]) (rest := []) ⟨hx, hb, hml, hown, zno⟩ (tRG_requireRing l dC dI cI cZ cJ cA a0 s0 o b P S H3.size x1 gP gS u4 h5) (zcw 1 (hB.word (zm2 k2_170) rfl) (hB.word (zm1 k1_1) rfl) (hB.word (zm2 k2_167) rfl) (hB.word (zm2 k2_169) rfl) (k2_selects_private (by decide) (hB.word (zm1 k1_18) rfl) (hB.word (zm2 k2_168) rfl) (hB.word (zm2 k2_169) rfl)) rfl rfl (by decide +kernel) ⟨Nat.le_of_ble_eq_true rfl, Nat.le_of_ble_eq_true rfl⟩) ⟨zP_blind, va_recv hK hP (ci := 0) (q0 := 0) rfl rfl, zP_pre hP hK hD hAD (zB_on hB hA0 hS)⟩ rfl rfl hl.1 rfl (lv_room (Nat.le_of_ble_eq_true rfl)) dRG_told_7 ⟨Nat.le_of_ble_eq_true rfl, Nat.le_of_ble_eq_true rfl⟩) hS hA (fun H6 locs hz1 hk1 hS => ?_)
      have hP := zKeep hP hk1
      have r_x1 : zr 0 5 x1 := zk_rR gP h5
      refine lv_iload_n hx hb dRG_told_10 rfl (lv_at hl 3 rfl) ?_
      refine z_case (v := 0) E (fun c_11_0 E => ?_) (fun c_11_0 E => ?_)
      · refine z_tabIn (w := 0) (off := 25) (tgt := 36) hx hb dRG_told_11 c_11_0 (by decide) (by decide) rfl (by decide) ?_
        have E := zokE E (etg.trans hc)
        refine lv_aload_n hx hb dRG_told_36 rfl (lv_at hl 0 rfl) ?_
        refine c_getO_RG_protocol hx hb (hB.words zU_RG) hown hK hP (hB.word (zm1 k1_238) rfl) dRG_told_37 ?_
        refine c_getA_22 hx hb (hB.words zU_PR) hown hK hP (hB.word (zm1 k1_145) rfl) dRG_told_40 ?_
        refine lv_iload_n hx hb dRG_told_43 rfl (lv_at hl 1 rfl) ?_
        refine c_aldS hx hb hK hP 22 (by decide) rfl r_x0 (by decide) dRG_told_44 E (fun k7 ek7 E => ?_)
        rw [hQe]
        exact W.iret (v := k7) hx hb hr (fun t ht hW => ⟨⟨k7, (), rfl, ⟨E.symm, trivial⟩, trivial⟩, hS.F ht⟩) hS.2.2 dRG_told_45
      · skip
        refine z_case (v := 1) E (fun c_11_1 E => ?_) (fun c_11_1 E => ?_)
        · refine z_tabIn (w := 1) (off := 35) (tgt := 46) hx hb dRG_told_11 c_11_1 (by decide) (by decide) rfl (by decide) ?_
          have E := zokE E (etg.trans hc)
          refine lv_aload_n hx hb dRG_told_46 rfl (lv_at hl 0 rfl) ?_
          refine c_getO_RG_protocol hx hb (hB.words zU_RG) hown hK hP (hB.word (zm1 k1_238) rfl) dRG_told_47 ?_
          refine c_getA_15 hx hb (hB.words zU_PR) hown hK hP (hB.word (zm1 k1_136) rfl) dRG_told_50 ?_
          refine lv_iload_n hx hb dRG_told_53 rfl (lv_at hl 1 rfl) ?_
          refine lv_bipush (v := 6) hx hb dRG_told_54 (by decide) ?_
          refine z_imul hx hb dRG_told_56 E (fun k8 ek8 E => ?_)
          have r_k8 : zr 0 282 k8 := zr_mul r_x0 (show zr 6 6 6 from by decide) ek8 (by decide)
          refine lv_iload_n hx hb dRG_told_57 rfl (lv_at hl 2 rfl) ?_
          refine z_iadd hx hb dRG_told_58 E (fun k9 ek9 E => ?_)
          have r_k9 : zr 0 287 k9 := zr_add r_k8 r_x1 ek9 (by decide)
          refine c_aldS hx hb hK hP 15 (by decide) rfl r_k9 (by decide) dRG_told_59 E (fun k10 ek10 E => ?_)
          rw [hQe]
          exact W.iret (v := k10) hx hb hr (fun t ht hW => ⟨⟨k10, (), rfl, ⟨E.symm, trivial⟩, trivial⟩, hS.F ht⟩) hS.2.2 dRG_told_60
        · skip
          refine z_case (v := 2) E (fun c_11_2 E => ?_) (fun c_11_2 E => ?_)
          · refine z_tabIn (w := 2) (off := 50) (tgt := 61) hx hb dRG_told_11 c_11_2 (by decide) (by decide) rfl (by decide) ?_
            have E := zokE E (etg.trans hc)
            refine lv_aload_n hx hb dRG_told_61 rfl (lv_at hl 0 rfl) ?_
            refine c_getO_RG_protocol hx hb (hB.words zU_RG) hown hK hP (hB.word (zm1 k1_238) rfl) dRG_told_62 ?_
            refine c_getA_17 hx hb (hB.words zU_PR) hown hK hP (hB.word (zm1 k1_139) rfl) dRG_told_65 ?_
            refine lv_iload_n hx hb dRG_told_68 rfl (lv_at hl 2 rfl) ?_
            refine c_aldS hx hb hK hP 17 (by decide) rfl r_x1 (by decide) dRG_told_69 E (fun k11 ek11 E => ?_)
            rw [hQe]
            exact W.iret (v := k11) hx hb hr (fun t ht hW => ⟨⟨k11, (), rfl, ⟨E.symm, trivial⟩, trivial⟩, hS.F ht⟩) hS.2.2 dRG_told_70
          · skip
            refine lv_tableOut (tgt := 71) hx hb dRG_told_11 (ztabOut3 c_11_0 c_11_1 c_11_2) (by decide) ?_
            cases E.symm.trans (etg.trans hc)
set_option maxHeartbeats 4000000 in
set_option maxRecDepth 100000 in
theorem tRG_told_T1 (l : Launch) (dC : Nat → ClassId) (dI : Nat → Nat → Nat) (cI cZ cJ cA : ClassId) (a0 : Array Value) (s0 : State) (o b : Nat → Nat) (hfl : l.flags = Jvm.pinnedFlags ++ [Jvm.noTraceFlag]) (P S : ZS) (sz : Nat) (x0 : Int32) (x1 : Int32) (x2 : Int32) (gP : cok P) (gS : cok S) (hc : fRG_told P S x0 x1 x2 = .error 1) : tq_Met l yRG_told [Cond.code yRG_told bRG_told 4 (some .int)] ({ frames := 7, cells := 1, slots := 6, locals := 111 } : Room) (zP zCl dC dI (zTZ cI cZ cJ cA) a0 s0 [.ref (o 0), .int x0, .int x1, .int x2] sz (CW cI cZ cA o b P S)) (tq_Q "java/lang/IllegalArgumentException") 1 6 (zN sz) := by
  refine tq_ofW (cc := bRG_told) (maxL := 4) (ret := (some .int)) (by decide) rfl ?_
  intro p e s m args below meth c s₁ B hml htab hv
  obtain ⟨rfl, hsz, hP, hK, hD0, hB⟩ := hv
  have hx := B.exec
  have hb := B.bytes
  have hr := B.returns
  have hown : s.vm.findClass "RingGuard" = some m.cls := findClass_of_methodNamed B.named
  have hlocks := B.notSynchronized
  subst hsz
  have hD := hD0
  have hA0 : ∀ q, zN s.heap.size q → s0.heap.size ≤ q := zA1 hB
  have hAD : ∀ q, zN s0.heap.size q → s0.heap.size ≤ q := fun _ h => h
  have hA : ∀ q : Nat, s.heap.size ≤ q → zN s.heap.size q := fun _ h => h
  have hS : va_S (zN s.heap.size) s.heap s.heap [] := va_S.rf
  have hl := lv_entry ([.ref (o 0), .int x0, .int x1, .int x2]) (n := 4) (Nat.le_of_ble_eq_true rfl)
  rw [lg_entry_eq]
  generalize (lg_sl ([.ref (o 0), .int x0, .int x1, .int x2]) ++ List.replicate (4 - (lg_sl ([.ref (o 0), .int x0, .int x1, .int x2])).length) Slot.unset).toArray = ls at hl ⊢
  have hfl := hfl
  have hl : lv_has ls 4 [(0, .ref (o 0)), (1, .int x0), (2, .int x1), (3, .int x2)] := hl
  refine zgenQ (fun Q hQe => ?_)
  obtain ⟨tg, etg⟩ : ∃ z, z = fRG_told P S x0 x1 x2 := ⟨_, rfl⟩
  have E := etg
  unfold fRG_told at E
  refine lv_aload_n hx hb dRG_told_0 rfl (lv_at hl 0 rfl) ?_
  refine lv_iload_n hx hb dRG_told_1 rfl (lv_at hl 1 rfl) ?_
  refine z_bind E (fun k9 h2 E => ?_) (fun u1 h2 E => ?_)
  · have x9 : k9 = 1 := zerr (E.symm.trans (etg.trans hc))
    subst x9
    rw [hQe]
    exact zpass (tq_runV (As := [.int x0]) (rest := []) ⟨hx, hb, hml, hown, zno⟩ (tRG_requireBridge_T1 l dC dI cI cZ cJ cA a0 s0 o b hfl P S s.heap.size x0 gP gS h2) (zcw 1 (hB.word (zm2 k2_150) rfl) (hB.word (zm1 k1_1) rfl) (hB.word (zm2 k2_147) rfl) (hB.word (zm2 k2_149) rfl) (k2_selects_private (by decide) (hB.word (zm1 k1_18) rfl) (hB.word (zm2 k2_148) rfl) (hB.word (zm2 k2_149) rfl)) rfl rfl (by decide +kernel) ⟨Nat.le_of_ble_eq_true rfl, Nat.le_of_ble_eq_true rfl⟩) ⟨zP_blind, va_recv hK hP (ci := 0) (q0 := 0) rfl rfl, zP_pre hP hK hD hAD (zB_on hB hA0 hS)⟩ rfl rfl hl.1 rfl (lv_room (Nat.le_of_ble_eq_true rfl)) dRG_told_2 ⟨Nat.le_of_ble_eq_true rfl, Nat.le_of_ble_eq_true rfl⟩) htab hlocks hS (Nat.le_of_ble_eq_true rfl) (Nat.le_of_ble_eq_true rfl)
  · skip
    refine zcallo (va_runV (As := [.int x0]) (rest := []) ⟨hx, hb, hml, hown, zno⟩ (tRG_requireBridge l dC dI cI cZ cJ cA a0 s0 o b P S s.heap.size x0 gP gS u1 h2) (zcw 1 (hB.word (zm2 k2_150) rfl) (hB.word (zm1 k1_1) rfl) (hB.word (zm2 k2_147) rfl) (hB.word (zm2 k2_149) rfl) (k2_selects_private (by decide) (hB.word (zm1 k1_18) rfl) (hB.word (zm2 k2_148) rfl) (hB.word (zm2 k2_149) rfl)) rfl rfl (by decide +kernel) ⟨Nat.le_of_ble_eq_true rfl, Nat.le_of_ble_eq_true rfl⟩) ⟨zP_blind, va_recv hK hP (ci := 0) (q0 := 0) rfl rfl, zP_pre hP hK hD hAD (zB_on hB hA0 hS)⟩ rfl rfl hl.1 rfl (lv_room (Nat.le_of_ble_eq_true rfl)) dRG_told_2 ⟨Nat.le_of_ble_eq_true rfl, Nat.le_of_ble_eq_true rfl⟩) hS hA (fun H3 locs hz1 hk1 hS => ?_)
    have hP := zKeep hP hk1
    have r_x0 : zr 0 47 x0 := zk_rB1 gP h2
    have qlb_x0 : x0.toInt < (P.I 0).toInt := zk_rB2 gP h2
    refine lv_aload_n hx hb dRG_told_5 rfl (lv_at hl 0 rfl) ?_
    refine lv_iload_n hx hb dRG_told_6 rfl (lv_at hl 2 rfl) ?_
    refine z_bind E (fun k9 h5 E => ?_) (fun u4 h5 E => ?_)
    · have x9 : k9 = 1 := zerr (E.symm.trans (etg.trans hc))
      subst x9
      rw [hQe]
      exact zpass (tq_runV (As := [.int x1]) (rest := []) ⟨hx, hb, hml, hown, zno⟩ (tRG_requireRing_T1 l dC dI cI cZ cJ cA a0 s0 o b hfl P S H3.size x1 gP gS h5) (zcw 1 (hB.word (zm2 k2_170) rfl) (hB.word (zm1 k1_1) rfl) (hB.word (zm2 k2_167) rfl) (hB.word (zm2 k2_169) rfl) (k2_selects_private (by decide) (hB.word (zm1 k1_18) rfl) (hB.word (zm2 k2_168) rfl) (hB.word (zm2 k2_169) rfl)) rfl rfl (by decide +kernel) ⟨Nat.le_of_ble_eq_true rfl, Nat.le_of_ble_eq_true rfl⟩) ⟨zP_blind, va_recv hK hP (ci := 0) (q0 := 0) rfl rfl, zP_pre hP hK hD hAD (zB_on hB hA0 hS)⟩ rfl rfl hl.1 rfl (lv_room (Nat.le_of_ble_eq_true rfl)) dRG_told_7 ⟨Nat.le_of_ble_eq_true rfl, Nat.le_of_ble_eq_true rfl⟩) htab hlocks hS (Nat.le_of_ble_eq_true rfl) (Nat.le_of_ble_eq_true rfl)
    · skip
      refine zcallo (va_runV (As := [.int x1]) (rest := []) ⟨hx, hb, hml, hown, zno⟩ (tRG_requireRing l dC dI cI cZ cJ cA a0 s0 o b P S H3.size x1 gP gS u4 h5) (zcw 1 (hB.word (zm2 k2_170) rfl) (hB.word (zm1 k1_1) rfl) (hB.word (zm2 k2_167) rfl) (hB.word (zm2 k2_169) rfl) (k2_selects_private (by decide) (hB.word (zm1 k1_18) rfl) (hB.word (zm2 k2_168) rfl) (hB.word (zm2 k2_169) rfl)) rfl rfl (by decide +kernel) ⟨Nat.le_of_ble_eq_true rfl, Nat.le_of_ble_eq_true rfl⟩) ⟨zP_blind, va_recv hK hP (ci := 0) (q0 := 0) rfl rfl, zP_pre hP hK hD hAD (zB_on hB hA0 hS)⟩ rfl rfl hl.1 rfl (lv_room (Nat.le_of_ble_eq_true rfl)) dRG_told_7 ⟨Nat.le_of_ble_eq_true rfl, Nat.le_of_ble_eq_true rfl⟩) hS hA (fun H6 locs hz1 hk1 hS => ?_)
      have hP := zKeep hP hk1
      have r_x1 : zr 0 5 x1 := zk_rR gP h5
      refine lv_iload_n hx hb dRG_told_10 rfl (lv_at hl 3 rfl) ?_
      refine z_case (v := 0) E (fun c_11_0 E => ?_) (fun c_11_0 E => ?_)
      · refine z_tabIn (w := 0) (off := 25) (tgt := 36) hx hb dRG_told_11 c_11_0 (by decide) (by decide) rfl (by decide) ?_
        cases E.symm.trans (etg.trans hc)
      · skip
        refine z_case (v := 1) E (fun c_11_1 E => ?_) (fun c_11_1 E => ?_)
        · refine z_tabIn (w := 1) (off := 35) (tgt := 46) hx hb dRG_told_11 c_11_1 (by decide) (by decide) rfl (by decide) ?_
          cases E.symm.trans (etg.trans hc)
        · skip
          refine z_case (v := 2) E (fun c_11_2 E => ?_) (fun c_11_2 E => ?_)
          · refine z_tabIn (w := 2) (off := 50) (tgt := 61) hx hb dRG_told_11 c_11_2 (by decide) (by decide) rfl (by decide) ?_
            cases E.symm.trans (etg.trans hc)
          · skip
            refine lv_tableOut (tgt := 71) hx hb dRG_told_11 (ztabOut3 c_11_0 c_11_1 c_11_2) (by decide) ?_
            obtain ⟨qs, hZ⟩ := hB.str (zm4 k4_92)
            rw [hQe]
            exact zthrow hfl hx hb hown (hB.word (zm2 k2_151) rfl) (hB.word (zm1 k1_14) rfl) hZ (by decide) (hB.words zO_80) (by rw [hml]; exact hl.1) htab hlocks dRG_told_71 dRG_told_74 dRG_told_75 dRG_told_77 dRG_told_80 (Nat.le_of_ble_eq_true rfl) (Nat.le_of_ble_eq_true rfl) (Nat.le_of_ble_eq_true rfl) (Nat.le_of_ble_eq_true rfl) hS rfl rfl
noncomputable def fRG_send_46 (P : ZS) (S_46 : ZS) : Except Nat (ZS × Int32) := .error 1
noncomputable def fRG_send (P S : ZS) (x0 : Int32) (x1 : Int32) (x2 : Int32) : Except Nat (ZS × Int32) := zbind (fRG_requireHost P S x0) (fun u1 => zbind (fRG_requireHost P S x1) (fun u4 => zbind (fRG_requireTag P S x2) (fun u7 => (if x0 = x1 then fRG_send_46 P S else zl (S.F 23 (x0 : Int32).toNatClampNeg) (fun k10 => (if k10 = (-1) then fRG_send_46 P S else zl (S.F 23 (x1 : Int32).toNatClampNeg) (fun k11 => (if k11 = (-1) then fRG_send_46 P S else zbind (fRG_requireStarted P S) (fun u12 => .ok (zl (S.I 3) (fun k15 => zl2 (fFR_carry P S x0 x1 x2 k15) (fun S18 k17 => (S18, k17)))))))))))))
set_option maxHeartbeats 4000000 in
set_option maxRecDepth 100000 in
theorem tRG_send (l : Launch) (dC : Nat → ClassId) (dI : Nat → Nat → Nat) (cI cZ cJ cA : ClassId) (a0 : Array Value) (s0 : State) (o b : Nat → Nat) (P S : ZS) (sz : Nat) (x0 : Int32) (x1 : Int32) (x2 : Int32) (gP : cok P) (gS : cok S) (y : ZS × Int32) (hc : fRG_send P S x0 x1 x2 = .ok y) : Met l yRG_send [Cond.code yRG_send bRG_send 4 (some .int)] ({ frames := 4, cells := 0, slots := 0, locals := 97 } : Room) (zP zCl dC dI (zTZ cI cZ cJ cA) a0 s0 [.ref (o 0), .int x0, .int x1, .int x2] sz (CW cI cZ cA o b P S)) (zQH zCl dC dI (fun (r : Int32) (x9 : ZS) => (x9, r) = y ∧ cok x9 ∧ True) (fun x9 : ZS => (CW cI cZ cA o b P x9)) (va_A (CW cI cZ cA o b P S) sz)) 0 0 (va_A (CW cI cZ cA o b P S) sz) := by
  refine Met.ofW (cc := bRG_send) (maxL := 4) (ret := (some .int)) (by decide) rfl ?_
  intro p e s m args below meth c s₁ B hml hv
  obtain ⟨rfl, hsz, hP, hK, hD0, hB⟩ := hv
  have hx := B.exec
  have hb := B.bytes
  have hr := B.returns
  have hown : s.vm.findClass "RingGuard" = some m.cls := findClass_of_methodNamed B.named
  have hlocks := B.notSynchronized
  subst hsz
  have hD := hD0.self (sz := s.heap.size)
  have hA0 := zA0 hD0 hB
  generalize hAe : va_A (CW cI cZ cA o b P S) s.heap.size = A at hD hA0 ⊢
  have hAD := hA0
  have hA : ∀ q : Nat, s.heap.size ≤ q → A q := fun q h => by rw [← hAe]; exact Or.inr h
  have hS : va_S A s.heap s.heap [] := va_S.rf
  have hl := lv_entry ([.ref (o 0), .int x0, .int x1, .int x2]) (n := 4) (Nat.le_of_ble_eq_true rfl)
  rw [lg_entry_eq]
  generalize (lg_sl ([.ref (o 0), .int x0, .int x1, .int x2]) ++ List.replicate (4 - (lg_sl ([.ref (o 0), .int x0, .int x1, .int x2])).length) Slot.unset).toArray = ls at hl ⊢
  have hl : lv_has ls 4 [(0, .ref (o 0)), (1, .int x0), (2, .int x1), (3, .int x2)] := hl
  refine zgenQ (fun Q hQe => ?_)
  obtain ⟨tg, etg⟩ : ∃ z, z = fRG_send P S x0 x1 x2 := ⟨_, rfl⟩
  have E := etg
  unfold fRG_send at E
  have hJ46 : ∀ (H : Heap) (locs : List Loc) (ls : Array Slot) (S_46 : ZS), cok S_46 → tg = fRG_send_46 P S_46 → va_P (dC, dI) zCl (CW cI cZ cA o b P S_46) H → va_D A (CW cI cZ cA o b P S_46) → va_S A s.heap H locs → lv_has ls 4 [] → W p l e ({ frames := 4, cells := 0, slots := 0, locals := 97 } : Room) s m ([.ref (o 0), .int x0, .int x1, .int x2] : List Value).toArray below meth c H locs 0 0 Q (F0 m 46 ls []) := by
    intro H locs ls S_46 gS_46 E hP hD hS hl
    unfold fRG_send_46 at E
    cases E.symm.trans (etg.trans hc)
  refine lv_aload_n hx hb dRG_send_0 rfl (lv_at hl 0 rfl) ?_
  refine lv_iload_n hx hb dRG_send_1 rfl (lv_at hl 1 rfl) ?_
  refine z_bind E (fun k9 h2 E => ?_) (fun u1 h2 E => ?_)
  · cases E.symm.trans (etg.trans hc)
  · skip
    refine zcallo (va_runV (As := [.int x0]) (rest := []) ⟨hx, hb, hml, hown, zno⟩ (tRG_requireHost l dC dI cI cZ cJ cA a0 s0 o b P S s.heap.size x0 gP gS u1 h2) (zcw 1 (hB.word (zm4 k4_30) rfl) (hB.word (zm1 k1_1) rfl) (hB.word (zm4 k4_27) rfl) (hB.word (zm4 k4_29) rfl) (k2_selects_private (by decide) (hB.word (zm1 k1_18) rfl) (hB.word (zm4 k4_28) rfl) (hB.word (zm4 k4_29) rfl)) rfl rfl (by decide +kernel) ⟨Nat.le_of_ble_eq_true rfl, Nat.le_of_ble_eq_true rfl⟩) ⟨zP_blind, va_recv hK hP (ci := 0) (q0 := 0) rfl rfl, zP_pre hP hK hD hAD (zB_on hB hA0 hS)⟩ rfl rfl hl.1 rfl (lv_room (Nat.le_of_ble_eq_true rfl)) dRG_send_2 ⟨Nat.le_of_ble_eq_true rfl, Nat.le_of_ble_eq_true rfl⟩) hS hA (fun H3 locs hz1 hk1 hS => ?_)
    have hP := zKeep hP hk1
    have r_x0 : zr 0 63 x0 := zk_rH gP h2
    refine lv_aload_n hx hb dRG_send_5 rfl (lv_at hl 0 rfl) ?_
    refine lv_iload_n hx hb dRG_send_6 rfl (lv_at hl 2 rfl) ?_
    refine z_bind E (fun k9 h5 E => ?_) (fun u4 h5 E => ?_)
    · cases E.symm.trans (etg.trans hc)
    · skip
      refine zcallo (va_runV (As := [.int x1]) (rest := []) ⟨hx, hb, hml, hown, zno⟩ (tRG_requireHost l dC dI cI cZ cJ cA a0 s0 o b P S H3.size x1 gP gS u4 h5) (zcw 1 (hB.word (zm4 k4_30) rfl) (hB.word (zm1 k1_1) rfl) (hB.word (zm4 k4_27) rfl) (hB.word (zm4 k4_29) rfl) (k2_selects_private (by decide) (hB.word (zm1 k1_18) rfl) (hB.word (zm4 k4_28) rfl) (hB.word (zm4 k4_29) rfl)) rfl rfl (by decide +kernel) ⟨Nat.le_of_ble_eq_true rfl, Nat.le_of_ble_eq_true rfl⟩) ⟨zP_blind, va_recv hK hP (ci := 0) (q0 := 0) rfl rfl, zP_pre hP hK hD hAD (zB_on hB hA0 hS)⟩ rfl rfl hl.1 rfl (lv_room (Nat.le_of_ble_eq_true rfl)) dRG_send_7 ⟨Nat.le_of_ble_eq_true rfl, Nat.le_of_ble_eq_true rfl⟩) hS hA (fun H6 locs hz1 hk1 hS => ?_)
      have hP := zKeep hP hk1
      have r_x1 : zr 0 63 x1 := zk_rH gP h5
      refine lv_aload_n hx hb dRG_send_10 rfl (lv_at hl 0 rfl) ?_
      refine lv_iload_n hx hb dRG_send_11 rfl (lv_at hl 3 rfl) ?_
      refine z_bind E (fun k9 h8 E => ?_) (fun u7 h8 E => ?_)
      · cases E.symm.trans (etg.trans hc)
      · skip
        refine zcallo (va_runV (As := [.int x2]) (rest := []) ⟨hx, hb, hml, hown, zno⟩ (tRG_requireTag l dC dI cI cZ cJ cA a0 s0 o b P S H6.size x2 gP gS u7 h8) (zcw 1 (hB.word (zm4 k4_46) rfl) (hB.word (zm1 k1_1) rfl) (hB.word (zm4 k4_43) rfl) (hB.word (zm4 k4_45) rfl) (k2_selects_private (by decide) (hB.word (zm1 k1_18) rfl) (hB.word (zm4 k4_44) rfl) (hB.word (zm4 k4_45) rfl)) rfl rfl (by decide +kernel) ⟨Nat.le_of_ble_eq_true rfl, Nat.le_of_ble_eq_true rfl⟩) ⟨zP_blind, va_recv hK hP (ci := 0) (q0 := 0) rfl rfl, zP_pre hP hK hD hAD (zB_on hB hA0 hS)⟩ rfl rfl hl.1 rfl (lv_room (Nat.le_of_ble_eq_true rfl)) dRG_send_12 ⟨Nat.le_of_ble_eq_true rfl, Nat.le_of_ble_eq_true rfl⟩) hS hA (fun H9 locs hz1 hk1 hS => ?_)
        have hP := zKeep hP hk1
        have r_x2 : zr 0 3 x2 := zk_rT gP h8
        refine lv_iload_n hx hb dRG_send_15 rfl (lv_at hl 1 rfl) ?_
        refine lv_iload_n hx hb dRG_send_16 rfl (lv_at hl 2 rfl) ?_
        refine z_icmp_eq (tgt := 46) hx hb dRG_send_17 (by decide) E (fun c_17 E => ?_) (fun c_17 E => ?_)
        · exact hJ46 H9 locs ls S gS E hP hD hS (lv_sub hl [] rfl)
        · refine lv_aload_n hx hb dRG_send_20 rfl (lv_at hl 0 rfl) ?_
          refine c_getO_RG_frames hx hb (hB.words zU_RG) hown hK hP (hB.word (zm1 k1_239) rfl) dRG_send_21 ?_
          refine c_getA_23 hx hb (hB.words zU_FR) hown hK hP (hB.word (zm1 k1_190) rfl) dRG_send_24 ?_
          refine lv_iload_n hx hb dRG_send_27 rfl (lv_at hl 1 rfl) ?_
          refine c_aldS hx hb hK hP 23 (by decide) rfl r_x0 (by decide) dRG_send_28 E (fun k10 ek10 E => ?_)
          have r_k10 : zr (-1) 47 k10 := by rw [ek10]; exact gS.1 23 _
          refine lv_iconst (v := (-1)) hx hb dRG_send_29 (by decide) ?_
          refine z_icmp_eq (tgt := 46) hx hb dRG_send_30 (by decide) E (fun c_30 E => ?_) (fun c_30 E => ?_)
          · have r_k10 : zr (-1) (-1) k10 := zeq_x (show zr (-1) (-1) (-1) from by decide) c_30
            exact hJ46 H9 locs ls S gS E hP hD hS (lv_sub hl [] rfl)
          · have r_k10 : zr 0 47 k10 := zne_lo r_k10 c_30 (by decide)
            refine lv_aload_n hx hb dRG_send_33 rfl (lv_at hl 0 rfl) ?_
            refine c_getO_RG_frames hx hb (hB.words zU_RG) hown hK hP (hB.word (zm1 k1_239) rfl) dRG_send_34 ?_
            refine c_getA_23 hx hb (hB.words zU_FR) hown hK hP (hB.word (zm1 k1_190) rfl) dRG_send_37 ?_
            refine lv_iload_n hx hb dRG_send_40 rfl (lv_at hl 2 rfl) ?_
            refine c_aldS hx hb hK hP 23 (by decide) rfl r_x1 (by decide) dRG_send_41 E (fun k11 ek11 E => ?_)
            have r_k11 : zr (-1) 47 k11 := by rw [ek11]; exact gS.1 23 _
            refine lv_iconst (v := (-1)) hx hb dRG_send_42 (by decide) ?_
            refine z_icmp_ne (tgt := 56) hx hb dRG_send_43 (by decide) E (fun c_43 E => ?_) (fun c_43 E => ?_)
            · have r_k11 : zr 0 47 k11 := zne_lo r_k11 c_43 (by decide)
              refine lv_aload_n hx hb dRG_send_56 rfl (lv_at hl 0 rfl) ?_
              refine z_bind E (fun k9 h13 E => ?_) (fun u12 h13 E => ?_)
              · cases E.symm.trans (etg.trans hc)
              · skip
                refine zcallo (va_runV (As := []) (rest := []) ⟨hx, hb, hml, hown, zno⟩ (tRG_requireStarted l dC dI cI cZ cJ cA a0 s0 o b P S H9.size gP gS u12 h13) (zcw 0 (hB.word (zm3 k3_58) rfl) (hB.word (zm1 k1_1) rfl) (hB.word (zm3 k3_55) rfl) (hB.word (zm3 k3_57) rfl) (k2_selects_private (by decide) (hB.word (zm1 k1_18) rfl) (hB.word (zm3 k3_56) rfl) (hB.word (zm3 k3_57) rfl)) rfl rfl (by decide +kernel) ⟨Nat.le_of_ble_eq_true rfl, Nat.le_of_ble_eq_true rfl⟩) ⟨zP_blind, va_recv hK hP (ci := 0) (q0 := 0) rfl rfl, zP_pre hP hK hD hAD (zB_on hB hA0 hS)⟩ rfl rfl hl.1 rfl (lv_room (Nat.le_of_ble_eq_true rfl)) dRG_send_57 ⟨Nat.le_of_ble_eq_true rfl, Nat.le_of_ble_eq_true rfl⟩) hS hA (fun H14 locs hz1 hk1 hS => ?_)
                have hP := zKeep hP hk1
                have E := zokE E (etg.trans hc)
                refine lv_aload_n hx hb dRG_send_60 rfl (lv_at hl 0 rfl) ?_
                refine c_getO_RG_frames hx hb (hB.words zU_RG) hown hK hP (hB.word (zm1 k1_239) rfl) dRG_send_61 ?_
                refine lv_iload_n hx hb dRG_send_64 rfl (lv_at hl 1 rfl) ?_
                refine lv_iload_n hx hb dRG_send_65 rfl (lv_at hl 2 rfl) ?_
                refine lv_iload_n hx hb dRG_send_66 rfl (lv_at hl 3 rfl) ?_
                refine lv_aload_n hx hb dRG_send_67 rfl (lv_at hl 0 rfl) ?_
                refine c_get_3 hx hb (hB.words zU_RG) hown hK hP (hB.word (zm2 k2_2) rfl) dRG_send_68 E (fun k15 ek15 E => ?_)
                refine zcI (va_runV (As := [.int x0, .int x1, .int x2, .int k15]) (rest := []) ⟨hx, hb, hml, hown, zno⟩ (tFR_carry l dC dI cI cZ cJ cA a0 s0 o b P S H14.size x0 x1 x2 k15 gP gS r_x0 r_x1 r_x2 (by rw [← ek10]; exact c_30)) (zcw 4 (hB.word (zm4 k4_52) rfl) (hB.word (zm1 k1_7) rfl) (hB.word (zm4 k4_49) rfl) (hB.word (zm4 k4_50) rfl) (hB.word (zm4 k4_51) rfl) rfl rfl (by decide +kernel) ⟨Nat.le_of_ble_eq_true rfl, Nat.le_of_ble_eq_true rfl⟩) ⟨zP_blind, va_recv hK hP (ci := 5) (q0 := 5) rfl rfl, zP_pre hP hK hD hAD (zB_on hB hA0 hS)⟩ rfl rfl hl.1 rfl (lv_room (Nat.le_of_ble_eq_true rfl)) dRG_send_71 ⟨Nat.le_of_ble_eq_true rfl, Nat.le_of_ble_eq_true rfl⟩) hD hS hA (fun k17 S18 H16 locs h19 hP hD hS => ?_)
                have E := zl2_s E h19.1
                have gS18 := h19.2.1
                rw [hQe]
                exact W.iret (v := k17) hx hb hr (fun t ht hW => ⟨⟨k17, S18, rfl, ⟨E.symm, gS18, trivial⟩, by rw [ht]; exact hP, hD⟩, hS.F ht⟩) hS.2.2 dRG_send_74
            · have r_k11 : zr (-1) (-1) k11 := zeq_x (show zr (-1) (-1) (-1) from by decide) c_43
              exact hJ46 H9 locs ls S gS E hP hD hS (lv_sub hl [] rfl)
set_option maxHeartbeats 4000000 in
set_option maxRecDepth 100000 in
theorem tRG_send_T1 (l : Launch) (dC : Nat → ClassId) (dI : Nat → Nat → Nat) (cI cZ cJ cA : ClassId) (a0 : Array Value) (s0 : State) (o b : Nat → Nat) (hfl : l.flags = Jvm.pinnedFlags ++ [Jvm.noTraceFlag]) (P S : ZS) (sz : Nat) (x0 : Int32) (x1 : Int32) (x2 : Int32) (gP : cok P) (gS : cok S) (hc : fRG_send P S x0 x1 x2 = .error 1) : tq_Met l yRG_send [Cond.code yRG_send bRG_send 4 (some .int)] ({ frames := 7, cells := 1, slots := 6, locals := 111 } : Room) (zP zCl dC dI (zTZ cI cZ cJ cA) a0 s0 [.ref (o 0), .int x0, .int x1, .int x2] sz (CW cI cZ cA o b P S)) (tq_Q "java/lang/IllegalArgumentException") 1 6 (zN sz) := by
  refine tq_ofW (cc := bRG_send) (maxL := 4) (ret := (some .int)) (by decide) rfl ?_
  intro p e s m args below meth c s₁ B hml htab hv
  obtain ⟨rfl, hsz, hP, hK, hD0, hB⟩ := hv
  have hx := B.exec
  have hb := B.bytes
  have hr := B.returns
  have hown : s.vm.findClass "RingGuard" = some m.cls := findClass_of_methodNamed B.named
  have hlocks := B.notSynchronized
  subst hsz
  have hD := hD0
  have hA0 : ∀ q, zN s.heap.size q → s0.heap.size ≤ q := zA1 hB
  have hAD : ∀ q, zN s0.heap.size q → s0.heap.size ≤ q := fun _ h => h
  have hA : ∀ q : Nat, s.heap.size ≤ q → zN s.heap.size q := fun _ h => h
  have hS : va_S (zN s.heap.size) s.heap s.heap [] := va_S.rf
  have hl := lv_entry ([.ref (o 0), .int x0, .int x1, .int x2]) (n := 4) (Nat.le_of_ble_eq_true rfl)
  rw [lg_entry_eq]
  generalize (lg_sl ([.ref (o 0), .int x0, .int x1, .int x2]) ++ List.replicate (4 - (lg_sl ([.ref (o 0), .int x0, .int x1, .int x2])).length) Slot.unset).toArray = ls at hl ⊢
  have hfl := hfl
  have hl : lv_has ls 4 [(0, .ref (o 0)), (1, .int x0), (2, .int x1), (3, .int x2)] := hl
  refine zgenQ (fun Q hQe => ?_)
  obtain ⟨tg, etg⟩ : ∃ z, z = fRG_send P S x0 x1 x2 := ⟨_, rfl⟩
  have E := etg
  unfold fRG_send at E
  have hJ46 : ∀ (H : Heap) (locs : List Loc) (ls : Array Slot), tg = fRG_send_46 P S  → va_P (dC, dI) zCl (CW cI cZ cA o b P S) H → va_S (zN s.heap.size) s.heap H locs → lv_has ls 4 [] → W p l e ({ frames := 7, cells := 1, slots := 6, locals := 111 } : Room) s m ([.ref (o 0), .int x0, .int x1, .int x2] : List Value).toArray below meth c H locs 0 0 Q (F0 m 46 ls []) := by
    intro H locs ls E hP hS hl
    unfold fRG_send_46 at E
    obtain ⟨qs, hZ⟩ := hB.str (zm4 k4_48)
    rw [hQe]
    exact zthrow hfl hx hb hown (hB.word (zm2 k2_151) rfl) (hB.word (zm1 k1_14) rfl) hZ (by decide) (hB.words zO_80) (by rw [hml]; exact hl.1) htab hlocks dRG_send_46 dRG_send_49 dRG_send_50 dRG_send_52 dRG_send_55 (Nat.le_of_ble_eq_true rfl) (Nat.le_of_ble_eq_true rfl) (Nat.le_of_ble_eq_true rfl) (Nat.le_of_ble_eq_true rfl) hS rfl rfl
  refine lv_aload_n hx hb dRG_send_0 rfl (lv_at hl 0 rfl) ?_
  refine lv_iload_n hx hb dRG_send_1 rfl (lv_at hl 1 rfl) ?_
  refine z_bind E (fun k9 h2 E => ?_) (fun u1 h2 E => ?_)
  · have x9 : k9 = 1 := zerr (E.symm.trans (etg.trans hc))
    subst x9
    rw [hQe]
    exact zpass (tq_runV (As := [.int x0]) (rest := []) ⟨hx, hb, hml, hown, zno⟩ (tRG_requireHost_T1 l dC dI cI cZ cJ cA a0 s0 o b hfl P S s.heap.size x0 gP gS h2) (zcw 1 (hB.word (zm4 k4_30) rfl) (hB.word (zm1 k1_1) rfl) (hB.word (zm4 k4_27) rfl) (hB.word (zm4 k4_29) rfl) (k2_selects_private (by decide) (hB.word (zm1 k1_18) rfl) (hB.word (zm4 k4_28) rfl) (hB.word (zm4 k4_29) rfl)) rfl rfl (by decide +kernel) ⟨Nat.le_of_ble_eq_true rfl, Nat.le_of_ble_eq_true rfl⟩) ⟨zP_blind, va_recv hK hP (ci := 0) (q0 := 0) rfl rfl, zP_pre hP hK hD hAD (zB_on hB hA0 hS)⟩ rfl rfl hl.1 rfl (lv_room (Nat.le_of_ble_eq_true rfl)) dRG_send_2 ⟨Nat.le_of_ble_eq_true rfl, Nat.le_of_ble_eq_true rfl⟩) htab hlocks hS (Nat.le_of_ble_eq_true rfl) (Nat.le_of_ble_eq_true rfl)
  · skip
    refine zcallo (va_runV (As := [.int x0]) (rest := []) ⟨hx, hb, hml, hown, zno⟩ (tRG_requireHost l dC dI cI cZ cJ cA a0 s0 o b P S s.heap.size x0 gP gS u1 h2) (zcw 1 (hB.word (zm4 k4_30) rfl) (hB.word (zm1 k1_1) rfl) (hB.word (zm4 k4_27) rfl) (hB.word (zm4 k4_29) rfl) (k2_selects_private (by decide) (hB.word (zm1 k1_18) rfl) (hB.word (zm4 k4_28) rfl) (hB.word (zm4 k4_29) rfl)) rfl rfl (by decide +kernel) ⟨Nat.le_of_ble_eq_true rfl, Nat.le_of_ble_eq_true rfl⟩) ⟨zP_blind, va_recv hK hP (ci := 0) (q0 := 0) rfl rfl, zP_pre hP hK hD hAD (zB_on hB hA0 hS)⟩ rfl rfl hl.1 rfl (lv_room (Nat.le_of_ble_eq_true rfl)) dRG_send_2 ⟨Nat.le_of_ble_eq_true rfl, Nat.le_of_ble_eq_true rfl⟩) hS hA (fun H3 locs hz1 hk1 hS => ?_)
    have hP := zKeep hP hk1
    have r_x0 : zr 0 63 x0 := zk_rH gP h2
    refine lv_aload_n hx hb dRG_send_5 rfl (lv_at hl 0 rfl) ?_
    refine lv_iload_n hx hb dRG_send_6 rfl (lv_at hl 2 rfl) ?_
    refine z_bind E (fun k9 h5 E => ?_) (fun u4 h5 E => ?_)
    · have x9 : k9 = 1 := zerr (E.symm.trans (etg.trans hc))
      subst x9
      rw [hQe]
      exact zpass (tq_runV (As := [.int x1]) (rest := []) ⟨hx, hb, hml, hown, zno⟩ (tRG_requireHost_T1 l dC dI cI cZ cJ cA a0 s0 o b hfl P S H3.size x1 gP gS h5) (zcw 1 (hB.word (zm4 k4_30) rfl) (hB.word (zm1 k1_1) rfl) (hB.word (zm4 k4_27) rfl) (hB.word (zm4 k4_29) rfl) (k2_selects_private (by decide) (hB.word (zm1 k1_18) rfl) (hB.word (zm4 k4_28) rfl) (hB.word (zm4 k4_29) rfl)) rfl rfl (by decide +kernel) ⟨Nat.le_of_ble_eq_true rfl, Nat.le_of_ble_eq_true rfl⟩) ⟨zP_blind, va_recv hK hP (ci := 0) (q0 := 0) rfl rfl, zP_pre hP hK hD hAD (zB_on hB hA0 hS)⟩ rfl rfl hl.1 rfl (lv_room (Nat.le_of_ble_eq_true rfl)) dRG_send_7 ⟨Nat.le_of_ble_eq_true rfl, Nat.le_of_ble_eq_true rfl⟩) htab hlocks hS (Nat.le_of_ble_eq_true rfl) (Nat.le_of_ble_eq_true rfl)
    · skip
      refine zcallo (va_runV (As := [.int x1]) (rest := []) ⟨hx, hb, hml, hown, zno⟩ (tRG_requireHost l dC dI cI cZ cJ cA a0 s0 o b P S H3.size x1 gP gS u4 h5) (zcw 1 (hB.word (zm4 k4_30) rfl) (hB.word (zm1 k1_1) rfl) (hB.word (zm4 k4_27) rfl) (hB.word (zm4 k4_29) rfl) (k2_selects_private (by decide) (hB.word (zm1 k1_18) rfl) (hB.word (zm4 k4_28) rfl) (hB.word (zm4 k4_29) rfl)) rfl rfl (by decide +kernel) ⟨Nat.le_of_ble_eq_true rfl, Nat.le_of_ble_eq_true rfl⟩) ⟨zP_blind, va_recv hK hP (ci := 0) (q0 := 0) rfl rfl, zP_pre hP hK hD hAD (zB_on hB hA0 hS)⟩ rfl rfl hl.1 rfl (lv_room (Nat.le_of_ble_eq_true rfl)) dRG_send_7 ⟨Nat.le_of_ble_eq_true rfl, Nat.le_of_ble_eq_true rfl⟩) hS hA (fun H6 locs hz1 hk1 hS => ?_)
      have hP := zKeep hP hk1
      have r_x1 : zr 0 63 x1 := zk_rH gP h5
      refine lv_aload_n hx hb dRG_send_10 rfl (lv_at hl 0 rfl) ?_
      refine lv_iload_n hx hb dRG_send_11 rfl (lv_at hl 3 rfl) ?_
      refine z_bind E (fun k9 h8 E => ?_) (fun u7 h8 E => ?_)
      · have x9 : k9 = 1 := zerr (E.symm.trans (etg.trans hc))
        subst x9
        rw [hQe]
        exact zpass (tq_runV (As := [.int x2]) (rest := []) ⟨hx, hb, hml, hown, zno⟩ (tRG_requireTag_T1 l dC dI cI cZ cJ cA a0 s0 o b hfl P S H6.size x2 gP gS h8) (zcw 1 (hB.word (zm4 k4_46) rfl) (hB.word (zm1 k1_1) rfl) (hB.word (zm4 k4_43) rfl) (hB.word (zm4 k4_45) rfl) (k2_selects_private (by decide) (hB.word (zm1 k1_18) rfl) (hB.word (zm4 k4_44) rfl) (hB.word (zm4 k4_45) rfl)) rfl rfl (by decide +kernel) ⟨Nat.le_of_ble_eq_true rfl, Nat.le_of_ble_eq_true rfl⟩) ⟨zP_blind, va_recv hK hP (ci := 0) (q0 := 0) rfl rfl, zP_pre hP hK hD hAD (zB_on hB hA0 hS)⟩ rfl rfl hl.1 rfl (lv_room (Nat.le_of_ble_eq_true rfl)) dRG_send_12 ⟨Nat.le_of_ble_eq_true rfl, Nat.le_of_ble_eq_true rfl⟩) htab hlocks hS (Nat.le_of_ble_eq_true rfl) (Nat.le_of_ble_eq_true rfl)
      · skip
        refine zcallo (va_runV (As := [.int x2]) (rest := []) ⟨hx, hb, hml, hown, zno⟩ (tRG_requireTag l dC dI cI cZ cJ cA a0 s0 o b P S H6.size x2 gP gS u7 h8) (zcw 1 (hB.word (zm4 k4_46) rfl) (hB.word (zm1 k1_1) rfl) (hB.word (zm4 k4_43) rfl) (hB.word (zm4 k4_45) rfl) (k2_selects_private (by decide) (hB.word (zm1 k1_18) rfl) (hB.word (zm4 k4_44) rfl) (hB.word (zm4 k4_45) rfl)) rfl rfl (by decide +kernel) ⟨Nat.le_of_ble_eq_true rfl, Nat.le_of_ble_eq_true rfl⟩) ⟨zP_blind, va_recv hK hP (ci := 0) (q0 := 0) rfl rfl, zP_pre hP hK hD hAD (zB_on hB hA0 hS)⟩ rfl rfl hl.1 rfl (lv_room (Nat.le_of_ble_eq_true rfl)) dRG_send_12 ⟨Nat.le_of_ble_eq_true rfl, Nat.le_of_ble_eq_true rfl⟩) hS hA (fun H9 locs hz1 hk1 hS => ?_)
        have hP := zKeep hP hk1
        have r_x2 : zr 0 3 x2 := zk_rT gP h8
        refine lv_iload_n hx hb dRG_send_15 rfl (lv_at hl 1 rfl) ?_
        refine lv_iload_n hx hb dRG_send_16 rfl (lv_at hl 2 rfl) ?_
        refine z_icmp_eq (tgt := 46) hx hb dRG_send_17 (by decide) E (fun c_17 E => ?_) (fun c_17 E => ?_)
        · exact hJ46 H9 locs ls  E hP hS (lv_sub hl [] rfl)
        · refine lv_aload_n hx hb dRG_send_20 rfl (lv_at hl 0 rfl) ?_
          refine c_getO_RG_frames hx hb (hB.words zU_RG) hown hK hP (hB.word (zm1 k1_239) rfl) dRG_send_21 ?_
          refine c_getA_23 hx hb (hB.words zU_FR) hown hK hP (hB.word (zm1 k1_190) rfl) dRG_send_24 ?_
          refine lv_iload_n hx hb dRG_send_27 rfl (lv_at hl 1 rfl) ?_
          refine c_aldS hx hb hK hP 23 (by decide) rfl r_x0 (by decide) dRG_send_28 E (fun k10 ek10 E => ?_)
          have r_k10 : zr (-1) 47 k10 := by rw [ek10]; exact gS.1 23 _
          refine lv_iconst (v := (-1)) hx hb dRG_send_29 (by decide) ?_
          refine z_icmp_eq (tgt := 46) hx hb dRG_send_30 (by decide) E (fun c_30 E => ?_) (fun c_30 E => ?_)
          · have r_k10 : zr (-1) (-1) k10 := zeq_x (show zr (-1) (-1) (-1) from by decide) c_30
            exact hJ46 H9 locs ls  E hP hS (lv_sub hl [] rfl)
          · have r_k10 : zr 0 47 k10 := zne_lo r_k10 c_30 (by decide)
            refine lv_aload_n hx hb dRG_send_33 rfl (lv_at hl 0 rfl) ?_
            refine c_getO_RG_frames hx hb (hB.words zU_RG) hown hK hP (hB.word (zm1 k1_239) rfl) dRG_send_34 ?_
            refine c_getA_23 hx hb (hB.words zU_FR) hown hK hP (hB.word (zm1 k1_190) rfl) dRG_send_37 ?_
            refine lv_iload_n hx hb dRG_send_40 rfl (lv_at hl 2 rfl) ?_
            refine c_aldS hx hb hK hP 23 (by decide) rfl r_x1 (by decide) dRG_send_41 E (fun k11 ek11 E => ?_)
            have r_k11 : zr (-1) 47 k11 := by rw [ek11]; exact gS.1 23 _
            refine lv_iconst (v := (-1)) hx hb dRG_send_42 (by decide) ?_
            refine z_icmp_ne (tgt := 56) hx hb dRG_send_43 (by decide) E (fun c_43 E => ?_) (fun c_43 E => ?_)
            · have r_k11 : zr 0 47 k11 := zne_lo r_k11 c_43 (by decide)
              refine lv_aload_n hx hb dRG_send_56 rfl (lv_at hl 0 rfl) ?_
              refine z_bind E (fun k9 h13 E => ?_) (fun u12 h13 E => ?_)
              · have x9 : k9 = 1 := zerr (E.symm.trans (etg.trans hc))
                subst x9
                exact absurd (fRG_requireStarted_c h13) (by decide)
              · skip
                refine zcallo (va_runV (As := []) (rest := []) ⟨hx, hb, hml, hown, zno⟩ (tRG_requireStarted l dC dI cI cZ cJ cA a0 s0 o b P S H9.size gP gS u12 h13) (zcw 0 (hB.word (zm3 k3_58) rfl) (hB.word (zm1 k1_1) rfl) (hB.word (zm3 k3_55) rfl) (hB.word (zm3 k3_57) rfl) (k2_selects_private (by decide) (hB.word (zm1 k1_18) rfl) (hB.word (zm3 k3_56) rfl) (hB.word (zm3 k3_57) rfl)) rfl rfl (by decide +kernel) ⟨Nat.le_of_ble_eq_true rfl, Nat.le_of_ble_eq_true rfl⟩) ⟨zP_blind, va_recv hK hP (ci := 0) (q0 := 0) rfl rfl, zP_pre hP hK hD hAD (zB_on hB hA0 hS)⟩ rfl rfl hl.1 rfl (lv_room (Nat.le_of_ble_eq_true rfl)) dRG_send_57 ⟨Nat.le_of_ble_eq_true rfl, Nat.le_of_ble_eq_true rfl⟩) hS hA (fun H14 locs hz1 hk1 hS => ?_)
                have hP := zKeep hP hk1
                cases E.symm.trans (etg.trans hc)
            · have r_k11 : zr (-1) (-1) k11 := zeq_x (show zr (-1) (-1) (-1) from by decide) c_43
              exact hJ46 H9 locs ls  E hP hS (lv_sub hl [] rfl)
set_option maxHeartbeats 4000000 in
set_option maxRecDepth 100000 in
theorem tRG_send_T2 (l : Launch) (dC : Nat → ClassId) (dI : Nat → Nat → Nat) (cI cZ cJ cA : ClassId) (a0 : Array Value) (s0 : State) (o b : Nat → Nat) (hfl : l.flags = Jvm.pinnedFlags ++ [Jvm.noTraceFlag]) (P S : ZS) (sz : Nat) (x0 : Int32) (x1 : Int32) (x2 : Int32) (gP : cok P) (gS : cok S) (hc : fRG_send P S x0 x1 x2 = .error 2) : tq_Met l yRG_send [Cond.code yRG_send bRG_send 4 (some .int)] ({ frames := 7, cells := 1, slots := 6, locals := 111 } : Room) (zP zCl dC dI (zTZ cI cZ cJ cA) a0 s0 [.ref (o 0), .int x0, .int x1, .int x2] sz (CW cI cZ cA o b P S)) (tq_Q "java/lang/IllegalStateException") 1 6 (zN sz) := by
  refine tq_ofW (cc := bRG_send) (maxL := 4) (ret := (some .int)) (by decide) rfl ?_
  intro p e s m args below meth c s₁ B hml htab hv
  obtain ⟨rfl, hsz, hP, hK, hD0, hB⟩ := hv
  have hx := B.exec
  have hb := B.bytes
  have hr := B.returns
  have hown : s.vm.findClass "RingGuard" = some m.cls := findClass_of_methodNamed B.named
  have hlocks := B.notSynchronized
  subst hsz
  have hD := hD0
  have hA0 : ∀ q, zN s.heap.size q → s0.heap.size ≤ q := zA1 hB
  have hAD : ∀ q, zN s0.heap.size q → s0.heap.size ≤ q := fun _ h => h
  have hA : ∀ q : Nat, s.heap.size ≤ q → zN s.heap.size q := fun _ h => h
  have hS : va_S (zN s.heap.size) s.heap s.heap [] := va_S.rf
  have hl := lv_entry ([.ref (o 0), .int x0, .int x1, .int x2]) (n := 4) (Nat.le_of_ble_eq_true rfl)
  rw [lg_entry_eq]
  generalize (lg_sl ([.ref (o 0), .int x0, .int x1, .int x2]) ++ List.replicate (4 - (lg_sl ([.ref (o 0), .int x0, .int x1, .int x2])).length) Slot.unset).toArray = ls at hl ⊢
  have hfl := hfl
  have hl : lv_has ls 4 [(0, .ref (o 0)), (1, .int x0), (2, .int x1), (3, .int x2)] := hl
  refine zgenQ (fun Q hQe => ?_)
  obtain ⟨tg, etg⟩ : ∃ z, z = fRG_send P S x0 x1 x2 := ⟨_, rfl⟩
  have E := etg
  unfold fRG_send at E
  have hJ46 : ∀ (H : Heap) (locs : List Loc) (ls : Array Slot), tg = fRG_send_46 P S  → va_P (dC, dI) zCl (CW cI cZ cA o b P S) H → va_S (zN s.heap.size) s.heap H locs → lv_has ls 4 [] → W p l e ({ frames := 7, cells := 1, slots := 6, locals := 111 } : Room) s m ([.ref (o 0), .int x0, .int x1, .int x2] : List Value).toArray below meth c H locs 0 0 Q (F0 m 46 ls []) := by
    intro H locs ls E hP hS hl
    unfold fRG_send_46 at E
    cases E.symm.trans (etg.trans hc)
  refine lv_aload_n hx hb dRG_send_0 rfl (lv_at hl 0 rfl) ?_
  refine lv_iload_n hx hb dRG_send_1 rfl (lv_at hl 1 rfl) ?_
  refine z_bind E (fun k9 h2 E => ?_) (fun u1 h2 E => ?_)
  · have x9 : k9 = 2 := zerr (E.symm.trans (etg.trans hc))
    subst x9
    exact absurd (fRG_requireHost_c h2) (by decide)
  · skip
    refine zcallo (va_runV (As := [.int x0]) (rest := []) ⟨hx, hb, hml, hown, zno⟩ (tRG_requireHost l dC dI cI cZ cJ cA a0 s0 o b P S s.heap.size x0 gP gS u1 h2) (zcw 1 (hB.word (zm4 k4_30) rfl) (hB.word (zm1 k1_1) rfl) (hB.word (zm4 k4_27) rfl) (hB.word (zm4 k4_29) rfl) (k2_selects_private (by decide) (hB.word (zm1 k1_18) rfl) (hB.word (zm4 k4_28) rfl) (hB.word (zm4 k4_29) rfl)) rfl rfl (by decide +kernel) ⟨Nat.le_of_ble_eq_true rfl, Nat.le_of_ble_eq_true rfl⟩) ⟨zP_blind, va_recv hK hP (ci := 0) (q0 := 0) rfl rfl, zP_pre hP hK hD hAD (zB_on hB hA0 hS)⟩ rfl rfl hl.1 rfl (lv_room (Nat.le_of_ble_eq_true rfl)) dRG_send_2 ⟨Nat.le_of_ble_eq_true rfl, Nat.le_of_ble_eq_true rfl⟩) hS hA (fun H3 locs hz1 hk1 hS => ?_)
    have hP := zKeep hP hk1
    have r_x0 : zr 0 63 x0 := zk_rH gP h2
    refine lv_aload_n hx hb dRG_send_5 rfl (lv_at hl 0 rfl) ?_
    refine lv_iload_n hx hb dRG_send_6 rfl (lv_at hl 2 rfl) ?_
    refine z_bind E (fun k9 h5 E => ?_) (fun u4 h5 E => ?_)
    · have x9 : k9 = 2 := zerr (E.symm.trans (etg.trans hc))
      subst x9
      exact absurd (fRG_requireHost_c h5) (by decide)
    · skip
      refine zcallo (va_runV (As := [.int x1]) (rest := []) ⟨hx, hb, hml, hown, zno⟩ (tRG_requireHost l dC dI cI cZ cJ cA a0 s0 o b P S H3.size x1 gP gS u4 h5) (zcw 1 (hB.word (zm4 k4_30) rfl) (hB.word (zm1 k1_1) rfl) (hB.word (zm4 k4_27) rfl) (hB.word (zm4 k4_29) rfl) (k2_selects_private (by decide) (hB.word (zm1 k1_18) rfl) (hB.word (zm4 k4_28) rfl) (hB.word (zm4 k4_29) rfl)) rfl rfl (by decide +kernel) ⟨Nat.le_of_ble_eq_true rfl, Nat.le_of_ble_eq_true rfl⟩) ⟨zP_blind, va_recv hK hP (ci := 0) (q0 := 0) rfl rfl, zP_pre hP hK hD hAD (zB_on hB hA0 hS)⟩ rfl rfl hl.1 rfl (lv_room (Nat.le_of_ble_eq_true rfl)) dRG_send_7 ⟨Nat.le_of_ble_eq_true rfl, Nat.le_of_ble_eq_true rfl⟩) hS hA (fun H6 locs hz1 hk1 hS => ?_)
      have hP := zKeep hP hk1
      have r_x1 : zr 0 63 x1 := zk_rH gP h5
      refine lv_aload_n hx hb dRG_send_10 rfl (lv_at hl 0 rfl) ?_
      refine lv_iload_n hx hb dRG_send_11 rfl (lv_at hl 3 rfl) ?_
      refine z_bind E (fun k9 h8 E => ?_) (fun u7 h8 E => ?_)
      · have x9 : k9 = 2 := zerr (E.symm.trans (etg.trans hc))
        subst x9
        exact absurd (fRG_requireTag_c h8) (by decide)
      · skip
        refine zcallo (va_runV (As := [.int x2]) (rest := []) ⟨hx, hb, hml, hown, zno⟩ (tRG_requireTag l dC dI cI cZ cJ cA a0 s0 o b P S H6.size x2 gP gS u7 h8) (zcw 1 (hB.word (zm4 k4_46) rfl) (hB.word (zm1 k1_1) rfl) (hB.word (zm4 k4_43) rfl) (hB.word (zm4 k4_45) rfl) (k2_selects_private (by decide) (hB.word (zm1 k1_18) rfl) (hB.word (zm4 k4_44) rfl) (hB.word (zm4 k4_45) rfl)) rfl rfl (by decide +kernel) ⟨Nat.le_of_ble_eq_true rfl, Nat.le_of_ble_eq_true rfl⟩) ⟨zP_blind, va_recv hK hP (ci := 0) (q0 := 0) rfl rfl, zP_pre hP hK hD hAD (zB_on hB hA0 hS)⟩ rfl rfl hl.1 rfl (lv_room (Nat.le_of_ble_eq_true rfl)) dRG_send_12 ⟨Nat.le_of_ble_eq_true rfl, Nat.le_of_ble_eq_true rfl⟩) hS hA (fun H9 locs hz1 hk1 hS => ?_)
        have hP := zKeep hP hk1
        have r_x2 : zr 0 3 x2 := zk_rT gP h8
        refine lv_iload_n hx hb dRG_send_15 rfl (lv_at hl 1 rfl) ?_
        refine lv_iload_n hx hb dRG_send_16 rfl (lv_at hl 2 rfl) ?_
        refine z_icmp_eq (tgt := 46) hx hb dRG_send_17 (by decide) E (fun c_17 E => ?_) (fun c_17 E => ?_)
        · exact hJ46 H9 locs ls  E hP hS (lv_sub hl [] rfl)
        · refine lv_aload_n hx hb dRG_send_20 rfl (lv_at hl 0 rfl) ?_
          refine c_getO_RG_frames hx hb (hB.words zU_RG) hown hK hP (hB.word (zm1 k1_239) rfl) dRG_send_21 ?_
          refine c_getA_23 hx hb (hB.words zU_FR) hown hK hP (hB.word (zm1 k1_190) rfl) dRG_send_24 ?_
          refine lv_iload_n hx hb dRG_send_27 rfl (lv_at hl 1 rfl) ?_
          refine c_aldS hx hb hK hP 23 (by decide) rfl r_x0 (by decide) dRG_send_28 E (fun k10 ek10 E => ?_)
          have r_k10 : zr (-1) 47 k10 := by rw [ek10]; exact gS.1 23 _
          refine lv_iconst (v := (-1)) hx hb dRG_send_29 (by decide) ?_
          refine z_icmp_eq (tgt := 46) hx hb dRG_send_30 (by decide) E (fun c_30 E => ?_) (fun c_30 E => ?_)
          · have r_k10 : zr (-1) (-1) k10 := zeq_x (show zr (-1) (-1) (-1) from by decide) c_30
            exact hJ46 H9 locs ls  E hP hS (lv_sub hl [] rfl)
          · have r_k10 : zr 0 47 k10 := zne_lo r_k10 c_30 (by decide)
            refine lv_aload_n hx hb dRG_send_33 rfl (lv_at hl 0 rfl) ?_
            refine c_getO_RG_frames hx hb (hB.words zU_RG) hown hK hP (hB.word (zm1 k1_239) rfl) dRG_send_34 ?_
            refine c_getA_23 hx hb (hB.words zU_FR) hown hK hP (hB.word (zm1 k1_190) rfl) dRG_send_37 ?_
            refine lv_iload_n hx hb dRG_send_40 rfl (lv_at hl 2 rfl) ?_
            refine c_aldS hx hb hK hP 23 (by decide) rfl r_x1 (by decide) dRG_send_41 E (fun k11 ek11 E => ?_)
            have r_k11 : zr (-1) 47 k11 := by rw [ek11]; exact gS.1 23 _
            refine lv_iconst (v := (-1)) hx hb dRG_send_42 (by decide) ?_
            refine z_icmp_ne (tgt := 56) hx hb dRG_send_43 (by decide) E (fun c_43 E => ?_) (fun c_43 E => ?_)
            · have r_k11 : zr 0 47 k11 := zne_lo r_k11 c_43 (by decide)
              refine lv_aload_n hx hb dRG_send_56 rfl (lv_at hl 0 rfl) ?_
              refine z_bind E (fun k9 h13 E => ?_) (fun u12 h13 E => ?_)
              · have x9 : k9 = 2 := zerr (E.symm.trans (etg.trans hc))
                subst x9
                rw [hQe]
                exact zpass (tq_runV (As := []) (rest := []) ⟨hx, hb, hml, hown, zno⟩ (tRG_requireStarted_T2 l dC dI cI cZ cJ cA a0 s0 o b hfl P S H9.size gP gS h13) (zcw 0 (hB.word (zm3 k3_58) rfl) (hB.word (zm1 k1_1) rfl) (hB.word (zm3 k3_55) rfl) (hB.word (zm3 k3_57) rfl) (k2_selects_private (by decide) (hB.word (zm1 k1_18) rfl) (hB.word (zm3 k3_56) rfl) (hB.word (zm3 k3_57) rfl)) rfl rfl (by decide +kernel) ⟨Nat.le_of_ble_eq_true rfl, Nat.le_of_ble_eq_true rfl⟩) ⟨zP_blind, va_recv hK hP (ci := 0) (q0 := 0) rfl rfl, zP_pre hP hK hD hAD (zB_on hB hA0 hS)⟩ rfl rfl hl.1 rfl (lv_room (Nat.le_of_ble_eq_true rfl)) dRG_send_57 ⟨Nat.le_of_ble_eq_true rfl, Nat.le_of_ble_eq_true rfl⟩) htab hlocks hS (Nat.le_of_ble_eq_true rfl) (Nat.le_of_ble_eq_true rfl)
              · skip
                refine zcallo (va_runV (As := []) (rest := []) ⟨hx, hb, hml, hown, zno⟩ (tRG_requireStarted l dC dI cI cZ cJ cA a0 s0 o b P S H9.size gP gS u12 h13) (zcw 0 (hB.word (zm3 k3_58) rfl) (hB.word (zm1 k1_1) rfl) (hB.word (zm3 k3_55) rfl) (hB.word (zm3 k3_57) rfl) (k2_selects_private (by decide) (hB.word (zm1 k1_18) rfl) (hB.word (zm3 k3_56) rfl) (hB.word (zm3 k3_57) rfl)) rfl rfl (by decide +kernel) ⟨Nat.le_of_ble_eq_true rfl, Nat.le_of_ble_eq_true rfl⟩) ⟨zP_blind, va_recv hK hP (ci := 0) (q0 := 0) rfl rfl, zP_pre hP hK hD hAD (zB_on hB hA0 hS)⟩ rfl rfl hl.1 rfl (lv_room (Nat.le_of_ble_eq_true rfl)) dRG_send_57 ⟨Nat.le_of_ble_eq_true rfl, Nat.le_of_ble_eq_true rfl⟩) hS hA (fun H14 locs hz1 hk1 hS => ?_)
                have hP := zKeep hP hk1
                cases E.symm.trans (etg.trans hc)
            · have r_k11 : zr (-1) (-1) k11 := zeq_x (show zr (-1) (-1) (-1) from by decide) c_43
              exact hJ46 H9 locs ls  E hP hS (lv_sub hl [] rfl)
noncomputable def fRG_visits (P S : ZS) : Int32 := zl (S.I 13) (fun k1 => k1)
set_option maxHeartbeats 4000000 in
set_option maxRecDepth 100000 in
theorem tRG_visits (l : Launch) (dC : Nat → ClassId) (dI : Nat → Nat → Nat) (cI cZ cJ cA : ClassId) (a0 : Array Value) (s0 : State) (o b : Nat → Nat) (P S : ZS) (sz : Nat) (gP : cok P) (gS : cok S) : Met l yRG_visits [Cond.code yRG_visits bRG_visits 1 (some .int)] ({ frames := 0, cells := 0, slots := 0, locals := 0 } : Room) (zP zCl dC dI (zTZ cI cZ cJ cA) a0 s0 [.ref (o 0)] sz (CW cI cZ cA o b P S)) (zQp (fun r => r = fRG_visits P S  ∧ True) sz) 0 0 (zN sz) := by
  refine Met.ofW (cc := bRG_visits) (maxL := 1) (ret := (some .int)) (by decide) rfl ?_
  intro p e s m args below meth c s₁ B hml hv
  obtain ⟨rfl, hsz, hP, hK, hD0, hB⟩ := hv
  have hx := B.exec
  have hb := B.bytes
  have hr := B.returns
  have hown : s.vm.findClass "RingGuard" = some m.cls := findClass_of_methodNamed B.named
  have hlocks := B.notSynchronized
  subst hsz
  have hD := hD0
  have hA0 : ∀ q, zN s.heap.size q → s0.heap.size ≤ q := zA1 hB
  have hAD : ∀ q, zN s0.heap.size q → s0.heap.size ≤ q := fun _ h => h
  have hA : ∀ q : Nat, s.heap.size ≤ q → zN s.heap.size q := fun _ h => h
  have hS : va_S (zN s.heap.size) s.heap s.heap [] := va_S.rf
  have hl := lv_entry ([.ref (o 0)]) (n := 1) (Nat.le_of_ble_eq_true rfl)
  rw [lg_entry_eq]
  generalize (lg_sl ([.ref (o 0)]) ++ List.replicate (1 - (lg_sl ([.ref (o 0)])).length) Slot.unset).toArray = ls at hl ⊢
  have hl : lv_has ls 1 [(0, .ref (o 0))] := hl
  refine zgenQ (fun Q hQe => ?_)
  obtain ⟨tg, etg⟩ : ∃ z, z = fRG_visits P S  := ⟨_, rfl⟩
  have E := etg
  unfold fRG_visits at E
  refine lv_aload_n hx hb dRG_visits_0 rfl (lv_at hl 0 rfl) ?_
  refine c_getO_RG_frames hx hb (hB.words zU_RG) hown hK hP (hB.word (zm1 k1_239) rfl) dRG_visits_1 ?_
  refine c_get_13 hx hb (hB.words zU_FR) hown hK hP (hB.word (zm1 k1_196) rfl) dRG_visits_4 E (fun k1 ek1 E => ?_)
  rw [hQe]
  exact W.iret (v := k1) hx hb hr (fun t ht hW => ⟨⟨k1, (), rfl, ⟨E.symm.trans etg, trivial⟩, trivial⟩, hS.F ht⟩) hS.2.2 dRG_visits_7
noncomputable def fRG_casts (P S : ZS) : Int32 := zl (fWI_countOnLinks P S) (fun k2 => k2)
set_option maxHeartbeats 4000000 in
set_option maxRecDepth 100000 in
theorem tRG_casts (l : Launch) (dC : Nat → ClassId) (dI : Nat → Nat → Nat) (cI cZ cJ cA : ClassId) (a0 : Array Value) (s0 : State) (o b : Nat → Nat) (P S : ZS) (sz : Nat) (gP : cok P) (gS : cok S) : Met l yRG_casts [Cond.code yRG_casts bRG_casts 1 (some .int)] ({ frames := 1, cells := 0, slots := 0, locals := 22 } : Room) (zP zCl dC dI (zTZ cI cZ cJ cA) a0 s0 [.ref (o 0)] sz (CW cI cZ cA o b P S)) (zQp (fun r => r = fRG_casts P S  ∧ True) sz) 0 0 (zN sz) := by
  refine Met.ofW (cc := bRG_casts) (maxL := 1) (ret := (some .int)) (by decide) rfl ?_
  intro p e s m args below meth c s₁ B hml hv
  obtain ⟨rfl, hsz, hP, hK, hD0, hB⟩ := hv
  have hx := B.exec
  have hb := B.bytes
  have hr := B.returns
  have hown : s.vm.findClass "RingGuard" = some m.cls := findClass_of_methodNamed B.named
  have hlocks := B.notSynchronized
  subst hsz
  have hD := hD0
  have hA0 : ∀ q, zN s.heap.size q → s0.heap.size ≤ q := zA1 hB
  have hAD : ∀ q, zN s0.heap.size q → s0.heap.size ≤ q := fun _ h => h
  have hA : ∀ q : Nat, s.heap.size ≤ q → zN s.heap.size q := fun _ h => h
  have hS : va_S (zN s.heap.size) s.heap s.heap [] := va_S.rf
  have hl := lv_entry ([.ref (o 0)]) (n := 1) (Nat.le_of_ble_eq_true rfl)
  rw [lg_entry_eq]
  generalize (lg_sl ([.ref (o 0)]) ++ List.replicate (1 - (lg_sl ([.ref (o 0)])).length) Slot.unset).toArray = ls at hl ⊢
  have hl : lv_has ls 1 [(0, .ref (o 0))] := hl
  refine zgenQ (fun Q hQe => ?_)
  obtain ⟨tg, etg⟩ : ∃ z, z = fRG_casts P S  := ⟨_, rfl⟩
  have E := etg
  unfold fRG_casts at E
  refine lv_aload_n hx hb dRG_casts_0 rfl (lv_at hl 0 rfl) ?_
  refine c_getO_RG_wires hx hb (hB.words zU_RG) hown hK hP (hB.word (zm1 k1_236) rfl) dRG_casts_1 ?_
  refine zcallp (va_runV (As := []) (rest := []) ⟨hx, hb, hml, hown, zno⟩ (tWI_countOnLinks l dC dI cI cZ cJ cA a0 s0 o b P S s.heap.size gP gS) (zcw 0 (hB.word (zm2 k2_46) rfl) (hB.word (zm1 k1_4) rfl) (hB.word (zm2 k2_43) rfl) (hB.word (zm2 k2_44) rfl) (hB.word (zm2 k2_45) rfl) rfl rfl (by decide +kernel) ⟨Nat.le_of_ble_eq_true rfl, Nat.le_of_ble_eq_true rfl⟩) ⟨zP_blind, va_recv hK hP (ci := 2) (q0 := 2) rfl rfl, zP_pre hP hK hD hAD (zB_on hB hA0 hS)⟩ rfl rfl hl.1 rfl (lv_room (Nat.le_of_ble_eq_true rfl)) dRG_casts_4 ⟨Nat.le_of_ble_eq_true rfl, Nat.le_of_ble_eq_true rfl⟩) hS hA (fun k2 H1 locs hk2 hz1 hk1 hS => ?_)
  have hP := zKeep hP hk1
  have E := zl_s E hk2.1
  rw [hQe]
  exact W.iret (v := k2) hx hb hr (fun t ht hW => ⟨⟨k2, (), rfl, ⟨E.symm.trans etg, trivial⟩, trivial⟩, hS.F ht⟩) hS.2.2 dRG_casts_7
noncomputable def fRG_lost (P S : ZS) : Int32 := zl (S.I 9) (fun k1 => k1)
set_option maxHeartbeats 4000000 in
set_option maxRecDepth 100000 in
theorem tRG_lost (l : Launch) (dC : Nat → ClassId) (dI : Nat → Nat → Nat) (cI cZ cJ cA : ClassId) (a0 : Array Value) (s0 : State) (o b : Nat → Nat) (P S : ZS) (sz : Nat) (gP : cok P) (gS : cok S) : Met l yRG_lost [Cond.code yRG_lost bRG_lost 1 (some .int)] ({ frames := 0, cells := 0, slots := 0, locals := 0 } : Room) (zP zCl dC dI (zTZ cI cZ cJ cA) a0 s0 [.ref (o 0)] sz (CW cI cZ cA o b P S)) (zQp (fun r => r = fRG_lost P S  ∧ True) sz) 0 0 (zN sz) := by
  refine Met.ofW (cc := bRG_lost) (maxL := 1) (ret := (some .int)) (by decide) rfl ?_
  intro p e s m args below meth c s₁ B hml hv
  obtain ⟨rfl, hsz, hP, hK, hD0, hB⟩ := hv
  have hx := B.exec
  have hb := B.bytes
  have hr := B.returns
  have hown : s.vm.findClass "RingGuard" = some m.cls := findClass_of_methodNamed B.named
  have hlocks := B.notSynchronized
  subst hsz
  have hD := hD0
  have hA0 : ∀ q, zN s.heap.size q → s0.heap.size ≤ q := zA1 hB
  have hAD : ∀ q, zN s0.heap.size q → s0.heap.size ≤ q := fun _ h => h
  have hA : ∀ q : Nat, s.heap.size ≤ q → zN s.heap.size q := fun _ h => h
  have hS : va_S (zN s.heap.size) s.heap s.heap [] := va_S.rf
  have hl := lv_entry ([.ref (o 0)]) (n := 1) (Nat.le_of_ble_eq_true rfl)
  rw [lg_entry_eq]
  generalize (lg_sl ([.ref (o 0)]) ++ List.replicate (1 - (lg_sl ([.ref (o 0)])).length) Slot.unset).toArray = ls at hl ⊢
  have hl : lv_has ls 1 [(0, .ref (o 0))] := hl
  refine zgenQ (fun Q hQe => ?_)
  obtain ⟨tg, etg⟩ : ∃ z, z = fRG_lost P S  := ⟨_, rfl⟩
  have E := etg
  unfold fRG_lost at E
  refine lv_aload_n hx hb dRG_lost_0 rfl (lv_at hl 0 rfl) ?_
  refine c_getO_RG_wires hx hb (hB.words zU_RG) hown hK hP (hB.word (zm1 k1_236) rfl) dRG_lost_1 ?_
  refine c_get_9 hx hb (hB.words zU_WI) hown hK hP (hB.word (zm1 k1_97) rfl) dRG_lost_4 E (fun k1 ek1 E => ?_)
  rw [hQe]
  exact W.iret (v := k1) hx hb hr (fun t ht hW => ⟨⟨k1, (), rfl, ⟨E.symm.trans etg, trivial⟩, trivial⟩, hS.F ht⟩) hS.2.2 dRG_lost_7
noncomputable def fRG_circles (P S : ZS) : Int32 := zl (S.I 7) (fun k1 => k1)
set_option maxHeartbeats 4000000 in
set_option maxRecDepth 100000 in
theorem tRG_circles (l : Launch) (dC : Nat → ClassId) (dI : Nat → Nat → Nat) (cI cZ cJ cA : ClassId) (a0 : Array Value) (s0 : State) (o b : Nat → Nat) (P S : ZS) (sz : Nat) (gP : cok P) (gS : cok S) : Met l yRG_circles [Cond.code yRG_circles bRG_circles 1 (some .int)] ({ frames := 0, cells := 0, slots := 0, locals := 0 } : Room) (zP zCl dC dI (zTZ cI cZ cJ cA) a0 s0 [.ref (o 0)] sz (CW cI cZ cA o b P S)) (zQp (fun r => r = fRG_circles P S  ∧ True) sz) 0 0 (zN sz) := by
  refine Met.ofW (cc := bRG_circles) (maxL := 1) (ret := (some .int)) (by decide) rfl ?_
  intro p e s m args below meth c s₁ B hml hv
  obtain ⟨rfl, hsz, hP, hK, hD0, hB⟩ := hv
  have hx := B.exec
  have hb := B.bytes
  have hr := B.returns
  have hown : s.vm.findClass "RingGuard" = some m.cls := findClass_of_methodNamed B.named
  have hlocks := B.notSynchronized
  subst hsz
  have hD := hD0
  have hA0 : ∀ q, zN s.heap.size q → s0.heap.size ≤ q := zA1 hB
  have hAD : ∀ q, zN s0.heap.size q → s0.heap.size ≤ q := fun _ h => h
  have hA : ∀ q : Nat, s.heap.size ≤ q → zN s.heap.size q := fun _ h => h
  have hS : va_S (zN s.heap.size) s.heap s.heap [] := va_S.rf
  have hl := lv_entry ([.ref (o 0)]) (n := 1) (Nat.le_of_ble_eq_true rfl)
  rw [lg_entry_eq]
  generalize (lg_sl ([.ref (o 0)]) ++ List.replicate (1 - (lg_sl ([.ref (o 0)])).length) Slot.unset).toArray = ls at hl ⊢
  have hl : lv_has ls 1 [(0, .ref (o 0))] := hl
  refine zgenQ (fun Q hQe => ?_)
  obtain ⟨tg, etg⟩ : ∃ z, z = fRG_circles P S  := ⟨_, rfl⟩
  have E := etg
  unfold fRG_circles at E
  refine lv_aload_n hx hb dRG_circles_0 rfl (lv_at hl 0 rfl) ?_
  refine c_get_7 hx hb (hB.words zU_RG) hown hK hP (hB.word (zm2 k2_6) rfl) dRG_circles_1 E (fun k1 ek1 E => ?_)
  rw [hQe]
  exact W.iret (v := k1) hx hb hr (fun t ht hW => ⟨⟨k1, (), rfl, ⟨E.symm.trans etg, trivial⟩, trivial⟩, hS.F ht⟩) hS.2.2 dRG_circles_4
noncomputable def fRG_apart (P S : ZS) : Int32 := zl (S.I 8) (fun k1 => k1)
set_option maxHeartbeats 4000000 in
set_option maxRecDepth 100000 in
theorem tRG_apart (l : Launch) (dC : Nat → ClassId) (dI : Nat → Nat → Nat) (cI cZ cJ cA : ClassId) (a0 : Array Value) (s0 : State) (o b : Nat → Nat) (P S : ZS) (sz : Nat) (gP : cok P) (gS : cok S) : Met l yRG_apart [Cond.code yRG_apart bRG_apart 1 (some .int)] ({ frames := 0, cells := 0, slots := 0, locals := 0 } : Room) (zP zCl dC dI (zTZ cI cZ cJ cA) a0 s0 [.ref (o 0)] sz (CW cI cZ cA o b P S)) (zQp (fun r => r = fRG_apart P S  ∧ True) sz) 0 0 (zN sz) := by
  refine Met.ofW (cc := bRG_apart) (maxL := 1) (ret := (some .int)) (by decide) rfl ?_
  intro p e s m args below meth c s₁ B hml hv
  obtain ⟨rfl, hsz, hP, hK, hD0, hB⟩ := hv
  have hx := B.exec
  have hb := B.bytes
  have hr := B.returns
  have hown : s.vm.findClass "RingGuard" = some m.cls := findClass_of_methodNamed B.named
  have hlocks := B.notSynchronized
  subst hsz
  have hD := hD0
  have hA0 : ∀ q, zN s.heap.size q → s0.heap.size ≤ q := zA1 hB
  have hAD : ∀ q, zN s0.heap.size q → s0.heap.size ≤ q := fun _ h => h
  have hA : ∀ q : Nat, s.heap.size ≤ q → zN s.heap.size q := fun _ h => h
  have hS : va_S (zN s.heap.size) s.heap s.heap [] := va_S.rf
  have hl := lv_entry ([.ref (o 0)]) (n := 1) (Nat.le_of_ble_eq_true rfl)
  rw [lg_entry_eq]
  generalize (lg_sl ([.ref (o 0)]) ++ List.replicate (1 - (lg_sl ([.ref (o 0)])).length) Slot.unset).toArray = ls at hl ⊢
  have hl : lv_has ls 1 [(0, .ref (o 0))] := hl
  refine zgenQ (fun Q hQe => ?_)
  obtain ⟨tg, etg⟩ : ∃ z, z = fRG_apart P S  := ⟨_, rfl⟩
  have E := etg
  unfold fRG_apart at E
  refine lv_aload_n hx hb dRG_apart_0 rfl (lv_at hl 0 rfl) ?_
  refine c_get_8 hx hb (hB.words zU_RG) hown hK hP (hB.word (zm2 k2_7) rfl) dRG_apart_1 E (fun k1 ek1 E => ?_)
  rw [hQe]
  exact W.iret (v := k1) hx hb hr (fun t ht hW => ⟨⟨k1, (), rfl, ⟨E.symm.trans etg, trivial⟩, trivial⟩, hS.F ht⟩) hS.2.2 dRG_apart_4
