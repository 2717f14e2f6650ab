theorem k4_121 : tables_1_4[121]? = some (Jvm.Cond.fieldLink "RingGuardModel" (19 : Nat) "RingGuardModel" "failed" "[Z") := by decide +kernel
theorem k4_122 : tables_1_4[122]? = some (Jvm.Cond.fieldLink "RingGuardModel" (23 : Nat) "RingGuardModel" "failures" "[I") := by decide +kernel
theorem k4_123 : tables_1_4[123]? = some (Jvm.Cond.fieldLink "RingGuardModel" (26 : Nat) "RingGuardModel" "toLose" "[I") := by decide +kernel
theorem k4_124 : tables_1_4[124]? = some (Jvm.Cond.fieldLink "RingGuardModel" (29 : Nat) "RingGuardModel" "hold" "[I") := by decide +kernel
theorem k4_128 : tables_1_4[128]? = some (Jvm.Cond.fieldLink "RingGuardModel" (41 : Nat) "RingGuardModel" "clock" "[I") := by decide +kernel
theorem k4_129 : tables_1_4[129]? = some (Jvm.Cond.fieldLink "RingGuardModel" (44 : Nat) "RingGuardModel" "taken" "[I") := by decide +kernel
theorem k4_130 : tables_1_4[130]? = some (Jvm.Cond.fieldLink "RingGuardModel" (47 : Nat) "RingGuardModel" "portLink" "[I") := by decide +kernel
theorem k4_131 : tables_1_4[131]? = some (Jvm.Cond.fieldLink "RingGuardModel" (50 : Nat) "RingGuardModel" "guard" "[I") := by decide +kernel
theorem k4_132 : tables_1_4[132]? = some (Jvm.Cond.fieldLink "RingGuardModel" (53 : Nat) "RingGuardModel" "phase" "[I") := by decide +kernel
theorem k4_133 : tables_1_4[133]? = some (Jvm.Cond.fieldLink "RingGuardModel" (56 : Nat) "RingGuardModel" "command" "[I") := by decide +kernel
theorem k4_134 : tables_1_4[134]? = some (Jvm.Cond.fieldLink "RingGuardModel" (59 : Nat) "RingGuardModel" "commandLink" "[I") := by decide +kernel
theorem k4_135 : tables_1_4[135]? = some (Jvm.Cond.fieldLink "RingGuardModel" (62 : Nat) "RingGuardModel" "commands" "[I") := by decide +kernel
theorem k4_136 : tables_1_4[136]? = some (Jvm.Cond.fieldLink "RingGuardModel" (65 : Nat) "RingGuardModel" "flushes" "[I") := by decide +kernel
theorem k4_137 : tables_1_4[137]? = some (Jvm.Cond.fieldLink "RingGuardModel" (68 : Nat) "RingGuardModel" "told" "[I") := by decide +kernel
theorem k4_138 : tables_1_4[138]? = some (Jvm.Cond.fieldLink "RingGuardModel" (71 : Nat) "RingGuardModel" "over" "[I") := by decide +kernel
theorem k4_139 : tables_1_4[139]? = some (Jvm.Cond.fieldLink "RingGuardModel" (74 : Nat) "RingGuardModel" "when" "[I") := by decide +kernel
theorem k4_141 : tables_1_4[141]? = some (Jvm.Cond.fieldLink "RingGuardModel" (80 : Nat) "RingGuardModel" "count" "[I") := by decide +kernel
theorem k4_142 : tables_1_4[142]? = some (Jvm.Cond.fieldLink "RingGuardModel" (83 : Nat) "RingGuardModel" "kinds" "[I") := by decide +kernel
theorem k4_143 : tables_1_4[143]? = some (Jvm.Cond.fieldLink "RingGuardModel" (86 : Nat) "RingGuardModel" "sources" "[I") := by decide +kernel
theorem k4_144 : tables_1_4[144]? = some (Jvm.Cond.fieldLink "RingGuardModel" (89 : Nat) "RingGuardModel" "names" "[I") := by decide +kernel
theorem k4_145 : tables_1_4[145]? = some (Jvm.Cond.fieldLink "RingGuardModel" (92 : Nat) "RingGuardModel" "numbers" "[I") := by decide +kernel
theorem k4_146 : tables_1_4[146]? = some (Jvm.Cond.fieldLink "RingGuardModel" (95 : Nat) "RingGuardModel" "comingCount" "[I") := by decide +kernel
theorem k4_147 : tables_1_4[147]? = some (Jvm.Cond.fieldLink "RingGuardModel" (98 : Nat) "RingGuardModel" "comingKinds" "[I") := by decide +kernel
theorem k4_148 : tables_1_4[148]? = some (Jvm.Cond.fieldLink "RingGuardModel" (101 : Nat) "RingGuardModel" "comingSources" "[I") := by decide +kernel
theorem k4_149 : tables_1_4[149]? = some (Jvm.Cond.fieldLink "RingGuardModel" (104 : Nat) "RingGuardModel" "comingNames" "[I") := by decide +kernel
theorem k4_150 : tables_1_4[150]? = some (Jvm.Cond.fieldLink "RingGuardModel" (107 : Nat) "RingGuardModel" "comingNumbers" "[I") := by decide +kernel
theorem k4_151 : tables_1_4[151]? = some (Jvm.Cond.fieldLink "RingGuardModel" (262 : Nat) "RingGuardModel" "now" "I") := by decide +kernel
theorem k4_152 : tables_1_4[152]? = some (Jvm.Cond.fieldLink "RingGuardModel" (239 : Nat) "RingGuardModel" "lost" "I") := by decide +kernel
theorem k4_154 : tables_1_4[154]? = some (Jvm.Cond.fieldLink "RingGuardModel" (221 : Nat) "RingGuardModel" "quiet" "I") := by decide +kernel
theorem k4_155 : tables_1_4[155]? = some (Jvm.Cond.fieldLink "RingGuardModel" (212 : Nat) "RingGuardModel" "stirred" "Z") := by decide +kernel
theorem k4_156 : tables_1_4[156]? = some (Jvm.Cond.fieldLink "RingGuardModel" (290 : Nat) "RingGuardModel" "circles" "I") := by decide +kernel
theorem k4_157 : tables_1_4[157]? = some (Jvm.Cond.fieldLink "RingGuardModel" (274 : Nat) "RingGuardModel" "apart" "I") := by decide +kernel
theorem k4_162 : tables_1_4[162]? = some (Jvm.Cond.fieldLink "RingGuardModel" (227 : Nat) "RingGuardModel" "saidKind" "I") := by decide +kernel
theorem k4_163 : tables_1_4[163]? = some (Jvm.Cond.fieldLink "RingGuardModel" (230 : Nat) "RingGuardModel" "saidSource" "I") := by decide +kernel
theorem k4_164 : tables_1_4[164]? = some (Jvm.Cond.fieldLink "RingGuardModel" (233 : Nat) "RingGuardModel" "saidName" "I") := by decide +kernel
theorem k4_165 : tables_1_4[165]? = some (Jvm.Cond.fieldLink "RingGuardModel" (236 : Nat) "RingGuardModel" "saidNumber" "I") := by decide +kernel
theorem k5_105 : tables_1_5[105]? = some (Jvm.Cond.methodLink "RingGuardModel" (185 : Nat) ({ cls := "RingGuardModel", name := "takeHold", desc := "(I)V" } : Jvm.MethodName)) := by decide +kernel
theorem k5_106 : tables_1_5[106]? = some (Jvm.Cond.privateMethod ({ cls := "RingGuardModel", name := "takeHold", desc := "(I)V" } : Jvm.MethodName)) := by decide +kernel
theorem k5_107 : tables_1_5[107]? = some (Jvm.Cond.instanceMethod ({ cls := "RingGuardModel", name := "takeHold", desc := "(I)V" } : Jvm.MethodName)) := by decide +kernel
theorem k5_108 : tables_1_5[108]? = some (Jvm.Cond.code ({ cls := "RingGuardModel", name := "takeHold", desc := "(I)V" } : Jvm.MethodName) prog_10_method_29_code (3 : Nat) (Option.none : Option Jvm.ClassFile.FieldType)) := rfl
theorem k5_109 : tables_1_5[109]? = some (Jvm.Cond.methodLink "RingGuardModel" (189 : Nat) ({ cls := "RingGuardModel", name := "end", desc := "(II)I" } : Jvm.MethodName)) := by decide +kernel
theorem k5_110 : tables_1_5[110]? = some (Jvm.Cond.privateMethod ({ cls := "RingGuardModel", name := "end", desc := "(II)I" } : Jvm.MethodName)) := by decide +kernel
theorem k5_111 : tables_1_5[111]? = some (Jvm.Cond.instanceMethod ({ cls := "RingGuardModel", name := "end", desc := "(II)I" } : Jvm.MethodName)) := by decide +kernel
theorem k5_112 : tables_1_5[112]? = some (Jvm.Cond.code ({ cls := "RingGuardModel", name := "end", desc := "(II)I" } : Jvm.MethodName) prog_10_method_22_code (3 : Nat) (Option.some Jvm.ClassFile.FieldType.int)) := rfl
theorem k5_113 : tables_1_5[113]? = some (Jvm.Cond.methodLink "RingGuardModel" (195 : Nat) ({ cls := "RingGuardModel", name := "change", desc := "(III)V" } : Jvm.MethodName)) := by decide +kernel
theorem k5_114 : tables_1_5[114]? = some (Jvm.Cond.privateMethod ({ cls := "RingGuardModel", name := "change", desc := "(III)V" } : Jvm.MethodName)) := by decide +kernel
theorem k5_115 : tables_1_5[115]? = some (Jvm.Cond.instanceMethod ({ cls := "RingGuardModel", name := "change", desc := "(III)V" } : Jvm.MethodName)) := by decide +kernel
theorem k5_116 : tables_1_5[116]? = some (Jvm.Cond.code ({ cls := "RingGuardModel", name := "change", desc := "(III)V" } : Jvm.MethodName) prog_10_method_23_code (4 : Nat) (Option.none : Option Jvm.ClassFile.FieldType)) := rfl
theorem k5_117 : tables_1_5[117]? = some (Jvm.Cond.methodLink "RingGuardModel" (192 : Nat) ({ cls := "RingGuardModel", name := "at", desc := "(II)I" } : Jvm.MethodName)) := by decide +kernel
theorem k5_118 : tables_1_5[118]? = some (Jvm.Cond.static ({ cls := "RingGuardModel", name := "at", desc := "(II)I" } : Jvm.MethodName)) := by decide +kernel
theorem k5_119 : tables_1_5[119]? = some (Jvm.Cond.code ({ cls := "RingGuardModel", name := "at", desc := "(II)I" } : Jvm.MethodName) prog_10_method_21_code (2 : Nat) (Option.some Jvm.ClassFile.FieldType.int)) := rfl
theorem k5_120 : tables_1_5[120]? = some (Jvm.Cond.methodLink "RingGuardModel" (205 : Nat) ({ cls := "RingGuardModel", name := "news", desc := "(IIII)V" } : Jvm.MethodName)) := by decide +kernel
theorem k5_121 : tables_1_5[121]? = some (Jvm.Cond.privateMethod ({ cls := "RingGuardModel", name := "news", desc := "(IIII)V" } : Jvm.MethodName)) := by decide +kernel
theorem k5_122 : tables_1_5[122]? = some (Jvm.Cond.instanceMethod ({ cls := "RingGuardModel", name := "news", desc := "(IIII)V" } : Jvm.MethodName)) := by decide +kernel
theorem k5_123 : tables_1_5[123]? = some (Jvm.Cond.code ({ cls := "RingGuardModel", name := "news", desc := "(IIII)V" } : Jvm.MethodName) prog_10_method_39_code (6 : Nat) (Option.none : Option Jvm.ClassFile.FieldType)) := rfl
theorem k5_124 : tables_1_5[124]? = some (Jvm.Cond.methodLink "RingGuardModel" (246 : Nat) ({ cls := "RingGuardModel", name := "say", desc := "(IIII)V" } : Jvm.MethodName)) := by decide +kernel
theorem k5_125 : tables_1_5[125]? = some (Jvm.Cond.privateMethod ({ cls := "RingGuardModel", name := "say", desc := "(IIII)V" } : Jvm.MethodName)) := by decide +kernel
theorem k5_126 : tables_1_5[126]? = some (Jvm.Cond.instanceMethod ({ cls := "RingGuardModel", name := "say", desc := "(IIII)V" } : Jvm.MethodName)) := by decide +kernel
theorem k5_127 : tables_1_5[127]? = some (Jvm.Cond.code ({ cls := "RingGuardModel", name := "say", desc := "(IIII)V" } : Jvm.MethodName) prog_10_method_36_code (5 : Nat) (Option.none : Option Jvm.ClassFile.FieldType)) := rfl
theorem k5_128 : tables_1_5[128]? = some (Jvm.Cond.methodLink "RingGuardModel" (249 : Nat) ({ cls := "RingGuardModel", name := "putAll", desc := "(II)V" } : Jvm.MethodName)) := by decide +kernel
theorem k5_129 : tables_1_5[129]? = some (Jvm.Cond.privateMethod ({ cls := "RingGuardModel", name := "putAll", desc := "(II)V" } : Jvm.MethodName)) := by decide +kernel
theorem k5_130 : tables_1_5[130]? = some (Jvm.Cond.instanceMethod ({ cls := "RingGuardModel", name := "putAll", desc := "(II)V" } : Jvm.MethodName)) := by decide +kernel
theorem k5_131 : tables_1_5[131]? = some (Jvm.Cond.code ({ cls := "RingGuardModel", name := "putAll", desc := "(II)V" } : Jvm.MethodName) prog_10_method_38_code (5 : Nat) (Option.none : Option Jvm.ClassFile.FieldType)) := rfl
theorem k5_132 : tables_1_5[132]? = some (Jvm.Cond.methodLink "RingGuardModel" (242 : Nat) ({ cls := "RingGuardModel", name := "put", desc := "(II)V" } : Jvm.MethodName)) := by decide +kernel
theorem k5_133 : tables_1_5[133]? = some (Jvm.Cond.privateMethod ({ cls := "RingGuardModel", name := "put", desc := "(II)V" } : Jvm.MethodName)) := by decide +kernel
theorem k5_134 : tables_1_5[134]? = some (Jvm.Cond.instanceMethod ({ cls := "RingGuardModel", name := "put", desc := "(II)V" } : Jvm.MethodName)) := by decide +kernel
theorem k5_135 : tables_1_5[135]? = some (Jvm.Cond.code ({ cls := "RingGuardModel", name := "put", desc := "(II)V" } : Jvm.MethodName) prog_10_method_37_code (5 : Nat) (Option.none : Option Jvm.ClassFile.FieldType)) := rfl
theorem k5_140 : tables_1_5[140]? = some (Jvm.Cond.methodLink "RingGuardModel" (215 : Nat) ({ cls := "RingGuardModel", name := "look", desc := "()V" } : Jvm.MethodName)) := by decide +kernel
theorem k5_141 : tables_1_5[141]? = some (Jvm.Cond.privateMethod ({ cls := "RingGuardModel", name := "look", desc := "()V" } : Jvm.MethodName)) := by decide +kernel
theorem k5_142 : tables_1_5[142]? = some (Jvm.Cond.instanceMethod ({ cls := "RingGuardModel", name := "look", desc := "()V" } : Jvm.MethodName)) := by decide +kernel
theorem k5_143 : tables_1_5[143]? = some (Jvm.Cond.code ({ cls := "RingGuardModel", name := "look", desc := "()V" } : Jvm.MethodName) prog_10_method_48_code (3 : Nat) (Option.none : Option Jvm.ClassFile.FieldType)) := rfl
theorem k5_144 : tables_1_5[144]? = some (Jvm.Cond.methodLink "RingGuardModel" (287 : Nat) ({ cls := "RingGuardModel", name := "isOpen", desc := "(I)Z" } : Jvm.MethodName)) := by decide +kernel
theorem k5_145 : tables_1_5[145]? = some (Jvm.Cond.privateMethod ({ cls := "RingGuardModel", name := "isOpen", desc := "(I)Z" } : Jvm.MethodName)) := by decide +kernel
theorem k5_146 : tables_1_5[146]? = some (Jvm.Cond.instanceMethod ({ cls := "RingGuardModel", name := "isOpen", desc := "(I)Z" } : Jvm.MethodName)) := by decide +kernel
theorem k5_147 : tables_1_5[147]? = some (Jvm.Cond.code ({ cls := "RingGuardModel", name := "isOpen", desc := "(I)Z" } : Jvm.MethodName) prog_10_method_47_code (2 : Nat) (Option.some Jvm.ClassFile.FieldType.boolean)) := rfl
theorem k5_152 : tables_1_5[152]? = some (Jvm.Cond.methodLink "RingGuardModel" (199 : Nat) ({ cls := "RingGuardModel", name := "owns", desc := "(II)Z" } : Jvm.MethodName)) := by decide +kernel
theorem k5_153 : tables_1_5[153]? = some (Jvm.Cond.privateMethod ({ cls := "RingGuardModel", name := "owns", desc := "(II)Z" } : Jvm.MethodName)) := by decide +kernel
theorem k5_154 : tables_1_5[154]? = some (Jvm.Cond.instanceMethod ({ cls := "RingGuardModel", name := "owns", desc := "(II)Z" } : Jvm.MethodName)) := by decide +kernel
theorem k5_155 : tables_1_5[155]? = some (Jvm.Cond.code ({ cls := "RingGuardModel", name := "owns", desc := "(II)Z" } : Jvm.MethodName) prog_10_method_26_code (3 : Nat) (Option.some Jvm.ClassFile.FieldType.boolean)) := rfl
theorem k5_156 : tables_1_5[156]? = some (Jvm.Cond.methodLink "RingGuardModel" (202 : Nat) ({ cls := "RingGuardModel", name := "endAll", desc := "(III)V" } : Jvm.MethodName)) := by decide +kernel
theorem k5_157 : tables_1_5[157]? = some (Jvm.Cond.privateMethod ({ cls := "RingGuardModel", name := "endAll", desc := "(III)V" } : Jvm.MethodName)) := by decide +kernel
theorem k5_158 : tables_1_5[158]? = some (Jvm.Cond.instanceMethod ({ cls := "RingGuardModel", name := "endAll", desc := "(III)V" } : Jvm.MethodName)) := by decide +kernel
theorem k5_159 : tables_1_5[159]? = some (Jvm.Cond.code ({ cls := "RingGuardModel", name := "endAll", desc := "(III)V" } : Jvm.MethodName) prog_10_method_24_code (6 : Nat) (Option.none : Option Jvm.ClassFile.FieldType)) := rfl
theorem k5_164 : tables_1_5[164]? = some (Jvm.Cond.methodLink "RingGuardModel" (209 : Nat) ({ cls := "RingGuardModel", name := "ends", desc := "(III)V" } : Jvm.MethodName)) := by decide +kernel
theorem k5_165 : tables_1_5[165]? = some (Jvm.Cond.privateMethod ({ cls := "RingGuardModel", name := "ends", desc := "(III)V" } : Jvm.MethodName)) := by decide +kernel
theorem k5_166 : tables_1_5[166]? = some (Jvm.Cond.instanceMethod ({ cls := "RingGuardModel", name := "ends", desc := "(III)V" } : Jvm.MethodName)) := by decide +kernel
theorem k5_167 : tables_1_5[167]? = some (Jvm.Cond.code ({ cls := "RingGuardModel", name := "ends", desc := "(III)V" } : Jvm.MethodName) prog_10_method_28_code (4 : Nat) (Option.none : Option Jvm.ClassFile.FieldType)) := rfl
theorem k5_176 : tables_1_5[176]? = some (Jvm.Cond.methodLink "RingGuardModel" (224 : Nat) ({ cls := "RingGuardModel", name := "endCommand", desc := "(II)Z" } : Jvm.MethodName)) := by decide +kernel
theorem k5_177 : tables_1_5[177]? = some (Jvm.Cond.privateMethod ({ cls := "RingGuardModel", name := "endCommand", desc := "(II)Z" } : Jvm.MethodName)) := by decide +kernel
theorem k5_178 : tables_1_5[178]? = some (Jvm.Cond.instanceMethod ({ cls := "RingGuardModel", name := "endCommand", desc := "(II)Z" } : Jvm.MethodName)) := by decide +kernel
theorem k5_179 : tables_1_5[179]? = some (Jvm.Cond.code ({ cls := "RingGuardModel", name := "endCommand", desc := "(II)Z" } : Jvm.MethodName) prog_10_method_30_code (4 : Nat) (Option.some Jvm.ClassFile.FieldType.boolean)) := rfl
theorem k5_192 : tables_1_5[192]? = some (Jvm.Cond.methodLink "RingGuardModel" (265 : Nat) ({ cls := "RingGuardModel", name := "turn", desc := "()V" } : Jvm.MethodName)) := by decide +kernel
theorem k5_193 : tables_1_5[193]? = some (Jvm.Cond.privateMethod ({ cls := "RingGuardModel", name := "turn", desc := "()V" } : Jvm.MethodName)) := by decide +kernel
theorem k5_194 : tables_1_5[194]? = some (Jvm.Cond.instanceMethod ({ cls := "RingGuardModel", name := "turn", desc := "()V" } : Jvm.MethodName)) := by decide +kernel
theorem k5_195 : tables_1_5[195]? = some (Jvm.Cond.code ({ cls := "RingGuardModel", name := "turn", desc := "()V" } : Jvm.MethodName) prog_10_method_42_code (3 : Nat) (Option.none : Option Jvm.ClassFile.FieldType)) := rfl
theorem k5_196 : tables_1_5[196]? = some (Jvm.Cond.methodLink "RingGuardModel" (268 : Nat) ({ cls := "RingGuardModel", name := "arrive", desc := "(II)V" } : Jvm.MethodName)) := by decide +kernel
theorem k5_197 : tables_1_5[197]? = some (Jvm.Cond.privateMethod ({ cls := "RingGuardModel", name := "arrive", desc := "(II)V" } : Jvm.MethodName)) := by decide +kernel
theorem k5_198 : tables_1_5[198]? = some (Jvm.Cond.instanceMethod ({ cls := "RingGuardModel", name := "arrive", desc := "(II)V" } : Jvm.MethodName)) := by decide +kernel
theorem k5_199 : tables_1_5[199]? = some (Jvm.Cond.code ({ cls := "RingGuardModel", name := "arrive", desc := "(II)V" } : Jvm.MethodName) prog_10_method_41_code (10 : Nat) (Option.none : Option Jvm.ClassFile.FieldType)) := rfl
theorem k5_200 : tables_1_5[200]? = some (Jvm.Cond.methodLink "RingGuardModel" (256 : Nat) ({ cls := "RingGuardModel", name := "hears", desc := "(IIII)V" } : Jvm.MethodName)) := by decide +kernel
theorem k5_201 : tables_1_5[201]? = some (Jvm.Cond.privateMethod ({ cls := "RingGuardModel", name := "hears", desc := "(IIII)V" } : Jvm.MethodName)) := by decide +kernel
theorem k5_202 : tables_1_5[202]? = some (Jvm.Cond.instanceMethod ({ cls := "RingGuardModel", name := "hears", desc := "(IIII)V" } : Jvm.MethodName)) := by decide +kernel
theorem k5_203 : tables_1_5[203]? = some (Jvm.Cond.code ({ cls := "RingGuardModel", name := "hears", desc := "(IIII)V" } : Jvm.MethodName) prog_10_method_40_code (8 : Nat) (Option.none : Option Jvm.ClassFile.FieldType)) := rfl
theorem k5_204 : tables_1_5[204]? = some (Jvm.Cond.methodLink "RingGuardModel" (252 : Nat) ({ cls := "RingGuardModel", name := "has", desc := "(III)Z" } : Jvm.MethodName)) := by decide +kernel
theorem k5_205 : tables_1_5[205]? = some (Jvm.Cond.privateMethod ({ cls := "RingGuardModel", name := "has", desc := "(III)Z" } : Jvm.MethodName)) := by decide +kernel
theorem k5_206 : tables_1_5[206]? = some (Jvm.Cond.instanceMethod ({ cls := "RingGuardModel", name := "has", desc := "(III)Z" } : Jvm.MethodName)) := by decide +kernel
theorem k5_207 : tables_1_5[207]? = some (Jvm.Cond.code ({ cls := "RingGuardModel", name := "has", desc := "(III)Z" } : Jvm.MethodName) prog_10_method_25_code (7 : Nat) (Option.some Jvm.ClassFile.FieldType.boolean)) := rfl
theorem k5_208 : tables_1_5[208]? = some (Jvm.Cond.methodLink "RingGuardModel" (271 : Nat) ({ cls := "RingGuardModel", name := "tickOf", desc := "(II)V" } : Jvm.MethodName)) := by decide +kernel
theorem k5_209 : tables_1_5[209]? = some (Jvm.Cond.privateMethod ({ cls := "RingGuardModel", name := "tickOf", desc := "(II)V" } : Jvm.MethodName)) := by decide +kernel
theorem k5_210 : tables_1_5[210]? = some (Jvm.Cond.instanceMethod ({ cls := "RingGuardModel", name := "tickOf", desc := "(II)V" } : Jvm.MethodName)) := by decide +kernel
theorem k5_211 : tables_1_5[211]? = some (Jvm.Cond.code ({ cls := "RingGuardModel", name := "tickOf", desc := "(II)V" } : Jvm.MethodName) prog_10_method_43_code (4 : Nat) (Option.none : Option Jvm.ClassFile.FieldType)) := rfl
theorem k5_212 : tables_1_5[212]? = some (Jvm.Cond.methodLink "RingGuardModel" (259 : Nat) ({ cls := "RingGuardModel", name := "sends", desc := "(II)V" } : Jvm.MethodName)) := by decide +kernel
theorem k5_213 : tables_1_5[213]? = some (Jvm.Cond.privateMethod ({ cls := "RingGuardModel", name := "sends", desc := "(II)V" } : Jvm.MethodName)) := by decide +kernel
theorem k5_214 : tables_1_5[214]? = some (Jvm.Cond.instanceMethod ({ cls := "RingGuardModel", name := "sends", desc := "(II)V" } : Jvm.MethodName)) := by decide +kernel
theorem k5_215 : tables_1_5[215]? = some (Jvm.Cond.code ({ cls := "RingGuardModel", name := "sends", desc := "(II)V" } : Jvm.MethodName) prog_10_method_44_code (7 : Nat) (Option.none : Option Jvm.ClassFile.FieldType)) := rfl
theorem k5_216 : tables_1_5[216]? = some (Jvm.Cond.methodLink "RingGuardModel" (277 : Nat) ({ cls := "RingGuardModel", name := "isCalm", desc := "()Z" } : Jvm.MethodName)) := by decide +kernel
theorem k5_217 : tables_1_5[217]? = some (Jvm.Cond.privateMethod ({ cls := "RingGuardModel", name := "isCalm", desc := "()Z" } : Jvm.MethodName)) := by decide +kernel
theorem k5_218 : tables_1_5[218]? = some (Jvm.Cond.instanceMethod ({ cls := "RingGuardModel", name := "isCalm", desc := "()Z" } : Jvm.MethodName)) := by decide +kernel
theorem k5_219 : tables_1_5[219]? = some (Jvm.Cond.code ({ cls := "RingGuardModel", name := "isCalm", desc := "()Z" } : Jvm.MethodName) prog_10_method_49_code (5 : Nat) (Option.some Jvm.ClassFile.FieldType.boolean)) := rfl
theorem k5_220 : tables_1_5[220]? = some (Jvm.Cond.methodLink "RingGuardModel" (281 : Nat) ({ cls := "RingGuardModel", name := "areJoined", desc := "()Z" } : Jvm.MethodName)) := by decide +kernel
theorem k5_221 : tables_1_5[221]? = some (Jvm.Cond.privateMethod ({ cls := "RingGuardModel", name := "areJoined", desc := "()Z" } : Jvm.MethodName)) := by decide +kernel
theorem k5_222 : tables_1_5[222]? = some (Jvm.Cond.instanceMethod ({ cls := "RingGuardModel", name := "areJoined", desc := "()Z" } : Jvm.MethodName)) := by decide +kernel
theorem k5_223 : tables_1_5[223]? = some (Jvm.Cond.code ({ cls := "RingGuardModel", name := "areJoined", desc := "()Z" } : Jvm.MethodName) prog_10_method_50_code (3 : Nat) (Option.some Jvm.ClassFile.FieldType.boolean)) := rfl
abbrev yMO_at : MethodName := ⟨"RingGuardModel", "at", "(II)I"⟩
abbrev bMO_at : ByteArray := prog_10_method_21_code
abbrev yMO_end : MethodName := ⟨"RingGuardModel", "end", "(II)I"⟩
abbrev bMO_end : ByteArray := prog_10_method_22_code
abbrev yMO_change : MethodName := ⟨"RingGuardModel", "change", "(III)V"⟩
abbrev bMO_change : ByteArray := prog_10_method_23_code
abbrev yMO_endAll : MethodName := ⟨"RingGuardModel", "endAll", "(III)V"⟩
abbrev bMO_endAll : ByteArray := prog_10_method_24_code
abbrev yMO_has : MethodName := ⟨"RingGuardModel", "has", "(III)Z"⟩
abbrev bMO_has : ByteArray := prog_10_method_25_code
abbrev yMO_owns : MethodName := ⟨"RingGuardModel", "owns", "(II)Z"⟩
abbrev bMO_owns : ByteArray := prog_10_method_26_code
abbrev yMO_begins : MethodName := ⟨"RingGuardModel", "begins", "(III)V"⟩
abbrev bMO_begins : ByteArray := prog_10_method_27_code
abbrev yMO_ends : MethodName := ⟨"RingGuardModel", "ends", "(III)V"⟩
abbrev bMO_ends : ByteArray := prog_10_method_28_code
abbrev yMO_say : MethodName := ⟨"RingGuardModel", "say", "(IIII)V"⟩
abbrev bMO_say : ByteArray := prog_10_method_36_code
abbrev yMO_put : MethodName := ⟨"RingGuardModel", "put", "(II)V"⟩
abbrev bMO_put : ByteArray := prog_10_method_37_code
abbrev yMO_putAll : MethodName := ⟨"RingGuardModel", "putAll", "(II)V"⟩
abbrev bMO_putAll : ByteArray := prog_10_method_38_code
abbrev yMO_news : MethodName := ⟨"RingGuardModel", "news", "(IIII)V"⟩
abbrev bMO_news : ByteArray := prog_10_method_39_code
abbrev yMO_takeHold : MethodName := ⟨"RingGuardModel", "takeHold", "(I)V"⟩
abbrev bMO_takeHold : ByteArray := prog_10_method_29_code
abbrev yMO_endCommand : MethodName := ⟨"RingGuardModel", "endCommand", "(II)Z"⟩
abbrev bMO_endCommand : ByteArray := prog_10_method_30_code
abbrev yMO_hears : MethodName := ⟨"RingGuardModel", "hears", "(IIII)V"⟩
abbrev bMO_hears : ByteArray := prog_10_method_40_code
abbrev yMO_arrive : MethodName := ⟨"RingGuardModel", "arrive", "(II)V"⟩
abbrev bMO_arrive : ByteArray := prog_10_method_41_code
abbrev yMO_turn : MethodName := ⟨"RingGuardModel", "turn", "()V"⟩
abbrev bMO_turn : ByteArray := prog_10_method_42_code
abbrev yMO_sends : MethodName := ⟨"RingGuardModel", "sends", "(II)V"⟩
abbrev bMO_sends : ByteArray := prog_10_method_44_code
abbrev yMO_tickOf : MethodName := ⟨"RingGuardModel", "tickOf", "(II)V"⟩
abbrev bMO_tickOf : ByteArray := prog_10_method_43_code
abbrev yMO_isOpen : MethodName := ⟨"RingGuardModel", "isOpen", "(I)Z"⟩
abbrev bMO_isOpen : ByteArray := prog_10_method_47_code
abbrev yMO_look : MethodName := ⟨"RingGuardModel", "look", "()V"⟩
abbrev bMO_look : ByteArray := prog_10_method_48_code
abbrev yMO_isCalm : MethodName := ⟨"RingGuardModel", "isCalm", "()Z"⟩
abbrev bMO_isCalm : ByteArray := prog_10_method_49_code
abbrev yMO_areJoined : MethodName := ⟨"RingGuardModel", "areJoined", "()Z"⟩
abbrev bMO_areJoined : ByteArray := prog_10_method_50_code
abbrev yMO_tick : MethodName := ⟨"RingGuardModel", "tick", "()V"⟩
abbrev bMO_tick : ByteArray := prog_10_method_45_code
abbrev yMO_known : MethodName := ⟨"RingGuardModel", "known", "(III)I"⟩
abbrev bMO_known : ByteArray := prog_10_method_52_code
theorem dMO_areJoined_0 : decode bMO_areJoined 0 = .ok (.iconst 1, 1) := by decide +kernel
theorem dMO_areJoined_1 : decode bMO_areJoined 1 = .ok (.istore_n 1, 1) := by decide +kernel
theorem dMO_areJoined_2 : decode bMO_areJoined 2 = .ok (.iconst 1, 1) := by decide +kernel
theorem dMO_areJoined_3 : decode bMO_areJoined 3 = .ok (.istore_n 2, 1) := by decide +kernel
theorem dMO_areJoined_4 : decode bMO_areJoined 4 = .ok (.iload_n 2, 1) := by decide +kernel
theorem dMO_areJoined_5 : decode bMO_areJoined 5 = .ok (.aload_n 0, 1) := by decide +kernel
theorem dMO_areJoined_6 : decode bMO_areJoined 6 = .ok (.getfield 129, 3) := by decide +kernel
theorem dMO_areJoined_9 : decode bMO_areJoined 9 = .ok (.if_icmp .ge 34, 3) := by decide +kernel
theorem dMO_areJoined_12 : decode bMO_areJoined 12 = .ok (.iload_n 1, 1) := by decide +kernel
theorem dMO_areJoined_13 : decode bMO_areJoined 13 = .ok (.ifCond .eq 22, 3) := by decide +kernel
theorem dMO_areJoined_16 : decode bMO_areJoined 16 = .ok (.aload_n 0, 1) := by decide +kernel
theorem dMO_areJoined_17 : decode bMO_areJoined 17 = .ok (.getfield 110, 3) := by decide +kernel
theorem dMO_areJoined_20 : decode bMO_areJoined 20 = .ok (.iload_n 2, 1) := by decide +kernel
theorem dMO_areJoined_21 : decode bMO_areJoined 21 = .ok (.iaload, 1) := by decide +kernel
theorem dMO_areJoined_22 : decode bMO_areJoined 22 = .ok (.aload_n 0, 1) := by decide +kernel
theorem dMO_areJoined_23 : decode bMO_areJoined 23 = .ok (.getfield 110, 3) := by decide +kernel
theorem dMO_areJoined_26 : decode bMO_areJoined 26 = .ok (.iconst 0, 1) := by decide +kernel
theorem dMO_areJoined_27 : decode bMO_areJoined 27 = .ok (.iaload, 1) := by decide +kernel
theorem dMO_areJoined_28 : decode bMO_areJoined 28 = .ok (.if_icmp .ne 7, 3) := by decide +kernel
theorem dMO_areJoined_31 : decode bMO_areJoined 31 = .ok (.iconst 1, 1) := by decide +kernel
theorem dMO_areJoined_32 : decode bMO_areJoined 32 = .ok (.goto 4, 3) := by decide +kernel
theorem dMO_areJoined_35 : decode bMO_areJoined 35 = .ok (.iconst 0, 1) := by decide +kernel
theorem dMO_areJoined_36 : decode bMO_areJoined 36 = .ok (.istore_n 1, 1) := by decide +kernel
theorem dMO_areJoined_37 : decode bMO_areJoined 37 = .ok (.iinc 2 1, 3) := by decide +kernel
theorem dMO_areJoined_40 : decode bMO_areJoined 40 = .ok (.goto (-36), 3) := by decide +kernel
theorem dMO_areJoined_43 : decode bMO_areJoined 43 = .ok (.iload_n 1, 1) := by decide +kernel
theorem dMO_areJoined_44 : decode bMO_areJoined 44 = .ok (.ireturn, 1) := by decide +kernel
theorem dMO_arrive_0 : decode bMO_arrive 0 = .ok (.iload_n 1, 1) := by decide +kernel
theorem dMO_arrive_1 : decode bMO_arrive 1 = .ok (.iconst 2, 1) := by decide +kernel
theorem dMO_arrive_2 : decode bMO_arrive 2 = .ok (.idiv, 1) := by decide +kernel
theorem dMO_arrive_3 : decode bMO_arrive 3 = .ok (.istore_n 3, 1) := by decide +kernel
theorem dMO_arrive_4 : decode bMO_arrive 4 = .ok (.aload_n 0, 1) := by decide +kernel
theorem dMO_arrive_5 : decode bMO_arrive 5 = .ok (.getfield 19, 3) := by decide +kernel
theorem dMO_arrive_8 : decode bMO_arrive 8 = .ok (.iload_n 3, 1) := by decide +kernel
theorem dMO_arrive_9 : decode bMO_arrive 9 = .ok (.baload, 1) := by decide +kernel
theorem dMO_arrive_10 : decode bMO_arrive 10 = .ok (.ifCond .eq 4, 3) := by decide +kernel
theorem dMO_arrive_13 : decode bMO_arrive 13 = .ok (.return_, 1) := by decide +kernel
theorem dMO_arrive_14 : decode bMO_arrive 14 = .ok (.aload_n 0, 1) := by decide +kernel
theorem dMO_arrive_15 : decode bMO_arrive 15 = .ok (.getfield 26, 3) := by decide +kernel
theorem dMO_arrive_18 : decode bMO_arrive 18 = .ok (.iload_n 3, 1) := by decide +kernel
theorem dMO_arrive_19 : decode bMO_arrive 19 = .ok (.iaload, 1) := by decide +kernel
theorem dMO_arrive_20 : decode bMO_arrive 20 = .ok (.ifCond .le 29, 3) := by decide +kernel
theorem dMO_arrive_23 : decode bMO_arrive 23 = .ok (.aload_n 0, 1) := by decide +kernel
theorem dMO_arrive_24 : decode bMO_arrive 24 = .ok (.getfield 26, 3) := by decide +kernel
theorem dMO_arrive_27 : decode bMO_arrive 27 = .ok (.iload_n 3, 1) := by decide +kernel
theorem dMO_arrive_28 : decode bMO_arrive 28 = .ok (.dup2, 1) := by decide +kernel
theorem dMO_arrive_29 : decode bMO_arrive 29 = .ok (.iaload, 1) := by decide +kernel
theorem dMO_arrive_30 : decode bMO_arrive 30 = .ok (.iconst 1, 1) := by decide +kernel
theorem dMO_arrive_31 : decode bMO_arrive 31 = .ok (.isub, 1) := by decide +kernel
theorem dMO_arrive_32 : decode bMO_arrive 32 = .ok (.iastore, 1) := by decide +kernel
theorem dMO_arrive_33 : decode bMO_arrive 33 = .ok (.aload_n 0, 1) := by decide +kernel
theorem dMO_arrive_34 : decode bMO_arrive 34 = .ok (.dup, 1) := by decide +kernel
theorem dMO_arrive_35 : decode bMO_arrive 35 = .ok (.getfield 239, 3) := by decide +kernel
theorem dMO_arrive_38 : decode bMO_arrive 38 = .ok (.iconst 1, 1) := by decide +kernel
theorem dMO_arrive_39 : decode bMO_arrive 39 = .ok (.iadd, 1) := by decide +kernel
theorem dMO_arrive_40 : decode bMO_arrive 40 = .ok (.putfield 239, 3) := by decide +kernel
theorem dMO_arrive_43 : decode bMO_arrive 43 = .ok (.aload_n 0, 1) := by decide +kernel
theorem dMO_arrive_44 : decode bMO_arrive 44 = .ok (.iconst 1, 1) := by decide +kernel
theorem dMO_arrive_45 : decode bMO_arrive 45 = .ok (.putfield 212, 3) := by decide +kernel
theorem dMO_arrive_48 : decode bMO_arrive 48 = .ok (.return_, 1) := by decide +kernel
theorem dMO_arrive_49 : decode bMO_arrive 49 = .ok (.iload_n 1, 1) := by decide +kernel
theorem dMO_arrive_50 : decode bMO_arrive 50 = .ok (.iconst 2, 1) := by decide +kernel
theorem dMO_arrive_51 : decode bMO_arrive 51 = .ok (.irem, 1) := by decide +kernel
theorem dMO_arrive_52 : decode bMO_arrive 52 = .ok (.ifCond .ne 12, 3) := by decide +kernel
theorem dMO_arrive_55 : decode bMO_arrive 55 = .ok (.aload_n 0, 1) := by decide +kernel
theorem dMO_arrive_56 : decode bMO_arrive 56 = .ok (.getfield 7, 3) := by decide +kernel
theorem dMO_arrive_59 : decode bMO_arrive 59 = .ok (.iload_n 3, 1) := by decide +kernel
theorem dMO_arrive_60 : decode bMO_arrive 60 = .ok (.iaload, 1) := by decide +kernel
theorem dMO_arrive_61 : decode bMO_arrive 61 = .ok (.goto 9, 3) := by decide +kernel
theorem dMO_arrive_64 : decode bMO_arrive 64 = .ok (.aload_n 0, 1) := by decide +kernel
theorem dMO_arrive_65 : decode bMO_arrive 65 = .ok (.getfield 13, 3) := by decide +kernel
theorem dMO_arrive_68 : decode bMO_arrive 68 = .ok (.iload_n 3, 1) := by decide +kernel
theorem dMO_arrive_69 : decode bMO_arrive 69 = .ok (.iaload, 1) := by decide +kernel
theorem dMO_arrive_70 : decode bMO_arrive 70 = .ok (.istore 4, 2) := by decide +kernel
theorem dMO_arrive_72 : decode bMO_arrive 72 = .ok (.aload_n 0, 1) := by decide +kernel
theorem dMO_arrive_73 : decode bMO_arrive 73 = .ok (.getfield 98, 3) := by decide +kernel
theorem dMO_arrive_76 : decode bMO_arrive 76 = .ok (.iload_n 2, 1) := by decide +kernel
theorem dMO_arrive_77 : decode bMO_arrive 77 = .ok (.iaload, 1) := by decide +kernel
theorem dMO_arrive_78 : decode bMO_arrive 78 = .ok (.istore 5, 2) := by decide +kernel
theorem dMO_arrive_80 : decode bMO_arrive 80 = .ok (.aload_n 0, 1) := by decide +kernel
theorem dMO_arrive_81 : decode bMO_arrive 81 = .ok (.getfield 101, 3) := by decide +kernel
theorem dMO_arrive_84 : decode bMO_arrive 84 = .ok (.iload_n 2, 1) := by decide +kernel
theorem dMO_arrive_85 : decode bMO_arrive 85 = .ok (.iaload, 1) := by decide +kernel
theorem dMO_arrive_86 : decode bMO_arrive 86 = .ok (.istore 6, 2) := by decide +kernel
theorem dMO_arrive_88 : decode bMO_arrive 88 = .ok (.iload 6, 2) := by decide +kernel
theorem dMO_arrive_90 : decode bMO_arrive 90 = .ok (.iload 4, 2) := by decide +kernel
theorem dMO_arrive_92 : decode bMO_arrive 92 = .ok (.if_icmp .ne 4, 3) := by decide +kernel
theorem dMO_arrive_95 : decode bMO_arrive 95 = .ok (.return_, 1) := by decide +kernel
theorem dMO_arrive_96 : decode bMO_arrive 96 = .ok (.aload_n 0, 1) := by decide +kernel
theorem dMO_arrive_97 : decode bMO_arrive 97 = .ok (.getfield 16, 3) := by decide +kernel
theorem dMO_arrive_100 : decode bMO_arrive 100 = .ok (.iload_n 3, 1) := by decide +kernel
theorem dMO_arrive_101 : decode bMO_arrive 101 = .ok (.iaload, 1) := by decide +kernel
theorem dMO_arrive_102 : decode bMO_arrive 102 = .ok (.istore 7, 2) := by decide +kernel
theorem dMO_arrive_104 : decode bMO_arrive 104 = .ok (.iload 5, 2) := by decide +kernel
theorem dMO_arrive_106 : decode bMO_arrive 106 = .ok (.iconst 3, 1) := by decide +kernel
theorem dMO_arrive_107 : decode bMO_arrive 107 = .ok (.if_icmp .eq 23, 3) := by decide +kernel
theorem dMO_arrive_110 : decode bMO_arrive 110 = .ok (.aload_n 0, 1) := by decide +kernel
theorem dMO_arrive_111 : decode bMO_arrive 111 = .ok (.iload 4, 2) := by decide +kernel
theorem dMO_arrive_113 : decode bMO_arrive 113 = .ok (.aload_n 0, 1) := by decide +kernel
theorem dMO_arrive_114 : decode bMO_arrive 114 = .ok (.getfield 104, 3) := by decide +kernel
theorem dMO_arrive_117 : decode bMO_arrive 117 = .ok (.iload_n 2, 1) := by decide +kernel
theorem dMO_arrive_118 : decode bMO_arrive 118 = .ok (.iaload, 1) := by decide +kernel
theorem dMO_arrive_119 : decode bMO_arrive 119 = .ok (.aload_n 0, 1) := by decide +kernel
theorem dMO_arrive_120 : decode bMO_arrive 120 = .ok (.getfield 107, 3) := by decide +kernel
theorem dMO_arrive_123 : decode bMO_arrive 123 = .ok (.iload_n 2, 1) := by decide +kernel
theorem dMO_arrive_124 : decode bMO_arrive 124 = .ok (.iaload, 1) := by decide +kernel
theorem dMO_arrive_125 : decode bMO_arrive 125 = .ok (.iload 7, 2) := by decide +kernel
theorem dMO_arrive_127 : decode bMO_arrive 127 = .ok (.invokevirtual 205, 3) := by decide +kernel
theorem dMO_arrive_130 : decode bMO_arrive 130 = .ok (.aload_n 0, 1) := by decide +kernel
theorem dMO_arrive_131 : decode bMO_arrive 131 = .ok (.iload 4, 2) := by decide +kernel
theorem dMO_arrive_133 : decode bMO_arrive 133 = .ok (.iload 7, 2) := by decide +kernel
theorem dMO_arrive_135 : decode bMO_arrive 135 = .ok (.iload 5, 2) := by decide +kernel
theorem dMO_arrive_137 : decode bMO_arrive 137 = .ok (.iload 6, 2) := by decide +kernel
theorem dMO_arrive_139 : decode bMO_arrive 139 = .ok (.invokevirtual 256, 3) := by decide +kernel
theorem dMO_arrive_142 : decode bMO_arrive 142 = .ok (.aload_n 0, 1) := by decide +kernel
theorem dMO_arrive_143 : decode bMO_arrive 143 = .ok (.iload 5, 2) := by decide +kernel
theorem dMO_arrive_145 : decode bMO_arrive 145 = .ok (.iload 6, 2) := by decide +kernel
theorem dMO_arrive_147 : decode bMO_arrive 147 = .ok (.aload_n 0, 1) := by decide +kernel
theorem dMO_arrive_148 : decode bMO_arrive 148 = .ok (.getfield 104, 3) := by decide +kernel
theorem dMO_arrive_151 : decode bMO_arrive 151 = .ok (.iload_n 2, 1) := by decide +kernel
theorem dMO_arrive_152 : decode bMO_arrive 152 = .ok (.iaload, 1) := by decide +kernel
theorem dMO_arrive_153 : decode bMO_arrive 153 = .ok (.aload_n 0, 1) := by decide +kernel
theorem dMO_arrive_154 : decode bMO_arrive 154 = .ok (.getfield 107, 3) := by decide +kernel
theorem dMO_arrive_157 : decode bMO_arrive 157 = .ok (.iload_n 2, 1) := by decide +kernel
theorem dMO_arrive_158 : decode bMO_arrive 158 = .ok (.iaload, 1) := by decide +kernel
theorem dMO_arrive_159 : decode bMO_arrive 159 = .ok (.invokevirtual 246, 3) := by decide +kernel
theorem dMO_arrive_162 : decode bMO_arrive 162 = .ok (.iconst 0, 1) := by decide +kernel
theorem dMO_arrive_163 : decode bMO_arrive 163 = .ok (.istore 8, 2) := by decide +kernel
theorem dMO_arrive_165 : decode bMO_arrive 165 = .ok (.iload 8, 2) := by decide +kernel
theorem dMO_arrive_167 : decode bMO_arrive 167 = .ok (.iconst 2, 1) := by decide +kernel
theorem dMO_arrive_168 : decode bMO_arrive 168 = .ok (.if_icmp .ge 48, 3) := by decide +kernel
theorem dMO_arrive_171 : decode bMO_arrive 171 = .ok (.aload_n 0, 1) := by decide +kernel
theorem dMO_arrive_172 : decode bMO_arrive 172 = .ok (.getfield 47, 3) := by decide +kernel
theorem dMO_arrive_175 : decode bMO_arrive 175 = .ok (.iconst 2, 1) := by decide +kernel
theorem dMO_arrive_176 : decode bMO_arrive 176 = .ok (.iload 4, 2) := by decide +kernel
theorem dMO_arrive_178 : decode bMO_arrive 178 = .ok (.iload 7, 2) := by decide +kernel
theorem dMO_arrive_180 : decode bMO_arrive 180 = .ok (.invokestatic 192, 3) := by decide +kernel
theorem dMO_arrive_183 : decode bMO_arrive 183 = .ok (.imul, 1) := by decide +kernel
theorem dMO_arrive_184 : decode bMO_arrive 184 = .ok (.iload 8, 2) := by decide +kernel
theorem dMO_arrive_186 : decode bMO_arrive 186 = .ok (.iadd, 1) := by decide +kernel
theorem dMO_arrive_187 : decode bMO_arrive 187 = .ok (.iaload, 1) := by decide +kernel
theorem dMO_arrive_188 : decode bMO_arrive 188 = .ok (.istore 9, 2) := by decide +kernel
theorem dMO_arrive_190 : decode bMO_arrive 190 = .ok (.iload 9, 2) := by decide +kernel
theorem dMO_arrive_192 : decode bMO_arrive 192 = .ok (.iconst (-1), 1) := by decide +kernel
theorem dMO_arrive_193 : decode bMO_arrive 193 = .ok (.if_icmp .eq 17, 3) := by decide +kernel
theorem dMO_arrive_196 : decode bMO_arrive 196 = .ok (.iload 9, 2) := by decide +kernel
theorem dMO_arrive_198 : decode bMO_arrive 198 = .ok (.iload_n 3, 1) := by decide +kernel
theorem dMO_arrive_199 : decode bMO_arrive 199 = .ok (.if_icmp .eq 11, 3) := by decide +kernel
theorem dMO_arrive_202 : decode bMO_arrive 202 = .ok (.aload_n 0, 1) := by decide +kernel
theorem dMO_arrive_203 : decode bMO_arrive 203 = .ok (.iload 4, 2) := by decide +kernel
theorem dMO_arrive_205 : decode bMO_arrive 205 = .ok (.iload 9, 2) := by decide +kernel
theorem dMO_arrive_207 : decode bMO_arrive 207 = .ok (.invokevirtual 242, 3) := by decide +kernel
theorem dMO_arrive_210 : decode bMO_arrive 210 = .ok (.iinc 8 1, 3) := by decide +kernel
theorem dMO_arrive_213 : decode bMO_arrive 213 = .ok (.goto (-48), 3) := by decide +kernel
theorem dMO_arrive_216 : decode bMO_arrive 216 = .ok (.return_, 1) := by decide +kernel
theorem dMO_at_0 : decode bMO_at 0 = .ok (.bipush 6, 2) := by decide +kernel
theorem dMO_at_2 : decode bMO_at 2 = .ok (.iload_n 0, 1) := by decide +kernel
theorem dMO_at_3 : decode bMO_at 3 = .ok (.imul, 1) := by decide +kernel
theorem dMO_at_4 : decode bMO_at 4 = .ok (.iload_n 1, 1) := by decide +kernel
theorem dMO_at_5 : decode bMO_at 5 = .ok (.iadd, 1) := by decide +kernel
theorem dMO_at_6 : decode bMO_at 6 = .ok (.ireturn, 1) := by decide +kernel
theorem dMO_begins_0 : decode bMO_begins 0 = .ok (.aload_n 0, 1) := by decide +kernel
theorem dMO_begins_1 : decode bMO_begins 1 = .ok (.getfield 16, 3) := by decide +kernel
theorem dMO_begins_4 : decode bMO_begins 4 = .ok (.iload_n 2, 1) := by decide +kernel
theorem dMO_begins_5 : decode bMO_begins 5 = .ok (.iaload, 1) := by decide +kernel
theorem dMO_begins_6 : decode bMO_begins 6 = .ok (.istore 4, 2) := by decide +kernel
theorem dMO_begins_8 : decode bMO_begins 8 = .ok (.aload_n 0, 1) := by decide +kernel
theorem dMO_begins_9 : decode bMO_begins 9 = .ok (.iload_n 1, 1) := by decide +kernel
theorem dMO_begins_10 : decode bMO_begins 10 = .ok (.iload_n 2, 1) := by decide +kernel
theorem dMO_begins_11 : decode bMO_begins 11 = .ok (.aload_n 0, 1) := by decide +kernel
theorem dMO_begins_12 : decode bMO_begins 12 = .ok (.getfield 29, 3) := by decide +kernel
theorem dMO_begins_15 : decode bMO_begins 15 = .ok (.aload_n 0, 1) := by decide +kernel
theorem dMO_begins_16 : decode bMO_begins 16 = .ok (.iload_n 1, 1) := by decide +kernel
theorem dMO_begins_17 : decode bMO_begins 17 = .ok (.iload_n 2, 1) := by decide +kernel
theorem dMO_begins_18 : decode bMO_begins 18 = .ok (.invokevirtual 189, 3) := by decide +kernel
theorem dMO_begins_21 : decode bMO_begins 21 = .ok (.iaload, 1) := by decide +kernel
theorem dMO_begins_22 : decode bMO_begins 22 = .ok (.iload_n 3, 1) := by decide +kernel
theorem dMO_begins_23 : decode bMO_begins 23 = .ok (.ior, 1) := by decide +kernel
theorem dMO_begins_24 : decode bMO_begins 24 = .ok (.invokevirtual 195, 3) := by decide +kernel
theorem dMO_begins_27 : decode bMO_begins 27 = .ok (.aload_n 0, 1) := by decide +kernel
theorem dMO_begins_28 : decode bMO_begins 28 = .ok (.iload_n 1, 1) := by decide +kernel
theorem dMO_begins_29 : decode bMO_begins 29 = .ok (.iload 4, 2) := by decide +kernel
theorem dMO_begins_31 : decode bMO_begins 31 = .ok (.invokevirtual 199, 3) := by decide +kernel
theorem dMO_begins_34 : decode bMO_begins 34 = .ok (.ifCond .eq 20, 3) := by decide +kernel
theorem dMO_begins_37 : decode bMO_begins 37 = .ok (.aload_n 0, 1) := by decide +kernel
theorem dMO_begins_38 : decode bMO_begins 38 = .ok (.iload_n 1, 1) := by decide +kernel
theorem dMO_begins_39 : decode bMO_begins 39 = .ok (.iload 4, 2) := by decide +kernel
theorem dMO_begins_41 : decode bMO_begins 41 = .ok (.bipush 16, 2) := by decide +kernel
theorem dMO_begins_43 : decode bMO_begins 43 = .ok (.invokevirtual 202, 3) := by decide +kernel
theorem dMO_begins_46 : decode bMO_begins 46 = .ok (.aload_n 0, 1) := by decide +kernel
theorem dMO_begins_47 : decode bMO_begins 47 = .ok (.getfield 41, 3) := by decide +kernel
theorem dMO_begins_50 : decode bMO_begins 50 = .ok (.iload 4, 2) := by decide +kernel
theorem dMO_begins_52 : decode bMO_begins 52 = .ok (.iconst 0, 1) := by decide +kernel
theorem dMO_begins_53 : decode bMO_begins 53 = .ok (.iastore, 1) := by decide +kernel
theorem dMO_begins_54 : decode bMO_begins 54 = .ok (.return_, 1) := by decide +kernel
theorem dMO_change_0 : decode bMO_change 0 = .ok (.aload_n 0, 1) := by decide +kernel
theorem dMO_change_1 : decode bMO_change 1 = .ok (.getfield 29, 3) := by decide +kernel
theorem dMO_change_4 : decode bMO_change 4 = .ok (.aload_n 0, 1) := by decide +kernel
theorem dMO_change_5 : decode bMO_change 5 = .ok (.iload_n 1, 1) := by decide +kernel
theorem dMO_change_6 : decode bMO_change 6 = .ok (.iload_n 2, 1) := by decide +kernel
theorem dMO_change_7 : decode bMO_change 7 = .ok (.invokevirtual 189, 3) := by decide +kernel
theorem dMO_change_10 : decode bMO_change 10 = .ok (.iaload, 1) := by decide +kernel
theorem dMO_change_11 : decode bMO_change 11 = .ok (.iload_n 3, 1) := by decide +kernel
theorem dMO_change_12 : decode bMO_change 12 = .ok (.if_icmp .eq 31, 3) := by decide +kernel
theorem dMO_change_15 : decode bMO_change 15 = .ok (.aload_n 0, 1) := by decide +kernel
theorem dMO_change_16 : decode bMO_change 16 = .ok (.getfield 29, 3) := by decide +kernel
theorem dMO_change_19 : decode bMO_change 19 = .ok (.aload_n 0, 1) := by decide +kernel
theorem dMO_change_20 : decode bMO_change 20 = .ok (.iload_n 1, 1) := by decide +kernel
theorem dMO_change_21 : decode bMO_change 21 = .ok (.iload_n 2, 1) := by decide +kernel
theorem dMO_change_22 : decode bMO_change 22 = .ok (.invokevirtual 189, 3) := by decide +kernel
theorem dMO_change_25 : decode bMO_change 25 = .ok (.iload_n 3, 1) := by decide +kernel
theorem dMO_change_26 : decode bMO_change 26 = .ok (.iastore, 1) := by decide +kernel
theorem dMO_change_27 : decode bMO_change 27 = .ok (.aload_n 0, 1) := by decide +kernel
theorem dMO_change_28 : decode bMO_change 28 = .ok (.getfield 53, 3) := by decide +kernel
theorem dMO_change_31 : decode bMO_change 31 = .ok (.iload_n 1, 1) := by decide +kernel
theorem dMO_change_32 : decode bMO_change 32 = .ok (.aload_n 0, 1) := by decide +kernel
theorem dMO_change_33 : decode bMO_change 33 = .ok (.getfield 16, 3) := by decide +kernel
theorem dMO_change_36 : decode bMO_change 36 = .ok (.iload_n 2, 1) := by decide +kernel
theorem dMO_change_37 : decode bMO_change 37 = .ok (.iaload, 1) := by decide +kernel
theorem dMO_change_38 : decode bMO_change 38 = .ok (.invokestatic 192, 3) := by decide +kernel
theorem dMO_change_41 : decode bMO_change 41 = .ok (.iconst 0, 1) := by decide +kernel
theorem dMO_change_42 : decode bMO_change 42 = .ok (.iastore, 1) := by decide +kernel
theorem dMO_change_43 : decode bMO_change 43 = .ok (.return_, 1) := by decide +kernel
theorem dMO_end_0 : decode bMO_end 0 = .ok (.iconst 2, 1) := by decide +kernel
theorem dMO_end_1 : decode bMO_end 1 = .ok (.iload_n 2, 1) := by decide +kernel
theorem dMO_end_2 : decode bMO_end 2 = .ok (.imul, 1) := by decide +kernel
theorem dMO_end_3 : decode bMO_end 3 = .ok (.aload_n 0, 1) := by decide +kernel
theorem dMO_end_4 : decode bMO_end 4 = .ok (.getfield 7, 3) := by decide +kernel
theorem dMO_end_7 : decode bMO_end 7 = .ok (.iload_n 2, 1) := by decide +kernel
theorem dMO_end_8 : decode bMO_end 8 = .ok (.iaload, 1) := by decide +kernel
theorem dMO_end_9 : decode bMO_end 9 = .ok (.iload_n 1, 1) := by decide +kernel
theorem dMO_end_10 : decode bMO_end 10 = .ok (.if_icmp .ne 7, 3) := by decide +kernel
theorem dMO_end_13 : decode bMO_end 13 = .ok (.iconst 0, 1) := by decide +kernel
theorem dMO_end_14 : decode bMO_end 14 = .ok (.goto 4, 3) := by decide +kernel
theorem dMO_end_17 : decode bMO_end 17 = .ok (.iconst 1, 1) := by decide +kernel
theorem dMO_end_18 : decode bMO_end 18 = .ok (.iadd, 1) := by decide +kernel
theorem dMO_end_19 : decode bMO_end 19 = .ok (.ireturn, 1) := by decide +kernel
theorem dMO_endAll_0 : decode bMO_endAll 0 = .ok (.iconst 0, 1) := by decide +kernel
theorem dMO_endAll_1 : decode bMO_endAll 1 = .ok (.istore 4, 2) := by decide +kernel
theorem dMO_endAll_3 : decode bMO_endAll 3 = .ok (.iload 4, 2) := by decide +kernel
theorem dMO_endAll_5 : decode bMO_endAll 5 = .ok (.iconst 2, 1) := by decide +kernel
theorem dMO_endAll_6 : decode bMO_endAll 6 = .ok (.if_icmp .ge 55, 3) := by decide +kernel
theorem dMO_endAll_9 : decode bMO_endAll 9 = .ok (.aload_n 0, 1) := by decide +kernel
theorem dMO_endAll_10 : decode bMO_endAll 10 = .ok (.getfield 47, 3) := by decide +kernel
theorem dMO_endAll_13 : decode bMO_endAll 13 = .ok (.iconst 2, 1) := by decide +kernel
theorem dMO_endAll_14 : decode bMO_endAll 14 = .ok (.iload_n 1, 1) := by decide +kernel
theorem dMO_endAll_15 : decode bMO_endAll 15 = .ok (.iload_n 2, 1) := by decide +kernel
theorem dMO_endAll_16 : decode bMO_endAll 16 = .ok (.invokestatic 192, 3) := by decide +kernel
theorem dMO_endAll_19 : decode bMO_endAll 19 = .ok (.imul, 1) := by decide +kernel
theorem dMO_endAll_20 : decode bMO_endAll 20 = .ok (.iload 4, 2) := by decide +kernel
theorem dMO_endAll_22 : decode bMO_endAll 22 = .ok (.iadd, 1) := by decide +kernel
theorem dMO_endAll_23 : decode bMO_endAll 23 = .ok (.iaload, 1) := by decide +kernel
theorem dMO_endAll_24 : decode bMO_endAll 24 = .ok (.istore 5, 2) := by decide +kernel
theorem dMO_endAll_26 : decode bMO_endAll 26 = .ok (.iload 5, 2) := by decide +kernel
theorem dMO_endAll_28 : decode bMO_endAll 28 = .ok (.iconst (-1), 1) := by decide +kernel
theorem dMO_endAll_29 : decode bMO_endAll 29 = .ok (.if_icmp .eq 26, 3) := by decide +kernel
theorem dMO_endAll_32 : decode bMO_endAll 32 = .ok (.aload_n 0, 1) := by decide +kernel
theorem dMO_endAll_33 : decode bMO_endAll 33 = .ok (.iload_n 1, 1) := by decide +kernel
theorem dMO_endAll_34 : decode bMO_endAll 34 = .ok (.iload 5, 2) := by decide +kernel
theorem dMO_endAll_36 : decode bMO_endAll 36 = .ok (.aload_n 0, 1) := by decide +kernel
theorem dMO_endAll_37 : decode bMO_endAll 37 = .ok (.getfield 29, 3) := by decide +kernel
theorem dMO_endAll_40 : decode bMO_endAll 40 = .ok (.aload_n 0, 1) := by decide +kernel
theorem dMO_endAll_41 : decode bMO_endAll 41 = .ok (.iload_n 1, 1) := by decide +kernel
theorem dMO_endAll_42 : decode bMO_endAll 42 = .ok (.iload 5, 2) := by decide +kernel
theorem dMO_endAll_44 : decode bMO_endAll 44 = .ok (.invokevirtual 189, 3) := by decide +kernel
theorem dMO_endAll_47 : decode bMO_endAll 47 = .ok (.iaload, 1) := by decide +kernel
theorem dMO_endAll_48 : decode bMO_endAll 48 = .ok (.iload_n 3, 1) := by decide +kernel
theorem dMO_endAll_49 : decode bMO_endAll 49 = .ok (.iconst (-1), 1) := by decide +kernel
theorem dMO_endAll_50 : decode bMO_endAll 50 = .ok (.ixor, 1) := by decide +kernel
theorem dMO_endAll_51 : decode bMO_endAll 51 = .ok (.iand, 1) := by decide +kernel
theorem dMO_endAll_52 : decode bMO_endAll 52 = .ok (.invokevirtual 195, 3) := by decide +kernel
theorem dMO_endAll_55 : decode bMO_endAll 55 = .ok (.iinc 4 1, 3) := by decide +kernel
theorem dMO_endAll_58 : decode bMO_endAll 58 = .ok (.goto (-55), 3) := by decide +kernel
theorem dMO_endAll_61 : decode bMO_endAll 61 = .ok (.return_, 1) := by decide +kernel
theorem dMO_endCommand_0 : decode bMO_endCommand 0 = .ok (.iload_n 1, 1) := by decide +kernel
theorem dMO_endCommand_1 : decode bMO_endCommand 1 = .ok (.iload_n 2, 1) := by decide +kernel
theorem dMO_endCommand_2 : decode bMO_endCommand 2 = .ok (.invokestatic 192, 3) := by decide +kernel
theorem dMO_endCommand_5 : decode bMO_endCommand 5 = .ok (.istore_n 3, 1) := by decide +kernel
theorem dMO_endCommand_6 : decode bMO_endCommand 6 = .ok (.aload_n 0, 1) := by decide +kernel
theorem dMO_endCommand_7 : decode bMO_endCommand 7 = .ok (.getfield 56, 3) := by decide +kernel
theorem dMO_endCommand_10 : decode bMO_endCommand 10 = .ok (.iload_n 3, 1) := by decide +kernel
theorem dMO_endCommand_11 : decode bMO_endCommand 11 = .ok (.iaload, 1) := by decide +kernel
theorem dMO_endCommand_12 : decode bMO_endCommand 12 = .ok (.ifCond .ne 5, 3) := by decide +kernel
theorem dMO_endCommand_15 : decode bMO_endCommand 15 = .ok (.iconst 0, 1) := by decide +kernel
theorem dMO_endCommand_16 : decode bMO_endCommand 16 = .ok (.ireturn, 1) := by decide +kernel
theorem dMO_endCommand_17 : decode bMO_endCommand 17 = .ok (.aload_n 0, 1) := by decide +kernel
theorem dMO_endCommand_18 : decode bMO_endCommand 18 = .ok (.iload_n 1, 1) := by decide +kernel
theorem dMO_endCommand_19 : decode bMO_endCommand 19 = .ok (.aload_n 0, 1) := by decide +kernel
theorem dMO_endCommand_20 : decode bMO_endCommand 20 = .ok (.getfield 59, 3) := by decide +kernel
theorem dMO_endCommand_23 : decode bMO_endCommand 23 = .ok (.iload_n 3, 1) := by decide +kernel
theorem dMO_endCommand_24 : decode bMO_endCommand 24 = .ok (.iaload, 1) := by decide +kernel
theorem dMO_endCommand_25 : decode bMO_endCommand 25 = .ok (.aload_n 0, 1) := by decide +kernel
theorem dMO_endCommand_26 : decode bMO_endCommand 26 = .ok (.getfield 56, 3) := by decide +kernel
theorem dMO_endCommand_29 : decode bMO_endCommand 29 = .ok (.iload_n 3, 1) := by decide +kernel
theorem dMO_endCommand_30 : decode bMO_endCommand 30 = .ok (.iaload, 1) := by decide +kernel
theorem dMO_endCommand_31 : decode bMO_endCommand 31 = .ok (.invokevirtual 209, 3) := by decide +kernel
theorem dMO_endCommand_34 : decode bMO_endCommand 34 = .ok (.aload_n 0, 1) := by decide +kernel
theorem dMO_endCommand_35 : decode bMO_endCommand 35 = .ok (.getfield 56, 3) := by decide +kernel
theorem dMO_endCommand_38 : decode bMO_endCommand 38 = .ok (.iload_n 3, 1) := by decide +kernel
theorem dMO_endCommand_39 : decode bMO_endCommand 39 = .ok (.iconst 0, 1) := by decide +kernel
theorem dMO_endCommand_40 : decode bMO_endCommand 40 = .ok (.iastore, 1) := by decide +kernel
theorem dMO_endCommand_41 : decode bMO_endCommand 41 = .ok (.aload_n 0, 1) := by decide +kernel
theorem dMO_endCommand_42 : decode bMO_endCommand 42 = .ok (.iconst 1, 1) := by decide +kernel
theorem dMO_endCommand_43 : decode bMO_endCommand 43 = .ok (.putfield 212, 3) := by decide +kernel
theorem dMO_endCommand_46 : decode bMO_endCommand 46 = .ok (.iconst 1, 1) := by decide +kernel
theorem dMO_endCommand_47 : decode bMO_endCommand 47 = .ok (.ireturn, 1) := by decide +kernel
theorem dMO_ends_0 : decode bMO_ends 0 = .ok (.aload_n 0, 1) := by decide +kernel
theorem dMO_ends_1 : decode bMO_ends 1 = .ok (.iload_n 1, 1) := by decide +kernel
theorem dMO_ends_2 : decode bMO_ends 2 = .ok (.iload_n 2, 1) := by decide +kernel
theorem dMO_ends_3 : decode bMO_ends 3 = .ok (.aload_n 0, 1) := by decide +kernel
theorem dMO_ends_4 : decode bMO_ends 4 = .ok (.getfield 29, 3) := by decide +kernel
theorem dMO_ends_7 : decode bMO_ends 7 = .ok (.aload_n 0, 1) := by decide +kernel
theorem dMO_ends_8 : decode bMO_ends 8 = .ok (.iload_n 1, 1) := by decide +kernel
theorem dMO_ends_9 : decode bMO_ends 9 = .ok (.iload_n 2, 1) := by decide +kernel
theorem dMO_ends_10 : decode bMO_ends 10 = .ok (.invokevirtual 189, 3) := by decide +kernel
theorem dMO_ends_13 : decode bMO_ends 13 = .ok (.iaload, 1) := by decide +kernel
theorem dMO_ends_14 : decode bMO_ends 14 = .ok (.iload_n 3, 1) := by decide +kernel
theorem dMO_ends_15 : decode bMO_ends 15 = .ok (.iconst (-1), 1) := by decide +kernel
theorem dMO_ends_16 : decode bMO_ends 16 = .ok (.ixor, 1) := by decide +kernel
theorem dMO_ends_17 : decode bMO_ends 17 = .ok (.iand, 1) := by decide +kernel
theorem dMO_ends_18 : decode bMO_ends 18 = .ok (.bipush 8, 2) := by decide +kernel
theorem dMO_ends_20 : decode bMO_ends 20 = .ok (.ior, 1) := by decide +kernel
theorem dMO_ends_21 : decode bMO_ends 21 = .ok (.invokevirtual 195, 3) := by decide +kernel
theorem dMO_ends_24 : decode bMO_ends 24 = .ok (.aload_n 0, 1) := by decide +kernel
theorem dMO_ends_25 : decode bMO_ends 25 = .ok (.getfield 50, 3) := by decide +kernel
theorem dMO_ends_28 : decode bMO_ends 28 = .ok (.iload_n 1, 1) := by decide +kernel
theorem dMO_ends_29 : decode bMO_ends 29 = .ok (.aload_n 0, 1) := by decide +kernel
theorem dMO_ends_30 : decode bMO_ends 30 = .ok (.getfield 16, 3) := by decide +kernel
theorem dMO_ends_33 : decode bMO_ends 33 = .ok (.iload_n 2, 1) := by decide +kernel
theorem dMO_ends_34 : decode bMO_ends 34 = .ok (.iaload, 1) := by decide +kernel
theorem dMO_ends_35 : decode bMO_ends 35 = .ok (.invokestatic 192, 3) := by decide +kernel
theorem dMO_ends_38 : decode bMO_ends 38 = .ok (.iconst 2, 1) := by decide +kernel
theorem dMO_ends_39 : decode bMO_ends 39 = .ok (.aload_n 0, 1) := by decide +kernel
theorem dMO_ends_40 : decode bMO_ends 40 = .ok (.getfield 129, 3) := by decide +kernel
theorem dMO_ends_43 : decode bMO_ends 43 = .ok (.imul, 1) := by decide +kernel
theorem dMO_ends_44 : decode bMO_ends 44 = .ok (.iconst 4, 1) := by decide +kernel
theorem dMO_ends_45 : decode bMO_ends 45 = .ok (.iadd, 1) := by decide +kernel
theorem dMO_ends_46 : decode bMO_ends 46 = .ok (.iastore, 1) := by decide +kernel
theorem dMO_ends_47 : decode bMO_ends 47 = .ok (.return_, 1) := by decide +kernel
theorem dMO_has_0 : decode bMO_has 0 = .ok (.iconst 0, 1) := by decide +kernel
theorem dMO_has_1 : decode bMO_has 1 = .ok (.istore 4, 2) := by decide +kernel
theorem dMO_has_3 : decode bMO_has 3 = .ok (.iconst 0, 1) := by decide +kernel
theorem dMO_has_4 : decode bMO_has 4 = .ok (.istore 5, 2) := by decide +kernel
theorem dMO_has_6 : decode bMO_has 6 = .ok (.iload 5, 2) := by decide +kernel
theorem dMO_has_8 : decode bMO_has 8 = .ok (.iconst 2, 1) := by decide +kernel
theorem dMO_has_9 : decode bMO_has 9 = .ok (.if_icmp .ge 61, 3) := by decide +kernel
theorem dMO_has_12 : decode bMO_has 12 = .ok (.aload_n 0, 1) := by decide +kernel
theorem dMO_has_13 : decode bMO_has 13 = .ok (.getfield 47, 3) := by decide +kernel
theorem dMO_has_16 : decode bMO_has 16 = .ok (.iconst 2, 1) := by decide +kernel
theorem dMO_has_17 : decode bMO_has 17 = .ok (.iload_n 1, 1) := by decide +kernel
theorem dMO_has_18 : decode bMO_has 18 = .ok (.iload_n 2, 1) := by decide +kernel
theorem dMO_has_19 : decode bMO_has 19 = .ok (.invokestatic 192, 3) := by decide +kernel
theorem dMO_has_22 : decode bMO_has 22 = .ok (.imul, 1) := by decide +kernel
theorem dMO_has_23 : decode bMO_has 23 = .ok (.iload 5, 2) := by decide +kernel
theorem dMO_has_25 : decode bMO_has 25 = .ok (.iadd, 1) := by decide +kernel
theorem dMO_has_26 : decode bMO_has 26 = .ok (.iaload, 1) := by decide +kernel
theorem dMO_has_27 : decode bMO_has 27 = .ok (.istore 6, 2) := by decide +kernel
theorem dMO_has_29 : decode bMO_has 29 = .ok (.iload 4, 2) := by decide +kernel
theorem dMO_has_31 : decode bMO_has 31 = .ok (.ifCond .ne 26, 3) := by decide +kernel
theorem dMO_has_34 : decode bMO_has 34 = .ok (.iload 6, 2) := by decide +kernel
theorem dMO_has_36 : decode bMO_has 36 = .ok (.iconst (-1), 1) := by decide +kernel
theorem dMO_has_37 : decode bMO_has 37 = .ok (.if_icmp .eq 24, 3) := by decide +kernel
theorem dMO_has_40 : decode bMO_has 40 = .ok (.aload_n 0, 1) := by decide +kernel
theorem dMO_has_41 : decode bMO_has 41 = .ok (.getfield 29, 3) := by decide +kernel
theorem dMO_has_44 : decode bMO_has 44 = .ok (.aload_n 0, 1) := by decide +kernel
theorem dMO_has_45 : decode bMO_has 45 = .ok (.iload_n 1, 1) := by decide +kernel
theorem dMO_has_46 : decode bMO_has 46 = .ok (.iload 6, 2) := by decide +kernel
theorem dMO_has_48 : decode bMO_has 48 = .ok (.invokevirtual 189, 3) := by decide +kernel
theorem dMO_has_51 : decode bMO_has 51 = .ok (.iaload, 1) := by decide +kernel
theorem dMO_has_52 : decode bMO_has 52 = .ok (.iload_n 3, 1) := by decide +kernel
theorem dMO_has_53 : decode bMO_has 53 = .ok (.iand, 1) := by decide +kernel
theorem dMO_has_54 : decode bMO_has 54 = .ok (.ifCond .eq 7, 3) := by decide +kernel
theorem dMO_has_57 : decode bMO_has 57 = .ok (.iconst 1, 1) := by decide +kernel
theorem dMO_has_58 : decode bMO_has 58 = .ok (.goto 4, 3) := by decide +kernel
theorem dMO_has_61 : decode bMO_has 61 = .ok (.iconst 0, 1) := by decide +kernel
theorem dMO_has_62 : decode bMO_has 62 = .ok (.istore 4, 2) := by decide +kernel
theorem dMO_has_64 : decode bMO_has 64 = .ok (.iinc 5 1, 3) := by decide +kernel
theorem dMO_has_67 : decode bMO_has 67 = .ok (.goto (-61), 3) := by decide +kernel
theorem dMO_has_70 : decode bMO_has 70 = .ok (.iload 4, 2) := by decide +kernel
theorem dMO_has_72 : decode bMO_has 72 = .ok (.ireturn, 1) := by decide +kernel
theorem dMO_hears_0 : decode bMO_hears 0 = .ok (.aload_n 0, 1) := by decide +kernel
theorem dMO_hears_1 : decode bMO_hears 1 = .ok (.getfield 50, 3) := by decide +kernel
theorem dMO_hears_4 : decode bMO_hears 4 = .ok (.iload_n 1, 1) := by decide +kernel
theorem dMO_hears_5 : decode bMO_hears 5 = .ok (.iload_n 2, 1) := by decide +kernel
theorem dMO_hears_6 : decode bMO_hears 6 = .ok (.invokestatic 192, 3) := by decide +kernel
theorem dMO_hears_9 : decode bMO_hears 9 = .ok (.iaload, 1) := by decide +kernel
theorem dMO_hears_10 : decode bMO_hears 10 = .ok (.ifCond .gt 8, 3) := by decide +kernel
theorem dMO_hears_13 : decode bMO_hears 13 = .ok (.iload_n 3, 1) := by decide +kernel
theorem dMO_hears_14 : decode bMO_hears 14 = .ok (.iconst 5, 1) := by decide +kernel
theorem dMO_hears_15 : decode bMO_hears 15 = .ok (.if_icmp .ne 4, 3) := by decide +kernel
theorem dMO_hears_18 : decode bMO_hears 18 = .ok (.return_, 1) := by decide +kernel
theorem dMO_hears_19 : decode bMO_hears 19 = .ok (.iload_n 3, 1) := by decide +kernel
theorem dMO_hears_20 : decode bMO_hears 20 = .ok (.iconst 3, 1) := by decide +kernel
theorem dMO_hears_21 : decode bMO_hears 21 = .ok (.if_icmp .ne 41, 3) := by decide +kernel
theorem dMO_hears_24 : decode bMO_hears 24 = .ok (.aload_n 0, 1) := by decide +kernel
theorem dMO_hears_25 : decode bMO_hears 25 = .ok (.iload_n 1, 1) := by decide +kernel
theorem dMO_hears_26 : decode bMO_hears 26 = .ok (.iload_n 2, 1) := by decide +kernel
theorem dMO_hears_27 : decode bMO_hears 27 = .ok (.invokevirtual 199, 3) := by decide +kernel
theorem dMO_hears_30 : decode bMO_hears 30 = .ok (.ifCond .eq 31, 3) := by decide +kernel
theorem dMO_hears_33 : decode bMO_hears 33 = .ok (.aload_n 0, 1) := by decide +kernel
theorem dMO_hears_34 : decode bMO_hears 34 = .ok (.iload_n 1, 1) := by decide +kernel
theorem dMO_hears_35 : decode bMO_hears 35 = .ok (.iload_n 2, 1) := by decide +kernel
theorem dMO_hears_36 : decode bMO_hears 36 = .ok (.bipush 23, 2) := by decide +kernel
theorem dMO_hears_38 : decode bMO_hears 38 = .ok (.invokevirtual 252, 3) := by decide +kernel
theorem dMO_hears_41 : decode bMO_hears 41 = .ok (.ifCond .ne 20, 3) := by decide +kernel
theorem dMO_hears_44 : decode bMO_hears 44 = .ok (.aload_n 0, 1) := by decide +kernel
theorem dMO_hears_45 : decode bMO_hears 45 = .ok (.getfield 41, 3) := by decide +kernel
theorem dMO_hears_48 : decode bMO_hears 48 = .ok (.iload_n 2, 1) := by decide +kernel
theorem dMO_hears_49 : decode bMO_hears 49 = .ok (.iaload, 1) := by decide +kernel
theorem dMO_hears_50 : decode bMO_hears 50 = .ok (.ifCond .ne 11, 3) := by decide +kernel
theorem dMO_hears_53 : decode bMO_hears 53 = .ok (.aload_n 0, 1) := by decide +kernel
theorem dMO_hears_54 : decode bMO_hears 54 = .ok (.getfield 41, 3) := by decide +kernel
theorem dMO_hears_57 : decode bMO_hears 57 = .ok (.iload_n 2, 1) := by decide +kernel
theorem dMO_hears_58 : decode bMO_hears 58 = .ok (.bipush 60, 2) := by decide +kernel
theorem dMO_hears_60 : decode bMO_hears 60 = .ok (.iastore, 1) := by decide +kernel
theorem dMO_hears_61 : decode bMO_hears 61 = .ok (.return_, 1) := by decide +kernel
theorem dMO_hears_62 : decode bMO_hears 62 = .ok (.iload_n 3, 1) := by decide +kernel
theorem dMO_hears_63 : decode bMO_hears 63 = .ok (.iconst 4, 1) := by decide +kernel
theorem dMO_hears_64 : decode bMO_hears 64 = .ok (.if_icmp .eq 27, 3) := by decide +kernel
theorem dMO_hears_67 : decode bMO_hears 67 = .ok (.aload_n 0, 1) := by decide +kernel
theorem dMO_hears_68 : decode bMO_hears 68 = .ok (.iload_n 1, 1) := by decide +kernel
theorem dMO_hears_69 : decode bMO_hears 69 = .ok (.iload_n 2, 1) := by decide +kernel
theorem dMO_hears_70 : decode bMO_hears 70 = .ok (.invokevirtual 199, 3) := by decide +kernel
theorem dMO_hears_73 : decode bMO_hears 73 = .ok (.ifCond .eq 18, 3) := by decide +kernel
theorem dMO_hears_76 : decode bMO_hears 76 = .ok (.aload_n 0, 1) := by decide +kernel
theorem dMO_hears_77 : decode bMO_hears 77 = .ok (.iload_n 1, 1) := by decide +kernel
theorem dMO_hears_78 : decode bMO_hears 78 = .ok (.iload_n 2, 1) := by decide +kernel
theorem dMO_hears_79 : decode bMO_hears 79 = .ok (.bipush 16, 2) := by decide +kernel
theorem dMO_hears_81 : decode bMO_hears 81 = .ok (.invokevirtual 202, 3) := by decide +kernel
theorem dMO_hears_84 : decode bMO_hears 84 = .ok (.aload_n 0, 1) := by decide +kernel
theorem dMO_hears_85 : decode bMO_hears 85 = .ok (.getfield 41, 3) := by decide +kernel
theorem dMO_hears_88 : decode bMO_hears 88 = .ok (.iload_n 2, 1) := by decide +kernel
theorem dMO_hears_89 : decode bMO_hears 89 = .ok (.iconst 0, 1) := by decide +kernel
theorem dMO_hears_90 : decode bMO_hears 90 = .ok (.iastore, 1) := by decide +kernel
theorem dMO_hears_91 : decode bMO_hears 91 = .ok (.aload_n 0, 1) := by decide +kernel
theorem dMO_hears_92 : decode bMO_hears 92 = .ok (.iload_n 1, 1) := by decide +kernel
theorem dMO_hears_93 : decode bMO_hears 93 = .ok (.iload_n 2, 1) := by decide +kernel
theorem dMO_hears_94 : decode bMO_hears 94 = .ok (.bipush 8, 2) := by decide +kernel
theorem dMO_hears_96 : decode bMO_hears 96 = .ok (.invokevirtual 202, 3) := by decide +kernel
theorem dMO_hears_99 : decode bMO_hears 99 = .ok (.aload_n 0, 1) := by decide +kernel
theorem dMO_hears_100 : decode bMO_hears 100 = .ok (.getfield 56, 3) := by decide +kernel
theorem dMO_hears_103 : decode bMO_hears 103 = .ok (.iload_n 1, 1) := by decide +kernel
theorem dMO_hears_104 : decode bMO_hears 104 = .ok (.iload_n 2, 1) := by decide +kernel
theorem dMO_hears_105 : decode bMO_hears 105 = .ok (.invokestatic 192, 3) := by decide +kernel
theorem dMO_hears_108 : decode bMO_hears 108 = .ok (.iaload, 1) := by decide +kernel
theorem dMO_hears_109 : decode bMO_hears 109 = .ok (.istore 5, 2) := by decide +kernel
theorem dMO_hears_111 : decode bMO_hears 111 = .ok (.iload 5, 2) := by decide +kernel
theorem dMO_hears_113 : decode bMO_hears 113 = .ok (.iconst 4, 1) := by decide +kernel
theorem dMO_hears_114 : decode bMO_hears 114 = .ok (.if_icmp .ne 16, 3) := by decide +kernel
theorem dMO_hears_117 : decode bMO_hears 117 = .ok (.iload_n 3, 1) := by decide +kernel
theorem dMO_hears_118 : decode bMO_hears 118 = .ok (.ifCond .eq 8, 3) := by decide +kernel
theorem dMO_hears_121 : decode bMO_hears 121 = .ok (.iload_n 3, 1) := by decide +kernel
theorem dMO_hears_122 : decode bMO_hears 122 = .ok (.iconst 1, 1) := by decide +kernel
theorem dMO_hears_123 : decode bMO_hears 123 = .ok (.if_icmp .ne 7, 3) := by decide +kernel
theorem dMO_hears_126 : decode bMO_hears 126 = .ok (.iconst 1, 1) := by decide +kernel
theorem dMO_hears_127 : decode bMO_hears 127 = .ok (.goto 4, 3) := by decide +kernel
theorem dMO_hears_130 : decode bMO_hears 130 = .ok (.iconst 0, 1) := by decide +kernel
theorem dMO_hears_131 : decode bMO_hears 131 = .ok (.istore 6, 2) := by decide +kernel
theorem dMO_hears_133 : decode bMO_hears 133 = .ok (.iload 6, 2) := by decide +kernel
theorem dMO_hears_135 : decode bMO_hears 135 = .ok (.ifCond .ne 31, 3) := by decide +kernel
theorem dMO_hears_138 : decode bMO_hears 138 = .ok (.iload 4, 2) := by decide +kernel
theorem dMO_hears_140 : decode bMO_hears 140 = .ok (.iload_n 1, 1) := by decide +kernel
theorem dMO_hears_141 : decode bMO_hears 141 = .ok (.if_icmp .ge 29, 3) := by decide +kernel
theorem dMO_hears_144 : decode bMO_hears 144 = .ok (.iload 5, 2) := by decide +kernel
theorem dMO_hears_146 : decode bMO_hears 146 = .ok (.iconst 4, 1) := by decide +kernel
theorem dMO_hears_147 : decode bMO_hears 147 = .ok (.if_icmp .ne 8, 3) := by decide +kernel
theorem dMO_hears_150 : decode bMO_hears 150 = .ok (.iload_n 3, 1) := by decide +kernel
theorem dMO_hears_151 : decode bMO_hears 151 = .ok (.iconst 2, 1) := by decide +kernel
theorem dMO_hears_152 : decode bMO_hears 152 = .ok (.if_icmp .eq 14, 3) := by decide +kernel
theorem dMO_hears_155 : decode bMO_hears 155 = .ok (.iload 5, 2) := by decide +kernel
theorem dMO_hears_157 : decode bMO_hears 157 = .ok (.iconst 2, 1) := by decide +kernel
theorem dMO_hears_158 : decode bMO_hears 158 = .ok (.if_icmp .ne 12, 3) := by decide +kernel
theorem dMO_hears_161 : decode bMO_hears 161 = .ok (.iload_n 3, 1) := by decide +kernel
theorem dMO_hears_162 : decode bMO_hears 162 = .ok (.iconst 1, 1) := by decide +kernel
theorem dMO_hears_163 : decode bMO_hears 163 = .ok (.if_icmp .ne 7, 3) := by decide +kernel
theorem dMO_hears_166 : decode bMO_hears 166 = .ok (.iconst 1, 1) := by decide +kernel
theorem dMO_hears_167 : decode bMO_hears 167 = .ok (.goto 4, 3) := by decide +kernel
theorem dMO_hears_170 : decode bMO_hears 170 = .ok (.iconst 0, 1) := by decide +kernel
theorem dMO_hears_171 : decode bMO_hears 171 = .ok (.istore 6, 2) := by decide +kernel
theorem dMO_hears_173 : decode bMO_hears 173 = .ok (.iload 6, 2) := by decide +kernel
theorem dMO_hears_175 : decode bMO_hears 175 = .ok (.ifCond .eq 11, 3) := by decide +kernel
theorem dMO_hears_178 : decode bMO_hears 178 = .ok (.aload_n 0, 1) := by decide +kernel
theorem dMO_hears_179 : decode bMO_hears 179 = .ok (.iload_n 1, 1) := by decide +kernel
theorem dMO_hears_180 : decode bMO_hears 180 = .ok (.iload_n 2, 1) := by decide +kernel
theorem dMO_hears_181 : decode bMO_hears 181 = .ok (.invokevirtual 224, 3) := by decide +kernel
theorem dMO_hears_184 : decode bMO_hears 184 = .ok (.istore 7, 2) := by decide +kernel
theorem dMO_hears_186 : decode bMO_hears 186 = .ok (.return_, 1) := by decide +kernel
theorem dMO_isCalm_0 : decode bMO_isCalm 0 = .ok (.iconst 1, 1) := by decide +kernel
theorem dMO_isCalm_1 : decode bMO_isCalm 1 = .ok (.istore_n 1, 1) := by decide +kernel
theorem dMO_isCalm_2 : decode bMO_isCalm 2 = .ok (.iconst 0, 1) := by decide +kernel
theorem dMO_isCalm_3 : decode bMO_isCalm 3 = .ok (.istore_n 2, 1) := by decide +kernel
theorem dMO_isCalm_4 : decode bMO_isCalm 4 = .ok (.iload_n 2, 1) := by decide +kernel
theorem dMO_isCalm_5 : decode bMO_isCalm 5 = .ok (.sipush 288, 3) := by decide +kernel
theorem dMO_isCalm_8 : decode bMO_isCalm 8 = .ok (.if_icmp .ge 28, 3) := by decide +kernel
theorem dMO_isCalm_11 : decode bMO_isCalm 11 = .ok (.iload_n 1, 1) := by decide +kernel
theorem dMO_isCalm_12 : decode bMO_isCalm 12 = .ok (.ifCond .eq 16, 3) := by decide +kernel
theorem dMO_isCalm_15 : decode bMO_isCalm 15 = .ok (.aload_n 0, 1) := by decide +kernel
theorem dMO_isCalm_16 : decode bMO_isCalm 16 = .ok (.getfield 56, 3) := by decide +kernel
theorem dMO_isCalm_19 : decode bMO_isCalm 19 = .ok (.iload_n 2, 1) := by decide +kernel
theorem dMO_isCalm_20 : decode bMO_isCalm 20 = .ok (.iaload, 1) := by decide +kernel
theorem dMO_isCalm_21 : decode bMO_isCalm 21 = .ok (.ifCond .ne 7, 3) := by decide +kernel
theorem dMO_isCalm_24 : decode bMO_isCalm 24 = .ok (.iconst 1, 1) := by decide +kernel
theorem dMO_isCalm_25 : decode bMO_isCalm 25 = .ok (.goto 4, 3) := by decide +kernel
theorem dMO_isCalm_28 : decode bMO_isCalm 28 = .ok (.iconst 0, 1) := by decide +kernel
theorem dMO_isCalm_29 : decode bMO_isCalm 29 = .ok (.istore_n 1, 1) := by decide +kernel
theorem dMO_isCalm_30 : decode bMO_isCalm 30 = .ok (.iinc 2 1, 3) := by decide +kernel
theorem dMO_isCalm_33 : decode bMO_isCalm 33 = .ok (.goto (-29), 3) := by decide +kernel
theorem dMO_isCalm_36 : decode bMO_isCalm 36 = .ok (.iconst 0, 1) := by decide +kernel
theorem dMO_isCalm_37 : decode bMO_isCalm 37 = .ok (.istore_n 2, 1) := by decide +kernel
theorem dMO_isCalm_38 : decode bMO_isCalm 38 = .ok (.iload_n 2, 1) := by decide +kernel
theorem dMO_isCalm_39 : decode bMO_isCalm 39 = .ok (.bipush 6, 2) := by decide +kernel
theorem dMO_isCalm_41 : decode bMO_isCalm 41 = .ok (.if_icmp .ge 73, 3) := by decide +kernel
theorem dMO_isCalm_44 : decode bMO_isCalm 44 = .ok (.iconst 0, 1) := by decide +kernel
theorem dMO_isCalm_45 : decode bMO_isCalm 45 = .ok (.istore_n 3, 1) := by decide +kernel
theorem dMO_isCalm_46 : decode bMO_isCalm 46 = .ok (.iconst 0, 1) := by decide +kernel
theorem dMO_isCalm_47 : decode bMO_isCalm 47 = .ok (.istore 4, 2) := by decide +kernel
theorem dMO_isCalm_49 : decode bMO_isCalm 49 = .ok (.iload 4, 2) := by decide +kernel
theorem dMO_isCalm_51 : decode bMO_isCalm 51 = .ok (.aload_n 0, 1) := by decide +kernel
theorem dMO_isCalm_52 : decode bMO_isCalm 52 = .ok (.getfield 132, 3) := by decide +kernel
theorem dMO_isCalm_55 : decode bMO_isCalm 55 = .ok (.if_icmp .ge 38, 3) := by decide +kernel
theorem dMO_isCalm_58 : decode bMO_isCalm 58 = .ok (.iload_n 3, 1) := by decide +kernel
theorem dMO_isCalm_59 : decode bMO_isCalm 59 = .ok (.aload_n 0, 1) := by decide +kernel
theorem dMO_isCalm_60 : decode bMO_isCalm 60 = .ok (.getfield 16, 3) := by decide +kernel
theorem dMO_isCalm_63 : decode bMO_isCalm 63 = .ok (.iload 4, 2) := by decide +kernel
theorem dMO_isCalm_65 : decode bMO_isCalm 65 = .ok (.iaload, 1) := by decide +kernel
theorem dMO_isCalm_66 : decode bMO_isCalm 66 = .ok (.iload_n 2, 1) := by decide +kernel
theorem dMO_isCalm_67 : decode bMO_isCalm 67 = .ok (.if_icmp .ne 17, 3) := by decide +kernel
theorem dMO_isCalm_70 : decode bMO_isCalm 70 = .ok (.aload_n 0, 1) := by decide +kernel
theorem dMO_isCalm_71 : decode bMO_isCalm 71 = .ok (.getfield 19, 3) := by decide +kernel
theorem dMO_isCalm_74 : decode bMO_isCalm 74 = .ok (.iload 4, 2) := by decide +kernel
theorem dMO_isCalm_76 : decode bMO_isCalm 76 = .ok (.baload, 1) := by decide +kernel
theorem dMO_isCalm_77 : decode bMO_isCalm 77 = .ok (.ifCond .eq 7, 3) := by decide +kernel
theorem dMO_isCalm_80 : decode bMO_isCalm 80 = .ok (.iconst 1, 1) := by decide +kernel
theorem dMO_isCalm_81 : decode bMO_isCalm 81 = .ok (.goto 4, 3) := by decide +kernel
theorem dMO_isCalm_84 : decode bMO_isCalm 84 = .ok (.iconst 0, 1) := by decide +kernel
theorem dMO_isCalm_85 : decode bMO_isCalm 85 = .ok (.iadd, 1) := by decide +kernel
theorem dMO_isCalm_86 : decode bMO_isCalm 86 = .ok (.istore_n 3, 1) := by decide +kernel
theorem dMO_isCalm_87 : decode bMO_isCalm 87 = .ok (.iinc 4 1, 3) := by decide +kernel
theorem dMO_isCalm_90 : decode bMO_isCalm 90 = .ok (.goto (-41), 3) := by decide +kernel
theorem dMO_isCalm_93 : decode bMO_isCalm 93 = .ok (.iload_n 1, 1) := by decide +kernel
theorem dMO_isCalm_94 : decode bMO_isCalm 94 = .ok (.ifCond .eq 12, 3) := by decide +kernel
theorem dMO_isCalm_97 : decode bMO_isCalm 97 = .ok (.iload_n 3, 1) := by decide +kernel
theorem dMO_isCalm_98 : decode bMO_isCalm 98 = .ok (.iconst 2, 1) := by decide +kernel
theorem dMO_isCalm_99 : decode bMO_isCalm 99 = .ok (.if_icmp .ge 7, 3) := by decide +kernel
theorem dMO_isCalm_102 : decode bMO_isCalm 102 = .ok (.iconst 1, 1) := by decide +kernel
theorem dMO_isCalm_103 : decode bMO_isCalm 103 = .ok (.goto 4, 3) := by decide +kernel
theorem dMO_isCalm_106 : decode bMO_isCalm 106 = .ok (.iconst 0, 1) := by decide +kernel
theorem dMO_isCalm_107 : decode bMO_isCalm 107 = .ok (.istore_n 1, 1) := by decide +kernel
theorem dMO_isCalm_108 : decode bMO_isCalm 108 = .ok (.iinc 2 1, 3) := by decide +kernel
theorem dMO_isCalm_111 : decode bMO_isCalm 111 = .ok (.goto (-73), 3) := by decide +kernel
theorem dMO_isCalm_114 : decode bMO_isCalm 114 = .ok (.iload_n 1, 1) := by decide +kernel
theorem dMO_isCalm_115 : decode bMO_isCalm 115 = .ok (.ireturn, 1) := by decide +kernel
theorem dMO_isOpen_0 : decode bMO_isOpen 0 = .ok (.aload_n 0, 1) := by decide +kernel
theorem dMO_isOpen_1 : decode bMO_isOpen 1 = .ok (.getfield 19, 3) := by decide +kernel
theorem dMO_isOpen_4 : decode bMO_isOpen 4 = .ok (.iload_n 1, 1) := by decide +kernel
theorem dMO_isOpen_5 : decode bMO_isOpen 5 = .ok (.baload, 1) := by decide +kernel
theorem dMO_isOpen_6 : decode bMO_isOpen 6 = .ok (.ifCond .ne 31, 3) := by decide +kernel
theorem dMO_isOpen_9 : decode bMO_isOpen 9 = .ok (.aload_n 0, 1) := by decide +kernel
theorem dMO_isOpen_10 : decode bMO_isOpen 10 = .ok (.getfield 29, 3) := by decide +kernel
theorem dMO_isOpen_13 : decode bMO_isOpen 13 = .ok (.iconst 2, 1) := by decide +kernel
theorem dMO_isOpen_14 : decode bMO_isOpen 14 = .ok (.iload_n 1, 1) := by decide +kernel
theorem dMO_isOpen_15 : decode bMO_isOpen 15 = .ok (.imul, 1) := by decide +kernel
theorem dMO_isOpen_16 : decode bMO_isOpen 16 = .ok (.iaload, 1) := by decide +kernel
theorem dMO_isOpen_17 : decode bMO_isOpen 17 = .ok (.ifCond .ne 20, 3) := by decide +kernel
theorem dMO_isOpen_20 : decode bMO_isOpen 20 = .ok (.aload_n 0, 1) := by decide +kernel
theorem dMO_isOpen_21 : decode bMO_isOpen 21 = .ok (.getfield 29, 3) := by decide +kernel
theorem dMO_isOpen_24 : decode bMO_isOpen 24 = .ok (.iconst 2, 1) := by decide +kernel
theorem dMO_isOpen_25 : decode bMO_isOpen 25 = .ok (.iload_n 1, 1) := by decide +kernel
theorem dMO_isOpen_26 : decode bMO_isOpen 26 = .ok (.imul, 1) := by decide +kernel
theorem dMO_isOpen_27 : decode bMO_isOpen 27 = .ok (.iconst 1, 1) := by decide +kernel
theorem dMO_isOpen_28 : decode bMO_isOpen 28 = .ok (.iadd, 1) := by decide +kernel
theorem dMO_isOpen_29 : decode bMO_isOpen 29 = .ok (.iaload, 1) := by decide +kernel
theorem dMO_isOpen_30 : decode bMO_isOpen 30 = .ok (.ifCond .ne 7, 3) := by decide +kernel
theorem dMO_isOpen_33 : decode bMO_isOpen 33 = .ok (.iconst 1, 1) := by decide +kernel
theorem dMO_isOpen_34 : decode bMO_isOpen 34 = .ok (.goto 4, 3) := by decide +kernel
theorem dMO_isOpen_37 : decode bMO_isOpen 37 = .ok (.iconst 0, 1) := by decide +kernel
theorem dMO_isOpen_38 : decode bMO_isOpen 38 = .ok (.ireturn, 1) := by decide +kernel
theorem dMO_known_0 : decode bMO_known 0 = .ok (.sipush 256, 3) := by decide +kernel
theorem dMO_known_3 : decode bMO_known 3 = .ok (.iload_n 1, 1) := by decide +kernel
theorem dMO_known_4 : decode bMO_known 4 = .ok (.imul, 1) := by decide +kernel
theorem dMO_known_5 : decode bMO_known 5 = .ok (.bipush 64, 2) := by decide +kernel
theorem dMO_known_7 : decode bMO_known 7 = .ok (.iload_n 2, 1) := by decide +kernel
theorem dMO_known_8 : decode bMO_known 8 = .ok (.imul, 1) := by decide +kernel
theorem dMO_known_9 : decode bMO_known 9 = .ok (.iadd, 1) := by decide +kernel
theorem dMO_known_10 : decode bMO_known 10 = .ok (.iload_n 3, 1) := by decide +kernel
theorem dMO_known_11 : decode bMO_known 11 = .ok (.iadd, 1) := by decide +kernel
theorem dMO_known_12 : decode bMO_known 12 = .ok (.istore 4, 2) := by decide +kernel
theorem dMO_known_14 : decode bMO_known 14 = .ok (.aload_n 0, 1) := by decide +kernel
theorem dMO_known_15 : decode bMO_known 15 = .ok (.getfield 71, 3) := by decide +kernel
theorem dMO_known_18 : decode bMO_known 18 = .ok (.iload 4, 2) := by decide +kernel
theorem dMO_known_20 : decode bMO_known 20 = .ok (.iaload, 1) := by decide +kernel
theorem dMO_known_21 : decode bMO_known 21 = .ok (.iconst (-1), 1) := by decide +kernel
theorem dMO_known_22 : decode bMO_known 22 = .ok (.if_icmp .eq 31, 3) := by decide +kernel
theorem dMO_known_25 : decode bMO_known 25 = .ok (.aload_n 0, 1) := by decide +kernel
theorem dMO_known_26 : decode bMO_known 26 = .ok (.getfield 262, 3) := by decide +kernel
theorem dMO_known_29 : decode bMO_known 29 = .ok (.aload_n 0, 1) := by decide +kernel
theorem dMO_known_30 : decode bMO_known 30 = .ok (.getfield 74, 3) := by decide +kernel
theorem dMO_known_33 : decode bMO_known 33 = .ok (.iload 4, 2) := by decide +kernel
theorem dMO_known_35 : decode bMO_known 35 = .ok (.iaload, 1) := by decide +kernel
theorem dMO_known_36 : decode bMO_known 36 = .ok (.isub, 1) := by decide +kernel
theorem dMO_known_37 : decode bMO_known 37 = .ok (.sipush 300, 3) := by decide +kernel
theorem dMO_known_40 : decode bMO_known 40 = .ok (.if_icmp .ge 13, 3) := by decide +kernel
theorem dMO_known_43 : decode bMO_known 43 = .ok (.aload_n 0, 1) := by decide +kernel
theorem dMO_known_44 : decode bMO_known 44 = .ok (.getfield 71, 3) := by decide +kernel
theorem dMO_known_47 : decode bMO_known 47 = .ok (.iload 4, 2) := by decide +kernel
theorem dMO_known_49 : decode bMO_known 49 = .ok (.iaload, 1) := by decide +kernel
theorem dMO_known_50 : decode bMO_known 50 = .ok (.goto 4, 3) := by decide +kernel
theorem dMO_known_53 : decode bMO_known 53 = .ok (.iconst (-1), 1) := by decide +kernel
theorem dMO_known_54 : decode bMO_known 54 = .ok (.ireturn, 1) := by decide +kernel
theorem dMO_look_0 : decode bMO_look 0 = .ok (.aload_n 0, 1) := by decide +kernel
theorem dMO_look_1 : decode bMO_look 1 = .ok (.getfield 125, 3) := by decide +kernel
theorem dMO_look_4 : decode bMO_look 4 = .ok (.ifCond .le 4, 3) := by decide +kernel
theorem dMO_look_7 : decode bMO_look 7 = .ok (.return_, 1) := by decide +kernel
theorem dMO_look_8 : decode bMO_look 8 = .ok (.iconst 0, 1) := by decide +kernel
theorem dMO_look_9 : decode bMO_look 9 = .ok (.istore_n 1, 1) := by decide +kernel
theorem dMO_look_10 : decode bMO_look 10 = .ok (.iload_n 1, 1) := by decide +kernel
theorem dMO_look_11 : decode bMO_look 11 = .ok (.aload_n 0, 1) := by decide +kernel
theorem dMO_look_12 : decode bMO_look 12 = .ok (.getfield 129, 3) := by decide +kernel
theorem dMO_look_15 : decode bMO_look 15 = .ok (.if_icmp .ge 16, 3) := by decide +kernel
theorem dMO_look_18 : decode bMO_look 18 = .ok (.aload_n 0, 1) := by decide +kernel
theorem dMO_look_19 : decode bMO_look 19 = .ok (.getfield 110, 3) := by decide +kernel
theorem dMO_look_22 : decode bMO_look 22 = .ok (.iload_n 1, 1) := by decide +kernel
theorem dMO_look_23 : decode bMO_look 23 = .ok (.iload_n 1, 1) := by decide +kernel
theorem dMO_look_24 : decode bMO_look 24 = .ok (.iastore, 1) := by decide +kernel
theorem dMO_look_25 : decode bMO_look 25 = .ok (.iinc 1 1, 3) := by decide +kernel
theorem dMO_look_28 : decode bMO_look 28 = .ok (.goto (-18), 3) := by decide +kernel
theorem dMO_look_31 : decode bMO_look 31 = .ok (.iconst 0, 1) := by decide +kernel
theorem dMO_look_32 : decode bMO_look 32 = .ok (.istore_n 1, 1) := by decide +kernel
theorem dMO_look_33 : decode bMO_look 33 = .ok (.iconst 0, 1) := by decide +kernel
theorem dMO_look_34 : decode bMO_look 34 = .ok (.istore_n 2, 1) := by decide +kernel
theorem dMO_look_35 : decode bMO_look 35 = .ok (.iload_n 2, 1) := by decide +kernel
theorem dMO_look_36 : decode bMO_look 36 = .ok (.aload_n 0, 1) := by decide +kernel
theorem dMO_look_37 : decode bMO_look 37 = .ok (.getfield 132, 3) := by decide +kernel
theorem dMO_look_40 : decode bMO_look 40 = .ok (.if_icmp .ge 46, 3) := by decide +kernel
theorem dMO_look_43 : decode bMO_look 43 = .ok (.aload_n 0, 1) := by decide +kernel
theorem dMO_look_44 : decode bMO_look 44 = .ok (.iload_n 2, 1) := by decide +kernel
theorem dMO_look_45 : decode bMO_look 45 = .ok (.invokevirtual 287, 3) := by decide +kernel
theorem dMO_look_48 : decode bMO_look 48 = .ok (.ifCond .eq 22, 3) := by decide +kernel
theorem dMO_look_51 : decode bMO_look 51 = .ok (.aload_n 0, 1) := by decide +kernel
theorem dMO_look_52 : decode bMO_look 52 = .ok (.aload_n 0, 1) := by decide +kernel
theorem dMO_look_53 : decode bMO_look 53 = .ok (.getfield 7, 3) := by decide +kernel
theorem dMO_look_56 : decode bMO_look 56 = .ok (.iload_n 2, 1) := by decide +kernel
theorem dMO_look_57 : decode bMO_look 57 = .ok (.iaload, 1) := by decide +kernel
theorem dMO_look_58 : decode bMO_look 58 = .ok (.aload_n 0, 1) := by decide +kernel
theorem dMO_look_59 : decode bMO_look 59 = .ok (.getfield 13, 3) := by decide +kernel
theorem dMO_look_62 : decode bMO_look 62 = .ok (.iload_n 2, 1) := by decide +kernel
theorem dMO_look_63 : decode bMO_look 63 = .ok (.iaload, 1) := by decide +kernel
theorem dMO_look_64 : decode bMO_look 64 = .ok (.invokevirtual 161, 3) := by decide +kernel
theorem dMO_look_67 : decode bMO_look 67 = .ok (.ifCond .eq 7, 3) := by decide +kernel
theorem dMO_look_70 : decode bMO_look 70 = .ok (.iload_n 1, 1) := by decide +kernel
theorem dMO_look_71 : decode bMO_look 71 = .ok (.ifCond .eq 7, 3) := by decide +kernel
theorem dMO_look_74 : decode bMO_look 74 = .ok (.iconst 1, 1) := by decide +kernel
theorem dMO_look_75 : decode bMO_look 75 = .ok (.goto 4, 3) := by decide +kernel
theorem dMO_look_78 : decode bMO_look 78 = .ok (.iconst 0, 1) := by decide +kernel
theorem dMO_look_79 : decode bMO_look 79 = .ok (.istore_n 1, 1) := by decide +kernel
theorem dMO_look_80 : decode bMO_look 80 = .ok (.iinc 2 1, 3) := by decide +kernel
theorem dMO_look_83 : decode bMO_look 83 = .ok (.goto (-48), 3) := by decide +kernel
theorem dMO_look_86 : decode bMO_look 86 = .ok (.aload_n 0, 1) := by decide +kernel
theorem dMO_look_87 : decode bMO_look 87 = .ok (.dup, 1) := by decide +kernel
theorem dMO_look_88 : decode bMO_look 88 = .ok (.getfield 290, 3) := by decide +kernel
theorem dMO_look_91 : decode bMO_look 91 = .ok (.iload_n 1, 1) := by decide +kernel
theorem dMO_look_92 : decode bMO_look 92 = .ok (.ifCond .eq 7, 3) := by decide +kernel
theorem dMO_look_95 : decode bMO_look 95 = .ok (.iconst 1, 1) := by decide +kernel
theorem dMO_look_96 : decode bMO_look 96 = .ok (.goto 4, 3) := by decide +kernel
theorem dMO_look_99 : decode bMO_look 99 = .ok (.iconst 0, 1) := by decide +kernel
theorem dMO_look_100 : decode bMO_look 100 = .ok (.iadd, 1) := by decide +kernel
theorem dMO_look_101 : decode bMO_look 101 = .ok (.putfield 290, 3) := by decide +kernel
theorem dMO_look_104 : decode bMO_look 104 = .ok (.return_, 1) := by decide +kernel
theorem dMO_news_0 : decode bMO_news 0 = .ok (.iload_n 3, 1) := by decide +kernel
theorem dMO_news_1 : decode bMO_news 1 = .ok (.aload_n 0, 1) := by decide +kernel
theorem dMO_news_2 : decode bMO_news 2 = .ok (.getfield 68, 3) := by decide +kernel
theorem dMO_news_5 : decode bMO_news 5 = .ok (.bipush 114, 2) := by decide +kernel
theorem dMO_news_7 : decode bMO_news 7 = .ok (.iload_n 1, 1) := by decide +kernel
theorem dMO_news_8 : decode bMO_news 8 = .ok (.imul, 1) := by decide +kernel
theorem dMO_news_9 : decode bMO_news 9 = .ok (.iload_n 2, 1) := by decide +kernel
theorem dMO_news_10 : decode bMO_news 10 = .ok (.iadd, 1) := by decide +kernel
theorem dMO_news_11 : decode bMO_news 11 = .ok (.iaload, 1) := by decide +kernel
theorem dMO_news_12 : decode bMO_news 12 = .ok (.if_icmp .gt 4, 3) := by decide +kernel
theorem dMO_news_15 : decode bMO_news 15 = .ok (.return_, 1) := by decide +kernel
theorem dMO_news_16 : decode bMO_news 16 = .ok (.aload_n 0, 1) := by decide +kernel
theorem dMO_news_17 : decode bMO_news 17 = .ok (.getfield 68, 3) := by decide +kernel
theorem dMO_news_20 : decode bMO_news 20 = .ok (.bipush 114, 2) := by decide +kernel
theorem dMO_news_22 : decode bMO_news 22 = .ok (.iload_n 1, 1) := by decide +kernel
theorem dMO_news_23 : decode bMO_news 23 = .ok (.imul, 1) := by decide +kernel
theorem dMO_news_24 : decode bMO_news 24 = .ok (.iload_n 2, 1) := by decide +kernel
theorem dMO_news_25 : decode bMO_news 25 = .ok (.iadd, 1) := by decide +kernel
theorem dMO_news_26 : decode bMO_news 26 = .ok (.iload_n 3, 1) := by decide +kernel
theorem dMO_news_27 : decode bMO_news 27 = .ok (.iastore, 1) := by decide +kernel
theorem dMO_news_28 : decode bMO_news 28 = .ok (.aload_n 0, 1) := by decide +kernel
theorem dMO_news_29 : decode bMO_news 29 = .ok (.getfield 65, 3) := by decide +kernel
theorem dMO_news_32 : decode bMO_news 32 = .ok (.iload_n 1, 1) := by decide +kernel
theorem dMO_news_33 : decode bMO_news 33 = .ok (.dup2, 1) := by decide +kernel
theorem dMO_news_34 : decode bMO_news 34 = .ok (.iaload, 1) := by decide +kernel
theorem dMO_news_35 : decode bMO_news 35 = .ok (.iconst 1, 1) := by decide +kernel
theorem dMO_news_36 : decode bMO_news 36 = .ok (.iadd, 1) := by decide +kernel
theorem dMO_news_37 : decode bMO_news 37 = .ok (.iastore, 1) := by decide +kernel
theorem dMO_news_38 : decode bMO_news 38 = .ok (.iconst 0, 1) := by decide +kernel
theorem dMO_news_39 : decode bMO_news 39 = .ok (.istore 5, 2) := by decide +kernel
theorem dMO_news_41 : decode bMO_news 41 = .ok (.iload 5, 2) := by decide +kernel
theorem dMO_news_43 : decode bMO_news 43 = .ok (.sipush 256, 3) := by decide +kernel
theorem dMO_news_46 : decode bMO_news 46 = .ok (.if_icmp .ge 23, 3) := by decide +kernel
theorem dMO_news_49 : decode bMO_news 49 = .ok (.aload_n 0, 1) := by decide +kernel
theorem dMO_news_50 : decode bMO_news 50 = .ok (.getfield 71, 3) := by decide +kernel
theorem dMO_news_53 : decode bMO_news 53 = .ok (.sipush 256, 3) := by decide +kernel
theorem dMO_news_56 : decode bMO_news 56 = .ok (.iload_n 1, 1) := by decide +kernel
theorem dMO_news_57 : decode bMO_news 57 = .ok (.imul, 1) := by decide +kernel
theorem dMO_news_58 : decode bMO_news 58 = .ok (.iload 5, 2) := by decide +kernel
theorem dMO_news_60 : decode bMO_news 60 = .ok (.iadd, 1) := by decide +kernel
theorem dMO_news_61 : decode bMO_news 61 = .ok (.iconst (-1), 1) := by decide +kernel
theorem dMO_news_62 : decode bMO_news 62 = .ok (.iastore, 1) := by decide +kernel
theorem dMO_news_63 : decode bMO_news 63 = .ok (.iinc 5 1, 3) := by decide +kernel
theorem dMO_news_66 : decode bMO_news 66 = .ok (.goto (-25), 3) := by decide +kernel
theorem dMO_news_69 : decode bMO_news 69 = .ok (.aload_n 0, 1) := by decide +kernel
theorem dMO_news_70 : decode bMO_news 70 = .ok (.iconst 5, 1) := by decide +kernel
theorem dMO_news_71 : decode bMO_news 71 = .ok (.iload_n 1, 1) := by decide +kernel
theorem dMO_news_72 : decode bMO_news 72 = .ok (.iload_n 2, 1) := by decide +kernel
theorem dMO_news_73 : decode bMO_news 73 = .ok (.iload_n 3, 1) := by decide +kernel
theorem dMO_news_74 : decode bMO_news 74 = .ok (.invokevirtual 246, 3) := by decide +kernel
theorem dMO_news_77 : decode bMO_news 77 = .ok (.iconst 0, 1) := by decide +kernel
theorem dMO_news_78 : decode bMO_news 78 = .ok (.istore 5, 2) := by decide +kernel
theorem dMO_news_80 : decode bMO_news 80 = .ok (.iload 5, 2) := by decide +kernel
theorem dMO_news_82 : decode bMO_news 82 = .ok (.bipush 6, 2) := by decide +kernel
theorem dMO_news_84 : decode bMO_news 84 = .ok (.if_icmp .ge 23, 3) := by decide +kernel
theorem dMO_news_87 : decode bMO_news 87 = .ok (.iload 5, 2) := by decide +kernel
theorem dMO_news_89 : decode bMO_news 89 = .ok (.iload 4, 2) := by decide +kernel
theorem dMO_news_91 : decode bMO_news 91 = .ok (.if_icmp .eq 10, 3) := by decide +kernel
theorem dMO_news_94 : decode bMO_news 94 = .ok (.aload_n 0, 1) := by decide +kernel
theorem dMO_news_95 : decode bMO_news 95 = .ok (.iload_n 1, 1) := by decide +kernel
theorem dMO_news_96 : decode bMO_news 96 = .ok (.iload 5, 2) := by decide +kernel
theorem dMO_news_98 : decode bMO_news 98 = .ok (.invokevirtual 249, 3) := by decide +kernel
theorem dMO_news_101 : decode bMO_news 101 = .ok (.iinc 5 1, 3) := by decide +kernel
theorem dMO_news_104 : decode bMO_news 104 = .ok (.goto (-24), 3) := by decide +kernel
theorem dMO_news_107 : decode bMO_news 107 = .ok (.return_, 1) := by decide +kernel
theorem dMO_owns_0 : decode bMO_owns 0 = .ok (.aload_n 0, 1) := by decide +kernel
theorem dMO_owns_1 : decode bMO_owns 1 = .ok (.getfield 32, 3) := by decide +kernel
theorem dMO_owns_4 : decode bMO_owns 4 = .ok (.iload_n 2, 1) := by decide +kernel
theorem dMO_owns_5 : decode bMO_owns 5 = .ok (.iaload, 1) := by decide +kernel
theorem dMO_owns_6 : decode bMO_owns 6 = .ok (.iload_n 1, 1) := by decide +kernel
theorem dMO_owns_7 : decode bMO_owns 7 = .ok (.if_icmp .ne 7, 3) := by decide +kernel
theorem dMO_owns_10 : decode bMO_owns 10 = .ok (.iconst 1, 1) := by decide +kernel
theorem dMO_owns_11 : decode bMO_owns 11 = .ok (.goto 4, 3) := by decide +kernel
theorem dMO_owns_14 : decode bMO_owns 14 = .ok (.iconst 0, 1) := by decide +kernel
theorem dMO_owns_15 : decode bMO_owns 15 = .ok (.ireturn, 1) := by decide +kernel
theorem dMO_put_0 : decode bMO_put 0 = .ok (.aload_n 0, 1) := by decide +kernel
theorem dMO_put_1 : decode bMO_put 1 = .ok (.getfield 19, 3) := by decide +kernel
theorem dMO_put_4 : decode bMO_put 4 = .ok (.iload_n 2, 1) := by decide +kernel
theorem dMO_put_5 : decode bMO_put 5 = .ok (.baload, 1) := by decide +kernel
theorem dMO_put_6 : decode bMO_put 6 = .ok (.ifCond .eq 4, 3) := by decide +kernel
theorem dMO_put_9 : decode bMO_put 9 = .ok (.return_, 1) := by decide +kernel
theorem dMO_put_10 : decode bMO_put 10 = .ok (.iconst 2, 1) := by decide +kernel
theorem dMO_put_11 : decode bMO_put 11 = .ok (.iload_n 2, 1) := by decide +kernel
theorem dMO_put_12 : decode bMO_put 12 = .ok (.imul, 1) := by decide +kernel
theorem dMO_put_13 : decode bMO_put 13 = .ok (.aload_n 0, 1) := by decide +kernel
theorem dMO_put_14 : decode bMO_put 14 = .ok (.getfield 13, 3) := by decide +kernel
theorem dMO_put_17 : decode bMO_put 17 = .ok (.iload_n 2, 1) := by decide +kernel
theorem dMO_put_18 : decode bMO_put 18 = .ok (.iaload, 1) := by decide +kernel
theorem dMO_put_19 : decode bMO_put 19 = .ok (.iload_n 1, 1) := by decide +kernel
theorem dMO_put_20 : decode bMO_put 20 = .ok (.if_icmp .ne 7, 3) := by decide +kernel
theorem dMO_put_23 : decode bMO_put 23 = .ok (.iconst 0, 1) := by decide +kernel
theorem dMO_put_24 : decode bMO_put 24 = .ok (.goto 4, 3) := by decide +kernel
theorem dMO_put_27 : decode bMO_put 27 = .ok (.iconst 1, 1) := by decide +kernel
theorem dMO_put_28 : decode bMO_put 28 = .ok (.iadd, 1) := by decide +kernel
theorem dMO_put_29 : decode bMO_put 29 = .ok (.istore_n 3, 1) := by decide +kernel
theorem dMO_put_30 : decode bMO_put 30 = .ok (.aload_n 0, 1) := by decide +kernel
theorem dMO_put_31 : decode bMO_put 31 = .ok (.getfield 80, 3) := by decide +kernel
theorem dMO_put_34 : decode bMO_put 34 = .ok (.iload_n 3, 1) := by decide +kernel
theorem dMO_put_35 : decode bMO_put 35 = .ok (.iaload, 1) := by decide +kernel
theorem dMO_put_36 : decode bMO_put 36 = .ok (.bipush 64, 2) := by decide +kernel
theorem dMO_put_38 : decode bMO_put 38 = .ok (.if_icmp .ne 19, 3) := by decide +kernel
theorem dMO_put_41 : decode bMO_put 41 = .ok (.aload_n 0, 1) := by decide +kernel
theorem dMO_put_42 : decode bMO_put 42 = .ok (.dup, 1) := by decide +kernel
theorem dMO_put_43 : decode bMO_put 43 = .ok (.getfield 239, 3) := by decide +kernel
theorem dMO_put_46 : decode bMO_put 46 = .ok (.iconst 1, 1) := by decide +kernel
theorem dMO_put_47 : decode bMO_put 47 = .ok (.iadd, 1) := by decide +kernel
theorem dMO_put_48 : decode bMO_put 48 = .ok (.putfield 239, 3) := by decide +kernel
theorem dMO_put_51 : decode bMO_put 51 = .ok (.aload_n 0, 1) := by decide +kernel
theorem dMO_put_52 : decode bMO_put 52 = .ok (.iconst 1, 1) := by decide +kernel
theorem dMO_put_53 : decode bMO_put 53 = .ok (.putfield 212, 3) := by decide +kernel
theorem dMO_put_56 : decode bMO_put 56 = .ok (.return_, 1) := by decide +kernel
theorem dMO_put_57 : decode bMO_put 57 = .ok (.bipush 64, 2) := by decide +kernel
theorem dMO_put_59 : decode bMO_put 59 = .ok (.iload_n 3, 1) := by decide +kernel
theorem dMO_put_60 : decode bMO_put 60 = .ok (.imul, 1) := by decide +kernel
theorem dMO_put_61 : decode bMO_put 61 = .ok (.aload_n 0, 1) := by decide +kernel
theorem dMO_put_62 : decode bMO_put 62 = .ok (.getfield 80, 3) := by decide +kernel
theorem dMO_put_65 : decode bMO_put 65 = .ok (.iload_n 3, 1) := by decide +kernel
theorem dMO_put_66 : decode bMO_put 66 = .ok (.iaload, 1) := by decide +kernel
theorem dMO_put_67 : decode bMO_put 67 = .ok (.iadd, 1) := by decide +kernel
theorem dMO_put_68 : decode bMO_put 68 = .ok (.istore 4, 2) := by decide +kernel
theorem dMO_put_70 : decode bMO_put 70 = .ok (.aload_n 0, 1) := by decide +kernel
theorem dMO_put_71 : decode bMO_put 71 = .ok (.getfield 83, 3) := by decide +kernel
theorem dMO_put_74 : decode bMO_put 74 = .ok (.iload 4, 2) := by decide +kernel
theorem dMO_put_76 : decode bMO_put 76 = .ok (.aload_n 0, 1) := by decide +kernel
theorem dMO_put_77 : decode bMO_put 77 = .ok (.getfield 227, 3) := by decide +kernel
theorem dMO_put_80 : decode bMO_put 80 = .ok (.iastore, 1) := by decide +kernel
theorem dMO_put_81 : decode bMO_put 81 = .ok (.aload_n 0, 1) := by decide +kernel
theorem dMO_put_82 : decode bMO_put 82 = .ok (.getfield 86, 3) := by decide +kernel
theorem dMO_put_85 : decode bMO_put 85 = .ok (.iload 4, 2) := by decide +kernel
theorem dMO_put_87 : decode bMO_put 87 = .ok (.aload_n 0, 1) := by decide +kernel
theorem dMO_put_88 : decode bMO_put 88 = .ok (.getfield 230, 3) := by decide +kernel
theorem dMO_put_91 : decode bMO_put 91 = .ok (.iastore, 1) := by decide +kernel
theorem dMO_put_92 : decode bMO_put 92 = .ok (.aload_n 0, 1) := by decide +kernel
theorem dMO_put_93 : decode bMO_put 93 = .ok (.getfield 89, 3) := by decide +kernel
theorem dMO_put_96 : decode bMO_put 96 = .ok (.iload 4, 2) := by decide +kernel
theorem dMO_put_98 : decode bMO_put 98 = .ok (.aload_n 0, 1) := by decide +kernel
theorem dMO_put_99 : decode bMO_put 99 = .ok (.getfield 233, 3) := by decide +kernel
theorem dMO_put_102 : decode bMO_put 102 = .ok (.iastore, 1) := by decide +kernel
theorem dMO_put_103 : decode bMO_put 103 = .ok (.aload_n 0, 1) := by decide +kernel
theorem dMO_put_104 : decode bMO_put 104 = .ok (.getfield 92, 3) := by decide +kernel
theorem dMO_put_107 : decode bMO_put 107 = .ok (.iload 4, 2) := by decide +kernel
theorem dMO_put_109 : decode bMO_put 109 = .ok (.aload_n 0, 1) := by decide +kernel
theorem dMO_put_110 : decode bMO_put 110 = .ok (.getfield 236, 3) := by decide +kernel
theorem dMO_put_113 : decode bMO_put 113 = .ok (.iastore, 1) := by decide +kernel
theorem dMO_put_114 : decode bMO_put 114 = .ok (.aload_n 0, 1) := by decide +kernel
theorem dMO_put_115 : decode bMO_put 115 = .ok (.getfield 80, 3) := by decide +kernel
theorem dMO_put_118 : decode bMO_put 118 = .ok (.iload_n 3, 1) := by decide +kernel
theorem dMO_put_119 : decode bMO_put 119 = .ok (.dup2, 1) := by decide +kernel
theorem dMO_put_120 : decode bMO_put 120 = .ok (.iaload, 1) := by decide +kernel
theorem dMO_put_121 : decode bMO_put 121 = .ok (.iconst 1, 1) := by decide +kernel
theorem dMO_put_122 : decode bMO_put 122 = .ok (.iadd, 1) := by decide +kernel
theorem dMO_put_123 : decode bMO_put 123 = .ok (.iastore, 1) := by decide +kernel
theorem dMO_put_124 : decode bMO_put 124 = .ok (.return_, 1) := by decide +kernel
theorem dMO_putAll_0 : decode bMO_putAll 0 = .ok (.iconst 0, 1) := by decide +kernel
theorem dMO_putAll_1 : decode bMO_putAll 1 = .ok (.istore_n 3, 1) := by decide +kernel
theorem dMO_putAll_2 : decode bMO_putAll 2 = .ok (.iload_n 3, 1) := by decide +kernel
theorem dMO_putAll_3 : decode bMO_putAll 3 = .ok (.iconst 2, 1) := by decide +kernel
theorem dMO_putAll_4 : decode bMO_putAll 4 = .ok (.if_icmp .ge 38, 3) := by decide +kernel
theorem dMO_putAll_7 : decode bMO_putAll 7 = .ok (.aload_n 0, 1) := by decide +kernel
theorem dMO_putAll_8 : decode bMO_putAll 8 = .ok (.getfield 47, 3) := by decide +kernel
theorem dMO_putAll_11 : decode bMO_putAll 11 = .ok (.iconst 2, 1) := by decide +kernel
theorem dMO_putAll_12 : decode bMO_putAll 12 = .ok (.iload_n 1, 1) := by decide +kernel
theorem dMO_putAll_13 : decode bMO_putAll 13 = .ok (.iload_n 2, 1) := by decide +kernel
theorem dMO_putAll_14 : decode bMO_putAll 14 = .ok (.invokestatic 192, 3) := by decide +kernel
theorem dMO_putAll_17 : decode bMO_putAll 17 = .ok (.imul, 1) := by decide +kernel
theorem dMO_putAll_18 : decode bMO_putAll 18 = .ok (.iload_n 3, 1) := by decide +kernel
theorem dMO_putAll_19 : decode bMO_putAll 19 = .ok (.iadd, 1) := by decide +kernel
theorem dMO_putAll_20 : decode bMO_putAll 20 = .ok (.iaload, 1) := by decide +kernel
theorem dMO_putAll_21 : decode bMO_putAll 21 = .ok (.istore 4, 2) := by decide +kernel
theorem dMO_putAll_23 : decode bMO_putAll 23 = .ok (.iload 4, 2) := by decide +kernel
theorem dMO_putAll_25 : decode bMO_putAll 25 = .ok (.iconst (-1), 1) := by decide +kernel
theorem dMO_putAll_26 : decode bMO_putAll 26 = .ok (.if_icmp .eq 10, 3) := by decide +kernel
theorem dMO_putAll_29 : decode bMO_putAll 29 = .ok (.aload_n 0, 1) := by decide +kernel
theorem dMO_putAll_30 : decode bMO_putAll 30 = .ok (.iload_n 1, 1) := by decide +kernel
theorem dMO_putAll_31 : decode bMO_putAll 31 = .ok (.iload 4, 2) := by decide +kernel
theorem dMO_putAll_33 : decode bMO_putAll 33 = .ok (.invokevirtual 242, 3) := by decide +kernel
theorem dMO_putAll_36 : decode bMO_putAll 36 = .ok (.iinc 3 1, 3) := by decide +kernel
theorem dMO_putAll_39 : decode bMO_putAll 39 = .ok (.goto (-37), 3) := by decide +kernel
theorem dMO_putAll_42 : decode bMO_putAll 42 = .ok (.return_, 1) := by decide +kernel
theorem dMO_say_0 : decode bMO_say 0 = .ok (.aload_n 0, 1) := by decide +kernel
theorem dMO_say_1 : decode bMO_say 1 = .ok (.iload_n 1, 1) := by decide +kernel
theorem dMO_say_2 : decode bMO_say 2 = .ok (.putfield 227, 3) := by decide +kernel
theorem dMO_say_5 : decode bMO_say 5 = .ok (.aload_n 0, 1) := by decide +kernel
theorem dMO_say_6 : decode bMO_say 6 = .ok (.iload_n 2, 1) := by decide +kernel
theorem dMO_say_7 : decode bMO_say 7 = .ok (.putfield 230, 3) := by decide +kernel
theorem dMO_say_10 : decode bMO_say 10 = .ok (.aload_n 0, 1) := by decide +kernel
theorem dMO_say_11 : decode bMO_say 11 = .ok (.iload_n 3, 1) := by decide +kernel
theorem dMO_say_12 : decode bMO_say 12 = .ok (.putfield 233, 3) := by decide +kernel
theorem dMO_say_15 : decode bMO_say 15 = .ok (.aload_n 0, 1) := by decide +kernel
theorem dMO_say_16 : decode bMO_say 16 = .ok (.iload 4, 2) := by decide +kernel
theorem dMO_say_18 : decode bMO_say 18 = .ok (.putfield 236, 3) := by decide +kernel
theorem dMO_say_21 : decode bMO_say 21 = .ok (.return_, 1) := by decide +kernel
theorem dMO_sends_0 : decode bMO_sends 0 = .ok (.iload_n 1, 1) := by decide +kernel
theorem dMO_sends_1 : decode bMO_sends 1 = .ok (.iload_n 2, 1) := by decide +kernel
theorem dMO_sends_2 : decode bMO_sends 2 = .ok (.invokestatic 192, 3) := by decide +kernel
theorem dMO_sends_5 : decode bMO_sends 5 = .ok (.istore_n 3, 1) := by decide +kernel
theorem dMO_sends_6 : decode bMO_sends 6 = .ok (.iconst (-1), 1) := by decide +kernel
theorem dMO_sends_7 : decode bMO_sends 7 = .ok (.istore 4, 2) := by decide +kernel
theorem dMO_sends_9 : decode bMO_sends 9 = .ok (.iconst 1, 1) := by decide +kernel
theorem dMO_sends_10 : decode bMO_sends 10 = .ok (.istore 5, 2) := by decide +kernel
theorem dMO_sends_12 : decode bMO_sends 12 = .ok (.iload 5, 2) := by decide +kernel
theorem dMO_sends_14 : decode bMO_sends 14 = .ok (.ifCond .lt 54, 3) := by decide +kernel
theorem dMO_sends_17 : decode bMO_sends 17 = .ok (.aload_n 0, 1) := by decide +kernel
theorem dMO_sends_18 : decode bMO_sends 18 = .ok (.getfield 47, 3) := by decide +kernel
theorem dMO_sends_21 : decode bMO_sends 21 = .ok (.iconst 2, 1) := by decide +kernel
theorem dMO_sends_22 : decode bMO_sends 22 = .ok (.iload_n 3, 1) := by decide +kernel
theorem dMO_sends_23 : decode bMO_sends 23 = .ok (.imul, 1) := by decide +kernel
theorem dMO_sends_24 : decode bMO_sends 24 = .ok (.iload 5, 2) := by decide +kernel
theorem dMO_sends_26 : decode bMO_sends 26 = .ok (.iadd, 1) := by decide +kernel
theorem dMO_sends_27 : decode bMO_sends 27 = .ok (.iaload, 1) := by decide +kernel
theorem dMO_sends_28 : decode bMO_sends 28 = .ok (.istore 6, 2) := by decide +kernel
theorem dMO_sends_30 : decode bMO_sends 30 = .ok (.iload 6, 2) := by decide +kernel
theorem dMO_sends_32 : decode bMO_sends 32 = .ok (.iconst (-1), 1) := by decide +kernel
theorem dMO_sends_33 : decode bMO_sends 33 = .ok (.if_icmp .eq 25, 3) := by decide +kernel
theorem dMO_sends_36 : decode bMO_sends 36 = .ok (.aload_n 0, 1) := by decide +kernel
theorem dMO_sends_37 : decode bMO_sends 37 = .ok (.getfield 29, 3) := by decide +kernel
theorem dMO_sends_40 : decode bMO_sends 40 = .ok (.aload_n 0, 1) := by decide +kernel
theorem dMO_sends_41 : decode bMO_sends 41 = .ok (.iload_n 1, 1) := by decide +kernel
theorem dMO_sends_42 : decode bMO_sends 42 = .ok (.iload 6, 2) := by decide +kernel
theorem dMO_sends_44 : decode bMO_sends 44 = .ok (.invokevirtual 189, 3) := by decide +kernel
theorem dMO_sends_47 : decode bMO_sends 47 = .ok (.iaload, 1) := by decide +kernel
theorem dMO_sends_48 : decode bMO_sends 48 = .ok (.iconst 1, 1) := by decide +kernel
theorem dMO_sends_49 : decode bMO_sends 49 = .ok (.iand, 1) := by decide +kernel
theorem dMO_sends_50 : decode bMO_sends 50 = .ok (.ifCond .eq 8, 3) := by decide +kernel
theorem dMO_sends_53 : decode bMO_sends 53 = .ok (.iload 6, 2) := by decide +kernel
theorem dMO_sends_55 : decode bMO_sends 55 = .ok (.goto 5, 3) := by decide +kernel
theorem dMO_sends_58 : decode bMO_sends 58 = .ok (.iload 4, 2) := by decide +kernel
theorem dMO_sends_60 : decode bMO_sends 60 = .ok (.istore 4, 2) := by decide +kernel
theorem dMO_sends_62 : decode bMO_sends 62 = .ok (.iinc 5 (-1), 3) := by decide +kernel
theorem dMO_sends_65 : decode bMO_sends 65 = .ok (.goto (-53), 3) := by decide +kernel
theorem dMO_sends_68 : decode bMO_sends 68 = .ok (.aload_n 0, 1) := by decide +kernel
theorem dMO_sends_69 : decode bMO_sends 69 = .ok (.getfield 56, 3) := by decide +kernel
theorem dMO_sends_72 : decode bMO_sends 72 = .ok (.iload_n 3, 1) := by decide +kernel
theorem dMO_sends_73 : decode bMO_sends 73 = .ok (.iaload, 1) := by decide +kernel
theorem dMO_sends_74 : decode bMO_sends 74 = .ok (.iconst 2, 1) := by decide +kernel
theorem dMO_sends_75 : decode bMO_sends 75 = .ok (.if_icmp .ne 22, 3) := by decide +kernel
theorem dMO_sends_78 : decode bMO_sends 78 = .ok (.aload_n 0, 1) := by decide +kernel
theorem dMO_sends_79 : decode bMO_sends 79 = .ok (.iconst 1, 1) := by decide +kernel
theorem dMO_sends_80 : decode bMO_sends 80 = .ok (.iload_n 1, 1) := by decide +kernel
theorem dMO_sends_81 : decode bMO_sends 81 = .ok (.bipush 60, 2) := by decide +kernel
theorem dMO_sends_83 : decode bMO_sends 83 = .ok (.iload_n 1, 1) := by decide +kernel
theorem dMO_sends_84 : decode bMO_sends 84 = .ok (.iadd, 1) := by decide +kernel
theorem dMO_sends_85 : decode bMO_sends 85 = .ok (.aload_n 0, 1) := by decide +kernel
theorem dMO_sends_86 : decode bMO_sends 86 = .ok (.getfield 62, 3) := by decide +kernel
theorem dMO_sends_89 : decode bMO_sends 89 = .ok (.iload_n 1, 1) := by decide +kernel
theorem dMO_sends_90 : decode bMO_sends 90 = .ok (.iaload, 1) := by decide +kernel
theorem dMO_sends_91 : decode bMO_sends 91 = .ok (.invokevirtual 246, 3) := by decide +kernel
theorem dMO_sends_94 : decode bMO_sends 94 = .ok (.goto 109, 3) := by decide +kernel
theorem dMO_sends_97 : decode bMO_sends 97 = .ok (.iload 4, 2) := by decide +kernel
theorem dMO_sends_99 : decode bMO_sends 99 = .ok (.iconst (-1), 1) := by decide +kernel
theorem dMO_sends_100 : decode bMO_sends 100 = .ok (.if_icmp .eq 21, 3) := by decide +kernel
theorem dMO_sends_103 : decode bMO_sends 103 = .ok (.aload_n 0, 1) := by decide +kernel
theorem dMO_sends_104 : decode bMO_sends 104 = .ok (.iconst 0, 1) := by decide +kernel
theorem dMO_sends_105 : decode bMO_sends 105 = .ok (.iload_n 1, 1) := by decide +kernel
theorem dMO_sends_106 : decode bMO_sends 106 = .ok (.iload 4, 2) := by decide +kernel
theorem dMO_sends_108 : decode bMO_sends 108 = .ok (.aload_n 0, 1) := by decide +kernel
theorem dMO_sends_109 : decode bMO_sends 109 = .ok (.getfield 23, 3) := by decide +kernel
theorem dMO_sends_112 : decode bMO_sends 112 = .ok (.iload 4, 2) := by decide +kernel
theorem dMO_sends_114 : decode bMO_sends 114 = .ok (.iaload, 1) := by decide +kernel
theorem dMO_sends_115 : decode bMO_sends 115 = .ok (.invokevirtual 246, 3) := by decide +kernel
theorem dMO_sends_118 : decode bMO_sends 118 = .ok (.goto 85, 3) := by decide +kernel
theorem dMO_sends_121 : decode bMO_sends 121 = .ok (.aload_n 0, 1) := by decide +kernel
theorem dMO_sends_122 : decode bMO_sends 122 = .ok (.getfield 56, 3) := by decide +kernel
theorem dMO_sends_125 : decode bMO_sends 125 = .ok (.iload_n 3, 1) := by decide +kernel
theorem dMO_sends_126 : decode bMO_sends 126 = .ok (.iaload, 1) := by decide +kernel
theorem dMO_sends_127 : decode bMO_sends 127 = .ok (.iconst 4, 1) := by decide +kernel
theorem dMO_sends_128 : decode bMO_sends 128 = .ok (.if_icmp .ne 22, 3) := by decide +kernel
theorem dMO_sends_131 : decode bMO_sends 131 = .ok (.aload_n 0, 1) := by decide +kernel
theorem dMO_sends_132 : decode bMO_sends 132 = .ok (.iconst 2, 1) := by decide +kernel
theorem dMO_sends_133 : decode bMO_sends 133 = .ok (.iload_n 1, 1) := by decide +kernel
theorem dMO_sends_134 : decode bMO_sends 134 = .ok (.bipush 60, 2) := by decide +kernel
theorem dMO_sends_136 : decode bMO_sends 136 = .ok (.iload_n 1, 1) := by decide +kernel
theorem dMO_sends_137 : decode bMO_sends 137 = .ok (.iadd, 1) := by decide +kernel
theorem dMO_sends_138 : decode bMO_sends 138 = .ok (.aload_n 0, 1) := by decide +kernel
theorem dMO_sends_139 : decode bMO_sends 139 = .ok (.getfield 62, 3) := by decide +kernel
theorem dMO_sends_142 : decode bMO_sends 142 = .ok (.iload_n 1, 1) := by decide +kernel
theorem dMO_sends_143 : decode bMO_sends 143 = .ok (.iaload, 1) := by decide +kernel
theorem dMO_sends_144 : decode bMO_sends 144 = .ok (.invokevirtual 246, 3) := by decide +kernel
theorem dMO_sends_147 : decode bMO_sends 147 = .ok (.goto 56, 3) := by decide +kernel
theorem dMO_sends_150 : decode bMO_sends 150 = .ok (.aload_n 0, 1) := by decide +kernel
theorem dMO_sends_151 : decode bMO_sends 151 = .ok (.iload_n 1, 1) := by decide +kernel
theorem dMO_sends_152 : decode bMO_sends 152 = .ok (.iload_n 2, 1) := by decide +kernel
theorem dMO_sends_153 : decode bMO_sends 153 = .ok (.bipush 8, 2) := by decide +kernel
theorem dMO_sends_155 : decode bMO_sends 155 = .ok (.invokevirtual 252, 3) := by decide +kernel
theorem dMO_sends_158 : decode bMO_sends 158 = .ok (.ifCond .eq 14, 3) := by decide +kernel
theorem dMO_sends_161 : decode bMO_sends 161 = .ok (.aload_n 0, 1) := by decide +kernel
theorem dMO_sends_162 : decode bMO_sends 162 = .ok (.iconst 3, 1) := by decide +kernel
theorem dMO_sends_163 : decode bMO_sends 163 = .ok (.iload_n 1, 1) := by decide +kernel
theorem dMO_sends_164 : decode bMO_sends 164 = .ok (.iconst 0, 1) := by decide +kernel
theorem dMO_sends_165 : decode bMO_sends 165 = .ok (.iconst 0, 1) := by decide +kernel
theorem dMO_sends_166 : decode bMO_sends 166 = .ok (.invokevirtual 246, 3) := by decide +kernel
theorem dMO_sends_169 : decode bMO_sends 169 = .ok (.goto 34, 3) := by decide +kernel
theorem dMO_sends_172 : decode bMO_sends 172 = .ok (.aload_n 0, 1) := by decide +kernel
theorem dMO_sends_173 : decode bMO_sends 173 = .ok (.iload_n 1, 1) := by decide +kernel
theorem dMO_sends_174 : decode bMO_sends 174 = .ok (.iload_n 2, 1) := by decide +kernel
theorem dMO_sends_175 : decode bMO_sends 175 = .ok (.bipush 16, 2) := by decide +kernel
theorem dMO_sends_177 : decode bMO_sends 177 = .ok (.invokevirtual 252, 3) := by decide +kernel
theorem dMO_sends_180 : decode bMO_sends 180 = .ok (.ifCond .eq 22, 3) := by decide +kernel
theorem dMO_sends_183 : decode bMO_sends 183 = .ok (.aload_n 0, 1) := by decide +kernel
theorem dMO_sends_184 : decode bMO_sends 184 = .ok (.iconst 4, 1) := by decide +kernel
theorem dMO_sends_185 : decode bMO_sends 185 = .ok (.iload_n 1, 1) := by decide +kernel
theorem dMO_sends_186 : decode bMO_sends 186 = .ok (.bipush 108, 2) := by decide +kernel
theorem dMO_sends_188 : decode bMO_sends 188 = .ok (.iload_n 2, 1) := by decide +kernel
theorem dMO_sends_189 : decode bMO_sends 189 = .ok (.iadd, 1) := by decide +kernel
theorem dMO_sends_190 : decode bMO_sends 190 = .ok (.aload_n 0, 1) := by decide +kernel
theorem dMO_sends_191 : decode bMO_sends 191 = .ok (.getfield 44, 3) := by decide +kernel
theorem dMO_sends_194 : decode bMO_sends 194 = .ok (.iload_n 2, 1) := by decide +kernel
theorem dMO_sends_195 : decode bMO_sends 195 = .ok (.iaload, 1) := by decide +kernel
theorem dMO_sends_196 : decode bMO_sends 196 = .ok (.invokevirtual 246, 3) := by decide +kernel
theorem dMO_sends_199 : decode bMO_sends 199 = .ok (.goto 4, 3) := by decide +kernel
theorem dMO_sends_202 : decode bMO_sends 202 = .ok (.return_, 1) := by decide +kernel
theorem dMO_sends_203 : decode bMO_sends 203 = .ok (.aload_n 0, 1) := by decide +kernel
theorem dMO_sends_204 : decode bMO_sends 204 = .ok (.iload_n 1, 1) := by decide +kernel
theorem dMO_sends_205 : decode bMO_sends 205 = .ok (.iload_n 2, 1) := by decide +kernel
theorem dMO_sends_206 : decode bMO_sends 206 = .ok (.invokevirtual 249, 3) := by decide +kernel
theorem dMO_sends_209 : decode bMO_sends 209 = .ok (.return_, 1) := by decide +kernel
theorem dMO_takeHold_0 : decode bMO_takeHold 0 = .ok (.aload_n 0, 1) := by decide +kernel
theorem dMO_takeHold_1 : decode bMO_takeHold 1 = .ok (.getfield 35, 3) := by decide +kernel
theorem dMO_takeHold_4 : decode bMO_takeHold 4 = .ok (.iload_n 1, 1) := by decide +kernel
theorem dMO_takeHold_5 : decode bMO_takeHold 5 = .ok (.iaload, 1) := by decide +kernel
theorem dMO_takeHold_6 : decode bMO_takeHold 6 = .ok (.istore_n 2, 1) := by decide +kernel
theorem dMO_takeHold_7 : decode bMO_takeHold 7 = .ok (.aload_n 0, 1) := by decide +kernel
theorem dMO_takeHold_8 : decode bMO_takeHold 8 = .ok (.aload_n 0, 1) := by decide +kernel
theorem dMO_takeHold_9 : decode bMO_takeHold 9 = .ok (.getfield 32, 3) := by decide +kernel
theorem dMO_takeHold_12 : decode bMO_takeHold 12 = .ok (.iload_n 1, 1) := by decide +kernel
theorem dMO_takeHold_13 : decode bMO_takeHold 13 = .ok (.iaload, 1) := by decide +kernel
theorem dMO_takeHold_14 : decode bMO_takeHold 14 = .ok (.iload_n 2, 1) := by decide +kernel
theorem dMO_takeHold_15 : decode bMO_takeHold 15 = .ok (.aload_n 0, 1) := by decide +kernel
theorem dMO_takeHold_16 : decode bMO_takeHold 16 = .ok (.getfield 29, 3) := by decide +kernel
theorem dMO_takeHold_19 : decode bMO_takeHold 19 = .ok (.aload_n 0, 1) := by decide +kernel
theorem dMO_takeHold_20 : decode bMO_takeHold 20 = .ok (.aload_n 0, 1) := by decide +kernel
theorem dMO_takeHold_21 : decode bMO_takeHold 21 = .ok (.getfield 32, 3) := by decide +kernel
theorem dMO_takeHold_24 : decode bMO_takeHold 24 = .ok (.iload_n 1, 1) := by decide +kernel
theorem dMO_takeHold_25 : decode bMO_takeHold 25 = .ok (.iaload, 1) := by decide +kernel
theorem dMO_takeHold_26 : decode bMO_takeHold 26 = .ok (.iload_n 2, 1) := by decide +kernel
theorem dMO_takeHold_27 : decode bMO_takeHold 27 = .ok (.invokevirtual 189, 3) := by decide +kernel
theorem dMO_takeHold_30 : decode bMO_takeHold 30 = .ok (.iaload, 1) := by decide +kernel
theorem dMO_takeHold_31 : decode bMO_takeHold 31 = .ok (.bipush 16, 2) := by decide +kernel
theorem dMO_takeHold_33 : decode bMO_takeHold 33 = .ok (.ior, 1) := by decide +kernel
theorem dMO_takeHold_34 : decode bMO_takeHold 34 = .ok (.invokevirtual 195, 3) := by decide +kernel
theorem dMO_takeHold_37 : decode bMO_takeHold 37 = .ok (.aload_n 0, 1) := by decide +kernel
theorem dMO_takeHold_38 : decode bMO_takeHold 38 = .ok (.getfield 41, 3) := by decide +kernel
theorem dMO_takeHold_41 : decode bMO_takeHold 41 = .ok (.iload_n 1, 1) := by decide +kernel
theorem dMO_takeHold_42 : decode bMO_takeHold 42 = .ok (.iconst 0, 1) := by decide +kernel
theorem dMO_takeHold_43 : decode bMO_takeHold 43 = .ok (.iastore, 1) := by decide +kernel
theorem dMO_takeHold_44 : decode bMO_takeHold 44 = .ok (.aload_n 0, 1) := by decide +kernel
theorem dMO_takeHold_45 : decode bMO_takeHold 45 = .ok (.getfield 44, 3) := by decide +kernel
theorem dMO_takeHold_48 : decode bMO_takeHold 48 = .ok (.iload_n 1, 1) := by decide +kernel
theorem dMO_takeHold_49 : decode bMO_takeHold 49 = .ok (.dup2, 1) := by decide +kernel
theorem dMO_takeHold_50 : decode bMO_takeHold 50 = .ok (.iaload, 1) := by decide +kernel
theorem dMO_takeHold_51 : decode bMO_takeHold 51 = .ok (.iconst 1, 1) := by decide +kernel
theorem dMO_takeHold_52 : decode bMO_takeHold 52 = .ok (.iadd, 1) := by decide +kernel
theorem dMO_takeHold_53 : decode bMO_takeHold 53 = .ok (.iastore, 1) := by decide +kernel
theorem dMO_takeHold_54 : decode bMO_takeHold 54 = .ok (.aload_n 0, 1) := by decide +kernel
theorem dMO_takeHold_55 : decode bMO_takeHold 55 = .ok (.aload_n 0, 1) := by decide +kernel
theorem dMO_takeHold_56 : decode bMO_takeHold 56 = .ok (.getfield 32, 3) := by decide +kernel
theorem dMO_takeHold_59 : decode bMO_takeHold 59 = .ok (.iload_n 1, 1) := by decide +kernel
theorem dMO_takeHold_60 : decode bMO_takeHold 60 = .ok (.iaload, 1) := by decide +kernel
theorem dMO_takeHold_61 : decode bMO_takeHold 61 = .ok (.bipush 108, 2) := by decide +kernel
theorem dMO_takeHold_63 : decode bMO_takeHold 63 = .ok (.iload_n 1, 1) := by decide +kernel
theorem dMO_takeHold_64 : decode bMO_takeHold 64 = .ok (.iadd, 1) := by decide +kernel
theorem dMO_takeHold_65 : decode bMO_takeHold 65 = .ok (.aload_n 0, 1) := by decide +kernel
theorem dMO_takeHold_66 : decode bMO_takeHold 66 = .ok (.getfield 44, 3) := by decide +kernel
theorem dMO_takeHold_69 : decode bMO_takeHold 69 = .ok (.iload_n 1, 1) := by decide +kernel
theorem dMO_takeHold_70 : decode bMO_takeHold 70 = .ok (.iaload, 1) := by decide +kernel
theorem dMO_takeHold_71 : decode bMO_takeHold 71 = .ok (.iload_n 1, 1) := by decide +kernel
theorem dMO_takeHold_72 : decode bMO_takeHold 72 = .ok (.invokevirtual 205, 3) := by decide +kernel
theorem dMO_takeHold_75 : decode bMO_takeHold 75 = .ok (.return_, 1) := by decide +kernel
theorem dMO_tick_0 : decode bMO_tick 0 = .ok (.aload_n 0, 1) := by decide +kernel
theorem dMO_tick_1 : decode bMO_tick 1 = .ok (.dup, 1) := by decide +kernel
theorem dMO_tick_2 : decode bMO_tick 2 = .ok (.getfield 262, 3) := by decide +kernel
theorem dMO_tick_5 : decode bMO_tick 5 = .ok (.iconst 1, 1) := by decide +kernel
theorem dMO_tick_6 : decode bMO_tick 6 = .ok (.iadd, 1) := by decide +kernel
theorem dMO_tick_7 : decode bMO_tick 7 = .ok (.putfield 262, 3) := by decide +kernel
theorem dMO_tick_10 : decode bMO_tick 10 = .ok (.aload_n 0, 1) := by decide +kernel
theorem dMO_tick_11 : decode bMO_tick 11 = .ok (.iconst 0, 1) := by decide +kernel
theorem dMO_tick_12 : decode bMO_tick 12 = .ok (.putfield 212, 3) := by decide +kernel
theorem dMO_tick_15 : decode bMO_tick 15 = .ok (.aload_n 0, 1) := by decide +kernel
theorem dMO_tick_16 : decode bMO_tick 16 = .ok (.invokevirtual 265, 3) := by decide +kernel
theorem dMO_tick_19 : decode bMO_tick 19 = .ok (.iconst 0, 1) := by decide +kernel
theorem dMO_tick_20 : decode bMO_tick 20 = .ok (.istore_n 1, 1) := by decide +kernel
theorem dMO_tick_21 : decode bMO_tick 21 = .ok (.iload_n 1, 1) := by decide +kernel
theorem dMO_tick_22 : decode bMO_tick 22 = .ok (.iconst 2, 1) := by decide +kernel
theorem dMO_tick_23 : decode bMO_tick 23 = .ok (.aload_n 0, 1) := by decide +kernel
theorem dMO_tick_24 : decode bMO_tick 24 = .ok (.getfield 132, 3) := by decide +kernel
theorem dMO_tick_27 : decode bMO_tick 27 = .ok (.imul, 1) := by decide +kernel
theorem dMO_tick_28 : decode bMO_tick 28 = .ok (.if_icmp .ge 38, 3) := by decide +kernel
theorem dMO_tick_31 : decode bMO_tick 31 = .ok (.iconst 0, 1) := by decide +kernel
theorem dMO_tick_32 : decode bMO_tick 32 = .ok (.istore_n 2, 1) := by decide +kernel
theorem dMO_tick_33 : decode bMO_tick 33 = .ok (.iload_n 2, 1) := by decide +kernel
theorem dMO_tick_34 : decode bMO_tick 34 = .ok (.aload_n 0, 1) := by decide +kernel
theorem dMO_tick_35 : decode bMO_tick 35 = .ok (.getfield 95, 3) := by decide +kernel
theorem dMO_tick_38 : decode bMO_tick 38 = .ok (.iload_n 1, 1) := by decide +kernel
theorem dMO_tick_39 : decode bMO_tick 39 = .ok (.iaload, 1) := by decide +kernel
theorem dMO_tick_40 : decode bMO_tick 40 = .ok (.if_icmp .ge 20, 3) := by decide +kernel
theorem dMO_tick_43 : decode bMO_tick 43 = .ok (.aload_n 0, 1) := by decide +kernel
theorem dMO_tick_44 : decode bMO_tick 44 = .ok (.iload_n 1, 1) := by decide +kernel
theorem dMO_tick_45 : decode bMO_tick 45 = .ok (.bipush 64, 2) := by decide +kernel
theorem dMO_tick_47 : decode bMO_tick 47 = .ok (.iload_n 1, 1) := by decide +kernel
theorem dMO_tick_48 : decode bMO_tick 48 = .ok (.imul, 1) := by decide +kernel
theorem dMO_tick_49 : decode bMO_tick 49 = .ok (.iload_n 2, 1) := by decide +kernel
theorem dMO_tick_50 : decode bMO_tick 50 = .ok (.iadd, 1) := by decide +kernel
theorem dMO_tick_51 : decode bMO_tick 51 = .ok (.invokevirtual 268, 3) := by decide +kernel
theorem dMO_tick_54 : decode bMO_tick 54 = .ok (.iinc 2 1, 3) := by decide +kernel
theorem dMO_tick_57 : decode bMO_tick 57 = .ok (.goto (-24), 3) := by decide +kernel
theorem dMO_tick_60 : decode bMO_tick 60 = .ok (.iinc 1 1, 3) := by decide +kernel
theorem dMO_tick_63 : decode bMO_tick 63 = .ok (.goto (-42), 3) := by decide +kernel
theorem dMO_tick_66 : decode bMO_tick 66 = .ok (.iconst 0, 1) := by decide +kernel
theorem dMO_tick_67 : decode bMO_tick 67 = .ok (.istore_n 1, 1) := by decide +kernel
theorem dMO_tick_68 : decode bMO_tick 68 = .ok (.iload_n 1, 1) := by decide +kernel
theorem dMO_tick_69 : decode bMO_tick 69 = .ok (.aload_n 0, 1) := by decide +kernel
theorem dMO_tick_70 : decode bMO_tick 70 = .ok (.getfield 129, 3) := by decide +kernel
theorem dMO_tick_73 : decode bMO_tick 73 = .ok (.if_icmp .ge 45, 3) := by decide +kernel
theorem dMO_tick_76 : decode bMO_tick 76 = .ok (.iconst 0, 1) := by decide +kernel
theorem dMO_tick_77 : decode bMO_tick 77 = .ok (.istore_n 2, 1) := by decide +kernel
theorem dMO_tick_78 : decode bMO_tick 78 = .ok (.iload_n 2, 1) := by decide +kernel
theorem dMO_tick_79 : decode bMO_tick 79 = .ok (.bipush 6, 2) := by decide +kernel
theorem dMO_tick_81 : decode bMO_tick 81 = .ok (.if_icmp .ge 31, 3) := by decide +kernel
theorem dMO_tick_84 : decode bMO_tick 84 = .ok (.aload_n 0, 1) := by decide +kernel
theorem dMO_tick_85 : decode bMO_tick 85 = .ok (.getfield 47, 3) := by decide +kernel
theorem dMO_tick_88 : decode bMO_tick 88 = .ok (.iconst 2, 1) := by decide +kernel
theorem dMO_tick_89 : decode bMO_tick 89 = .ok (.iload_n 1, 1) := by decide +kernel
theorem dMO_tick_90 : decode bMO_tick 90 = .ok (.iload_n 2, 1) := by decide +kernel
theorem dMO_tick_91 : decode bMO_tick 91 = .ok (.invokestatic 192, 3) := by decide +kernel
theorem dMO_tick_94 : decode bMO_tick 94 = .ok (.imul, 1) := by decide +kernel
theorem dMO_tick_95 : decode bMO_tick 95 = .ok (.iaload, 1) := by decide +kernel
theorem dMO_tick_96 : decode bMO_tick 96 = .ok (.iconst (-1), 1) := by decide +kernel
theorem dMO_tick_97 : decode bMO_tick 97 = .ok (.if_icmp .eq 9, 3) := by decide +kernel
theorem dMO_tick_100 : decode bMO_tick 100 = .ok (.aload_n 0, 1) := by decide +kernel
theorem dMO_tick_101 : decode bMO_tick 101 = .ok (.iload_n 1, 1) := by decide +kernel
theorem dMO_tick_102 : decode bMO_tick 102 = .ok (.iload_n 2, 1) := by decide +kernel
theorem dMO_tick_103 : decode bMO_tick 103 = .ok (.invokevirtual 271, 3) := by decide +kernel
theorem dMO_tick_106 : decode bMO_tick 106 = .ok (.iinc 2 1, 3) := by decide +kernel
theorem dMO_tick_109 : decode bMO_tick 109 = .ok (.goto (-31), 3) := by decide +kernel
theorem dMO_tick_112 : decode bMO_tick 112 = .ok (.iinc 1 1, 3) := by decide +kernel
theorem dMO_tick_115 : decode bMO_tick 115 = .ok (.goto (-47), 3) := by decide +kernel
theorem dMO_tick_118 : decode bMO_tick 118 = .ok (.aload_n 0, 1) := by decide +kernel
theorem dMO_tick_119 : decode bMO_tick 119 = .ok (.aload_n 0, 1) := by decide +kernel
theorem dMO_tick_120 : decode bMO_tick 120 = .ok (.getfield 212, 3) := by decide +kernel
theorem dMO_tick_123 : decode bMO_tick 123 = .ok (.ifCond .eq 7, 3) := by decide +kernel
theorem dMO_tick_126 : decode bMO_tick 126 = .ok (.iconst 0, 1) := by decide +kernel
theorem dMO_tick_127 : decode bMO_tick 127 = .ok (.goto 9, 3) := by decide +kernel
theorem dMO_tick_130 : decode bMO_tick 130 = .ok (.aload_n 0, 1) := by decide +kernel
theorem dMO_tick_131 : decode bMO_tick 131 = .ok (.getfield 221, 3) := by decide +kernel
theorem dMO_tick_134 : decode bMO_tick 134 = .ok (.iconst 1, 1) := by decide +kernel
theorem dMO_tick_135 : decode bMO_tick 135 = .ok (.iadd, 1) := by decide +kernel
theorem dMO_tick_136 : decode bMO_tick 136 = .ok (.putfield 221, 3) := by decide +kernel
theorem dMO_tick_139 : decode bMO_tick 139 = .ok (.aload_n 0, 1) := by decide +kernel
theorem dMO_tick_140 : decode bMO_tick 140 = .ok (.invokevirtual 215, 3) := by decide +kernel
theorem dMO_tick_143 : decode bMO_tick 143 = .ok (.aload_n 0, 1) := by decide +kernel
theorem dMO_tick_144 : decode bMO_tick 144 = .ok (.dup, 1) := by decide +kernel
theorem dMO_tick_145 : decode bMO_tick 145 = .ok (.getfield 274, 3) := by decide +kernel
theorem dMO_tick_148 : decode bMO_tick 148 = .ok (.aload_n 0, 1) := by decide +kernel
theorem dMO_tick_149 : decode bMO_tick 149 = .ok (.getfield 221, 3) := by decide +kernel
theorem dMO_tick_152 : decode bMO_tick 152 = .ok (.iconst 4, 1) := by decide +kernel
theorem dMO_tick_153 : decode bMO_tick 153 = .ok (.aload_n 0, 1) := by decide +kernel
theorem dMO_tick_154 : decode bMO_tick 154 = .ok (.getfield 129, 3) := by decide +kernel
theorem dMO_tick_157 : decode bMO_tick 157 = .ok (.imul, 1) := by decide +kernel
theorem dMO_tick_158 : decode bMO_tick 158 = .ok (.bipush 80, 2) := by decide +kernel
theorem dMO_tick_160 : decode bMO_tick 160 = .ok (.iadd, 1) := by decide +kernel
theorem dMO_tick_161 : decode bMO_tick 161 = .ok (.if_icmp .lt 21, 3) := by decide +kernel
theorem dMO_tick_164 : decode bMO_tick 164 = .ok (.aload_n 0, 1) := by decide +kernel
theorem dMO_tick_165 : decode bMO_tick 165 = .ok (.invokevirtual 277, 3) := by decide +kernel
theorem dMO_tick_168 : decode bMO_tick 168 = .ok (.ifCond .eq 14, 3) := by decide +kernel
theorem dMO_tick_171 : decode bMO_tick 171 = .ok (.aload_n 0, 1) := by decide +kernel
theorem dMO_tick_172 : decode bMO_tick 172 = .ok (.invokevirtual 281, 3) := by decide +kernel
theorem dMO_tick_175 : decode bMO_tick 175 = .ok (.ifCond .ne 7, 3) := by decide +kernel
theorem dMO_tick_178 : decode bMO_tick 178 = .ok (.iconst 1, 1) := by decide +kernel
theorem dMO_tick_179 : decode bMO_tick 179 = .ok (.goto 4, 3) := by decide +kernel
theorem dMO_tick_182 : decode bMO_tick 182 = .ok (.iconst 0, 1) := by decide +kernel
theorem dMO_tick_183 : decode bMO_tick 183 = .ok (.iadd, 1) := by decide +kernel
theorem dMO_tick_184 : decode bMO_tick 184 = .ok (.putfield 274, 3) := by decide +kernel
theorem dMO_tick_187 : decode bMO_tick 187 = .ok (.return_, 1) := by decide +kernel
theorem dMO_tickOf_0 : decode bMO_tickOf 0 = .ok (.iload_n 1, 1) := by decide +kernel
theorem dMO_tickOf_1 : decode bMO_tickOf 1 = .ok (.iload_n 2, 1) := by decide +kernel
theorem dMO_tickOf_2 : decode bMO_tickOf 2 = .ok (.invokestatic 192, 3) := by decide +kernel
theorem dMO_tickOf_5 : decode bMO_tickOf 5 = .ok (.istore_n 3, 1) := by decide +kernel
theorem dMO_tickOf_6 : decode bMO_tickOf 6 = .ok (.aload_n 0, 1) := by decide +kernel
theorem dMO_tickOf_7 : decode bMO_tickOf 7 = .ok (.getfield 50, 3) := by decide +kernel
theorem dMO_tickOf_10 : decode bMO_tickOf 10 = .ok (.iload_n 3, 1) := by decide +kernel
theorem dMO_tickOf_11 : decode bMO_tickOf 11 = .ok (.aload_n 0, 1) := by decide +kernel
theorem dMO_tickOf_12 : decode bMO_tickOf 12 = .ok (.getfield 50, 3) := by decide +kernel
theorem dMO_tickOf_15 : decode bMO_tickOf 15 = .ok (.iload_n 3, 1) := by decide +kernel
theorem dMO_tickOf_16 : decode bMO_tickOf 16 = .ok (.iaload, 1) := by decide +kernel
theorem dMO_tickOf_17 : decode bMO_tickOf 17 = .ok (.ifCond .le 14, 3) := by decide +kernel
theorem dMO_tickOf_20 : decode bMO_tickOf 20 = .ok (.aload_n 0, 1) := by decide +kernel
theorem dMO_tickOf_21 : decode bMO_tickOf 21 = .ok (.getfield 50, 3) := by decide +kernel
theorem dMO_tickOf_24 : decode bMO_tickOf 24 = .ok (.iload_n 3, 1) := by decide +kernel
theorem dMO_tickOf_25 : decode bMO_tickOf 25 = .ok (.iaload, 1) := by decide +kernel
theorem dMO_tickOf_26 : decode bMO_tickOf 26 = .ok (.iconst 1, 1) := by decide +kernel
theorem dMO_tickOf_27 : decode bMO_tickOf 27 = .ok (.isub, 1) := by decide +kernel
theorem dMO_tickOf_28 : decode bMO_tickOf 28 = .ok (.goto 4, 3) := by decide +kernel
theorem dMO_tickOf_31 : decode bMO_tickOf 31 = .ok (.iconst 0, 1) := by decide +kernel
theorem dMO_tickOf_32 : decode bMO_tickOf 32 = .ok (.iastore, 1) := by decide +kernel
theorem dMO_tickOf_33 : decode bMO_tickOf 33 = .ok (.aload_n 0, 1) := by decide +kernel
theorem dMO_tickOf_34 : decode bMO_tickOf 34 = .ok (.iload_n 1, 1) := by decide +kernel
theorem dMO_tickOf_35 : decode bMO_tickOf 35 = .ok (.iload_n 2, 1) := by decide +kernel
theorem dMO_tickOf_36 : decode bMO_tickOf 36 = .ok (.invokevirtual 199, 3) := by decide +kernel
theorem dMO_tickOf_39 : decode bMO_tickOf 39 = .ok (.ifCond .eq 69, 3) := by decide +kernel
theorem dMO_tickOf_42 : decode bMO_tickOf 42 = .ok (.aload_n 0, 1) := by decide +kernel
theorem dMO_tickOf_43 : decode bMO_tickOf 43 = .ok (.iload_n 1, 1) := by decide +kernel
theorem dMO_tickOf_44 : decode bMO_tickOf 44 = .ok (.iload_n 2, 1) := by decide +kernel
theorem dMO_tickOf_45 : decode bMO_tickOf 45 = .ok (.bipush 23, 2) := by decide +kernel
theorem dMO_tickOf_47 : decode bMO_tickOf 47 = .ok (.invokevirtual 252, 3) := by decide +kernel
theorem dMO_tickOf_50 : decode bMO_tickOf 50 = .ok (.ifCond .ne 58, 3) := by decide +kernel
theorem dMO_tickOf_53 : decode bMO_tickOf 53 = .ok (.aload_n 0, 1) := by decide +kernel
theorem dMO_tickOf_54 : decode bMO_tickOf 54 = .ok (.getfield 41, 3) := by decide +kernel
theorem dMO_tickOf_57 : decode bMO_tickOf 57 = .ok (.iload_n 2, 1) := by decide +kernel
theorem dMO_tickOf_58 : decode bMO_tickOf 58 = .ok (.iaload, 1) := by decide +kernel
theorem dMO_tickOf_59 : decode bMO_tickOf 59 = .ok (.ifCond .le 30, 3) := by decide +kernel
theorem dMO_tickOf_62 : decode bMO_tickOf 62 = .ok (.aload_n 0, 1) := by decide +kernel
theorem dMO_tickOf_63 : decode bMO_tickOf 63 = .ok (.getfield 41, 3) := by decide +kernel
theorem dMO_tickOf_66 : decode bMO_tickOf 66 = .ok (.iload_n 2, 1) := by decide +kernel
theorem dMO_tickOf_67 : decode bMO_tickOf 67 = .ok (.dup2, 1) := by decide +kernel
theorem dMO_tickOf_68 : decode bMO_tickOf 68 = .ok (.iaload, 1) := by decide +kernel
theorem dMO_tickOf_69 : decode bMO_tickOf 69 = .ok (.iconst 1, 1) := by decide +kernel
theorem dMO_tickOf_70 : decode bMO_tickOf 70 = .ok (.isub, 1) := by decide +kernel
theorem dMO_tickOf_71 : decode bMO_tickOf 71 = .ok (.iastore, 1) := by decide +kernel
theorem dMO_tickOf_72 : decode bMO_tickOf 72 = .ok (.aload_n 0, 1) := by decide +kernel
theorem dMO_tickOf_73 : decode bMO_tickOf 73 = .ok (.getfield 41, 3) := by decide +kernel
theorem dMO_tickOf_76 : decode bMO_tickOf 76 = .ok (.iload_n 2, 1) := by decide +kernel
theorem dMO_tickOf_77 : decode bMO_tickOf 77 = .ok (.iaload, 1) := by decide +kernel
theorem dMO_tickOf_78 : decode bMO_tickOf 78 = .ok (.ifCond .ne 30, 3) := by decide +kernel
theorem dMO_tickOf_81 : decode bMO_tickOf 81 = .ok (.aload_n 0, 1) := by decide +kernel
theorem dMO_tickOf_82 : decode bMO_tickOf 82 = .ok (.iload_n 2, 1) := by decide +kernel
theorem dMO_tickOf_83 : decode bMO_tickOf 83 = .ok (.invokevirtual 185, 3) := by decide +kernel
theorem dMO_tickOf_86 : decode bMO_tickOf 86 = .ok (.goto 22, 3) := by decide +kernel
theorem dMO_tickOf_89 : decode bMO_tickOf 89 = .ok (.aload_n 0, 1) := by decide +kernel
theorem dMO_tickOf_90 : decode bMO_tickOf 90 = .ok (.iload_n 1, 1) := by decide +kernel
theorem dMO_tickOf_91 : decode bMO_tickOf 91 = .ok (.iload_n 2, 1) := by decide +kernel
theorem dMO_tickOf_92 : decode bMO_tickOf 92 = .ok (.bipush 8, 2) := by decide +kernel
theorem dMO_tickOf_94 : decode bMO_tickOf 94 = .ok (.invokevirtual 252, 3) := by decide +kernel
theorem dMO_tickOf_97 : decode bMO_tickOf 97 = .ok (.ifCond .eq 11, 3) := by decide +kernel
theorem dMO_tickOf_100 : decode bMO_tickOf 100 = .ok (.aload_n 0, 1) := by decide +kernel
theorem dMO_tickOf_101 : decode bMO_tickOf 101 = .ok (.getfield 41, 3) := by decide +kernel
theorem dMO_tickOf_104 : decode bMO_tickOf 104 = .ok (.iload_n 2, 1) := by decide +kernel
theorem dMO_tickOf_105 : decode bMO_tickOf 105 = .ok (.bipush 60, 2) := by decide +kernel
theorem dMO_tickOf_107 : decode bMO_tickOf 107 = .ok (.iastore, 1) := by decide +kernel
theorem dMO_tickOf_108 : decode bMO_tickOf 108 = .ok (.aload_n 0, 1) := by decide +kernel
theorem dMO_tickOf_109 : decode bMO_tickOf 109 = .ok (.getfield 50, 3) := by decide +kernel
theorem dMO_tickOf_112 : decode bMO_tickOf 112 = .ok (.iload_n 3, 1) := by decide +kernel
theorem dMO_tickOf_113 : decode bMO_tickOf 113 = .ok (.iaload, 1) := by decide +kernel
theorem dMO_tickOf_114 : decode bMO_tickOf 114 = .ok (.ifCond .ne 22, 3) := by decide +kernel
theorem dMO_tickOf_117 : decode bMO_tickOf 117 = .ok (.aload_n 0, 1) := by decide +kernel
theorem dMO_tickOf_118 : decode bMO_tickOf 118 = .ok (.iload_n 1, 1) := by decide +kernel
theorem dMO_tickOf_119 : decode bMO_tickOf 119 = .ok (.iload_n 2, 1) := by decide +kernel
theorem dMO_tickOf_120 : decode bMO_tickOf 120 = .ok (.bipush 23, 2) := by decide +kernel
theorem dMO_tickOf_122 : decode bMO_tickOf 122 = .ok (.invokevirtual 252, 3) := by decide +kernel
theorem dMO_tickOf_125 : decode bMO_tickOf 125 = .ok (.ifCond .eq 11, 3) := by decide +kernel
theorem dMO_tickOf_128 : decode bMO_tickOf 128 = .ok (.aload_n 0, 1) := by decide +kernel
theorem dMO_tickOf_129 : decode bMO_tickOf 129 = .ok (.iload_n 1, 1) := by decide +kernel
theorem dMO_tickOf_130 : decode bMO_tickOf 130 = .ok (.iload_n 2, 1) := by decide +kernel
theorem dMO_tickOf_131 : decode bMO_tickOf 131 = .ok (.bipush 8, 2) := by decide +kernel
theorem dMO_tickOf_133 : decode bMO_tickOf 133 = .ok (.invokevirtual 202, 3) := by decide +kernel
theorem dMO_tickOf_136 : decode bMO_tickOf 136 = .ok (.aload_n 0, 1) := by decide +kernel
theorem dMO_tickOf_137 : decode bMO_tickOf 137 = .ok (.getfield 53, 3) := by decide +kernel
theorem dMO_tickOf_140 : decode bMO_tickOf 140 = .ok (.iload_n 3, 1) := by decide +kernel
theorem dMO_tickOf_141 : decode bMO_tickOf 141 = .ok (.dup2, 1) := by decide +kernel
theorem dMO_tickOf_142 : decode bMO_tickOf 142 = .ok (.iaload, 1) := by decide +kernel
theorem dMO_tickOf_143 : decode bMO_tickOf 143 = .ok (.iconst 1, 1) := by decide +kernel
theorem dMO_tickOf_144 : decode bMO_tickOf 144 = .ok (.iadd, 1) := by decide +kernel
theorem dMO_tickOf_145 : decode bMO_tickOf 145 = .ok (.iastore, 1) := by decide +kernel
theorem dMO_tickOf_146 : decode bMO_tickOf 146 = .ok (.aload_n 0, 1) := by decide +kernel
theorem dMO_tickOf_147 : decode bMO_tickOf 147 = .ok (.getfield 53, 3) := by decide +kernel
theorem dMO_tickOf_150 : decode bMO_tickOf 150 = .ok (.iload_n 3, 1) := by decide +kernel
theorem dMO_tickOf_151 : decode bMO_tickOf 151 = .ok (.iaload, 1) := by decide +kernel
theorem dMO_tickOf_152 : decode bMO_tickOf 152 = .ok (.iconst 3, 1) := by decide +kernel
theorem dMO_tickOf_153 : decode bMO_tickOf 153 = .ok (.if_icmp .le 15, 3) := by decide +kernel
theorem dMO_tickOf_156 : decode bMO_tickOf 156 = .ok (.aload_n 0, 1) := by decide +kernel
theorem dMO_tickOf_157 : decode bMO_tickOf 157 = .ok (.getfield 53, 3) := by decide +kernel
theorem dMO_tickOf_160 : decode bMO_tickOf 160 = .ok (.iload_n 3, 1) := by decide +kernel
theorem dMO_tickOf_161 : decode bMO_tickOf 161 = .ok (.iaload, 1) := by decide +kernel
theorem dMO_tickOf_162 : decode bMO_tickOf 162 = .ok (.iconst 5, 1) := by decide +kernel
theorem dMO_tickOf_163 : decode bMO_tickOf 163 = .ok (.irem, 1) := by decide +kernel
theorem dMO_tickOf_164 : decode bMO_tickOf 164 = .ok (.iconst 3, 1) := by decide +kernel
theorem dMO_tickOf_165 : decode bMO_tickOf 165 = .ok (.if_icmp .ne 9, 3) := by decide +kernel
theorem dMO_tickOf_168 : decode bMO_tickOf 168 = .ok (.aload_n 0, 1) := by decide +kernel
theorem dMO_tickOf_169 : decode bMO_tickOf 169 = .ok (.iload_n 1, 1) := by decide +kernel
theorem dMO_tickOf_170 : decode bMO_tickOf 170 = .ok (.iload_n 2, 1) := by decide +kernel
theorem dMO_tickOf_171 : decode bMO_tickOf 171 = .ok (.invokevirtual 259, 3) := by decide +kernel
theorem dMO_tickOf_174 : decode bMO_tickOf 174 = .ok (.return_, 1) := by decide +kernel
theorem dMO_turn_0 : decode bMO_turn 0 = .ok (.iconst 0, 1) := by decide +kernel
theorem dMO_turn_1 : decode bMO_turn 1 = .ok (.istore_n 1, 1) := by decide +kernel
theorem dMO_turn_2 : decode bMO_turn 2 = .ok (.iload_n 1, 1) := by decide +kernel
theorem dMO_turn_3 : decode bMO_turn 3 = .ok (.iconst 2, 1) := by decide +kernel
theorem dMO_turn_4 : decode bMO_turn 4 = .ok (.aload_n 0, 1) := by decide +kernel
theorem dMO_turn_5 : decode bMO_turn 5 = .ok (.getfield 132, 3) := by decide +kernel
theorem dMO_turn_8 : decode bMO_turn 8 = .ok (.imul, 1) := by decide +kernel
theorem dMO_turn_9 : decode bMO_turn 9 = .ok (.if_icmp .ge 102, 3) := by decide +kernel
theorem dMO_turn_12 : decode bMO_turn 12 = .ok (.aload_n 0, 1) := by decide +kernel
theorem dMO_turn_13 : decode bMO_turn 13 = .ok (.getfield 95, 3) := by decide +kernel
theorem dMO_turn_16 : decode bMO_turn 16 = .ok (.iload_n 1, 1) := by decide +kernel
theorem dMO_turn_17 : decode bMO_turn 17 = .ok (.aload_n 0, 1) := by decide +kernel
theorem dMO_turn_18 : decode bMO_turn 18 = .ok (.getfield 80, 3) := by decide +kernel
theorem dMO_turn_21 : decode bMO_turn 21 = .ok (.iload_n 1, 1) := by decide +kernel
theorem dMO_turn_22 : decode bMO_turn 22 = .ok (.iaload, 1) := by decide +kernel
theorem dMO_turn_23 : decode bMO_turn 23 = .ok (.iastore, 1) := by decide +kernel
theorem dMO_turn_24 : decode bMO_turn 24 = .ok (.bipush 64, 2) := by decide +kernel
theorem dMO_turn_26 : decode bMO_turn 26 = .ok (.iload_n 1, 1) := by decide +kernel
theorem dMO_turn_27 : decode bMO_turn 27 = .ok (.imul, 1) := by decide +kernel
theorem dMO_turn_28 : decode bMO_turn 28 = .ok (.istore_n 2, 1) := by decide +kernel
theorem dMO_turn_29 : decode bMO_turn 29 = .ok (.iload_n 2, 1) := by decide +kernel
theorem dMO_turn_30 : decode bMO_turn 30 = .ok (.bipush 64, 2) := by decide +kernel
theorem dMO_turn_32 : decode bMO_turn 32 = .ok (.iload_n 1, 1) := by decide +kernel
theorem dMO_turn_33 : decode bMO_turn 33 = .ok (.imul, 1) := by decide +kernel
theorem dMO_turn_34 : decode bMO_turn 34 = .ok (.aload_n 0, 1) := by decide +kernel
theorem dMO_turn_35 : decode bMO_turn 35 = .ok (.getfield 80, 3) := by decide +kernel
theorem dMO_turn_38 : decode bMO_turn 38 = .ok (.iload_n 1, 1) := by decide +kernel
theorem dMO_turn_39 : decode bMO_turn 39 = .ok (.iaload, 1) := by decide +kernel
theorem dMO_turn_40 : decode bMO_turn 40 = .ok (.iadd, 1) := by decide +kernel
theorem dMO_turn_41 : decode bMO_turn 41 = .ok (.if_icmp .ge 57, 3) := by decide +kernel
theorem dMO_turn_44 : decode bMO_turn 44 = .ok (.aload_n 0, 1) := by decide +kernel
theorem dMO_turn_45 : decode bMO_turn 45 = .ok (.getfield 98, 3) := by decide +kernel
theorem dMO_turn_48 : decode bMO_turn 48 = .ok (.iload_n 2, 1) := by decide +kernel
theorem dMO_turn_49 : decode bMO_turn 49 = .ok (.aload_n 0, 1) := by decide +kernel
theorem dMO_turn_50 : decode bMO_turn 50 = .ok (.getfield 83, 3) := by decide +kernel
theorem dMO_turn_53 : decode bMO_turn 53 = .ok (.iload_n 2, 1) := by decide +kernel
theorem dMO_turn_54 : decode bMO_turn 54 = .ok (.iaload, 1) := by decide +kernel
theorem dMO_turn_55 : decode bMO_turn 55 = .ok (.iastore, 1) := by decide +kernel
theorem dMO_turn_56 : decode bMO_turn 56 = .ok (.aload_n 0, 1) := by decide +kernel
theorem dMO_turn_57 : decode bMO_turn 57 = .ok (.getfield 101, 3) := by decide +kernel
theorem dMO_turn_60 : decode bMO_turn 60 = .ok (.iload_n 2, 1) := by decide +kernel
theorem dMO_turn_61 : decode bMO_turn 61 = .ok (.aload_n 0, 1) := by decide +kernel
theorem dMO_turn_62 : decode bMO_turn 62 = .ok (.getfield 86, 3) := by decide +kernel
theorem dMO_turn_65 : decode bMO_turn 65 = .ok (.iload_n 2, 1) := by decide +kernel
theorem dMO_turn_66 : decode bMO_turn 66 = .ok (.iaload, 1) := by decide +kernel
theorem dMO_turn_67 : decode bMO_turn 67 = .ok (.iastore, 1) := by decide +kernel
theorem dMO_turn_68 : decode bMO_turn 68 = .ok (.aload_n 0, 1) := by decide +kernel
theorem dMO_turn_69 : decode bMO_turn 69 = .ok (.getfield 104, 3) := by decide +kernel
theorem dMO_turn_72 : decode bMO_turn 72 = .ok (.iload_n 2, 1) := by decide +kernel
theorem dMO_turn_73 : decode bMO_turn 73 = .ok (.aload_n 0, 1) := by decide +kernel
theorem dMO_turn_74 : decode bMO_turn 74 = .ok (.getfield 89, 3) := by decide +kernel
theorem dMO_turn_77 : decode bMO_turn 77 = .ok (.iload_n 2, 1) := by decide +kernel
theorem dMO_turn_78 : decode bMO_turn 78 = .ok (.iaload, 1) := by decide +kernel
theorem dMO_turn_79 : decode bMO_turn 79 = .ok (.iastore, 1) := by decide +kernel
theorem dMO_turn_80 : decode bMO_turn 80 = .ok (.aload_n 0, 1) := by decide +kernel
theorem dMO_turn_81 : decode bMO_turn 81 = .ok (.getfield 107, 3) := by decide +kernel
theorem dMO_turn_84 : decode bMO_turn 84 = .ok (.iload_n 2, 1) := by decide +kernel
theorem dMO_turn_85 : decode bMO_turn 85 = .ok (.aload_n 0, 1) := by decide +kernel
theorem dMO_turn_86 : decode bMO_turn 86 = .ok (.getfield 92, 3) := by decide +kernel
theorem dMO_turn_89 : decode bMO_turn 89 = .ok (.iload_n 2, 1) := by decide +kernel
theorem dMO_turn_90 : decode bMO_turn 90 = .ok (.iaload, 1) := by decide +kernel
theorem dMO_turn_91 : decode bMO_turn 91 = .ok (.iastore, 1) := by decide +kernel
theorem dMO_turn_92 : decode bMO_turn 92 = .ok (.iinc 2 1, 3) := by decide +kernel
theorem dMO_turn_95 : decode bMO_turn 95 = .ok (.goto (-66), 3) := by decide +kernel
theorem dMO_turn_98 : decode bMO_turn 98 = .ok (.aload_n 0, 1) := by decide +kernel
theorem dMO_turn_99 : decode bMO_turn 99 = .ok (.getfield 80, 3) := by decide +kernel
theorem dMO_turn_102 : decode bMO_turn 102 = .ok (.iload_n 1, 1) := by decide +kernel
theorem dMO_turn_103 : decode bMO_turn 103 = .ok (.iconst 0, 1) := by decide +kernel
theorem dMO_turn_104 : decode bMO_turn 104 = .ok (.iastore, 1) := by decide +kernel
theorem dMO_turn_105 : decode bMO_turn 105 = .ok (.iinc 1 1, 3) := by decide +kernel
theorem dMO_turn_108 : decode bMO_turn 108 = .ok (.goto (-106), 3) := by decide +kernel
theorem dMO_turn_111 : decode bMO_turn 111 = .ok (.return_, 1) := by decide +kernel
noncomputable def fMO_at (P S : ZS) (x0 : Int32) (x1 : Int32) : Int32 := zl (6 * x0) (fun k1 => zl (k1 + x1) (fun k2 => k2))
set_option maxHeartbeats 4000000 in
set_option maxRecDepth 100000 in
theorem tMO_at (l : Launch) (dC : Nat → ClassId) (dI : Nat → Nat → Nat) (cI cZ cJ cA : ClassId) (a0 : Array Value) (s0 : State) (o b : Nat → Nat) (P S : ZS) (sz : Nat) (x0 : Int32) (x1 : Int32) (gP : mok P) (gS : mok S) (r_x0 : zr 0 47 x0) (r_x1 : zr 0 5 x1) : Met l yMO_at [Cond.code yMO_at bMO_at 2 (some .int)] ({ frames := 0, cells := 0, slots := 0, locals := 0 } : Room) (zP zCl dC dI (zTZ cI cZ cJ cA) a0 s0 [.int x0, .int x1] sz (MW cI cZ cA o b P S)) (zQp (fun r => r = fMO_at P S x0 x1 ∧ zr 0 287 r) sz) 0 0 (zN sz) := by
  refine Met.ofW (cc := bMO_at) (maxL := 2) (ret := (some .int)) (by decide) rfl ?_
  intro p e s m args below meth c s₁ B hml hv
  obtain ⟨rfl, hsz, hP, hK, hD0, hB⟩ := hv
  have hx := B.exec
  have hb := B.bytes
  have hr := B.returns
  have hown : s.vm.findClass "RingGuardModel" = some m.cls := findClass_of_methodNamed B.named
  have hlocks := B.notSynchronized
  subst hsz
  have hD := hD0
  have hA0 : ∀ q, zN s.heap.size q → s0.heap.size ≤ q := zA1 hB
  have hAD : ∀ q, zN s0.heap.size q → s0.heap.size ≤ q := fun _ h => h
  have hA : ∀ q : Nat, s.heap.size ≤ q → zN s.heap.size q := fun _ h => h
  have hS : va_S (zN s.heap.size) s.heap s.heap [] := va_S.rf
  have hl := lv_entry ([.int x0, .int x1]) (n := 2) (Nat.le_of_ble_eq_true rfl)
  rw [lg_entry_eq]
  generalize (lg_sl ([.int x0, .int x1]) ++ List.replicate (2 - (lg_sl ([.int x0, .int x1])).length) Slot.unset).toArray = ls at hl ⊢
  have hl : lv_has ls 2 [(0, .int x0), (1, .int x1)] := hl
  refine zgenQ (fun Q hQe => ?_)
  obtain ⟨tg, etg⟩ : ∃ z, z = fMO_at P S x0 x1 := ⟨_, rfl⟩
  have E := etg
  unfold fMO_at at E
  refine lv_bipush (v := 6) hx hb dMO_at_0 (by decide) ?_
  refine lv_iload_n hx hb dMO_at_2 rfl (lv_at hl 0 rfl) ?_
  refine z_imul hx hb dMO_at_3 E (fun k1 ek1 E => ?_)
  have r_k1 : zr 0 282 k1 := zr_mul (show zr 6 6 6 from by decide) r_x0 ek1 (by decide)
  refine lv_iload_n hx hb dMO_at_4 rfl (lv_at hl 1 rfl) ?_
  refine z_iadd hx hb dMO_at_5 E (fun k2 ek2 E => ?_)
  have r_k2 : zr 0 287 k2 := zr_add r_k1 r_x1 ek2 (by decide)
  rw [hQe]
  exact W.iret (v := k2) hx hb hr (fun t ht hW => ⟨⟨k2, (), rfl, ⟨E.symm.trans etg, r_k2⟩, trivial⟩, hS.F ht⟩) hS.2.2 dMO_at_6
noncomputable def fMO_end_18 (P : ZS) (S : ZS) (y18_0 : Int32) (y18_1 : Int32) : Int32 := zl (y18_1 + y18_0) (fun k1 => k1)
noncomputable def fMO_end (P S : ZS) (x0 : Int32) (x1 : Int32) : Int32 := zl (2 * x1) (fun k2 => zl (P.F 0 (x1 : Int32).toNatClampNeg) (fun k3 => (if k3 = x0 then fMO_end_18 P S 0 k2 else fMO_end_18 P S 1 k2)))
set_option maxHeartbeats 4000000 in
set_option maxRecDepth 100000 in
theorem tMO_end (l : Launch) (dC : Nat → ClassId) (dI : Nat → Nat → Nat) (cI cZ cJ cA : ClassId) (a0 : Array Value) (s0 : State) (o b : Nat → Nat) (P S : ZS) (sz : Nat) (x0 : Int32) (x1 : Int32) (gP : mok P) (gS : mok S) (r_x1 : zr 0 59 x1) : Met l yMO_end [Cond.code yMO_end bMO_end 3 (some .int)] ({ frames := 0, cells := 0, slots := 0, locals := 0 } : Room) (zP zCl dC dI (zTZ cI cZ cJ cA) a0 s0 [.ref (o 0), .int x0, .int x1] sz (MW cI cZ cA o b P S)) (zQp (fun r => r = fMO_end P S x0 x1 ∧ zr 0 119 r) sz) 0 0 (zN sz) := by
  refine Met.ofW (cc := bMO_end) (maxL := 3) (ret := (some .int)) (by decide) rfl ?_
  intro p e s m args below meth c s₁ B hml hv
  obtain ⟨rfl, hsz, hP, hK, hD0, hB⟩ := hv
  have hx := B.exec
  have hb := B.bytes
  have hr := B.returns
  have hown : s.vm.findClass "RingGuardModel" = some m.cls := findClass_of_methodNamed B.named
  have hlocks := B.notSynchronized
  subst hsz
  have hD := hD0
  have hA0 : ∀ q, zN s.heap.size q → s0.heap.size ≤ q := zA1 hB
  have hAD : ∀ q, zN s0.heap.size q → s0.heap.size ≤ q := fun _ h => h
  have hA : ∀ q : Nat, s.heap.size ≤ q → zN s.heap.size q := fun _ h => h
  have hS : va_S (zN s.heap.size) s.heap s.heap [] := va_S.rf
  have hl := lv_entry ([.ref (o 0), .int x0, .int x1]) (n := 3) (Nat.le_of_ble_eq_true rfl)
  rw [lg_entry_eq]
  generalize (lg_sl ([.ref (o 0), .int x0, .int x1]) ++ List.replicate (3 - (lg_sl ([.ref (o 0), .int x0, .int x1])).length) Slot.unset).toArray = ls at hl ⊢
  have hl : lv_has ls 3 [(0, .ref (o 0)), (1, .int x0), (2, .int x1)] := hl
  refine zgenQ (fun Q hQe => ?_)
  obtain ⟨tg, etg⟩ : ∃ z, z = fMO_end P S x0 x1 := ⟨_, rfl⟩
  have E := etg
  unfold fMO_end at E
  have hJ18 : ∀ (H : Heap) (locs : List Loc) (ls : Array Slot) (y18_0 : Int32) (y18_1 : Int32), zr 0 1 y18_0 → zr 0 118 y18_1 → tg = fMO_end_18 P S y18_0 y18_1 → va_P (dC, dI) zCl (MW cI cZ cA o b P S) H → va_S (zN s.heap.size) s.heap H locs → lv_has ls 3 [] → W p l e ({ frames := 0, cells := 0, slots := 0, locals := 0 } : Room) s m ([.ref (o 0), .int x0, .int x1] : List Value).toArray below meth c H locs 0 0 Q (F0 m 18 ls [.int y18_0, .int y18_1]) := by
    intro H locs ls y18_0 y18_1 r_y18_0 r_y18_1 E hP hS hl
    unfold fMO_end_18 at E
    refine z_iadd hx hb dMO_end_18 E (fun k1 ek1 E => ?_)
    have r_k1 : zr 0 119 k1 := zr_add r_y18_1 r_y18_0 ek1 (by decide)
    rw [hQe]
    exact W.iret (v := k1) hx hb hr (fun t ht hW => ⟨⟨k1, (), rfl, ⟨E.symm.trans etg, r_k1⟩, trivial⟩, hS.F ht⟩) hS.2.2 dMO_end_19
  refine lv_iconst (v := 2) hx hb dMO_end_0 (by decide) ?_
  refine lv_iload_n hx hb dMO_end_1 rfl (lv_at hl 2 rfl) ?_
  refine z_imul hx hb dMO_end_2 E (fun k2 ek2 E => ?_)
  have r_k2 : zr 0 118 k2 := zr_mul (show zr 2 2 2 from by decide) r_x1 ek2 (by decide)
  refine lv_aload_n hx hb dMO_end_3 rfl (lv_at hl 0 rfl) ?_
  refine m_getA_0 hx hb (hB.words zU_MO) hown hK hP (hB.word (zm4 k4_118) rfl) dMO_end_4 ?_
  refine lv_iload_n hx hb dMO_end_7 rfl (lv_at hl 2 rfl) ?_
  refine m_aldP hx hb hK hP 0 (by decide) rfl r_x1 (by decide) dMO_end_8 E (fun k3 ek3 E => ?_)
  have r_k3 : zr 0 47 k3 := by rw [ek3]; exact gP.1 0 _
  refine lv_iload_n hx hb dMO_end_9 rfl (lv_at hl 1 rfl) ?_
  refine z_icmp_ne (tgt := 17) hx hb dMO_end_10 (by decide) E (fun c_10 E => ?_) (fun c_10 E => ?_)
  · refine lv_iconst (v := 1) hx hb dMO_end_17 (by decide) ?_
    exact hJ18 s.heap [] ls 1 k2 (show zr 0 1 1 from by decide) r_k2 E hP hS (lv_sub hl [] rfl)
  · have r_x0 : zr 0 47 x0 := zeq_x r_k3 c_10.symm
    refine lv_iconst (v := 0) hx hb dMO_end_13 (by decide) ?_
    refine lv_goto (tgt := 18) hx hb dMO_end_14 (by decide) ?_
    exact hJ18 s.heap [] ls 0 k2 (show zr 0 1 0 from by decide) r_k2 E hP hS (lv_sub hl [] rfl)
noncomputable def fMO_change (P S : ZS) (x0 : Int32) (x1 : Int32) (x2 : Int32) : ZS := zl (fMO_end P S x0 x1) (fun k2 => zl (S.F 10 (k2 : Int32).toNatClampNeg) (fun k3 => (if k3 = x2 then S else zl (fMO_end P S x0 x1) (fun k5 => zl (S.setF 10 (k5 : Int32).toNatClampNeg x2) (fun S6 => zl (P.F 2 (x1 : Int32).toNatClampNeg) (fun k8 => zl (fMO_at P S6 x0 k8) (fun k10 => zl (S6.setF 14 (k10 : Int32).toNatClampNeg 0) (fun S11 => S11))))))))
set_option maxHeartbeats 4000000 in
set_option maxRecDepth 100000 in
theorem tMO_change (l : Launch) (dC : Nat → ClassId) (dI : Nat → Nat → Nat) (cI cZ cJ cA : ClassId) (a0 : Array Value) (s0 : State) (o b : Nat → Nat) (P S : ZS) (sz : Nat) (x0 : Int32) (x1 : Int32) (x2 : Int32) (gP : mok P) (gS : mok S) (r_x0 : zr 0 47 x0) (r_x1 : zr 0 59 x1) : Met l yMO_change [Cond.code yMO_change bMO_change 4 none] ({ frames := 1, cells := 0, slots := 0, locals := 22 } : Room) (zP zCl dC dI (zTZ cI cZ cJ cA) a0 s0 [.ref (o 0), .int x0, .int x1, .int x2] sz (MW cI cZ cA o b P S)) (zQG zCl dC dI (fun (x9 : ZS) => x9 = fMO_change P S x0 x1 x2 ∧ mok x9) (fun x9 : ZS => (MW cI cZ cA o b P x9)) (va_A (MW cI cZ cA o b P S) sz)) 0 0 (va_A (MW cI cZ cA o b P S) sz) := by
  refine Met.ofW (cc := bMO_change) (maxL := 4) (ret := none) (by decide) rfl ?_
  intro p e s m args below meth c s₁ B hml hv
  obtain ⟨rfl, hsz, hP, hK, hD0, hB⟩ := hv
  have hx := B.exec
  have hb := B.bytes
  have hr := B.returns
  have hown : s.vm.findClass "RingGuardModel" = some m.cls := findClass_of_methodNamed B.named
  have hlocks := B.notSynchronized
  subst hsz
  have hD := hD0.self (sz := s.heap.size)
  have hA0 := zA0 hD0 hB
  generalize hAe : va_A (MW cI cZ cA o b P S) s.heap.size = A at hD hA0 ⊢
  have hAD := hA0
  have hA : ∀ q : Nat, s.heap.size ≤ q → A q := fun q h => by rw [← hAe]; exact Or.inr h
  have hS : va_S A s.heap s.heap [] := va_S.rf
  have hl := lv_entry ([.ref (o 0), .int x0, .int x1, .int x2]) (n := 4) (Nat.le_of_ble_eq_true rfl)
  rw [lg_entry_eq]
  generalize (lg_sl ([.ref (o 0), .int x0, .int x1, .int x2]) ++ List.replicate (4 - (lg_sl ([.ref (o 0), .int x0, .int x1, .int x2])).length) Slot.unset).toArray = ls at hl ⊢
  have hl : lv_has ls 4 [(0, .ref (o 0)), (1, .int x0), (2, .int x1), (3, .int x2)] := hl
  refine zgenQ (fun Q hQe => ?_)
  obtain ⟨tg, etg⟩ : ∃ z, z = fMO_change P S x0 x1 x2 := ⟨_, rfl⟩
  have E := etg
  unfold fMO_change at E
  refine lv_aload_n hx hb dMO_change_0 rfl (lv_at hl 0 rfl) ?_
  refine m_getA_10 hx hb (hB.words zU_MO) hown hK hP (hB.word (zm4 k4_124) rfl) dMO_change_1 ?_
  refine lv_aload_n hx hb dMO_change_4 rfl (lv_at hl 0 rfl) ?_
  refine lv_iload_n hx hb dMO_change_5 rfl (lv_at hl 1 rfl) ?_
  refine lv_iload_n hx hb dMO_change_6 rfl (lv_at hl 2 rfl) ?_
  refine zcallp (va_runV (As := [.int x0, .int x1]) (rest := [.ref (b 10)]) ⟨hx, hb, hml, hown, zno⟩ (tMO_end l dC dI cI cZ cJ cA a0 s0 o b P S s.heap.size x0 x1 gP gS r_x1) (zcw 2 (hB.word (zm5 k5_112) rfl) (hB.word (zm1 k1_9) rfl) (hB.word (zm5 k5_109) rfl) (hB.word (zm5 k5_111) rfl) (k2_selects_private (by decide) (hB.word (zm4 k4_109) rfl) (hB.word (zm5 k5_110) rfl) (hB.word (zm5 k5_111) rfl)) rfl rfl (by decide +kernel) ⟨Nat.le_of_ble_eq_true rfl, Nat.le_of_ble_eq_true rfl⟩) ⟨zP_blind, va_recv hK hP (ci := 7) (q0 := 0) rfl rfl, zP_pre hP hK hD hAD (zB_on hB hA0 hS)⟩ rfl rfl hl.1 rfl (lv_room (Nat.le_of_ble_eq_true rfl)) dMO_change_7 ⟨Nat.le_of_ble_eq_true rfl, Nat.le_of_ble_eq_true rfl⟩) hS hA (fun k2 H1 locs hk2 hz1 hk1 hS => ?_)
  have hP := zKeep hP hk1
  have E := zl_s E hk2.1
  refine m_aldS hx hb hK hP 10 (by decide) rfl hk2.2 (by decide) dMO_change_10 E (fun k3 ek3 E => ?_)
  refine lv_iload_n hx hb dMO_change_11 rfl (lv_at hl 3 rfl) ?_
  refine z_icmp_eq (tgt := 43) hx hb dMO_change_12 (by decide) E (fun c_12 E => ?_) (fun c_12 E => ?_)
  · rw [hQe]
    exact W.vret hx hb hr (fun t ht hW => ⟨⟨S, rfl, ⟨E.symm.trans etg, gS⟩, by rw [ht]; exact hP, hD⟩, hS.F ht⟩) hS.2.2 dMO_change_43
  · refine lv_aload_n hx hb dMO_change_15 rfl (lv_at hl 0 rfl) ?_
    refine m_getA_10 hx hb (hB.words zU_MO) hown hK hP (hB.word (zm4 k4_124) rfl) dMO_change_16 ?_
    refine lv_aload_n hx hb dMO_change_19 rfl (lv_at hl 0 rfl) ?_
    refine lv_iload_n hx hb dMO_change_20 rfl (lv_at hl 1 rfl) ?_
    refine lv_iload_n hx hb dMO_change_21 rfl (lv_at hl 2 rfl) ?_
    refine zcallp (va_runV (As := [.int x0, .int x1]) (rest := [.ref (b 10)]) ⟨hx, hb, hml, hown, zno⟩ (tMO_end l dC dI cI cZ cJ cA a0 s0 o b P S H1.size x0 x1 gP gS r_x1) (zcw 2 (hB.word (zm5 k5_112) rfl) (hB.word (zm1 k1_9) rfl) (hB.word (zm5 k5_109) rfl) (hB.word (zm5 k5_111) rfl) (k2_selects_private (by decide) (hB.word (zm4 k4_109) rfl) (hB.word (zm5 k5_110) rfl) (hB.word (zm5 k5_111) rfl)) rfl rfl (by decide +kernel) ⟨Nat.le_of_ble_eq_true rfl, Nat.le_of_ble_eq_true rfl⟩) ⟨zP_blind, va_recv hK hP (ci := 7) (q0 := 0) rfl rfl, zP_pre hP hK hD hAD (zB_on hB hA0 hS)⟩ rfl rfl hl.1 rfl (lv_room (Nat.le_of_ble_eq_true rfl)) dMO_change_22 ⟨Nat.le_of_ble_eq_true rfl, Nat.le_of_ble_eq_true rfl⟩) hS hA (fun k5 H4 locs hk5 hz1 hk1 hS => ?_)
    have hP := zKeep hP hk1
    have E := zl_s E hk5.1
    refine lv_iload_n hx hb dMO_change_25 rfl (lv_at hl 3 rfl) ?_
    refine m_astS hx hb hK hP hD hS 10 (by decide) rfl hk5.2 (by decide) dMO_change_26 E (fun S6 H7 locs eS6 E hP hD hS => ?_)
    have gS6 : mok S6 := by rw [eS6]; exact gS.setF (k := 10) (zr_any x2) (Or.inl (by decide))
    refine lv_aload_n hx hb dMO_change_27 rfl (lv_at hl 0 rfl) ?_
    refine m_getA_14 hx hb (hB.words zU_MO) hown hK hP (hB.word (zm4 k4_132) rfl) dMO_change_28 ?_
    refine lv_iload_n hx hb dMO_change_31 rfl (lv_at hl 1 rfl) ?_
    refine lv_aload_n hx hb dMO_change_32 rfl (lv_at hl 0 rfl) ?_
    refine m_getA_2 hx hb (hB.words zU_MO) hown hK hP (hB.word (zm4 k4_120) rfl) dMO_change_33 ?_
    refine lv_iload_n hx hb dMO_change_36 rfl (lv_at hl 2 rfl) ?_
    refine m_aldP hx hb hK hP 2 (by decide) rfl r_x1 (by decide) dMO_change_37 E (fun k8 ek8 E => ?_)
    have r_k8 : zr 0 5 k8 := by rw [ek8]; exact gP.1 2 _
    refine zcallp (va_runS (As := [.int x0, .int k8]) (rest := [.ref (b 14)]) ⟨hx, hb, hml, hown, zno⟩ (tMO_at l dC dI cI cZ cJ cA a0 s0 o b P S6 H7.size x0 k8 gP gS6 r_x0 r_k8) ⟨zcb 2 (hB.word (zm5 k5_119) rfl) (hB.word (zm1 k1_9) rfl) (hB.word (zm5 k5_117) rfl) rfl rfl (by decide +kernel) ⟨Nat.le_of_ble_eq_true rfl, Nat.le_of_ble_eq_true rfl⟩, hB.word (zm5 k5_118) rfl⟩ ⟨zP_blind, zP_pre hP hK hD hAD (zB_on hB hA0 hS)⟩ rfl rfl hl.1 rfl (lv_room (Nat.le_of_ble_eq_true rfl)) dMO_change_38 ⟨Nat.le_of_ble_eq_true rfl, Nat.le_of_ble_eq_true rfl⟩) hS hA (fun k10 H9 locs hk10 hz1 hk1 hS => ?_)
    have hP := zKeep hP hk1
    have E := zl_s E hk10.1
    refine lv_iconst (v := 0) hx hb dMO_change_41 (by decide) ?_
    refine m_astS hx hb hK hP hD hS 14 (by decide) rfl hk10.2 (by decide) dMO_change_42 E (fun S11 H12 locs eS11 E hP hD hS => ?_)
    have gS11 : mok S11 := by rw [eS11]; exact gS6.setF (k := 14) (show zr (-2147483648) 2147483647 0 from by decide) (Or.inl (by decide))
    rw [hQe]
    exact W.vret hx hb hr (fun t ht hW => ⟨⟨S11, rfl, ⟨E.symm.trans etg, gS11⟩, by rw [ht]; exact hP, hD⟩, hS.F ht⟩) hS.2.2 dMO_change_43
noncomputable def fMO_endAll_55 (P : ZS) (rc3 : ZS → Int32 → Int32 → Int32 → Int32 → (ZS)) (S_55 : ZS) (x55_1 : Int32) (x55_2 : Int32) (x55_3 : Int32) (x55_4 : Int32) : ZS := zl (x55_4 + 1) (fun k1 => rc3 S_55 x55_1 x55_2 x55_3 k1)
noncomputable def fMO_endAll_3 (P : ZS) (rc3 : ZS → Int32 → Int32 → Int32 → Int32 → (ZS)) (S_3 : ZS) (x3_1 : Int32) (x3_2 : Int32) (x3_3 : Int32) (x3_4 : Int32) : ZS := (if 2 ≤ x3_4 then S_3 else zl (fMO_at P S_3 x3_1 x3_2) (fun k3 => zl (2 * k3) (fun k4 => zl (k4 + x3_4) (fun k5 => zl (P.F 6 (k5 : Int32).toNatClampNeg) (fun k6 => (if k6 = (-1) then fMO_endAll_55 P rc3 S_3 x3_1 x3_2 x3_3 x3_4 else zl (fMO_end P S_3 x3_1 k6) (fun k8 => zl (S_3.F 10 (k8 : Int32).toNatClampNeg) (fun k9 => zl (x3_3 ^^^ (-1)) (fun k10 => zl (k9 &&& k10) (fun k11 => zl (fMO_change P S_3 x3_1 k6 k11) (fun S13 => fMO_endAll_55 P rc3 S13 x3_1 x3_2 x3_3 x3_4)))))))))))
noncomputable def fMO_endAll (P S : ZS) (x0 : Int32) (x1 : Int32) (x2 : Int32) : ZS := zfix (fun S9 _ _ _ _ => S9) (fMO_endAll_3 P) 3 S x0 x1 x2 0
set_option maxHeartbeats 4000000 in
set_option maxRecDepth 100000 in
theorem tMO_endAll (l : Launch) (dC : Nat → ClassId) (dI : Nat → Nat → Nat) (cI cZ cJ cA : ClassId) (a0 : Array Value) (s0 : State) (o b : Nat → Nat) (P S : ZS) (sz : Nat) (x0 : Int32) (x1 : Int32) (x2 : Int32) (gP : mok P) (gS : mok S) (r_x0 : zr 0 47 x0) (r_x1 : zr 0 5 x1) : Met l yMO_endAll [Cond.code yMO_endAll bMO_endAll 6 none] ({ frames := 2, cells := 0, slots := 0, locals := 45 } : Room) (zP zCl dC dI (zTZ cI cZ cJ cA) a0 s0 [.ref (o 0), .int x0, .int x1, .int x2] sz (MW cI cZ cA o b P S)) (zQG zCl dC dI (fun (x9 : ZS) => x9 = fMO_endAll P S x0 x1 x2 ∧ mok x9) (fun x9 : ZS => (MW cI cZ cA o b P x9)) (va_A (MW cI cZ cA o b P S) sz)) 0 0 (va_A (MW cI cZ cA o b P S) sz) := by
  refine Met.ofW (cc := bMO_endAll) (maxL := 6) (ret := none) (by decide) rfl ?_
  intro p e s m args below meth c s₁ B hml hv
  obtain ⟨rfl, hsz, hP, hK, hD0, hB⟩ := hv
  have hx := B.exec
  have hb := B.bytes
  have hr := B.returns
  have hown : s.vm.findClass "RingGuardModel" = some m.cls := findClass_of_methodNamed B.named
  have hlocks := B.notSynchronized
  subst hsz
  have hD := hD0.self (sz := s.heap.size)
  have hA0 := zA0 hD0 hB
  generalize hAe : va_A (MW cI cZ cA o b P S) s.heap.size = A at hD hA0 ⊢
  have hAD := hA0
  have hA : ∀ q : Nat, s.heap.size ≤ q → A q := fun q h => by rw [← hAe]; exact Or.inr h
  have hS : va_S A s.heap s.heap [] := va_S.rf
  have hl := lv_entry ([.ref (o 0), .int x0, .int x1, .int x2]) (n := 6) (Nat.le_of_ble_eq_true rfl)
  rw [lg_entry_eq]
  generalize (lg_sl ([.ref (o 0), .int x0, .int x1, .int x2]) ++ List.replicate (6 - (lg_sl ([.ref (o 0), .int x0, .int x1, .int x2])).length) Slot.unset).toArray = ls at hl ⊢
  have hl : lv_has ls 6 [(0, .ref (o 0)), (1, .int x0), (2, .int x1), (3, .int x2)] := hl
  refine zgenQ (fun Q hQe => ?_)
  obtain ⟨tg, etg⟩ : ∃ z, z = fMO_endAll P S x0 x1 x2 := ⟨_, rfl⟩
  have E := etg
  unfold fMO_endAll at E
  have hL3 : ∀ (n3 : Nat) (H : Heap) (locs : List Loc) (ls : Array Slot) (S_3 : ZS) (x3_1 : Int32) (x3_2 : Int32) (x3_3 : Int32) (x3_4 : Int32), zr 0 47 x3_1 → zr 0 5 x3_2 → zr 0 2 x3_4 → mok S_3 → 2 + 1 - x3_4.toInt ≤ (n3 : Int) → tg = zfix (fun S9 _ _ _ _ => S9) (fMO_endAll_3 P) n3 S_3 x3_1 x3_2 x3_3 x3_4 → va_P (dC, dI) zCl (MW cI cZ cA o b P S_3) H → va_D A (MW cI cZ cA o b P S_3) → va_S A s.heap H locs → lv_has ls 6 [(0, .ref (o 0)), (1, .int x3_1), (2, .int x3_2), (3, .int x3_3), (4, .int x3_4)] → W p l e ({ frames := 2, cells := 0, slots := 0, locals := 45 } : Room) s m ([.ref (o 0), .int x0, .int x1, .int x2] : List Value).toArray below meth c H locs 0 0 Q (F0 m 3 ls []) := by
    intro n3
    induction n3 with
    | zero => intro H locs ls S_3 x3_1 x3_2 x3_3 x3_4 r_x3_1 r_x3_2 r_x3_4 gS_3 hm3 E hP hD hS hl; exact absurd hm3 (zfuel0U r_x3_4)
    | succ n3 ih3 =>
      intro H locs ls S_3 x3_1 x3_2 x3_3 x3_4 r_x3_1 r_x3_2 r_x3_4 gS_3 hm3 E hP hD hS hl
      rw [zfix_s] at E
      generalize zfix (fun S9 _ _ _ _ => S9) (fMO_endAll_3 P) n3 = rc3 at ih3 E
      unfold fMO_endAll_3 at E
      have hJ55 : ∀ (H : Heap) (locs : List Loc) (ls : Array Slot) (S_55 : ZS) (x55_1 : Int32) (x55_2 : Int32) (x55_3 : Int32) (x55_4 : Int32), zr 0 47 x55_1 → zr 0 5 x55_2 → zr 0 1 x55_4 → mok S_55 → 2 + 1 - x55_4.toInt ≤ ((n3 + 1 : Nat) : Int) → tg = fMO_endAll_55 P rc3 S_55 x55_1 x55_2 x55_3 x55_4 → va_P (dC, dI) zCl (MW cI cZ cA o b P S_55) H → va_D A (MW cI cZ cA o b P S_55) → va_S A s.heap H locs → lv_has ls 6 [(0, .ref (o 0)), (1, .int x55_1), (2, .int x55_2), (3, .int x55_3), (4, .int x55_4)] → W p l e ({ frames := 2, cells := 0, slots := 0, locals := 45 } : Room) s m ([.ref (o 0), .int x0, .int x1, .int x2] : List Value).toArray below meth c H locs 0 0 Q (F0 m 55 ls []) := by
        intro H locs ls S_55 x55_1 x55_2 x55_3 x55_4 r_x55_1 r_x55_2 r_x55_4 gS_55 hm3_55 E hP hD hS hl
        unfold fMO_endAll_55 at E
        refine z_iinc (lv' := fun v9 => [(4, .int v9), (0, .ref (o 0)), (1, .int x55_1), (2, .int x55_2), (3, .int x55_3)]) (cst := 1) hx hb dMO_endAll_55 hl (k := 4) rfl (by decide) (by decide) (fun _ => rfl) E (fun k1 ls ek1 E hl => ?_)
        have r_k1 : zr 1 2 k1 := zr_add r_x55_4 (show zr 1 1 1 from by decide) ek1 (by decide)
        refine lv_goto (tgt := 3) hx hb dMO_endAll_58 (by decide) ?_
        exact ih3 H locs ls S_55 x55_1 x55_2 x55_3 k1 r_x55_1 r_x55_2 (zr_mono r_k1 (by decide)) gS_55 (zstepU ek1 r_x55_4 (by decide) hm3_55) E hP hD hS (lv_sub hl [1, 2, 3, 4, 0] rfl)
      refine lv_iload hx hb dMO_endAll_3 (lv_at hl 4 rfl) ?_
      refine lv_iconst (v := 2) hx hb dMO_endAll_5 (by decide) ?_
      refine z_icmp_ge (tgt := 61) hx hb dMO_endAll_6 (by decide) E (fun c_6 E => ?_) (fun c_6 E => ?_)
      · have r_x3_4 : zr 2 2 x3_4 := zle_y (show zr 2 2 2 from by decide) r_x3_4 c_6 (by decide)
        rw [hQe]
        exact W.vret hx hb hr (fun t ht hW => ⟨⟨S_3, rfl, ⟨E.symm.trans etg, gS_3⟩, by rw [ht]; exact hP, hD⟩, hS.F ht⟩) hS.2.2 dMO_endAll_61
      · have r_x3_4 : zr 0 1 x3_4 := zlt_x r_x3_4 (show zr 2 2 2 from by decide) (znle c_6) (by decide)
        refine lv_aload_n hx hb dMO_endAll_9 rfl (lv_at hl 0 rfl) ?_
        refine m_getA_6 hx hb (hB.words zU_MO) hown hK hP (hB.word (zm4 k4_130) rfl) dMO_endAll_10 ?_
        refine lv_iconst (v := 2) hx hb dMO_endAll_13 (by decide) ?_
        refine lv_iload_n hx hb dMO_endAll_14 rfl (lv_at hl 1 rfl) ?_
        refine lv_iload_n hx hb dMO_endAll_15 rfl (lv_at hl 2 rfl) ?_
        refine zcallp (va_runS (As := [.int x3_1, .int x3_2]) (rest := [.int 2, .ref (b 6)]) ⟨hx, hb, hml, hown, zno⟩ (tMO_at l dC dI cI cZ cJ cA a0 s0 o b P S_3 H.size x3_1 x3_2 gP gS_3 r_x3_1 r_x3_2) ⟨zcb 2 (hB.word (zm5 k5_119) rfl) (hB.word (zm1 k1_9) rfl) (hB.word (zm5 k5_117) rfl) rfl rfl (by decide +kernel) ⟨Nat.le_of_ble_eq_true rfl, Nat.le_of_ble_eq_true rfl⟩, hB.word (zm5 k5_118) rfl⟩ ⟨zP_blind, zP_pre hP hK hD hAD (zB_on hB hA0 hS)⟩ rfl rfl hl.1 rfl (lv_room (Nat.le_of_ble_eq_true rfl)) dMO_endAll_16 ⟨Nat.le_of_ble_eq_true rfl, Nat.le_of_ble_eq_true rfl⟩) hS hA (fun k3 H2 locs hk3 hz1 hk1 hS => ?_)
        have hP := zKeep hP hk1
        have E := zl_s E hk3.1
        refine z_imul hx hb dMO_endAll_19 E (fun k4 ek4 E => ?_)
        have r_k4 : zr 0 574 k4 := zr_mul (show zr 2 2 2 from by decide) hk3.2 ek4 (by decide)
        refine lv_iload hx hb dMO_endAll_20 (lv_at hl 4 rfl) ?_
        refine z_iadd hx hb dMO_endAll_22 E (fun k5 ek5 E => ?_)
        have r_k5 : zr 0 575 k5 := zr_add r_k4 r_x3_4 ek5 (by decide)
        refine m_aldP hx hb hK hP 6 (by decide) rfl r_k5 (by decide) dMO_endAll_23 E (fun k6 ek6 E => ?_)
        have r_k6 : zr (-1) 59 k6 := by rw [ek6]; exact gP.1 6 _
        refine lv_istore (lv' := [(5, .int k6), (0, .ref (o 0)), (1, .int x3_1), (2, .int x3_2), (3, .int x3_3), (4, .int x3_4)]) hx hb dMO_endAll_24 hl (by decide) rfl (fun ls hl => ?_)
        refine lv_iload hx hb dMO_endAll_26 (lv_at hl 0 rfl) ?_
        refine lv_iconst (v := (-1)) hx hb dMO_endAll_28 (by decide) ?_
        refine z_icmp_eq (tgt := 55) hx hb dMO_endAll_29 (by decide) E (fun c_29 E => ?_) (fun c_29 E => ?_)
        · have r_k6 : zr (-1) (-1) k6 := zeq_x (show zr (-1) (-1) (-1) from by decide) c_29
          exact hJ55 H2 locs ls S_3 x3_1 x3_2 x3_3 x3_4 r_x3_1 r_x3_2 r_x3_4 gS_3 hm3 E hP hD hS (lv_sub hl [1, 2, 3, 4, 5] rfl)
        · have r_k6 : zr 0 59 k6 := zne_lo r_k6 c_29 (by decide)
          refine lv_aload_n hx hb dMO_endAll_32 rfl (lv_at hl 1 rfl) ?_
          refine lv_iload_n hx hb dMO_endAll_33 rfl (lv_at hl 2 rfl) ?_
          refine lv_iload hx hb dMO_endAll_34 (lv_at hl 0 rfl) ?_
          refine lv_aload_n hx hb dMO_endAll_36 rfl (lv_at hl 1 rfl) ?_
          refine m_getA_10 hx hb (hB.words zU_MO) hown hK hP (hB.word (zm4 k4_124) rfl) dMO_endAll_37 ?_
          refine lv_aload_n hx hb dMO_endAll_40 rfl (lv_at hl 1 rfl) ?_
          refine lv_iload_n hx hb dMO_endAll_41 rfl (lv_at hl 2 rfl) ?_
          refine lv_iload hx hb dMO_endAll_42 (lv_at hl 0 rfl) ?_
          refine zcallp (va_runV (As := [.int x3_1, .int k6]) (rest := [.ref (b 10), .int k6, .int x3_1, .ref (o 0)]) ⟨hx, hb, hml, hown, zno⟩ (tMO_end l dC dI cI cZ cJ cA a0 s0 o b P S_3 H2.size x3_1 k6 gP gS_3 r_k6) (zcw 2 (hB.word (zm5 k5_112) rfl) (hB.word (zm1 k1_9) rfl) (hB.word (zm5 k5_109) rfl) (hB.word (zm5 k5_111) rfl) (k2_selects_private (by decide) (hB.word (zm4 k4_109) rfl) (hB.word (zm5 k5_110) rfl) (hB.word (zm5 k5_111) rfl)) rfl rfl (by decide +kernel) ⟨Nat.le_of_ble_eq_true rfl, Nat.le_of_ble_eq_true rfl⟩) ⟨zP_blind, va_recv hK hP (ci := 7) (q0 := 0) rfl rfl, zP_pre hP hK hD hAD (zB_on hB hA0 hS)⟩ rfl rfl hl.1 rfl (lv_room (Nat.le_of_ble_eq_true rfl)) dMO_endAll_44 ⟨Nat.le_of_ble_eq_true rfl, Nat.le_of_ble_eq_true rfl⟩) hS hA (fun k8 H7 locs hk8 hz1 hk1 hS => ?_)
          have hP := zKeep hP hk1
          have E := zl_s E hk8.1
          refine m_aldS hx hb hK hP 10 (by decide) rfl hk8.2 (by decide) dMO_endAll_47 E (fun k9 ek9 E => ?_)
          refine lv_iload_n hx hb dMO_endAll_48 rfl (lv_at hl 4 rfl) ?_
          refine lv_iconst (v := (-1)) hx hb dMO_endAll_49 (by decide) ?_
          refine z_ixor hx hb dMO_endAll_50 E (fun k10 ek10 E => ?_)
          refine z_iand hx hb dMO_endAll_51 E (fun k11 ek11 E => ?_)
          refine zcV (va_runV (As := [.int x3_1, .int k6, .int k11]) (rest := []) ⟨hx, hb, hml, hown, zno⟩ (tMO_change l dC dI cI cZ cJ cA a0 s0 o b P S_3 H7.size x3_1 k6 k11 gP gS_3 r_x3_1 r_k6) (zcw 3 (hB.word (zm5 k5_116) rfl) (hB.word (zm1 k1_9) rfl) (hB.word (zm5 k5_113) rfl) (hB.word (zm5 k5_115) rfl) (k2_selects_private (by decide) (hB.word (zm4 k4_109) rfl) (hB.word (zm5 k5_114) rfl) (hB.word (zm5 k5_115) rfl)) rfl rfl (by decide +kernel) ⟨Nat.le_of_ble_eq_true rfl, Nat.le_of_ble_eq_true rfl⟩) ⟨zP_blind, va_recv hK hP (ci := 7) (q0 := 0) rfl rfl, zP_pre hP hK hD hAD (zB_on hB hA0 hS)⟩ rfl rfl hl.1 rfl (lv_room (Nat.le_of_ble_eq_true rfl)) dMO_endAll_52 ⟨Nat.le_of_ble_eq_true rfl, Nat.le_of_ble_eq_true rfl⟩) hD hS hA (fun S13 H12 locs h14 hP hD hS => ?_)
          have E := zl_s E h14.1
          have gS13 := h14.2
          exact hJ55 H12 locs ls S13 x3_1 x3_2 x3_3 x3_4 r_x3_1 r_x3_2 r_x3_4 gS13 hm3 E hP hD hS (lv_sub hl [1, 2, 3, 4, 5] rfl)
  refine lv_iconst (v := 0) hx hb dMO_endAll_0 (by decide) ?_
  refine lv_istore (lv' := [(4, .int 0), (0, .ref (o 0)), (1, .int x0), (2, .int x1), (3, .int x2)]) hx hb dMO_endAll_1 hl (by decide) rfl (fun ls hl => ?_)
  exact hL3 3 s.heap [] ls S x0 x1 x2 0 r_x0 r_x1 (show zr 0 2 0 from by decide) gS (by have h9 := (show zr 0 0 0 from by decide); exact zfuelU h9 (by decide)) E hP hD hS (lv_sub hl [1, 2, 3, 4, 0] rfl)
noncomputable def fMO_has_62 (P : ZS) (S : ZS) (rc6 : Int32 → Int32 → Int32 → Int32 → Int32 → (Int32)) (x62_1 : Int32) (x62_2 : Int32) (x62_3 : Int32) (x62_5 : Int32) (y62_0 : Int32) : Int32 := zl (x62_5 + 1) (fun k1 => rc6 x62_1 x62_2 x62_3 y62_0 k1)
noncomputable def fMO_has_57 (P : ZS) (S : ZS) (rc6 : Int32 → Int32 → Int32 → Int32 → Int32 → (Int32)) (x57_1 : Int32) (x57_2 : Int32) (x57_3 : Int32) (x57_5 : Int32) : Int32 := fMO_has_62 P S rc6 x57_1 x57_2 x57_3 x57_5 1
noncomputable def fMO_has_61 (P : ZS) (S : ZS) (rc6 : Int32 → Int32 → Int32 → Int32 → Int32 → (Int32)) (x61_1 : Int32) (x61_2 : Int32) (x61_3 : Int32) (x61_5 : Int32) : Int32 := fMO_has_62 P S rc6 x61_1 x61_2 x61_3 x61_5 0
noncomputable def fMO_has_6 (P : ZS) (S : ZS) (rc6 : Int32 → Int32 → Int32 → Int32 → Int32 → (Int32)) (x6_1 : Int32) (x6_2 : Int32) (x6_3 : Int32) (x6_4 : Int32) (x6_5 : Int32) : Int32 := (if 2 ≤ x6_5 then x6_4 else zl (fMO_at P S x6_1 x6_2) (fun k3 => zl (2 * k3) (fun k4 => zl (k4 + x6_5) (fun k5 => zl (P.F 6 (k5 : Int32).toNatClampNeg) (fun k6 => (if x6_4 = 0 then (if k6 = (-1) then fMO_has_61 P S rc6 x6_1 x6_2 x6_3 x6_5 else zl (fMO_end P S x6_1 k6) (fun k8 => zl (S.F 10 (k8 : Int32).toNatClampNeg) (fun k9 => zl (k9 &&& x6_3) (fun k10 => (if k10 = 0 then fMO_has_61 P S rc6 x6_1 x6_2 x6_3 x6_5 else fMO_has_57 P S rc6 x6_1 x6_2 x6_3 x6_5))))) else fMO_has_57 P S rc6 x6_1 x6_2 x6_3 x6_5))))))
noncomputable def fMO_has (P S : ZS) (x0 : Int32) (x1 : Int32) (x2 : Int32) : Int32 := zfix (fun _ _ _ _ _ => 0) (fMO_has_6 P S) 3 x0 x1 x2 0 0
set_option maxHeartbeats 4000000 in
set_option maxRecDepth 100000 in
theorem tMO_has (l : Launch) (dC : Nat → ClassId) (dI : Nat → Nat → Nat) (cI cZ cJ cA : ClassId) (a0 : Array Value) (s0 : State) (o b : Nat → Nat) (P S : ZS) (sz : Nat) (x0 : Int32) (x1 : Int32) (x2 : Int32) (gP : mok P) (gS : mok S) (r_x0 : zr 0 47 x0) (r_x1 : zr 0 5 x1) : Met l yMO_has [Cond.code yMO_has bMO_has 7 (some .boolean)] ({ frames := 1, cells := 0, slots := 0, locals := 22 } : Room) (zP zCl dC dI (zTZ cI cZ cJ cA) a0 s0 [.ref (o 0), .int x0, .int x1, .int x2] sz (MW cI cZ cA o b P S)) (zQp (fun r => r = fMO_has P S x0 x1 x2 ∧ zr 0 1 r) sz) 0 0 (zN sz) := by
  refine Met.ofW (cc := bMO_has) (maxL := 7) (ret := (some .boolean)) (by decide) rfl ?_
  intro p e s m args below meth c s₁ B hml hv
  obtain ⟨rfl, hsz, hP, hK, hD0, hB⟩ := hv
  have hx := B.exec
  have hb := B.bytes
  have hr := B.returns
  have hown : s.vm.findClass "RingGuardModel" = some m.cls := findClass_of_methodNamed B.named
  have hlocks := B.notSynchronized
  subst hsz
  have hD := hD0
  have hA0 : ∀ q, zN s.heap.size q → s0.heap.size ≤ q := zA1 hB
  have hAD : ∀ q, zN s0.heap.size q → s0.heap.size ≤ q := fun _ h => h
  have hA : ∀ q : Nat, s.heap.size ≤ q → zN s.heap.size q := fun _ h => h
  have hS : va_S (zN s.heap.size) s.heap s.heap [] := va_S.rf
  have hl := lv_entry ([.ref (o 0), .int x0, .int x1, .int x2]) (n := 7) (Nat.le_of_ble_eq_true rfl)
  rw [lg_entry_eq]
  generalize (lg_sl ([.ref (o 0), .int x0, .int x1, .int x2]) ++ List.replicate (7 - (lg_sl ([.ref (o 0), .int x0, .int x1, .int x2])).length) Slot.unset).toArray = ls at hl ⊢
  have hl : lv_has ls 7 [(0, .ref (o 0)), (1, .int x0), (2, .int x1), (3, .int x2)] := hl
  refine zgenQ (fun Q hQe => ?_)
  obtain ⟨tg, etg⟩ : ∃ z, z = fMO_has P S x0 x1 x2 := ⟨_, rfl⟩
  have E := etg
  unfold fMO_has at E
  have hL6 : ∀ (n6 : Nat) (H : Heap) (locs : List Loc) (ls : Array Slot) (x6_1 : Int32) (x6_2 : Int32) (x6_3 : Int32) (x6_4 : Int32) (x6_5 : Int32), zr 0 47 x6_1 → zr 0 5 x6_2 → zr 0 1 x6_4 → zr 0 2 x6_5 → (x6_4 = 0 ∨ zr 1 2 (x6_5)) → 2 + 1 - x6_5.toInt ≤ (n6 : Int) → tg = zfix (fun _ _ _ _ _ => 0) (fMO_has_6 P S) n6 x6_1 x6_2 x6_3 x6_4 x6_5 → va_P (dC, dI) zCl (MW cI cZ cA o b P S) H → va_S (zN s.heap.size) s.heap H locs → lv_has ls 7 [(0, .ref (o 0)), (1, .int x6_1), (2, .int x6_2), (3, .int x6_3), (4, .int x6_4), (5, .int x6_5)] → W p l e ({ frames := 1, cells := 0, slots := 0, locals := 22 } : Room) s m ([.ref (o 0), .int x0, .int x1, .int x2] : List Value).toArray below meth c H locs 0 0 Q (F0 m 6 ls []) := by
    intro n6
    induction n6 with
    | zero => intro H locs ls x6_1 x6_2 x6_3 x6_4 x6_5 r_x6_1 r_x6_2 r_x6_4 r_x6_5 cd6_0 hm6 E hP hS hl; exact absurd hm6 (zfuel0U r_x6_5)
    | succ n6 ih6 =>
      intro H locs ls x6_1 x6_2 x6_3 x6_4 x6_5 r_x6_1 r_x6_2 r_x6_4 r_x6_5 cd6_0 hm6 E hP hS hl
      rw [zfix_s] at E
      generalize zfix (fun _ _ _ _ _ => 0) (fMO_has_6 P S) n6 = rc6 at ih6 E
      unfold fMO_has_6 at E
      have hJ62 : ∀ (H : Heap) (locs : List Loc) (ls : Array Slot) (x62_1 : Int32) (x62_2 : Int32) (x62_3 : Int32) (x62_5 : Int32) (y62_0 : Int32), zr 0 47 x62_1 → zr 0 5 x62_2 → zr 0 1 x62_5 → zr 0 1 y62_0 → 2 + 1 - x62_5.toInt ≤ ((n6 + 1 : Nat) : Int) → tg = fMO_has_62 P S rc6 x62_1 x62_2 x62_3 x62_5 y62_0 → va_P (dC, dI) zCl (MW cI cZ cA o b P S) H → va_S (zN s.heap.size) s.heap H locs → lv_has ls 7 [(0, .ref (o 0)), (1, .int x62_1), (2, .int x62_2), (3, .int x62_3), (5, .int x62_5)] → W p l e ({ frames := 1, cells := 0, slots := 0, locals := 22 } : Room) s m ([.ref (o 0), .int x0, .int x1, .int x2] : List Value).toArray below meth c H locs 0 0 Q (F0 m 62 ls [.int y62_0]) := by
        intro H locs ls x62_1 x62_2 x62_3 x62_5 y62_0 r_x62_1 r_x62_2 r_x62_5 r_y62_0 hm6_62 E hP hS hl
        unfold fMO_has_62 at E
        refine lv_istore (lv' := [(4, .int y62_0), (0, .ref (o 0)), (1, .int x62_1), (2, .int x62_2), (3, .int x62_3), (5, .int x62_5)]) hx hb dMO_has_62 hl (by decide) rfl (fun ls hl => ?_)
        refine z_iinc (lv' := fun v9 => [(5, .int v9), (4, .int y62_0), (0, .ref (o 0)), (1, .int x62_1), (2, .int x62_2), (3, .int x62_3)]) (cst := 1) hx hb dMO_has_64 hl (k := 5) rfl (by decide) (by decide) (fun _ => rfl) E (fun k1 ls ek1 E hl => ?_)
        have r_k1 : zr 1 2 k1 := zr_add r_x62_5 (show zr 1 1 1 from by decide) ek1 (by decide)
        refine lv_goto (tgt := 6) hx hb dMO_has_67 (by decide) ?_
        exact ih6 H locs ls x62_1 x62_2 x62_3 y62_0 k1 r_x62_1 r_x62_2 r_y62_0 (zr_mono r_k1 (by decide)) (Or.inr r_k1) (zstepU ek1 r_x62_5 (by decide) hm6_62) E hP hS (lv_sub hl [2, 3, 4, 5, 1, 0] rfl)
      have hJ57 : ∀ (H : Heap) (locs : List Loc) (ls : Array Slot) (x57_1 : Int32) (x57_2 : Int32) (x57_3 : Int32) (x57_5 : Int32), zr 0 47 x57_1 → zr 0 5 x57_2 → zr 0 1 x57_5 → 2 + 1 - x57_5.toInt ≤ ((n6 + 1 : Nat) : Int) → tg = fMO_has_57 P S rc6 x57_1 x57_2 x57_3 x57_5 → va_P (dC, dI) zCl (MW cI cZ cA o b P S) H → va_S (zN s.heap.size) s.heap H locs → lv_has ls 7 [(0, .ref (o 0)), (1, .int x57_1), (2, .int x57_2), (3, .int x57_3), (5, .int x57_5)] → W p l e ({ frames := 1, cells := 0, slots := 0, locals := 22 } : Room) s m ([.ref (o 0), .int x0, .int x1, .int x2] : List Value).toArray below meth c H locs 0 0 Q (F0 m 57 ls []) := by
        intro H locs ls x57_1 x57_2 x57_3 x57_5 r_x57_1 r_x57_2 r_x57_5 hm6_57 E hP hS hl
        unfold fMO_has_57 at E
        refine lv_iconst (v := 1) hx hb dMO_has_57 (by decide) ?_
        refine lv_goto (tgt := 62) hx hb dMO_has_58 (by decide) ?_
        exact hJ62 H locs ls x57_1 x57_2 x57_3 x57_5 1 r_x57_1 r_x57_2 r_x57_5 (show zr 0 1 1 from by decide) hm6_57 E hP hS (lv_sub hl [0, 1, 2, 3, 4] rfl)
      have hJ61 : ∀ (H : Heap) (locs : List Loc) (ls : Array Slot) (x61_1 : Int32) (x61_2 : Int32) (x61_3 : Int32) (x61_5 : Int32), zr 0 47 x61_1 → zr 0 5 x61_2 → zr 0 1 x61_5 → 2 + 1 - x61_5.toInt ≤ ((n6 + 1 : Nat) : Int) → tg = fMO_has_61 P S rc6 x61_1 x61_2 x61_3 x61_5 → va_P (dC, dI) zCl (MW cI cZ cA o b P S) H → va_S (zN s.heap.size) s.heap H locs → lv_has ls 7 [(0, .ref (o 0)), (1, .int x61_1), (2, .int x61_2), (3, .int x61_3), (5, .int x61_5)] → W p l e ({ frames := 1, cells := 0, slots := 0, locals := 22 } : Room) s m ([.ref (o 0), .int x0, .int x1, .int x2] : List Value).toArray below meth c H locs 0 0 Q (F0 m 61 ls []) := by
        intro H locs ls x61_1 x61_2 x61_3 x61_5 r_x61_1 r_x61_2 r_x61_5 hm6_61 E hP hS hl
        unfold fMO_has_61 at E
        refine lv_iconst (v := 0) hx hb dMO_has_61 (by decide) ?_
        exact hJ62 H locs ls x61_1 x61_2 x61_3 x61_5 0 r_x61_1 r_x61_2 r_x61_5 (show zr 0 1 0 from by decide) hm6_61 E hP hS (lv_sub hl [0, 1, 2, 3, 4] rfl)
      refine lv_iload hx hb dMO_has_6 (lv_at hl 5 rfl) ?_
      refine lv_iconst (v := 2) hx hb dMO_has_8 (by decide) ?_
      refine z_icmp_ge (tgt := 70) hx hb dMO_has_9 (by decide) E (fun c_9 E => ?_) (fun c_9 E => ?_)
      · have r_x6_5 : zr 2 2 x6_5 := zle_y (show zr 2 2 2 from by decide) r_x6_5 c_9 (by decide)
        refine lv_iload hx hb dMO_has_70 (lv_at hl 4 rfl) ?_
        rw [hQe]
        exact W.zret (v := x6_4) (ty := .boolean) hx hb hr (znar r_x6_4) (fun t ht hW => ⟨⟨x6_4, (), rfl, ⟨E.symm.trans etg, r_x6_4⟩, trivial⟩, hS.F ht⟩) hS.2.2 dMO_has_72
      · have r_x6_5 : zr 0 1 x6_5 := zlt_x r_x6_5 (show zr 2 2 2 from by decide) (znle c_9) (by decide)
        refine lv_aload_n hx hb dMO_has_12 rfl (lv_at hl 0 rfl) ?_
        refine m_getA_6 hx hb (hB.words zU_MO) hown hK hP (hB.word (zm4 k4_130) rfl) dMO_has_13 ?_
        refine lv_iconst (v := 2) hx hb dMO_has_16 (by decide) ?_
        refine lv_iload_n hx hb dMO_has_17 rfl (lv_at hl 1 rfl) ?_
        refine lv_iload_n hx hb dMO_has_18 rfl (lv_at hl 2 rfl) ?_
        refine zcallp (va_runS (As := [.int x6_1, .int x6_2]) (rest := [.int 2, .ref (b 6)]) ⟨hx, hb, hml, hown, zno⟩ (tMO_at l dC dI cI cZ cJ cA a0 s0 o b P S H.size x6_1 x6_2 gP gS r_x6_1 r_x6_2) ⟨zcb 2 (hB.word (zm5 k5_119) rfl) (hB.word (zm1 k1_9) rfl) (hB.word (zm5 k5_117) rfl) rfl rfl (by decide +kernel) ⟨Nat.le_of_ble_eq_true rfl, Nat.le_of_ble_eq_true rfl⟩, hB.word (zm5 k5_118) rfl⟩ ⟨zP_blind, zP_pre hP hK hD hAD (zB_on hB hA0 hS)⟩ rfl rfl hl.1 rfl (lv_room (Nat.le_of_ble_eq_true rfl)) dMO_has_19 ⟨Nat.le_of_ble_eq_true rfl, Nat.le_of_ble_eq_true rfl⟩) hS hA (fun k3 H2 locs hk3 hz1 hk1 hS => ?_)
        have hP := zKeep hP hk1
        have E := zl_s E hk3.1
        refine z_imul hx hb dMO_has_22 E (fun k4 ek4 E => ?_)
        have r_k4 : zr 0 574 k4 := zr_mul (show zr 2 2 2 from by decide) hk3.2 ek4 (by decide)
        refine lv_iload hx hb dMO_has_23 (lv_at hl 5 rfl) ?_
        refine z_iadd hx hb dMO_has_25 E (fun k5 ek5 E => ?_)
        have r_k5 : zr 0 575 k5 := zr_add r_k4 r_x6_5 ek5 (by decide)
        refine m_aldP hx hb hK hP 6 (by decide) rfl r_k5 (by decide) dMO_has_26 E (fun k6 ek6 E => ?_)
        have r_k6 : zr (-1) 59 k6 := by rw [ek6]; exact gP.1 6 _
        refine lv_istore (lv' := [(6, .int k6), (0, .ref (o 0)), (1, .int x6_1), (2, .int x6_2), (3, .int x6_3), (4, .int x6_4), (5, .int x6_5)]) hx hb dMO_has_27 hl (by decide) rfl (fun ls hl => ?_)
        refine lv_iload hx hb dMO_has_29 (lv_at hl 5 rfl) ?_
        refine z_if_ne (tgt := 57) hx hb dMO_has_31 (by decide) E (fun c_31 E => ?_) (fun c_31 E => ?_)
        · have r_x6_4 : zr 1 1 x6_4 := zne_lo r_x6_4 c_31 (by decide)
          exact hJ57 H2 locs ls x6_1 x6_2 x6_3 x6_5 r_x6_1 r_x6_2 r_x6_5 hm6 E hP hS (lv_sub hl [1, 2, 3, 4, 6] rfl)
        · have r_x6_4 : zr 0 0 x6_4 := zeq_x (show zr 0 0 0 from by decide) c_31
          refine lv_iload hx hb dMO_has_34 (lv_at hl 0 rfl) ?_
          refine lv_iconst (v := (-1)) hx hb dMO_has_36 (by decide) ?_
          refine z_icmp_eq (tgt := 61) hx hb dMO_has_37 (by decide) E (fun c_37 E => ?_) (fun c_37 E => ?_)
          · have r_k6 : zr (-1) (-1) k6 := zeq_x (show zr (-1) (-1) (-1) from by decide) c_37
            exact hJ61 H2 locs ls x6_1 x6_2 x6_3 x6_5 r_x6_1 r_x6_2 r_x6_5 hm6 E hP hS (lv_sub hl [1, 2, 3, 4, 6] rfl)
          · have r_k6 : zr 0 59 k6 := zne_lo r_k6 c_37 (by decide)
            refine lv_aload_n hx hb dMO_has_40 rfl (lv_at hl 1 rfl) ?_
            refine m_getA_10 hx hb (hB.words zU_MO) hown hK hP (hB.word (zm4 k4_124) rfl) dMO_has_41 ?_
            refine lv_aload_n hx hb dMO_has_44 rfl (lv_at hl 1 rfl) ?_
            refine lv_iload_n hx hb dMO_has_45 rfl (lv_at hl 2 rfl) ?_
            refine lv_iload hx hb dMO_has_46 (lv_at hl 0 rfl) ?_
            refine zcallp (va_runV (As := [.int x6_1, .int k6]) (rest := [.ref (b 10)]) ⟨hx, hb, hml, hown, zno⟩ (tMO_end l dC dI cI cZ cJ cA a0 s0 o b P S H2.size x6_1 k6 gP gS r_k6) (zcw 2 (hB.word (zm5 k5_112) rfl) (hB.word (zm1 k1_9) rfl) (hB.word (zm5 k5_109) rfl) (hB.word (zm5 k5_111) rfl) (k2_selects_private (by decide) (hB.word (zm4 k4_109) rfl) (hB.word (zm5 k5_110) rfl) (hB.word (zm5 k5_111) rfl)) rfl rfl (by decide +kernel) ⟨Nat.le_of_ble_eq_true rfl, Nat.le_of_ble_eq_true rfl⟩) ⟨zP_blind, va_recv hK hP (ci := 7) (q0 := 0) rfl rfl, zP_pre hP hK hD hAD (zB_on hB hA0 hS)⟩ rfl rfl hl.1 rfl (lv_room (Nat.le_of_ble_eq_true rfl)) dMO_has_48 ⟨Nat.le_of_ble_eq_true rfl, Nat.le_of_ble_eq_true rfl⟩) hS hA (fun k8 H7 locs hk8 hz1 hk1 hS => ?_)
            have hP := zKeep hP hk1
            have E := zl_s E hk8.1
            refine m_aldS hx hb hK hP 10 (by decide) rfl hk8.2 (by decide) dMO_has_51 E (fun k9 ek9 E => ?_)
            refine lv_iload_n hx hb dMO_has_52 rfl (lv_at hl 4 rfl) ?_
            refine z_iand hx hb dMO_has_53 E (fun k10 ek10 E => ?_)
            refine z_if_eq (tgt := 61) hx hb dMO_has_54 (by decide) E (fun c_54 E => ?_) (fun c_54 E => ?_)
            · have r_k10 : zr 0 0 k10 := zeq_x (show zr 0 0 0 from by decide) c_54
              exact hJ61 H7 locs ls x6_1 x6_2 x6_3 x6_5 r_x6_1 r_x6_2 r_x6_5 hm6 E hP hS (lv_sub hl [1, 2, 3, 4, 6] rfl)
            · exact hJ57 H7 locs ls x6_1 x6_2 x6_3 x6_5 r_x6_1 r_x6_2 r_x6_5 hm6 E hP hS (lv_sub hl [1, 2, 3, 4, 6] rfl)
  refine lv_iconst (v := 0) hx hb dMO_has_0 (by decide) ?_
  refine lv_istore (lv' := [(4, .int 0), (0, .ref (o 0)), (1, .int x0), (2, .int x1), (3, .int x2)]) hx hb dMO_has_1 hl (by decide) rfl (fun ls hl => ?_)
  refine lv_iconst (v := 0) hx hb dMO_has_3 (by decide) ?_
  refine lv_istore (lv' := [(5, .int 0), (4, .int 0), (0, .ref (o 0)), (1, .int x0), (2, .int x1), (3, .int x2)]) hx hb dMO_has_4 hl (by decide) rfl (fun ls hl => ?_)
  exact hL6 3 s.heap [] ls x0 x1 x2 0 0 r_x0 r_x1 (show zr 0 1 0 from by decide) (show zr 0 2 0 from by decide) (Or.inl rfl) (by have h9 := (show zr 0 0 0 from by decide); exact zfuelU h9 (by decide)) E hP hS (lv_sub hl [2, 3, 4, 5, 1, 0] rfl)
noncomputable def fMO_owns (P S : ZS) (x0 : Int32) (x1 : Int32) : Int32 := zl (P.F 3 (x1 : Int32).toNatClampNeg) (fun k1 => (if k1 = x0 then 1 else 0))
set_option maxHeartbeats 4000000 in
set_option maxRecDepth 100000 in
theorem tMO_owns (l : Launch) (dC : Nat → ClassId) (dI : Nat → Nat → Nat) (cI cZ cJ cA : ClassId) (a0 : Array Value) (s0 : State) (o b : Nat → Nat) (P S : ZS) (sz : Nat) (x0 : Int32) (x1 : Int32) (gP : mok P) (gS : mok S) (r_x1 : zr 0 5 x1) : Met l yMO_owns [Cond.code yMO_owns bMO_owns 3 (some .boolean)] ({ frames := 0, cells := 0, slots := 0, locals := 0 } : Room) (zP zCl dC dI (zTZ cI cZ cJ cA) a0 s0 [.ref (o 0), .int x0, .int x1] sz (MW cI cZ cA o b P S)) (zQp (fun r => r = fMO_owns P S x0 x1 ∧ zr 0 1 r) sz) 0 0 (zN sz) := by
  refine Met.ofW (cc := bMO_owns) (maxL := 3) (ret := (some .boolean)) (by decide) rfl ?_
  intro p e s m args below meth c s₁ B hml hv
  obtain ⟨rfl, hsz, hP, hK, hD0, hB⟩ := hv
  have hx := B.exec
  have hb := B.bytes
  have hr := B.returns
  have hown : s.vm.findClass "RingGuardModel" = some m.cls := findClass_of_methodNamed B.named
  have hlocks := B.notSynchronized
  subst hsz
  have hD := hD0
  have hA0 : ∀ q, zN s.heap.size q → s0.heap.size ≤ q := zA1 hB
  have hAD : ∀ q, zN s0.heap.size q → s0.heap.size ≤ q := fun _ h => h
  have hA : ∀ q : Nat, s.heap.size ≤ q → zN s.heap.size q := fun _ h => h
  have hS : va_S (zN s.heap.size) s.heap s.heap [] := va_S.rf
  have hl := lv_entry ([.ref (o 0), .int x0, .int x1]) (n := 3) (Nat.le_of_ble_eq_true rfl)
  rw [lg_entry_eq]
  generalize (lg_sl ([.ref (o 0), .int x0, .int x1]) ++ List.replicate (3 - (lg_sl ([.ref (o 0), .int x0, .int x1])).length) Slot.unset).toArray = ls at hl ⊢
  have hl : lv_has ls 3 [(0, .ref (o 0)), (1, .int x0), (2, .int x1)] := hl
  refine zgenQ (fun Q hQe => ?_)
  obtain ⟨tg, etg⟩ : ∃ z, z = fMO_owns P S x0 x1 := ⟨_, rfl⟩
  have E := etg
  unfold fMO_owns at E
  refine lv_aload_n hx hb dMO_owns_0 rfl (lv_at hl 0 rfl) ?_
  refine m_getA_3 hx hb (hB.words zU_MO) hown hK hP (hB.word (zm4 k4_125) rfl) dMO_owns_1 ?_
  refine lv_iload_n hx hb dMO_owns_4 rfl (lv_at hl 2 rfl) ?_
  refine m_aldP hx hb hK hP 3 (by decide) rfl r_x1 (by decide) dMO_owns_5 E (fun k1 ek1 E => ?_)
  have r_k1 : zr (-1) 47 k1 := by rw [ek1]; exact gP.1 3 _
  refine lv_iload_n hx hb dMO_owns_6 rfl (lv_at hl 1 rfl) ?_
  refine z_icmp_ne (tgt := 14) hx hb dMO_owns_7 (by decide) E (fun c_7 E => ?_) (fun c_7 E => ?_)
  · refine lv_iconst (v := 0) hx hb dMO_owns_14 (by decide) ?_
    rw [hQe]
    exact W.zret (v := 0) (ty := .boolean) hx hb hr (znar (show zr 0 1 0 from by decide)) (fun t ht hW => ⟨⟨0, (), rfl, ⟨E.symm.trans etg, (show zr 0 1 0 from by decide)⟩, trivial⟩, hS.F ht⟩) hS.2.2 dMO_owns_15
  · have r_x0 : zr (-1) 47 x0 := zeq_x r_k1 c_7.symm
    refine lv_iconst (v := 1) hx hb dMO_owns_10 (by decide) ?_
    refine lv_goto (tgt := 15) hx hb dMO_owns_11 (by decide) ?_
    rw [hQe]
    exact W.zret (v := 1) (ty := .boolean) hx hb hr (znar (show zr 0 1 1 from by decide)) (fun t ht hW => ⟨⟨1, (), rfl, ⟨E.symm.trans etg, (show zr 0 1 1 from by decide)⟩, trivial⟩, hS.F ht⟩) hS.2.2 dMO_owns_15
noncomputable def fMO_begins (P S : ZS) (x0 : Int32) (x1 : Int32) (x2 : Int32) : ZS := zl (P.F 2 (x1 : Int32).toNatClampNeg) (fun k1 => zl (fMO_end P S x0 x1) (fun k3 => zl (S.F 10 (k3 : Int32).toNatClampNeg) (fun k4 => zl (k4 ||| x2) (fun k5 => zl (fMO_change P S x0 x1 k5) (fun S7 => zl (fMO_owns P S7 x0 k1) (fun k10 => (if k10 = 0 then S7 else zl (fMO_endAll P S7 x0 k1 16) (fun S12 => zl (S12.setF 11 (k1 : Int32).toNatClampNeg 0) (fun S14 => S14)))))))))
set_option maxHeartbeats 4000000 in
set_option maxRecDepth 100000 in
theorem tMO_begins (l : Launch) (dC : Nat → ClassId) (dI : Nat → Nat → Nat) (cI cZ cJ cA : ClassId) (a0 : Array Value) (s0 : State) (o b : Nat → Nat) (P S : ZS) (sz : Nat) (x0 : Int32) (x1 : Int32) (x2 : Int32) (gP : mok P) (gS : mok S) (r_x0 : zr 0 47 x0) (r_x1 : zr 0 59 x1) : Met l yMO_begins [Cond.code yMO_begins bMO_begins 5 none] ({ frames := 3, cells := 0, slots := 0, locals := 70 } : Room) (zP zCl dC dI (zTZ cI cZ cJ cA) a0 s0 [.ref (o 0), .int x0, .int x1, .int x2] sz (MW cI cZ cA o b P S)) (zQG zCl dC dI (fun (x9 : ZS) => x9 = fMO_begins P S x0 x1 x2 ∧ mok x9) (fun x9 : ZS => (MW cI cZ cA o b P x9)) (va_A (MW cI cZ cA o b P S) sz)) 0 0 (va_A (MW cI cZ cA o b P S) sz) := by
  refine Met.ofW (cc := bMO_begins) (maxL := 5) (ret := none) (by decide) rfl ?_
  intro p e s m args below meth c s₁ B hml hv
  obtain ⟨rfl, hsz, hP, hK, hD0, hB⟩ := hv
  have hx := B.exec
  have hb := B.bytes
  have hr := B.returns
  have hown : s.vm.findClass "RingGuardModel" = some m.cls := findClass_of_methodNamed B.named
  have hlocks := B.notSynchronized
  subst hsz
  have hD := hD0.self (sz := s.heap.size)
  have hA0 := zA0 hD0 hB
  generalize hAe : va_A (MW cI cZ cA o b P S) s.heap.size = A at hD hA0 ⊢
  have hAD := hA0
  have hA : ∀ q : Nat, s.heap.size ≤ q → A q := fun q h => by rw [← hAe]; exact Or.inr h
  have hS : va_S A s.heap s.heap [] := va_S.rf
  have hl := lv_entry ([.ref (o 0), .int x0, .int x1, .int x2]) (n := 5) (Nat.le_of_ble_eq_true rfl)
  rw [lg_entry_eq]
  generalize (lg_sl ([.ref (o 0), .int x0, .int x1, .int x2]) ++ List.replicate (5 - (lg_sl ([.ref (o 0), .int x0, .int x1, .int x2])).length) Slot.unset).toArray = ls at hl ⊢
  have hl : lv_has ls 5 [(0, .ref (o 0)), (1, .int x0), (2, .int x1), (3, .int x2)] := hl
  refine zgenQ (fun Q hQe => ?_)
  obtain ⟨tg, etg⟩ : ∃ z, z = fMO_begins P S x0 x1 x2 := ⟨_, rfl⟩
  have E := etg
  unfold fMO_begins at E
  refine lv_aload_n hx hb dMO_begins_0 rfl (lv_at hl 0 rfl) ?_
  refine m_getA_2 hx hb (hB.words zU_MO) hown hK hP (hB.word (zm4 k4_120) rfl) dMO_begins_1 ?_
  refine lv_iload_n hx hb dMO_begins_4 rfl (lv_at hl 2 rfl) ?_
  refine m_aldP hx hb hK hP 2 (by decide) rfl r_x1 (by decide) dMO_begins_5 E (fun k1 ek1 E => ?_)
  have r_k1 : zr 0 5 k1 := by rw [ek1]; exact gP.1 2 _
  refine lv_istore (lv' := [(4, .int k1), (0, .ref (o 0)), (1, .int x0), (2, .int x1), (3, .int x2)]) hx hb dMO_begins_6 hl (by decide) rfl (fun ls hl => ?_)
  refine lv_aload_n hx hb dMO_begins_8 rfl (lv_at hl 1 rfl) ?_
  refine lv_iload_n hx hb dMO_begins_9 rfl (lv_at hl 2 rfl) ?_
  refine lv_iload_n hx hb dMO_begins_10 rfl (lv_at hl 3 rfl) ?_
  refine lv_aload_n hx hb dMO_begins_11 rfl (lv_at hl 1 rfl) ?_
  refine m_getA_10 hx hb (hB.words zU_MO) hown hK hP (hB.word (zm4 k4_124) rfl) dMO_begins_12 ?_
  refine lv_aload_n hx hb dMO_begins_15 rfl (lv_at hl 1 rfl) ?_
  refine lv_iload_n hx hb dMO_begins_16 rfl (lv_at hl 2 rfl) ?_
  refine lv_iload_n hx hb dMO_begins_17 rfl (lv_at hl 3 rfl) ?_
  refine zcallp (va_runV (As := [.int x0, .int x1]) (rest := [.ref (b 10), .int x1, .int x0, .ref (o 0)]) ⟨hx, hb, hml, hown, zno⟩ (tMO_end l dC dI cI cZ cJ cA a0 s0 o b P S s.heap.size x0 x1 gP gS r_x1) (zcw 2 (hB.word (zm5 k5_112) rfl) (hB.word (zm1 k1_9) rfl) (hB.word (zm5 k5_109) rfl) (hB.word (zm5 k5_111) rfl) (k2_selects_private (by decide) (hB.word (zm4 k4_109) rfl) (hB.word (zm5 k5_110) rfl) (hB.word (zm5 k5_111) rfl)) rfl rfl (by decide +kernel) ⟨Nat.le_of_ble_eq_true rfl, Nat.le_of_ble_eq_true rfl⟩) ⟨zP_blind, va_recv hK hP (ci := 7) (q0 := 0) rfl rfl, zP_pre hP hK hD hAD (zB_on hB hA0 hS)⟩ rfl rfl hl.1 rfl (lv_room (Nat.le_of_ble_eq_true rfl)) dMO_begins_18 ⟨Nat.le_of_ble_eq_true rfl, Nat.le_of_ble_eq_true rfl⟩) hS hA (fun k3 H2 locs hk3 hz1 hk1 hS => ?_)
  have hP := zKeep hP hk1
  have E := zl_s E hk3.1
  refine m_aldS hx hb hK hP 10 (by decide) rfl hk3.2 (by decide) dMO_begins_21 E (fun k4 ek4 E => ?_)
  refine lv_iload_n hx hb dMO_begins_22 rfl (lv_at hl 4 rfl) ?_
  refine z_ior hx hb dMO_begins_23 E (fun k5 ek5 E => ?_)
  refine zcV (va_runV (As := [.int x0, .int x1, .int k5]) (rest := []) ⟨hx, hb, hml, hown, zno⟩ (tMO_change l dC dI cI cZ cJ cA a0 s0 o b P S H2.size x0 x1 k5 gP gS r_x0 r_x1) (zcw 3 (hB.word (zm5 k5_116) rfl) (hB.word (zm1 k1_9) rfl) (hB.word (zm5 k5_113) rfl) (hB.word (zm5 k5_115) rfl) (k2_selects_private (by decide) (hB.word (zm4 k4_109) rfl) (hB.word (zm5 k5_114) rfl) (hB.word (zm5 k5_115) rfl)) rfl rfl (by decide +kernel) ⟨Nat.le_of_ble_eq_true rfl, Nat.le_of_ble_eq_true rfl⟩) ⟨zP_blind, va_recv hK hP (ci := 7) (q0 := 0) rfl rfl, zP_pre hP hK hD hAD (zB_on hB hA0 hS)⟩ rfl rfl hl.1 rfl (lv_room (Nat.le_of_ble_eq_true rfl)) dMO_begins_24 ⟨Nat.le_of_ble_eq_true rfl, Nat.le_of_ble_eq_true rfl⟩) hD hS hA (fun S7 H6 locs h8 hP hD hS => ?_)
  have E := zl_s E h8.1
  have gS7 := h8.2
  refine lv_aload_n hx hb dMO_begins_27 rfl (lv_at hl 1 rfl) ?_
  refine lv_iload_n hx hb dMO_begins_28 rfl (lv_at hl 2 rfl) ?_
  refine lv_iload hx hb dMO_begins_29 (lv_at hl 0 rfl) ?_
  refine zcallp (va_runV (As := [.int x0, .int k1]) (rest := []) ⟨hx, hb, hml, hown, zno⟩ (tMO_owns l dC dI cI cZ cJ cA a0 s0 o b P S7 H6.size x0 k1 gP gS7 r_k1) (zcw 2 (hB.word (zm5 k5_155) rfl) (hB.word (zm1 k1_9) rfl) (hB.word (zm5 k5_152) rfl) (hB.word (zm5 k5_154) rfl) (k2_selects_private (by decide) (hB.word (zm4 k4_109) rfl) (hB.word (zm5 k5_153) rfl) (hB.word (zm5 k5_154) rfl)) rfl rfl (by decide +kernel) ⟨Nat.le_of_ble_eq_true rfl, Nat.le_of_ble_eq_true rfl⟩) ⟨zP_blind, va_recv hK hP (ci := 7) (q0 := 0) rfl rfl, zP_pre hP hK hD hAD (zB_on hB hA0 hS)⟩ rfl rfl hl.1 rfl (lv_room (Nat.le_of_ble_eq_true rfl)) dMO_begins_31 ⟨Nat.le_of_ble_eq_true rfl, Nat.le_of_ble_eq_true rfl⟩) hS hA (fun k10 H9 locs hk10 hz1 hk1 hS => ?_)
  have hP := zKeep hP hk1
  have E := zl_s E hk10.1
  refine z_if_eq (tgt := 54) hx hb dMO_begins_34 (by decide) E (fun c_34 E => ?_) (fun c_34 E => ?_)
  · have r_k10 : zr 0 0 k10 := zeq_x (show zr 0 0 0 from by decide) c_34
    rw [hQe]
    exact W.vret hx hb hr (fun t ht hW => ⟨⟨S7, rfl, ⟨E.symm.trans etg, gS7⟩, by rw [ht]; exact hP, hD⟩, hS.F ht⟩) hS.2.2 dMO_begins_54
  · have r_k10 : zr 1 1 k10 := zne_lo hk10.2 c_34 (by decide)
    refine lv_aload_n hx hb dMO_begins_37 rfl (lv_at hl 1 rfl) ?_
    refine lv_iload_n hx hb dMO_begins_38 rfl (lv_at hl 2 rfl) ?_
    refine lv_iload hx hb dMO_begins_39 (lv_at hl 0 rfl) ?_
    refine lv_bipush (v := 16) hx hb dMO_begins_41 (by decide) ?_
    refine zcV (va_runV (As := [.int x0, .int k1, .int 16]) (rest := []) ⟨hx, hb, hml, hown, zno⟩ (tMO_endAll l dC dI cI cZ cJ cA a0 s0 o b P S7 H9.size x0 k1 16 gP gS7 r_x0 r_k1) (zcw 3 (hB.word (zm5 k5_159) rfl) (hB.word (zm1 k1_9) rfl) (hB.word (zm5 k5_156) rfl) (hB.word (zm5 k5_158) rfl) (k2_selects_private (by decide) (hB.word (zm4 k4_109) rfl) (hB.word (zm5 k5_157) rfl) (hB.word (zm5 k5_158) rfl)) rfl rfl (by decide +kernel) ⟨Nat.le_of_ble_eq_true rfl, Nat.le_of_ble_eq_true rfl⟩) ⟨zP_blind, va_recv hK hP (ci := 7) (q0 := 0) rfl rfl, zP_pre hP hK hD hAD (zB_on hB hA0 hS)⟩ rfl rfl hl.1 rfl (lv_room (Nat.le_of_ble_eq_true rfl)) dMO_begins_43 ⟨Nat.le_of_ble_eq_true rfl, Nat.le_of_ble_eq_true rfl⟩) hD hS hA (fun S12 H11 locs h13 hP hD hS => ?_)
    have E := zl_s E h13.1
    have gS12 := h13.2
    refine lv_aload_n hx hb dMO_begins_46 rfl (lv_at hl 1 rfl) ?_
    refine m_getA_11 hx hb (hB.words zU_MO) hown hK hP (hB.word (zm4 k4_128) rfl) dMO_begins_47 ?_
    refine lv_iload hx hb dMO_begins_50 (lv_at hl 0 rfl) ?_
    refine lv_iconst (v := 0) hx hb dMO_begins_52 (by decide) ?_
    refine m_astS hx hb hK hP hD hS 11 (by decide) rfl r_k1 (by decide) dMO_begins_53 E (fun S14 H15 locs eS14 E hP hD hS => ?_)
    have gS14 : mok S14 := by rw [eS14]; exact gS12.setF (k := 11) (show zr (-2147483648) 2147483647 0 from by decide) (Or.inl (by decide))
    rw [hQe]
    exact W.vret hx hb hr (fun t ht hW => ⟨⟨S14, rfl, ⟨E.symm.trans etg, gS14⟩, by rw [ht]; exact hP, hD⟩, hS.F ht⟩) hS.2.2 dMO_begins_54
noncomputable def fMO_ends (P S : ZS) (x0 : Int32) (x1 : Int32) (x2 : Int32) : ZS := zl (fMO_end P S x0 x1) (fun k2 => zl (S.F 10 (k2 : Int32).toNatClampNeg) (fun k3 => zl (x2 ^^^ (-1)) (fun k4 => zl (k3 &&& k4) (fun k5 => zl (k5 ||| 8) (fun k6 => zl (fMO_change P S x0 x1 k6) (fun S8 => zl (P.F 2 (x1 : Int32).toNatClampNeg) (fun k10 => zl (fMO_at P S8 x0 k10) (fun k12 => zl (P.I 1) (fun k13 => zl (2 * k13) (fun k14 => zl (k14 + 4) (fun k15 => zl (S8.setF 13 (k12 : Int32).toNatClampNeg k15) (fun S16 => S16))))))))))))
set_option maxHeartbeats 4000000 in
set_option maxRecDepth 100000 in
theorem tMO_ends (l : Launch) (dC : Nat → ClassId) (dI : Nat → Nat → Nat) (cI cZ cJ cA : ClassId) (a0 : Array Value) (s0 : State) (o b : Nat → Nat) (P S : ZS) (sz : Nat) (x0 : Int32) (x1 : Int32) (x2 : Int32) (gP : mok P) (gS : mok S) (r_x0 : zr 0 47 x0) (r_x1 : zr 0 59 x1) : Met l yMO_ends [Cond.code yMO_ends bMO_ends 4 none] ({ frames := 2, cells := 0, slots := 0, locals := 45 } : Room) (zP zCl dC dI (zTZ cI cZ cJ cA) a0 s0 [.ref (o 0), .int x0, .int x1, .int x2] sz (MW cI cZ cA o b P S)) (zQG zCl dC dI (fun (x9 : ZS) => x9 = fMO_ends P S x0 x1 x2 ∧ mok x9) (fun x9 : ZS => (MW cI cZ cA o b P x9)) (va_A (MW cI cZ cA o b P S) sz)) 0 0 (va_A (MW cI cZ cA o b P S) sz) := by
  refine Met.ofW (cc := bMO_ends) (maxL := 4) (ret := none) (by decide) rfl ?_
  intro p e s m args below meth c s₁ B hml hv
  obtain ⟨rfl, hsz, hP, hK, hD0, hB⟩ := hv
  have hx := B.exec
  have hb := B.bytes
  have hr := B.returns
  have hown : s.vm.findClass "RingGuardModel" = some m.cls := findClass_of_methodNamed B.named
  have hlocks := B.notSynchronized
  subst hsz
  have hD := hD0.self (sz := s.heap.size)
  have hA0 := zA0 hD0 hB
  generalize hAe : va_A (MW cI cZ cA o b P S) s.heap.size = A at hD hA0 ⊢
  have hAD := hA0
  have hA : ∀ q : Nat, s.heap.size ≤ q → A q := fun q h => by rw [← hAe]; exact Or.inr h
  have hS : va_S A s.heap s.heap [] := va_S.rf
  have hl := lv_entry ([.ref (o 0), .int x0, .int x1, .int x2]) (n := 4) (Nat.le_of_ble_eq_true rfl)
  rw [lg_entry_eq]
  generalize (lg_sl ([.ref (o 0), .int x0, .int x1, .int x2]) ++ List.replicate (4 - (lg_sl ([.ref (o 0), .int x0, .int x1, .int x2])).length) Slot.unset).toArray = ls at hl ⊢
  have hl : lv_has ls 4 [(0, .ref (o 0)), (1, .int x0), (2, .int x1), (3, .int x2)] := hl
  refine zgenQ (fun Q hQe => ?_)
  obtain ⟨tg, etg⟩ : ∃ z, z = fMO_ends P S x0 x1 x2 := ⟨_, rfl⟩
  have E := etg
  unfold fMO_ends at E
  refine lv_aload_n hx hb dMO_ends_0 rfl (lv_at hl 0 rfl) ?_
  refine lv_iload_n hx hb dMO_ends_1 rfl (lv_at hl 1 rfl) ?_
  refine lv_iload_n hx hb dMO_ends_2 rfl (lv_at hl 2 rfl) ?_
  refine lv_aload_n hx hb dMO_ends_3 rfl (lv_at hl 0 rfl) ?_
  refine m_getA_10 hx hb (hB.words zU_MO) hown hK hP (hB.word (zm4 k4_124) rfl) dMO_ends_4 ?_
  refine lv_aload_n hx hb dMO_ends_7 rfl (lv_at hl 0 rfl) ?_
  refine lv_iload_n hx hb dMO_ends_8 rfl (lv_at hl 1 rfl) ?_
  refine lv_iload_n hx hb dMO_ends_9 rfl (lv_at hl 2 rfl) ?_
  refine zcallp (va_runV (As := [.int x0, .int x1]) (rest := [.ref (b 10), .int x1, .int x0, .ref (o 0)]) ⟨hx, hb, hml, hown, zno⟩ (tMO_end l dC dI cI cZ cJ cA a0 s0 o b P S s.heap.size x0 x1 gP gS r_x1) (zcw 2 (hB.word (zm5 k5_112) rfl) (hB.word (zm1 k1_9) rfl) (hB.word (zm5 k5_109) rfl) (hB.word (zm5 k5_111) rfl) (k2_selects_private (by decide) (hB.word (zm4 k4_109) rfl) (hB.word (zm5 k5_110) rfl) (hB.word (zm5 k5_111) rfl)) rfl rfl (by decide +kernel) ⟨Nat.le_of_ble_eq_true rfl, Nat.le_of_ble_eq_true rfl⟩) ⟨zP_blind, va_recv hK hP (ci := 7) (q0 := 0) rfl rfl, zP_pre hP hK hD hAD (zB_on hB hA0 hS)⟩ rfl rfl hl.1 rfl (lv_room (Nat.le_of_ble_eq_true rfl)) dMO_ends_10 ⟨Nat.le_of_ble_eq_true rfl, Nat.le_of_ble_eq_true rfl⟩) hS hA (fun k2 H1 locs hk2 hz1 hk1 hS => ?_)
  have hP := zKeep hP hk1
  have E := zl_s E hk2.1
  refine m_aldS hx hb hK hP 10 (by decide) rfl hk2.2 (by decide) dMO_ends_13 E (fun k3 ek3 E => ?_)
  refine lv_iload_n hx hb dMO_ends_14 rfl (lv_at hl 3 rfl) ?_
  refine lv_iconst (v := (-1)) hx hb dMO_ends_15 (by decide) ?_
  refine z_ixor hx hb dMO_ends_16 E (fun k4 ek4 E => ?_)
  refine z_iand hx hb dMO_ends_17 E (fun k5 ek5 E => ?_)
  refine lv_bipush (v := 8) hx hb dMO_ends_18 (by decide) ?_
  refine z_ior hx hb dMO_ends_20 E (fun k6 ek6 E => ?_)
  refine zcV (va_runV (As := [.int x0, .int x1, .int k6]) (rest := []) ⟨hx, hb, hml, hown, zno⟩ (tMO_change l dC dI cI cZ cJ cA a0 s0 o b P S H1.size x0 x1 k6 gP gS r_x0 r_x1) (zcw 3 (hB.word (zm5 k5_116) rfl) (hB.word (zm1 k1_9) rfl) (hB.word (zm5 k5_113) rfl) (hB.word (zm5 k5_115) rfl) (k2_selects_private (by decide) (hB.word (zm4 k4_109) rfl) (hB.word (zm5 k5_114) rfl) (hB.word (zm5 k5_115) rfl)) rfl rfl (by decide +kernel) ⟨Nat.le_of_ble_eq_true rfl, Nat.le_of_ble_eq_true rfl⟩) ⟨zP_blind, va_recv hK hP (ci := 7) (q0 := 0) rfl rfl, zP_pre hP hK hD hAD (zB_on hB hA0 hS)⟩ rfl rfl hl.1 rfl (lv_room (Nat.le_of_ble_eq_true rfl)) dMO_ends_21 ⟨Nat.le_of_ble_eq_true rfl, Nat.le_of_ble_eq_true rfl⟩) hD hS hA (fun S8 H7 locs h9 hP hD hS => ?_)
  have E := zl_s E h9.1
  have gS8 := h9.2
  refine lv_aload_n hx hb dMO_ends_24 rfl (lv_at hl 0 rfl) ?_
  refine m_getA_13 hx hb (hB.words zU_MO) hown hK hP (hB.word (zm4 k4_131) rfl) dMO_ends_25 ?_
  refine lv_iload_n hx hb dMO_ends_28 rfl (lv_at hl 1 rfl) ?_
  refine lv_aload_n hx hb dMO_ends_29 rfl (lv_at hl 0 rfl) ?_
  refine m_getA_2 hx hb (hB.words zU_MO) hown hK hP (hB.word (zm4 k4_120) rfl) dMO_ends_30 ?_
  refine lv_iload_n hx hb dMO_ends_33 rfl (lv_at hl 2 rfl) ?_
  refine m_aldP hx hb hK hP 2 (by decide) rfl r_x1 (by decide) dMO_ends_34 E (fun k10 ek10 E => ?_)
  have r_k10 : zr 0 5 k10 := by rw [ek10]; exact gP.1 2 _
  refine zcallp (va_runS (As := [.int x0, .int k10]) (rest := [.ref (b 13)]) ⟨hx, hb, hml, hown, zno⟩ (tMO_at l dC dI cI cZ cJ cA a0 s0 o b P S8 H7.size x0 k10 gP gS8 r_x0 r_k10) ⟨zcb 2 (hB.word (zm5 k5_119) rfl) (hB.word (zm1 k1_9) rfl) (hB.word (zm5 k5_117) rfl) rfl rfl (by decide +kernel) ⟨Nat.le_of_ble_eq_true rfl, Nat.le_of_ble_eq_true rfl⟩, hB.word (zm5 k5_118) rfl⟩ ⟨zP_blind, zP_pre hP hK hD hAD (zB_on hB hA0 hS)⟩ rfl rfl hl.1 rfl (lv_room (Nat.le_of_ble_eq_true rfl)) dMO_ends_35 ⟨Nat.le_of_ble_eq_true rfl, Nat.le_of_ble_eq_true rfl⟩) hS hA (fun k12 H11 locs hk12 hz1 hk1 hS => ?_)
  have hP := zKeep hP hk1
  have E := zl_s E hk12.1
  refine lv_iconst (v := 2) hx hb dMO_ends_38 (by decide) ?_
  refine lv_aload_n hx hb dMO_ends_39 rfl (lv_at hl 0 rfl) ?_
  refine m_get_1 hx hb (hB.words zU_MO) hown hK hP (hB.word (zm4 k4_116) rfl) dMO_ends_40 E (fun k13 ek13 E => ?_)
  have r_k13 : zr 0 48 k13 := by rw [ek13]; exact gP.2.1 1
  refine z_imul hx hb dMO_ends_43 E (fun k14 ek14 E => ?_)
  have r_k14 : zr 0 96 k14 := zr_mul (show zr 2 2 2 from by decide) r_k13 ek14 (by decide)
  refine lv_iconst (v := 4) hx hb dMO_ends_44 (by decide) ?_
  refine z_iadd hx hb dMO_ends_45 E (fun k15 ek15 E => ?_)
  have r_k15 : zr 4 100 k15 := zr_add r_k14 (show zr 4 4 4 from by decide) ek15 (by decide)
  refine m_astS hx hb hK hP hD hS 13 (by decide) rfl hk12.2 (by decide) dMO_ends_46 E (fun S16 H17 locs eS16 E hP hD hS => ?_)
  have gS16 : mok S16 := by rw [eS16]; exact gS8.setF (k := 13) (zr_any k15) (Or.inl (by decide))
  rw [hQe]
  exact W.vret hx hb hr (fun t ht hW => ⟨⟨S16, rfl, ⟨E.symm.trans etg, gS16⟩, by rw [ht]; exact hP, hD⟩, hS.F ht⟩) hS.2.2 dMO_ends_47
noncomputable def fMO_say (P S : ZS) (x0 : Int32) (x1 : Int32) (x2 : Int32) (x3 : Int32) : ZS := zl (S.setI 11 x0) (fun S1 => zl (S1.setI 12 x1) (fun S3 => zl (S3.setI 13 x2) (fun S5 => zl (S5.setI 14 x3) (fun S7 => S7))))
set_option maxHeartbeats 4000000 in
set_option maxRecDepth 100000 in
theorem tMO_say (l : Launch) (dC : Nat → ClassId) (dI : Nat → Nat → Nat) (cI cZ cJ cA : ClassId) (a0 : Array Value) (s0 : State) (o b : Nat → Nat) (P S : ZS) (sz : Nat) (x0 : Int32) (x1 : Int32) (x2 : Int32) (x3 : Int32) (gP : mok P) (gS : mok S) (r_x2 : zr 0 113 x2) : Met l yMO_say [Cond.code yMO_say bMO_say 5 none] ({ frames := 0, cells := 0, slots := 0, locals := 0 } : Room) (zP zCl dC dI (zTZ cI cZ cJ cA) a0 s0 [.ref (o 0), .int x0, .int x1, .int x2, .int x3] sz (MW cI cZ cA o b P S)) (zQG zCl dC dI (fun (x9 : ZS) => x9 = fMO_say P S x0 x1 x2 x3 ∧ mok x9) (fun x9 : ZS => (MW cI cZ cA o b P x9)) (va_A (MW cI cZ cA o b P S) sz)) 0 0 (va_A (MW cI cZ cA o b P S) sz) := by
  refine Met.ofW (cc := bMO_say) (maxL := 5) (ret := none) (by decide) rfl ?_
  intro p e s m args below meth c s₁ B hml hv
  obtain ⟨rfl, hsz, hP, hK, hD0, hB⟩ := hv
  have hx := B.exec
  have hb := B.bytes
  have hr := B.returns
  have hown : s.vm.findClass "RingGuardModel" = some m.cls := findClass_of_methodNamed B.named
  have hlocks := B.notSynchronized
  subst hsz
  have hD := hD0.self (sz := s.heap.size)
  have hA0 := zA0 hD0 hB
  generalize hAe : va_A (MW cI cZ cA o b P S) s.heap.size = A at hD hA0 ⊢
  have hAD := hA0
  have hA : ∀ q : Nat, s.heap.size ≤ q → A q := fun q h => by rw [← hAe]; exact Or.inr h
  have hS : va_S A s.heap s.heap [] := va_S.rf
  have hl := lv_entry ([.ref (o 0), .int x0, .int x1, .int x2, .int x3]) (n := 5) (Nat.le_of_ble_eq_true rfl)
  rw [lg_entry_eq]
  generalize (lg_sl ([.ref (o 0), .int x0, .int x1, .int x2, .int x3]) ++ List.replicate (5 - (lg_sl ([.ref (o 0), .int x0, .int x1, .int x2, .int x3])).length) Slot.unset).toArray = ls at hl ⊢
  have hl : lv_has ls 5 [(0, .ref (o 0)), (1, .int x0), (2, .int x1), (3, .int x2), (4, .int x3)] := hl
  refine zgenQ (fun Q hQe => ?_)
  obtain ⟨tg, etg⟩ : ∃ z, z = fMO_say P S x0 x1 x2 x3 := ⟨_, rfl⟩
  have E := etg
  unfold fMO_say at E
  refine lv_aload_n hx hb dMO_say_0 rfl (lv_at hl 0 rfl) ?_
  refine lv_iload_n hx hb dMO_say_1 rfl (lv_at hl 1 rfl) ?_
  refine m_put_11 hx hb (hB.words zU_MO) hown hK hP hD hS (hB.word (zm4 k4_162) rfl) dMO_say_2 E (fun S1 H2 locs eS1 E hP hD hS => ?_)
  have gS1 : mok S1 := by rw [eS1]; exact gS.setI (t := 11) (zr_any x0)
  refine lv_aload_n hx hb dMO_say_5 rfl (lv_at hl 0 rfl) ?_
  refine lv_iload_n hx hb dMO_say_6 rfl (lv_at hl 2 rfl) ?_
  refine m_put_12 hx hb (hB.words zU_MO) hown hK hP hD hS (hB.word (zm4 k4_163) rfl) dMO_say_7 E (fun S3 H4 locs eS3 E hP hD hS => ?_)
  have gS3 : mok S3 := by rw [eS3]; exact gS1.setI (t := 12) (zr_any x1)
  refine lv_aload_n hx hb dMO_say_10 rfl (lv_at hl 0 rfl) ?_
  refine lv_iload_n hx hb dMO_say_11 rfl (lv_at hl 3 rfl) ?_
  refine m_put_13 hx hb (hB.words zU_MO) hown hK hP hD hS (hB.word (zm4 k4_164) rfl) dMO_say_12 E (fun S5 H6 locs eS5 E hP hD hS => ?_)
  have gS5 : mok S5 := by rw [eS5]; exact gS3.setI (t := 13) r_x2
  refine lv_aload_n hx hb dMO_say_15 rfl (lv_at hl 0 rfl) ?_
  refine lv_iload hx hb dMO_say_16 (lv_at hl 4 rfl) ?_
  refine m_put_14 hx hb (hB.words zU_MO) hown hK hP hD hS (hB.word (zm4 k4_165) rfl) dMO_say_18 E (fun S7 H8 locs eS7 E hP hD hS => ?_)
  have gS7 : mok S7 := by rw [eS7]; exact gS5.setI (t := 14) (zr_any x3)
  rw [hQe]
  exact W.vret hx hb hr (fun t ht hW => ⟨⟨S7, rfl, ⟨E.symm.trans etg, gS7⟩, by rw [ht]; exact hP, hD⟩, hS.F ht⟩) hS.2.2 dMO_say_21
noncomputable def fMO_put_28 (P : ZS) (S_28 : ZS) (y28_0 : Int32) (y28_1 : Int32) : ZS := zl (y28_1 + y28_0) (fun k1 => zl (S_28.F 23 (k1 : Int32).toNatClampNeg) (fun k2 => (if k2 = 64 then zl (S_28.I 5) (fun k22 => zl (k22 + 1) (fun k23 => zl (S_28.setI 5 k23) (fun S24 => zl (S24.setI 8 1) (fun S26 => S26)))) else zl (64 * k1) (fun k3 => zl (S_28.F 23 (k1 : Int32).toNatClampNeg) (fun k4 => zl (k3 + k2) (fun k5 => zl (S_28.I 11) (fun k6 => zl (S_28.setF 24 (k5 : Int32).toNatClampNeg k6) (fun S7 => zl (S7.I 12) (fun k9 => zl (S7.setF 25 (k5 : Int32).toNatClampNeg k9) (fun S10 => zl (S10.I 13) (fun k12 => zl (S10.setF 26 (k5 : Int32).toNatClampNeg k12) (fun S13 => zl (S13.I 14) (fun k15 => zl (S13.setF 27 (k5 : Int32).toNatClampNeg k15) (fun S16 => zl (S16.F 23 (k1 : Int32).toNatClampNeg) (fun k18 => zl (k2 + 1) (fun k19 => zl (S16.setF 23 (k1 : Int32).toNatClampNeg k19) (fun S20 => S20)))))))))))))))))
noncomputable def fMO_put (P S : ZS) (x0 : Int32) (x1 : Int32) : ZS := zl (S.F 7 (x1 : Int32).toNatClampNeg) (fun k28 => (if k28 = 0 then zl (2 * x1) (fun k29 => zl (P.F 1 (x1 : Int32).toNatClampNeg) (fun k30 => (if k30 = x0 then fMO_put_28 P S 0 k29 else fMO_put_28 P S 1 k29))) else S))
set_option maxHeartbeats 4000000 in
set_option maxRecDepth 100000 in
theorem tMO_put (l : Launch) (dC : Nat → ClassId) (dI : Nat → Nat → Nat) (cI cZ cJ cA : ClassId) (a0 : Array Value) (s0 : State) (o b : Nat → Nat) (P S : ZS) (sz : Nat) (x0 : Int32) (x1 : Int32) (gP : mok P) (gS : mok S) (r_x1 : zr 0 59 x1) : Met l yMO_put [Cond.code yMO_put bMO_put 5 none] ({ frames := 0, cells := 0, slots := 0, locals := 0 } : Room) (zP zCl dC dI (zTZ cI cZ cJ cA) a0 s0 [.ref (o 0), .int x0, .int x1] sz (MW cI cZ cA o b P S)) (zQG zCl dC dI (fun (x9 : ZS) => x9 = fMO_put P S x0 x1 ∧ mok x9) (fun x9 : ZS => (MW cI cZ cA o b P x9)) (va_A (MW cI cZ cA o b P S) sz)) 0 0 (va_A (MW cI cZ cA o b P S) sz) := by
  refine Met.ofW (cc := bMO_put) (maxL := 5) (ret := none) (by decide) rfl ?_
  intro p e s m args below meth c s₁ B hml hv
  obtain ⟨rfl, hsz, hP, hK, hD0, hB⟩ := hv
  have hx := B.exec
  have hb := B.bytes
  have hr := B.returns
  have hown : s.vm.findClass "RingGuardModel" = some m.cls := findClass_of_methodNamed B.named
  have hlocks := B.notSynchronized
  subst hsz
  have hD := hD0.self (sz := s.heap.size)
  have hA0 := zA0 hD0 hB
  generalize hAe : va_A (MW cI cZ cA o b P S) s.heap.size = A at hD hA0 ⊢
  have hAD := hA0
  have hA : ∀ q : Nat, s.heap.size ≤ q → A q := fun q h => by rw [← hAe]; exact Or.inr h
  have hS : va_S A s.heap s.heap [] := va_S.rf
  have hl := lv_entry ([.ref (o 0), .int x0, .int x1]) (n := 5) (Nat.le_of_ble_eq_true rfl)
  rw [lg_entry_eq]
  generalize (lg_sl ([.ref (o 0), .int x0, .int x1]) ++ List.replicate (5 - (lg_sl ([.ref (o 0), .int x0, .int x1])).length) Slot.unset).toArray = ls at hl ⊢
  have hl : lv_has ls 5 [(0, .ref (o 0)), (1, .int x0), (2, .int x1)] := hl
  refine zgenQ (fun Q hQe => ?_)
  obtain ⟨tg, etg⟩ : ∃ z, z = fMO_put P S x0 x1 := ⟨_, rfl⟩
  have E := etg
  unfold fMO_put at E
  have hJ28 : ∀ (H : Heap) (locs : List Loc) (ls : Array Slot) (S_28 : ZS) (y28_0 : Int32) (y28_1 : Int32), zr 0 1 y28_0 → zr 0 118 y28_1 → mok S_28 → tg = fMO_put_28 P S_28 y28_0 y28_1 → va_P (dC, dI) zCl (MW cI cZ cA o b P S_28) H → va_D A (MW cI cZ cA o b P S_28) → va_S A s.heap H locs → lv_has ls 5 [(0, .ref (o 0))] → W p l e ({ frames := 0, cells := 0, slots := 0, locals := 0 } : Room) s m ([.ref (o 0), .int x0, .int x1] : List Value).toArray below meth c H locs 0 0 Q (F0 m 28 ls [.int y28_0, .int y28_1]) := by
    intro H locs ls S_28 y28_0 y28_1 r_y28_0 r_y28_1 gS_28 E hP hD hS hl
    unfold fMO_put_28 at E
    refine z_iadd hx hb dMO_put_28 E (fun k1 ek1 E => ?_)
    have r_k1 : zr 0 119 k1 := zr_add r_y28_1 r_y28_0 ek1 (by decide)
    refine lv_istore_n (lv' := [(3, .int k1), (0, .ref (o 0))]) hx hb dMO_put_29 rfl hl (by decide) rfl (fun ls hl => ?_)
    refine lv_aload_n hx hb dMO_put_30 rfl (lv_at hl 1 rfl) ?_
    refine m_getA_23 hx hb (hB.words zU_MO) hown hK hP (hB.word (zm4 k4_141) rfl) dMO_put_31 ?_
    refine lv_iload_n hx hb dMO_put_34 rfl (lv_at hl 0 rfl) ?_
    refine m_aldS hx hb hK hP 23 (by decide) rfl r_k1 (by decide) dMO_put_35 E (fun k2 ek2 E => ?_)
    have r_k2 : zr 0 64 k2 := by rw [ek2]; exact gS_28.1 23 _
    refine lv_bipush (v := 64) hx hb dMO_put_36 (by decide) ?_
    refine z_icmp_ne (tgt := 57) hx hb dMO_put_38 (by decide) E (fun c_38 E => ?_) (fun c_38 E => ?_)
    · have r_k2 : zr 0 63 k2 := zne_hi r_k2 c_38 (by decide)
      refine lv_bipush (v := 64) hx hb dMO_put_57 (by decide) ?_
      refine lv_iload_n hx hb dMO_put_59 rfl (lv_at hl 0 rfl) ?_
      refine z_imul hx hb dMO_put_60 E (fun k3 ek3 E => ?_)
      have r_k3 : zr 0 7616 k3 := zr_mul (show zr 64 64 64 from by decide) r_k1 ek3 (by decide)
      refine lv_aload_n hx hb dMO_put_61 rfl (lv_at hl 1 rfl) ?_
      refine m_getA_23 hx hb (hB.words zU_MO) hown hK hP (hB.word (zm4 k4_141) rfl) dMO_put_62 ?_
      refine lv_iload_n hx hb dMO_put_65 rfl (lv_at hl 0 rfl) ?_
      refine m_aldS hx hb hK hP 23 (by decide) rfl r_k1 (by decide) dMO_put_66 E (fun k4 ek4 E => ?_)
      have x9 : k2 = k4 := by rw [ek2, ek4]
      subst x9
      refine z_iadd hx hb dMO_put_67 E (fun k5 ek5 E => ?_)
      have r_k5 : zr 0 7679 k5 := zr_add r_k3 r_k2 ek5 (by decide)
      refine lv_istore (lv' := [(4, .int k5), (3, .int k1), (0, .ref (o 0))]) hx hb dMO_put_68 hl (by decide) rfl (fun ls hl => ?_)
      refine lv_aload_n hx hb dMO_put_70 rfl (lv_at hl 2 rfl) ?_
      refine m_getA_24 hx hb (hB.words zU_MO) hown hK hP (hB.word (zm4 k4_142) rfl) dMO_put_71 ?_
      refine lv_iload hx hb dMO_put_74 (lv_at hl 0 rfl) ?_
      refine lv_aload_n hx hb dMO_put_76 rfl (lv_at hl 2 rfl) ?_
      refine m_get_11 hx hb (hB.words zU_MO) hown hK hP (hB.word (zm4 k4_162) rfl) dMO_put_77 E (fun k6 ek6 E => ?_)
      refine m_astS hx hb hK hP hD hS 24 (by decide) rfl r_k5 (by decide) dMO_put_80 E (fun S7 H8 locs eS7 E hP hD hS => ?_)
      have gS7 : mok S7 := by rw [eS7]; exact gS_28.setF (k := 24) (zr_any k6) (Or.inl (by decide))
      refine lv_aload_n hx hb dMO_put_81 rfl (lv_at hl 2 rfl) ?_
      refine m_getA_25 hx hb (hB.words zU_MO) hown hK hP (hB.word (zm4 k4_143) rfl) dMO_put_82 ?_
      refine lv_iload hx hb dMO_put_85 (lv_at hl 0 rfl) ?_
      refine lv_aload_n hx hb dMO_put_87 rfl (lv_at hl 2 rfl) ?_
      refine m_get_12 hx hb (hB.words zU_MO) hown hK hP (hB.word (zm4 k4_163) rfl) dMO_put_88 E (fun k9 ek9 E => ?_)
      refine m_astS hx hb hK hP hD hS 25 (by decide) rfl r_k5 (by decide) dMO_put_91 E (fun S10 H11 locs eS10 E hP hD hS => ?_)
      have gS10 : mok S10 := by rw [eS10]; exact gS7.setF (k := 25) (zr_any k9) (Or.inl (by decide))
      refine lv_aload_n hx hb dMO_put_92 rfl (lv_at hl 2 rfl) ?_
      refine m_getA_26 hx hb (hB.words zU_MO) hown hK hP (hB.word (zm4 k4_144) rfl) dMO_put_93 ?_
      refine lv_iload hx hb dMO_put_96 (lv_at hl 0 rfl) ?_
      refine lv_aload_n hx hb dMO_put_98 rfl (lv_at hl 2 rfl) ?_
      refine m_get_13 hx hb (hB.words zU_MO) hown hK hP (hB.word (zm4 k4_164) rfl) dMO_put_99 E (fun k12 ek12 E => ?_)
      have r_k12 : zr 0 113 k12 := by rw [ek12]; exact gS10.2.1 13
      refine m_astS hx hb hK hP hD hS 26 (by decide) rfl r_k5 (by decide) dMO_put_102 E (fun S13 H14 locs eS13 E hP hD hS => ?_)
      have gS13 : mok S13 := by rw [eS13]; exact gS10.setF (k := 26) r_k12 (Or.inl (by decide))
      refine lv_aload_n hx hb dMO_put_103 rfl (lv_at hl 2 rfl) ?_
      refine m_getA_27 hx hb (hB.words zU_MO) hown hK hP (hB.word (zm4 k4_145) rfl) dMO_put_104 ?_
      refine lv_iload hx hb dMO_put_107 (lv_at hl 0 rfl) ?_
      refine lv_aload_n hx hb dMO_put_109 rfl (lv_at hl 2 rfl) ?_
      refine m_get_14 hx hb (hB.words zU_MO) hown hK hP (hB.word (zm4 k4_165) rfl) dMO_put_110 E (fun k15 ek15 E => ?_)
      refine m_astS hx hb hK hP hD hS 27 (by decide) rfl r_k5 (by decide) dMO_put_113 E (fun S16 H17 locs eS16 E hP hD hS => ?_)
      have gS16 : mok S16 := by rw [eS16]; exact gS13.setF (k := 27) (zr_any k15) (Or.inl (by decide))
      refine lv_aload_n hx hb dMO_put_114 rfl (lv_at hl 2 rfl) ?_
      refine m_getA_23 hx hb (hB.words zU_MO) hown hK hP (hB.word (zm4 k4_141) rfl) dMO_put_115 ?_
      refine lv_iload_n hx hb dMO_put_118 rfl (lv_at hl 1 rfl) ?_
      refine lv_dup2_11 hx hb dMO_put_119 rfl rfl ?_
      refine m_aldS hx hb hK hP 23 (by decide) rfl r_k1 (by decide) dMO_put_120 E (fun k18 ek18 E => ?_)
      have x9 : k2 = k18 := by rw [ek2, ek18, eS16, eS13, eS10, eS7]; rfl
      subst x9
      refine lv_iconst (v := 1) hx hb dMO_put_121 (by decide) ?_
      refine z_iadd hx hb dMO_put_122 E (fun k19 ek19 E => ?_)
      have r_k19 : zr 1 64 k19 := zr_add r_k2 (show zr 1 1 1 from by decide) ek19 (by decide)
      refine m_astS hx hb hK hP hD hS 23 (by decide) rfl r_k1 (by decide) dMO_put_123 E (fun S20 H21 locs eS20 E hP hD hS => ?_)
      have gS20 : mok S20 := by rw [eS20]; exact gS16.setF (k := 23) (zr_mono r_k19 (by decide)) (Or.inl (by decide))
      rw [hQe]
      exact W.vret hx hb hr (fun t ht hW => ⟨⟨S20, rfl, ⟨E.symm.trans etg, gS20⟩, by rw [ht]; exact hP, hD⟩, hS.F ht⟩) hS.2.2 dMO_put_124
    · have r_k2 : zr 64 64 k2 := zeq_x (show zr 64 64 64 from by decide) c_38
      refine lv_aload_n hx hb dMO_put_41 rfl (lv_at hl 1 rfl) ?_
      refine lv_dup hx hb dMO_put_42 rfl ?_
      refine m_get_5 hx hb (hB.words zU_MO) hown hK hP (hB.word (zm4 k4_152) rfl) dMO_put_43 E (fun k22 ek22 E => ?_)
      refine lv_iconst (v := 1) hx hb dMO_put_46 (by decide) ?_
      refine z_iadd hx hb dMO_put_47 E (fun k23 ek23 E => ?_)
      refine m_put_5 hx hb (hB.words zU_MO) hown hK hP hD hS (hB.word (zm4 k4_152) rfl) dMO_put_48 E (fun S24 H25 locs eS24 E hP hD hS => ?_)
      have gS24 : mok S24 := by rw [eS24]; exact gS_28.setI (t := 5) (zr_any k23)
      refine lv_aload_n hx hb dMO_put_51 rfl (lv_at hl 1 rfl) ?_
      refine lv_iconst (v := 1) hx hb dMO_put_52 (by decide) ?_
      refine m_put_8 hx hb (hB.words zU_MO) hown hK hP hD hS (hB.word (zm4 k4_155) rfl) (show zr 0 1 1 from by decide) dMO_put_53 E (fun S26 H27 locs eS26 E hP hD hS => ?_)
      have gS26 : mok S26 := by rw [eS26]; exact gS24.setI (t := 8) (show zr 0 1 1 from by decide)
      rw [hQe]
      exact W.vret hx hb hr (fun t ht hW => ⟨⟨S26, rfl, ⟨E.symm.trans etg, gS26⟩, by rw [ht]; exact hP, hD⟩, hS.F ht⟩) hS.2.2 dMO_put_56
  refine lv_aload_n hx hb dMO_put_0 rfl (lv_at hl 0 rfl) ?_
  refine m_getA_7 hx hb (hB.words zU_MO) hown hK hP (hB.word (zm4 k4_121) rfl) dMO_put_1 ?_
  refine lv_iload_n hx hb dMO_put_4 rfl (lv_at hl 2 rfl) ?_
  refine m_zaldS hx hb hK hP 7 (by decide) rfl r_x1 (by decide) dMO_put_5 E (fun k28 ek28 E => ?_)
  have r_k28 : zr 0 1 k28 := by rw [ek28]; exact gS.1 7 _
  refine z_if_eq (tgt := 10) hx hb dMO_put_6 (by decide) E (fun c_6 E => ?_) (fun c_6 E => ?_)
  · have r_k28 : zr 0 0 k28 := zeq_x (show zr 0 0 0 from by decide) c_6
    refine lv_iconst (v := 2) hx hb dMO_put_10 (by decide) ?_
    refine lv_iload_n hx hb dMO_put_11 rfl (lv_at hl 2 rfl) ?_
    refine z_imul hx hb dMO_put_12 E (fun k29 ek29 E => ?_)
    have r_k29 : zr 0 118 k29 := zr_mul (show zr 2 2 2 from by decide) r_x1 ek29 (by decide)
    refine lv_aload_n hx hb dMO_put_13 rfl (lv_at hl 0 rfl) ?_
    refine m_getA_1 hx hb (hB.words zU_MO) hown hK hP (hB.word (zm4 k4_119) rfl) dMO_put_14 ?_
    refine lv_iload_n hx hb dMO_put_17 rfl (lv_at hl 2 rfl) ?_
    refine m_aldP hx hb hK hP 1 (by decide) rfl r_x1 (by decide) dMO_put_18 E (fun k30 ek30 E => ?_)
    have r_k30 : zr 0 47 k30 := by rw [ek30]; exact gP.1 1 _
    refine lv_iload_n hx hb dMO_put_19 rfl (lv_at hl 1 rfl) ?_
    refine z_icmp_ne (tgt := 27) hx hb dMO_put_20 (by decide) E (fun c_20 E => ?_) (fun c_20 E => ?_)
    · refine lv_iconst (v := 1) hx hb dMO_put_27 (by decide) ?_
      exact hJ28 s.heap [] ls S 1 k29 (show zr 0 1 1 from by decide) r_k29 gS E hP hD hS (lv_sub hl [0] rfl)
    · have r_x0 : zr 0 47 x0 := zeq_x r_k30 c_20.symm
      refine lv_iconst (v := 0) hx hb dMO_put_23 (by decide) ?_
      refine lv_goto (tgt := 28) hx hb dMO_put_24 (by decide) ?_
      exact hJ28 s.heap [] ls S 0 k29 (show zr 0 1 0 from by decide) r_k29 gS E hP hD hS (lv_sub hl [0] rfl)
  · have r_k28 : zr 1 1 k28 := zne_lo r_k28 c_6 (by decide)
    rw [hQe]
    exact W.vret hx hb hr (fun t ht hW => ⟨⟨S, rfl, ⟨E.symm.trans etg, gS⟩, by rw [ht]; exact hP, hD⟩, hS.F ht⟩) hS.2.2 dMO_put_9
noncomputable def fMO_putAll_36 (P : ZS) (rc2 : ZS → Int32 → Int32 → Int32 → (ZS)) (S_36 : ZS) (x36_1 : Int32) (x36_2 : Int32) (x36_3 : Int32) : ZS := zl (x36_3 + 1) (fun k1 => rc2 S_36 x36_1 x36_2 k1)
noncomputable def fMO_putAll_2 (P : ZS) (rc2 : ZS → Int32 → Int32 → Int32 → (ZS)) (S_2 : ZS) (x2_1 : Int32) (x2_2 : Int32) (x2_3 : Int32) : ZS := (if 2 ≤ x2_3 then S_2 else zl (fMO_at P S_2 x2_1 x2_2) (fun k3 => zl (2 * k3) (fun k4 => zl (k4 + x2_3) (fun k5 => zl (P.F 6 (k5 : Int32).toNatClampNeg) (fun k6 => (if k6 = (-1) then fMO_putAll_36 P rc2 S_2 x2_1 x2_2 x2_3 else zl (fMO_put P S_2 x2_1 k6) (fun S8 => fMO_putAll_36 P rc2 S8 x2_1 x2_2 x2_3)))))))
noncomputable def fMO_putAll (P S : ZS) (x0 : Int32) (x1 : Int32) : ZS := zfix (fun S9 _ _ _ => S9) (fMO_putAll_2 P) 3 S x0 x1 0
set_option maxHeartbeats 4000000 in
set_option maxRecDepth 100000 in
theorem tMO_putAll (l : Launch) (dC : Nat → ClassId) (dI : Nat → Nat → Nat) (cI cZ cJ cA : ClassId) (a0 : Array Value) (s0 : State) (o b : Nat → Nat) (P S : ZS) (sz : Nat) (x0 : Int32) (x1 : Int32) (gP : mok P) (gS : mok S) (r_x0 : zr 0 47 x0) (r_x1 : zr 0 5 x1) : Met l yMO_putAll [Cond.code yMO_putAll bMO_putAll 5 none] ({ frames := 1, cells := 0, slots := 0, locals := 24 } : Room) (zP zCl dC dI (zTZ cI cZ cJ cA) a0 s0 [.ref (o 0), .int x0, .int x1] sz (MW cI cZ cA o b P S)) (zQG zCl dC dI (fun (x9 : ZS) => x9 = fMO_putAll P S x0 x1 ∧ mok x9) (fun x9 : ZS => (MW cI cZ cA o b P x9)) (va_A (MW cI cZ cA o b P S) sz)) 0 0 (va_A (MW cI cZ cA o b P S) sz) := by
  refine Met.ofW (cc := bMO_putAll) (maxL := 5) (ret := none) (by decide) rfl ?_
  intro p e s m args below meth c s₁ B hml hv
  obtain ⟨rfl, hsz, hP, hK, hD0, hB⟩ := hv
  have hx := B.exec
  have hb := B.bytes
  have hr := B.returns
  have hown : s.vm.findClass "RingGuardModel" = some m.cls := findClass_of_methodNamed B.named
  have hlocks := B.notSynchronized
  subst hsz
  have hD := hD0.self (sz := s.heap.size)
  have hA0 := zA0 hD0 hB
  generalize hAe : va_A (MW cI cZ cA o b P S) s.heap.size = A at hD hA0 ⊢
  have hAD := hA0
  have hA : ∀ q : Nat, s.heap.size ≤ q → A q := fun q h => by rw [← hAe]; exact Or.inr h
  have hS : va_S A s.heap s.heap [] := va_S.rf
  have hl := lv_entry ([.ref (o 0), .int x0, .int x1]) (n := 5) (Nat.le_of_ble_eq_true rfl)
  rw [lg_entry_eq]
  generalize (lg_sl ([.ref (o 0), .int x0, .int x1]) ++ List.replicate (5 - (lg_sl ([.ref (o 0), .int x0, .int x1])).length) Slot.unset).toArray = ls at hl ⊢
  have hl : lv_has ls 5 [(0, .ref (o 0)), (1, .int x0), (2, .int x1)] := hl
  refine zgenQ (fun Q hQe => ?_)
  obtain ⟨tg, etg⟩ : ∃ z, z = fMO_putAll P S x0 x1 := ⟨_, rfl⟩
  have E := etg
  unfold fMO_putAll at E
  have hL2 : ∀ (n2 : Nat) (H : Heap) (locs : List Loc) (ls : Array Slot) (S_2 : ZS) (x2_1 : Int32) (x2_2 : Int32) (x2_3 : Int32), zr 0 47 x2_1 → zr 0 5 x2_2 → zr 0 2 x2_3 → mok S_2 → 2 + 1 - x2_3.toInt ≤ (n2 : Int) → tg = zfix (fun S9 _ _ _ => S9) (fMO_putAll_2 P) n2 S_2 x2_1 x2_2 x2_3 → va_P (dC, dI) zCl (MW cI cZ cA o b P S_2) H → va_D A (MW cI cZ cA o b P S_2) → va_S A s.heap H locs → lv_has ls 5 [(0, .ref (o 0)), (1, .int x2_1), (2, .int x2_2), (3, .int x2_3)] → W p l e ({ frames := 1, cells := 0, slots := 0, locals := 24 } : Room) s m ([.ref (o 0), .int x0, .int x1] : List Value).toArray below meth c H locs 0 0 Q (F0 m 2 ls []) := by
    intro n2
    induction n2 with
    | zero => intro H locs ls S_2 x2_1 x2_2 x2_3 r_x2_1 r_x2_2 r_x2_3 gS_2 hm2 E hP hD hS hl; exact absurd hm2 (zfuel0U r_x2_3)
    | succ n2 ih2 =>
      intro H locs ls S_2 x2_1 x2_2 x2_3 r_x2_1 r_x2_2 r_x2_3 gS_2 hm2 E hP hD hS hl
      rw [zfix_s] at E
      generalize zfix (fun S9 _ _ _ => S9) (fMO_putAll_2 P) n2 = rc2 at ih2 E
      unfold fMO_putAll_2 at E
      have hJ36 : ∀ (H : Heap) (locs : List Loc) (ls : Array Slot) (S_36 : ZS) (x36_1 : Int32) (x36_2 : Int32) (x36_3 : Int32), zr 0 47 x36_1 → zr 0 5 x36_2 → zr 0 1 x36_3 → mok S_36 → 2 + 1 - x36_3.toInt ≤ ((n2 + 1 : Nat) : Int) → tg = fMO_putAll_36 P rc2 S_36 x36_1 x36_2 x36_3 → va_P (dC, dI) zCl (MW cI cZ cA o b P S_36) H → va_D A (MW cI cZ cA o b P S_36) → va_S A s.heap H locs → lv_has ls 5 [(0, .ref (o 0)), (1, .int x36_1), (2, .int x36_2), (3, .int x36_3)] → W p l e ({ frames := 1, cells := 0, slots := 0, locals := 24 } : Room) s m ([.ref (o 0), .int x0, .int x1] : List Value).toArray below meth c H locs 0 0 Q (F0 m 36 ls []) := by
        intro H locs ls S_36 x36_1 x36_2 x36_3 r_x36_1 r_x36_2 r_x36_3 gS_36 hm2_36 E hP hD hS hl
        unfold fMO_putAll_36 at E
        refine z_iinc (lv' := fun v9 => [(3, .int v9), (0, .ref (o 0)), (1, .int x36_1), (2, .int x36_2)]) (cst := 1) hx hb dMO_putAll_36 hl (k := 3) rfl (by decide) (by decide) (fun _ => rfl) E (fun k1 ls ek1 E hl => ?_)
        have r_k1 : zr 1 2 k1 := zr_add r_x36_3 (show zr 1 1 1 from by decide) ek1 (by decide)
        refine lv_goto (tgt := 2) hx hb dMO_putAll_39 (by decide) ?_
        exact ih2 H locs ls S_36 x36_1 x36_2 k1 r_x36_1 r_x36_2 (zr_mono r_k1 (by decide)) gS_36 (zstepU ek1 r_x36_3 (by decide) hm2_36) E hP hD hS (lv_sub hl [1, 2, 3, 0] rfl)
      refine lv_iload_n hx hb dMO_putAll_2 rfl (lv_at hl 3 rfl) ?_
      refine lv_iconst (v := 2) hx hb dMO_putAll_3 (by decide) ?_
      refine z_icmp_ge (tgt := 42) hx hb dMO_putAll_4 (by decide) E (fun c_4 E => ?_) (fun c_4 E => ?_)
      · have r_x2_3 : zr 2 2 x2_3 := zle_y (show zr 2 2 2 from by decide) r_x2_3 c_4 (by decide)
        rw [hQe]
        exact W.vret hx hb hr (fun t ht hW => ⟨⟨S_2, rfl, ⟨E.symm.trans etg, gS_2⟩, by rw [ht]; exact hP, hD⟩, hS.F ht⟩) hS.2.2 dMO_putAll_42
      · have r_x2_3 : zr 0 1 x2_3 := zlt_x r_x2_3 (show zr 2 2 2 from by decide) (znle c_4) (by decide)
        refine lv_aload_n hx hb dMO_putAll_7 rfl (lv_at hl 0 rfl) ?_
        refine m_getA_6 hx hb (hB.words zU_MO) hown hK hP (hB.word (zm4 k4_130) rfl) dMO_putAll_8 ?_
        refine lv_iconst (v := 2) hx hb dMO_putAll_11 (by decide) ?_
        refine lv_iload_n hx hb dMO_putAll_12 rfl (lv_at hl 1 rfl) ?_
        refine lv_iload_n hx hb dMO_putAll_13 rfl (lv_at hl 2 rfl) ?_
        refine zcallp (va_runS (As := [.int x2_1, .int x2_2]) (rest := [.int 2, .ref (b 6)]) ⟨hx, hb, hml, hown, zno⟩ (tMO_at l dC dI cI cZ cJ cA a0 s0 o b P S_2 H.size x2_1 x2_2 gP gS_2 r_x2_1 r_x2_2) ⟨zcb 2 (hB.word (zm5 k5_119) rfl) (hB.word (zm1 k1_9) rfl) (hB.word (zm5 k5_117) rfl) rfl rfl (by decide +kernel) ⟨Nat.le_of_ble_eq_true rfl, Nat.le_of_ble_eq_true rfl⟩, hB.word (zm5 k5_118) rfl⟩ ⟨zP_blind, zP_pre hP hK hD hAD (zB_on hB hA0 hS)⟩ rfl rfl hl.1 rfl (lv_room (Nat.le_of_ble_eq_true rfl)) dMO_putAll_14 ⟨Nat.le_of_ble_eq_true rfl, Nat.le_of_ble_eq_true rfl⟩) hS hA (fun k3 H2 locs hk3 hz1 hk1 hS => ?_)
        have hP := zKeep hP hk1
        have E := zl_s E hk3.1
        refine z_imul hx hb dMO_putAll_17 E (fun k4 ek4 E => ?_)
        have r_k4 : zr 0 574 k4 := zr_mul (show zr 2 2 2 from by decide) hk3.2 ek4 (by decide)
        refine lv_iload_n hx hb dMO_putAll_18 rfl (lv_at hl 3 rfl) ?_
        refine z_iadd hx hb dMO_putAll_19 E (fun k5 ek5 E => ?_)
        have r_k5 : zr 0 575 k5 := zr_add r_k4 r_x2_3 ek5 (by decide)
        refine m_aldP hx hb hK hP 6 (by decide) rfl r_k5 (by decide) dMO_putAll_20 E (fun k6 ek6 E => ?_)
        have r_k6 : zr (-1) 59 k6 := by rw [ek6]; exact gP.1 6 _
        refine lv_istore (lv' := [(4, .int k6), (0, .ref (o 0)), (1, .int x2_1), (2, .int x2_2), (3, .int x2_3)]) hx hb dMO_putAll_21 hl (by decide) rfl (fun ls hl => ?_)
        refine lv_iload hx hb dMO_putAll_23 (lv_at hl 0 rfl) ?_
        refine lv_iconst (v := (-1)) hx hb dMO_putAll_25 (by decide) ?_
        refine z_icmp_eq (tgt := 36) hx hb dMO_putAll_26 (by decide) E (fun c_26 E => ?_) (fun c_26 E => ?_)
        · have r_k6 : zr (-1) (-1) k6 := zeq_x (show zr (-1) (-1) (-1) from by decide) c_26
          exact hJ36 H2 locs ls S_2 x2_1 x2_2 x2_3 r_x2_1 r_x2_2 r_x2_3 gS_2 hm2 E hP hD hS (lv_sub hl [1, 2, 3, 4] rfl)
        · have r_k6 : zr 0 59 k6 := zne_lo r_k6 c_26 (by decide)
          refine lv_aload_n hx hb dMO_putAll_29 rfl (lv_at hl 1 rfl) ?_
          refine lv_iload_n hx hb dMO_putAll_30 rfl (lv_at hl 2 rfl) ?_
          refine lv_iload hx hb dMO_putAll_31 (lv_at hl 0 rfl) ?_
          refine zcV (va_runV (As := [.int x2_1, .int k6]) (rest := []) ⟨hx, hb, hml, hown, zno⟩ (tMO_put l dC dI cI cZ cJ cA a0 s0 o b P S_2 H2.size x2_1 k6 gP gS_2 r_k6) (zcw 2 (hB.word (zm5 k5_135) rfl) (hB.word (zm1 k1_9) rfl) (hB.word (zm5 k5_132) rfl) (hB.word (zm5 k5_134) rfl) (k2_selects_private (by decide) (hB.word (zm4 k4_109) rfl) (hB.word (zm5 k5_133) rfl) (hB.word (zm5 k5_134) rfl)) rfl rfl (by decide +kernel) ⟨Nat.le_of_ble_eq_true rfl, Nat.le_of_ble_eq_true rfl⟩) ⟨zP_blind, va_recv hK hP (ci := 7) (q0 := 0) rfl rfl, zP_pre hP hK hD hAD (zB_on hB hA0 hS)⟩ rfl rfl hl.1 rfl (lv_room (Nat.le_of_ble_eq_true rfl)) dMO_putAll_33 ⟨Nat.le_of_ble_eq_true rfl, Nat.le_of_ble_eq_true rfl⟩) hD hS hA (fun S8 H7 locs h9 hP hD hS => ?_)
          have E := zl_s E h9.1
          have gS8 := h9.2
          exact hJ36 H7 locs ls S8 x2_1 x2_2 x2_3 r_x2_1 r_x2_2 r_x2_3 gS8 hm2 E hP hD hS (lv_sub hl [1, 2, 3, 4] rfl)
  refine lv_iconst (v := 0) hx hb dMO_putAll_0 (by decide) ?_
  refine lv_istore_n (lv' := [(3, .int 0), (0, .ref (o 0)), (1, .int x0), (2, .int x1)]) hx hb dMO_putAll_1 rfl hl (by decide) rfl (fun ls hl => ?_)
  exact hL2 3 s.heap [] ls S x0 x1 0 r_x0 r_x1 (show zr 0 2 0 from by decide) gS (by have h9 := (show zr 0 0 0 from by decide); exact zfuelU h9 (by decide)) E hP hD hS (lv_sub hl [1, 2, 3, 0] rfl)
noncomputable def fMO_news_101 (P : ZS) (rc80 : ZS → Int32 → Int32 → Int32 → (ZS)) (S_101 : ZS) (x101_1 : Int32) (x101_4 : Int32) (x101_5 : Int32) : ZS := zl (x101_5 + 1) (fun k1 => rc80 S_101 x101_1 x101_4 k1)
noncomputable def fMO_news_80 (P : ZS) (rc80 : ZS → Int32 → Int32 → Int32 → (ZS)) (S_80 : ZS) (x80_1 : Int32) (x80_4 : Int32) (x80_5 : Int32) : ZS := (if 6 ≤ x80_5 then S_80 else (if x80_5 = x80_4 then fMO_news_101 P rc80 S_80 x80_1 x80_4 x80_5 else zl (fMO_putAll P S_80 x80_1 x80_5) (fun S3 => fMO_news_101 P rc80 S3 x80_1 x80_4 x80_5)))
noncomputable def fMO_news_41 (P : ZS) (rc41 : ZS → Int32 → Int32 → Int32 → Int32 → Int32 → (ZS)) (S_41 : ZS) (x41_1 : Int32) (x41_2 : Int32) (x41_3 : Int32) (x41_4 : Int32) (x41_5 : Int32) : ZS := (if 256 ≤ x41_5 then zl (fMO_say P S_41 5 x41_1 x41_2 x41_3) (fun S6 => zfix (fun S9 _ _ _ => S9) (fMO_news_80 P) 7 S6 x41_1 x41_4 0) else zl (256 * x41_1) (fun k8 => zl (k8 + x41_5) (fun k9 => zl (S_41.setF 20 (k9 : Int32).toNatClampNeg (-1)) (fun S10 => zl (x41_5 + 1) (fun k12 => rc41 S10 x41_1 x41_2 x41_3 x41_4 k12)))))
noncomputable def fMO_news (P S : ZS) (x0 : Int32) (x1 : Int32) (x2 : Int32) (x3 : Int32) : ZS := zl (114 * x0) (fun k13 => zl (k13 + x1) (fun k14 => zl (S.F 19 (k14 : Int32).toNatClampNeg) (fun k15 => (if k15 < x2 then zl (114 * x0) (fun k16 => zl (k16 + x1) (fun k17 => zl (S.setF 19 (k17 : Int32).toNatClampNeg x2) (fun S18 => zl (S18.F 18 (x0 : Int32).toNatClampNeg) (fun k20 => zl (k20 + 1) (fun k21 => zl (S18.setF 18 (x0 : Int32).toNatClampNeg k21) (fun S22 => zfix (fun S9 _ _ _ _ _ => S9) (fMO_news_41 P) 257 S22 x0 x1 x2 x3 0)))))) else S))))
set_option maxHeartbeats 4000000 in
set_option maxRecDepth 100000 in
theorem tMO_news (l : Launch) (dC : Nat → ClassId) (dI : Nat → Nat → Nat) (cI cZ cJ cA : ClassId) (a0 : Array Value) (s0 : State) (o b : Nat → Nat) (P S : ZS) (sz : Nat) (x0 : Int32) (x1 : Int32) (x2 : Int32) (x3 : Int32) (gP : mok P) (gS : mok S) (r_x0 : zr 0 47 x0) (r_x1 : zr 0 113 x1) : Met l yMO_news [Cond.code yMO_news bMO_news 6 none] ({ frames := 2, cells := 0, slots := 0, locals := 48 } : Room) (zP zCl dC dI (zTZ cI cZ cJ cA) a0 s0 [.ref (o 0), .int x0, .int x1, .int x2, .int x3] sz (MW cI cZ cA o b P S)) (zQG zCl dC dI (fun (x9 : ZS) => x9 = fMO_news P S x0 x1 x2 x3 ∧ mok x9) (fun x9 : ZS => (MW cI cZ cA o b P x9)) (va_A (MW cI cZ cA o b P S) sz)) 0 0 (va_A (MW cI cZ cA o b P S) sz) := by
  refine Met.ofW (cc := bMO_news) (maxL := 6) (ret := none) (by decide) rfl ?_
  intro p e s m args below meth c s₁ B hml hv
  obtain ⟨rfl, hsz, hP, hK, hD0, hB⟩ := hv
  have hx := B.exec
  have hb := B.bytes
  have hr := B.returns
  have hown : s.vm.findClass "RingGuardModel" = some m.cls := findClass_of_methodNamed B.named
  have hlocks := B.notSynchronized
  subst hsz
  have hD := hD0.self (sz := s.heap.size)
  have hA0 := zA0 hD0 hB
  generalize hAe : va_A (MW cI cZ cA o b P S) s.heap.size = A at hD hA0 ⊢
  have hAD := hA0
  have hA : ∀ q : Nat, s.heap.size ≤ q → A q := fun q h => by rw [← hAe]; exact Or.inr h
  have hS : va_S A s.heap s.heap [] := va_S.rf
  have hl := lv_entry ([.ref (o 0), .int x0, .int x1, .int x2, .int x3]) (n := 6) (Nat.le_of_ble_eq_true rfl)
  rw [lg_entry_eq]
  generalize (lg_sl ([.ref (o 0), .int x0, .int x1, .int x2, .int x3]) ++ List.replicate (6 - (lg_sl ([.ref (o 0), .int x0, .int x1, .int x2, .int x3])).length) Slot.unset).toArray = ls at hl ⊢
  have hl : lv_has ls 6 [(0, .ref (o 0)), (1, .int x0), (2, .int x1), (3, .int x2), (4, .int x3)] := hl
  refine zgenQ (fun Q hQe => ?_)
  obtain ⟨tg, etg⟩ : ∃ z, z = fMO_news P S x0 x1 x2 x3 := ⟨_, rfl⟩
  have E := etg
  unfold fMO_news at E
  have hL41 : ∀ (n41 : Nat) (H : Heap) (locs : List Loc) (ls : Array Slot) (S_41 : ZS) (x41_1 : Int32) (x41_2 : Int32) (x41_3 : Int32) (x41_4 : Int32) (x41_5 : Int32), zr 0 47 x41_1 → zr 0 113 x41_2 → zr (-2147483647) 2147483647 x41_3 → zr 0 256 x41_5 → mok S_41 → 256 + 1 - x41_5.toInt ≤ (n41 : Int) → tg = zfix (fun S9 _ _ _ _ _ => S9) (fMO_news_41 P) n41 S_41 x41_1 x41_2 x41_3 x41_4 x41_5 → va_P (dC, dI) zCl (MW cI cZ cA o b P S_41) H → va_D A (MW cI cZ cA o b P S_41) → va_S A s.heap H locs → lv_has ls 6 [(0, .ref (o 0)), (1, .int x41_1), (2, .int x41_2), (3, .int x41_3), (4, .int x41_4), (5, .int x41_5)] → W p l e ({ frames := 2, cells := 0, slots := 0, locals := 48 } : Room) s m ([.ref (o 0), .int x0, .int x1, .int x2, .int x3] : List Value).toArray below meth c H locs 0 0 Q (F0 m 41 ls []) := by
    intro n41
    induction n41 with
    | zero => intro H locs ls S_41 x41_1 x41_2 x41_3 x41_4 x41_5 r_x41_1 r_x41_2 r_x41_3 r_x41_5 gS_41 hm41 E hP hD hS hl; exact absurd hm41 (zfuel0U r_x41_5)
    | succ n41 ih41 =>
      intro H locs ls S_41 x41_1 x41_2 x41_3 x41_4 x41_5 r_x41_1 r_x41_2 r_x41_3 r_x41_5 gS_41 hm41 E hP hD hS hl
      rw [zfix_s] at E
      generalize zfix (fun S9 _ _ _ _ _ => S9) (fMO_news_41 P) n41 = rc41 at ih41 E
      unfold fMO_news_41 at E
      have hL80 : ∀ (n80 : Nat) (H : Heap) (locs : List Loc) (ls : Array Slot) (S_80 : ZS) (x80_1 : Int32) (x80_4 : Int32) (x80_5 : Int32), zr 0 47 x80_1 → zr 0 6 x80_5 → mok S_80 → 6 + 1 - x80_5.toInt ≤ (n80 : Int) → tg = zfix (fun S9 _ _ _ => S9) (fMO_news_80 P) n80 S_80 x80_1 x80_4 x80_5 → va_P (dC, dI) zCl (MW cI cZ cA o b P S_80) H → va_D A (MW cI cZ cA o b P S_80) → va_S A s.heap H locs → lv_has ls 6 [(0, .ref (o 0)), (1, .int x80_1), (4, .int x80_4), (5, .int x80_5)] → W p l e ({ frames := 2, cells := 0, slots := 0, locals := 48 } : Room) s m ([.ref (o 0), .int x0, .int x1, .int x2, .int x3] : List Value).toArray below meth c H locs 0 0 Q (F0 m 80 ls []) := by
        intro n80
        induction n80 with
        | zero => intro H locs ls S_80 x80_1 x80_4 x80_5 r_x80_1 r_x80_5 gS_80 hm80 E hP hD hS hl; exact absurd hm80 (zfuel0U r_x80_5)
        | succ n80 ih80 =>
          intro H locs ls S_80 x80_1 x80_4 x80_5 r_x80_1 r_x80_5 gS_80 hm80 E hP hD hS hl
          rw [zfix_s] at E
          generalize zfix (fun S9 _ _ _ => S9) (fMO_news_80 P) n80 = rc80 at ih80 E
          unfold fMO_news_80 at E
          have hJ101 : ∀ (H : Heap) (locs : List Loc) (ls : Array Slot) (S_101 : ZS) (x101_1 : Int32) (x101_4 : Int32) (x101_5 : Int32), zr 0 47 x101_1 → zr 0 5 x101_5 → mok S_101 → 6 + 1 - x101_5.toInt ≤ ((n80 + 1 : Nat) : Int) → tg = fMO_news_101 P rc80 S_101 x101_1 x101_4 x101_5 → va_P (dC, dI) zCl (MW cI cZ cA o b P S_101) H → va_D A (MW cI cZ cA o b P S_101) → va_S A s.heap H locs → lv_has ls 6 [(0, .ref (o 0)), (1, .int x101_1), (4, .int x101_4), (5, .int x101_5)] → W p l e ({ frames := 2, cells := 0, slots := 0, locals := 48 } : Room) s m ([.ref (o 0), .int x0, .int x1, .int x2, .int x3] : List Value).toArray below meth c H locs 0 0 Q (F0 m 101 ls []) := by
            intro H locs ls S_101 x101_1 x101_4 x101_5 r_x101_1 r_x101_5 gS_101 hm80_101 E hP hD hS hl
            unfold fMO_news_101 at E
            refine z_iinc (lv' := fun v9 => [(5, .int v9), (0, .ref (o 0)), (1, .int x101_1), (4, .int x101_4)]) (cst := 1) hx hb dMO_news_101 hl (k := 3) rfl (by decide) (by decide) (fun _ => rfl) E (fun k1 ls ek1 E hl => ?_)
            have r_k1 : zr 1 6 k1 := zr_add r_x101_5 (show zr 1 1 1 from by decide) ek1 (by decide)
            refine lv_goto (tgt := 80) hx hb dMO_news_104 (by decide) ?_
            exact ih80 H locs ls S_101 x101_1 x101_4 k1 r_x101_1 (zr_mono r_k1 (by decide)) gS_101 (zstepU ek1 r_x101_5 (by decide) hm80_101) E hP hD hS (lv_sub hl [1, 2, 3, 0] rfl)
          refine lv_iload hx hb dMO_news_80 (lv_at hl 3 rfl) ?_
          refine lv_bipush (v := 6) hx hb dMO_news_82 (by decide) ?_
          refine z_icmp_ge (tgt := 107) hx hb dMO_news_84 (by decide) E (fun c_84 E => ?_) (fun c_84 E => ?_)
          · have r_x80_5 : zr 6 6 x80_5 := zle_y (show zr 6 6 6 from by decide) r_x80_5 c_84 (by decide)
            rw [hQe]
            exact W.vret hx hb hr (fun t ht hW => ⟨⟨S_80, rfl, ⟨E.symm.trans etg, gS_80⟩, by rw [ht]; exact hP, hD⟩, hS.F ht⟩) hS.2.2 dMO_news_107
          · have r_x80_5 : zr 0 5 x80_5 := zlt_x r_x80_5 (show zr 6 6 6 from by decide) (znle c_84) (by decide)
            refine lv_iload hx hb dMO_news_87 (lv_at hl 3 rfl) ?_
            refine lv_iload hx hb dMO_news_89 (lv_at hl 2 rfl) ?_
            refine z_icmp_eq (tgt := 101) hx hb dMO_news_91 (by decide) E (fun c_91 E => ?_) (fun c_91 E => ?_)
            · have r_x80_4 : zr 0 5 x80_4 := zeq_x r_x80_5 c_91.symm
              exact hJ101 H locs ls S_80 x80_1 x80_4 x80_5 r_x80_1 r_x80_5 gS_80 hm80 E hP hD hS (lv_sub hl [0, 1, 2, 3] rfl)
            · refine lv_aload_n hx hb dMO_news_94 rfl (lv_at hl 0 rfl) ?_
              refine lv_iload_n hx hb dMO_news_95 rfl (lv_at hl 1 rfl) ?_
              refine lv_iload hx hb dMO_news_96 (lv_at hl 3 rfl) ?_
              refine zcV (va_runV (As := [.int x80_1, .int x80_5]) (rest := []) ⟨hx, hb, hml, hown, zno⟩ (tMO_putAll l dC dI cI cZ cJ cA a0 s0 o b P S_80 H.size x80_1 x80_5 gP gS_80 r_x80_1 r_x80_5) (zcw 2 (hB.word (zm5 k5_131) rfl) (hB.word (zm1 k1_9) rfl) (hB.word (zm5 k5_128) rfl) (hB.word (zm5 k5_130) rfl) (k2_selects_private (by decide) (hB.word (zm4 k4_109) rfl) (hB.word (zm5 k5_129) rfl) (hB.word (zm5 k5_130) rfl)) rfl rfl (by decide +kernel) ⟨Nat.le_of_ble_eq_true rfl, Nat.le_of_ble_eq_true rfl⟩) ⟨zP_blind, va_recv hK hP (ci := 7) (q0 := 0) rfl rfl, zP_pre hP hK hD hAD (zB_on hB hA0 hS)⟩ rfl rfl hl.1 rfl (lv_room (Nat.le_of_ble_eq_true rfl)) dMO_news_98 ⟨Nat.le_of_ble_eq_true rfl, Nat.le_of_ble_eq_true rfl⟩) hD hS hA (fun S3 H2 locs h4 hP hD hS => ?_)
              have E := zl_s E h4.1
              have gS3 := h4.2
              exact hJ101 H2 locs ls S3 x80_1 x80_4 x80_5 r_x80_1 r_x80_5 gS3 hm80 E hP hD hS (lv_sub hl [0, 1, 2, 3] rfl)
      refine lv_iload hx hb dMO_news_41 (lv_at hl 5 rfl) ?_
      refine lv_sipush (v := 256) hx hb dMO_news_43 (by decide) ?_
      refine z_icmp_ge (tgt := 69) hx hb dMO_news_46 (by decide) E (fun c_46 E => ?_) (fun c_46 E => ?_)
      · have r_x41_5 : zr 256 256 x41_5 := zle_y (show zr 256 256 256 from by decide) r_x41_5 c_46 (by decide)
        refine lv_aload_n hx hb dMO_news_69 rfl (lv_at hl 0 rfl) ?_
        refine lv_iconst (v := 5) hx hb dMO_news_70 (by decide) ?_
        refine lv_iload_n hx hb dMO_news_71 rfl (lv_at hl 1 rfl) ?_
        refine lv_iload_n hx hb dMO_news_72 rfl (lv_at hl 2 rfl) ?_
        refine lv_iload_n hx hb dMO_news_73 rfl (lv_at hl 3 rfl) ?_
        refine zcV (va_runV (As := [.int 5, .int x41_1, .int x41_2, .int x41_3]) (rest := []) ⟨hx, hb, hml, hown, zno⟩ (tMO_say l dC dI cI cZ cJ cA a0 s0 o b P S_41 H.size 5 x41_1 x41_2 x41_3 gP gS_41 r_x41_2) (zcw 4 (hB.word (zm5 k5_127) rfl) (hB.word (zm1 k1_9) rfl) (hB.word (zm5 k5_124) rfl) (hB.word (zm5 k5_126) rfl) (k2_selects_private (by decide) (hB.word (zm4 k4_109) rfl) (hB.word (zm5 k5_125) rfl) (hB.word (zm5 k5_126) rfl)) rfl rfl (by decide +kernel) ⟨Nat.le_of_ble_eq_true rfl, Nat.le_of_ble_eq_true rfl⟩) ⟨zP_blind, va_recv hK hP (ci := 7) (q0 := 0) rfl rfl, zP_pre hP hK hD hAD (zB_on hB hA0 hS)⟩ rfl rfl hl.1 rfl (lv_room (Nat.le_of_ble_eq_true rfl)) dMO_news_74 ⟨Nat.le_of_ble_eq_true rfl, Nat.le_of_ble_eq_true rfl⟩) hD hS hA (fun S6 H5 locs h7 hP hD hS => ?_)
        have E := zl_s E h7.1
        have gS6 := h7.2
        refine lv_iconst (v := 0) hx hb dMO_news_77 (by decide) ?_
        refine lv_istore (lv' := [(5, .int 0), (0, .ref (o 0)), (1, .int x41_1), (2, .int x41_2), (3, .int x41_3), (4, .int x41_4)]) hx hb dMO_news_78 hl (by decide) rfl (fun ls hl => ?_)
        exact hL80 7 H5 locs ls S6 x41_1 x41_4 0 r_x41_1 (show zr 0 6 0 from by decide) gS6 (by have h9 := (show zr 0 0 0 from by decide); exact zfuelU h9 (by decide)) E hP hD hS (lv_sub hl [1, 2, 5, 0] rfl)
      · have r_x41_5 : zr 0 255 x41_5 := zlt_x r_x41_5 (show zr 256 256 256 from by decide) (znle c_46) (by decide)
        refine lv_aload_n hx hb dMO_news_49 rfl (lv_at hl 0 rfl) ?_
        refine m_getA_20 hx hb (hB.words zU_MO) hown hK hP (hB.word (zm4 k4_138) rfl) dMO_news_50 ?_
        refine lv_sipush (v := 256) hx hb dMO_news_53 (by decide) ?_
        refine lv_iload_n hx hb dMO_news_56 rfl (lv_at hl 1 rfl) ?_
        refine z_imul hx hb dMO_news_57 E (fun k8 ek8 E => ?_)
        have r_k8 : zr 0 12032 k8 := zr_mul (show zr 256 256 256 from by decide) r_x41_1 ek8 (by decide)
        refine lv_iload hx hb dMO_news_58 (lv_at hl 5 rfl) ?_
        refine z_iadd hx hb dMO_news_60 E (fun k9 ek9 E => ?_)
        have r_k9 : zr 0 12287 k9 := zr_add r_k8 r_x41_5 ek9 (by decide)
        refine lv_iconst (v := (-1)) hx hb dMO_news_61 (by decide) ?_
        refine m_astS hx hb hK hP hD hS 20 (by decide) rfl r_k9 (by decide) dMO_news_62 E (fun S10 H11 locs eS10 E hP hD hS => ?_)
        have gS10 : mok S10 := by rw [eS10]; exact gS_41.setF (k := 20) (show zr (-2147483648) 2147483647 (-1) from by decide) (Or.inl (by decide))
        refine z_iinc (lv' := fun v9 => [(5, .int v9), (0, .ref (o 0)), (1, .int x41_1), (2, .int x41_2), (3, .int x41_3), (4, .int x41_4)]) (cst := 1) hx hb dMO_news_63 hl (k := 5) rfl (by decide) (by decide) (fun _ => rfl) E (fun k12 ls ek12 E hl => ?_)
        have r_k12 : zr 1 256 k12 := zr_add r_x41_5 (show zr 1 1 1 from by decide) ek12 (by decide)
        refine lv_goto (tgt := 41) hx hb dMO_news_66 (by decide) ?_
        exact ih41 H11 locs ls S10 x41_1 x41_2 x41_3 x41_4 k12 r_x41_1 r_x41_2 r_x41_3 (zr_mono r_k12 (by decide)) gS10 (zstepU ek12 r_x41_5 (by decide) hm41) E hP hD hS (lv_sub hl [1, 2, 3, 4, 5, 0] rfl)
  refine lv_iload_n hx hb dMO_news_0 rfl (lv_at hl 3 rfl) ?_
  refine lv_aload_n hx hb dMO_news_1 rfl (lv_at hl 0 rfl) ?_
  refine m_getA_19 hx hb (hB.words zU_MO) hown hK hP (hB.word (zm4 k4_137) rfl) dMO_news_2 ?_
  refine lv_bipush (v := 114) hx hb dMO_news_5 (by decide) ?_
  refine lv_iload_n hx hb dMO_news_7 rfl (lv_at hl 1 rfl) ?_
  refine z_imul hx hb dMO_news_8 E (fun k13 ek13 E => ?_)
  have r_k13 : zr 0 5358 k13 := zr_mul (show zr 114 114 114 from by decide) r_x0 ek13 (by decide)
  refine lv_iload_n hx hb dMO_news_9 rfl (lv_at hl 2 rfl) ?_
  refine z_iadd hx hb dMO_news_10 E (fun k14 ek14 E => ?_)
  have r_k14 : zr 0 5471 k14 := zr_add r_k13 r_x1 ek14 (by decide)
  refine m_aldS hx hb hK hP 19 (by decide) rfl r_k14 (by decide) dMO_news_11 E (fun k15 ek15 E => ?_)
  refine z_icmp_gt (tgt := 16) hx hb dMO_news_12 (by decide) E (fun c_12 E => ?_) (fun c_12 E => ?_)
  · have r_k15 : zr (-2147483648) 2147483646 k15 := zlt_x (zr_any k15) (zr_any x2) c_12 (by decide)
    have r_x2 : zr (-2147483647) 2147483647 x2 := zlt_y (zr_any k15) (zr_any x2) c_12 (by decide)
    refine lv_aload_n hx hb dMO_news_16 rfl (lv_at hl 0 rfl) ?_
    refine m_getA_19 hx hb (hB.words zU_MO) hown hK hP (hB.word (zm4 k4_137) rfl) dMO_news_17 ?_
    refine lv_bipush (v := 114) hx hb dMO_news_20 (by decide) ?_
    refine lv_iload_n hx hb dMO_news_22 rfl (lv_at hl 1 rfl) ?_
    refine z_imul hx hb dMO_news_23 E (fun k16 ek16 E => ?_)
    have r_k16 : zr 0 5358 k16 := zr_mul (show zr 114 114 114 from by decide) r_x0 ek16 (by decide)
    refine lv_iload_n hx hb dMO_news_24 rfl (lv_at hl 2 rfl) ?_
    refine z_iadd hx hb dMO_news_25 E (fun k17 ek17 E => ?_)
    have r_k17 : zr 0 5471 k17 := zr_add r_k16 r_x1 ek17 (by decide)
    refine lv_iload_n hx hb dMO_news_26 rfl (lv_at hl 3 rfl) ?_
    refine m_astS hx hb hK hP hD hS 19 (by decide) rfl r_k17 (by decide) dMO_news_27 E (fun S18 H19 locs eS18 E hP hD hS => ?_)
    have gS18 : mok S18 := by rw [eS18]; exact gS.setF (k := 19) (zr_any x2) (Or.inl (by decide))
    refine lv_aload_n hx hb dMO_news_28 rfl (lv_at hl 0 rfl) ?_
    refine m_getA_18 hx hb (hB.words zU_MO) hown hK hP (hB.word (zm4 k4_136) rfl) dMO_news_29 ?_
    refine lv_iload_n hx hb dMO_news_32 rfl (lv_at hl 1 rfl) ?_
    refine lv_dup2_11 hx hb dMO_news_33 rfl rfl ?_
    refine m_aldS hx hb hK hP 18 (by decide) rfl r_x0 (by decide) dMO_news_34 E (fun k20 ek20 E => ?_)
    refine lv_iconst (v := 1) hx hb dMO_news_35 (by decide) ?_
    refine z_iadd hx hb dMO_news_36 E (fun k21 ek21 E => ?_)
    refine m_astS hx hb hK hP hD hS 18 (by decide) rfl r_x0 (by decide) dMO_news_37 E (fun S22 H23 locs eS22 E hP hD hS => ?_)
    have gS22 : mok S22 := by rw [eS22]; exact gS18.setF (k := 18) (zr_any k21) (Or.inl (by decide))
    refine lv_iconst (v := 0) hx hb dMO_news_38 (by decide) ?_
    refine lv_istore (lv' := [(5, .int 0), (0, .ref (o 0)), (1, .int x0), (2, .int x1), (3, .int x2), (4, .int x3)]) hx hb dMO_news_39 hl (by decide) rfl (fun ls hl => ?_)
    exact hL41 257 H23 locs ls S22 x0 x1 x2 x3 0 r_x0 r_x1 r_x2 (show zr 0 256 0 from by decide) gS22 (by have h9 := (show zr 0 0 0 from by decide); exact zfuelU h9 (by decide)) E hP hD hS (lv_sub hl [1, 2, 3, 4, 5, 0] rfl)
  · rw [hQe]
    exact W.vret hx hb hr (fun t ht hW => ⟨⟨S, rfl, ⟨E.symm.trans etg, gS⟩, by rw [ht]; exact hP, hD⟩, hS.F ht⟩) hS.2.2 dMO_news_15
noncomputable def fMO_takeHold (P S : ZS) (x0 : Int32) : ZS := zl (P.F 4 (x0 : Int32).toNatClampNeg) (fun k1 => zl (P.F 3 (x0 : Int32).toNatClampNeg) (fun k2 => zl (P.F 3 (x0 : Int32).toNatClampNeg) (fun k3 => zl (fMO_end P S k2 k1) (fun k5 => zl (S.F 10 (k5 : Int32).toNatClampNeg) (fun k6 => zl (k6 ||| 16) (fun k7 => zl (fMO_change P S k2 k1 k7) (fun S9 => zl (S9.setF 11 (x0 : Int32).toNatClampNeg 0) (fun S11 => zl (S11.F 12 (x0 : Int32).toNatClampNeg) (fun k13 => zl (k13 + 1) (fun k14 => zl (S11.setF 12 (x0 : Int32).toNatClampNeg k14) (fun S15 => zl (P.F 3 (x0 : Int32).toNatClampNeg) (fun k17 => zl (108 + x0) (fun k18 => zl (S15.F 12 (x0 : Int32).toNatClampNeg) (fun k19 => zl (fMO_news P S15 k2 k18 k19 x0) (fun S21 => S21)))))))))))))))
set_option maxHeartbeats 4000000 in
set_option maxRecDepth 100000 in
theorem tMO_takeHold (l : Launch) (dC : Nat → ClassId) (dI : Nat → Nat → Nat) (cI cZ cJ cA : ClassId) (a0 : Array Value) (s0 : State) (o b : Nat → Nat) (P S : ZS) (sz : Nat) (x0 : Int32) (gP : mok P) (gS : mok S) (r_x0 : zr 0 5 x0) (hO : ¬ P.F 3 x0.toNatClampNeg = -1) (hPr : ¬ P.F 4 x0.toNatClampNeg = -1) : Met l yMO_takeHold [Cond.code yMO_takeHold bMO_takeHold 3 none] ({ frames := 3, cells := 0, slots := 0, locals := 73 } : Room) (zP zCl dC dI (zTZ cI cZ cJ cA) a0 s0 [.ref (o 0), .int x0] sz (MW cI cZ cA o b P S)) (zQG zCl dC dI (fun (x9 : ZS) => x9 = fMO_takeHold P S x0 ∧ mok x9) (fun x9 : ZS => (MW cI cZ cA o b P x9)) (va_A (MW cI cZ cA o b P S) sz)) 0 0 (va_A (MW cI cZ cA o b P S) sz) := by
  refine Met.ofW (cc := bMO_takeHold) (maxL := 3) (ret := none) (by decide) rfl ?_
  intro p e s m args below meth c s₁ B hml hv
  obtain ⟨rfl, hsz, hP, hK, hD0, hB⟩ := hv
  have hx := B.exec
  have hb := B.bytes
  have hr := B.returns
  have hown : s.vm.findClass "RingGuardModel" = some m.cls := findClass_of_methodNamed B.named
  have hlocks := B.notSynchronized
  subst hsz
  have hD := hD0.self (sz := s.heap.size)
  have hA0 := zA0 hD0 hB
  generalize hAe : va_A (MW cI cZ cA o b P S) s.heap.size = A at hD hA0 ⊢
  have hAD := hA0
  have hA : ∀ q : Nat, s.heap.size ≤ q → A q := fun q h => by rw [← hAe]; exact Or.inr h
  have hS : va_S A s.heap s.heap [] := va_S.rf
  have hl := lv_entry ([.ref (o 0), .int x0]) (n := 3) (Nat.le_of_ble_eq_true rfl)
  rw [lg_entry_eq]
  generalize (lg_sl ([.ref (o 0), .int x0]) ++ List.replicate (3 - (lg_sl ([.ref (o 0), .int x0])).length) Slot.unset).toArray = ls at hl ⊢
  have hl : lv_has ls 3 [(0, .ref (o 0)), (1, .int x0)] := hl
  refine zgenQ (fun Q hQe => ?_)
  obtain ⟨tg, etg⟩ : ∃ z, z = fMO_takeHold P S x0 := ⟨_, rfl⟩
  have E := etg
  unfold fMO_takeHold at E
  refine lv_aload_n hx hb dMO_takeHold_0 rfl (lv_at hl 0 rfl) ?_
  refine m_getA_4 hx hb (hB.words zU_MO) hown hK hP (hB.word (zm4 k4_126) rfl) dMO_takeHold_1 ?_
  refine lv_iload_n hx hb dMO_takeHold_4 rfl (lv_at hl 1 rfl) ?_
  refine m_aldP hx hb hK hP 4 (by decide) rfl r_x0 (by decide) dMO_takeHold_5 E (fun k1 ek1 E => ?_)
  have r_k1 : zr (-1) 59 k1 := by rw [ek1]; exact gP.1 4 _
  have r_k12 : zr 0 59 k1 := zne_lo r_k1 (by rw [ek1]; exact hPr) (by decide)
  refine lv_istore_n (lv' := [(2, .int k1), (0, .ref (o 0)), (1, .int x0)]) hx hb dMO_takeHold_6 rfl hl (by decide) rfl (fun ls hl => ?_)
  refine lv_aload_n hx hb dMO_takeHold_7 rfl (lv_at hl 1 rfl) ?_
  refine lv_aload_n hx hb dMO_takeHold_8 rfl (lv_at hl 1 rfl) ?_
  refine m_getA_3 hx hb (hB.words zU_MO) hown hK hP (hB.word (zm4 k4_125) rfl) dMO_takeHold_9 ?_
  refine lv_iload_n hx hb dMO_takeHold_12 rfl (lv_at hl 2 rfl) ?_
  refine m_aldP hx hb hK hP 3 (by decide) rfl r_x0 (by decide) dMO_takeHold_13 E (fun k2 ek2 E => ?_)
  have r_k2 : zr (-1) 47 k2 := by rw [ek2]; exact gP.1 3 _
  have r_k22 : zr 0 47 k2 := zne_lo r_k2 (by rw [ek2]; exact hO) (by decide)
  refine lv_iload_n hx hb dMO_takeHold_14 rfl (lv_at hl 0 rfl) ?_
  refine lv_aload_n hx hb dMO_takeHold_15 rfl (lv_at hl 1 rfl) ?_
  refine m_getA_10 hx hb (hB.words zU_MO) hown hK hP (hB.word (zm4 k4_124) rfl) dMO_takeHold_16 ?_
  refine lv_aload_n hx hb dMO_takeHold_19 rfl (lv_at hl 1 rfl) ?_
  refine lv_aload_n hx hb dMO_takeHold_20 rfl (lv_at hl 1 rfl) ?_
  refine m_getA_3 hx hb (hB.words zU_MO) hown hK hP (hB.word (zm4 k4_125) rfl) dMO_takeHold_21 ?_
  refine lv_iload_n hx hb dMO_takeHold_24 rfl (lv_at hl 2 rfl) ?_
  refine m_aldP hx hb hK hP 3 (by decide) rfl r_x0 (by decide) dMO_takeHold_25 E (fun k3 ek3 E => ?_)
  have x9 : k2 = k3 := by rw [ek2, ek3]
  subst x9
  refine lv_iload_n hx hb dMO_takeHold_26 rfl (lv_at hl 0 rfl) ?_
  refine zcallp (va_runV (As := [.int k2, .int k1]) (rest := [.ref (b 10), .int k1, .int k2, .ref (o 0)]) ⟨hx, hb, hml, hown, zno⟩ (tMO_end l dC dI cI cZ cJ cA a0 s0 o b P S s.heap.size k2 k1 gP gS r_k12) (zcw 2 (hB.word (zm5 k5_112) rfl) (hB.word (zm1 k1_9) rfl) (hB.word (zm5 k5_109) rfl) (hB.word (zm5 k5_111) rfl) (k2_selects_private (by decide) (hB.word (zm4 k4_109) rfl) (hB.word (zm5 k5_110) rfl) (hB.word (zm5 k5_111) rfl)) rfl rfl (by decide +kernel) ⟨Nat.le_of_ble_eq_true rfl, Nat.le_of_ble_eq_true rfl⟩) ⟨zP_blind, va_recv hK hP (ci := 7) (q0 := 0) rfl rfl, zP_pre hP hK hD hAD (zB_on hB hA0 hS)⟩ rfl rfl hl.1 rfl (lv_room (Nat.le_of_ble_eq_true rfl)) dMO_takeHold_27 ⟨Nat.le_of_ble_eq_true rfl, Nat.le_of_ble_eq_true rfl⟩) hS hA (fun k5 H4 locs hk5 hz1 hk1 hS => ?_)
  have hP := zKeep hP hk1
  have E := zl_s E hk5.1
  refine m_aldS hx hb hK hP 10 (by decide) rfl hk5.2 (by decide) dMO_takeHold_30 E (fun k6 ek6 E => ?_)
  refine lv_bipush (v := 16) hx hb dMO_takeHold_31 (by decide) ?_
  refine z_ior hx hb dMO_takeHold_33 E (fun k7 ek7 E => ?_)
  refine zcV (va_runV (As := [.int k2, .int k1, .int k7]) (rest := []) ⟨hx, hb, hml, hown, zno⟩ (tMO_change l dC dI cI cZ cJ cA a0 s0 o b P S H4.size k2 k1 k7 gP gS r_k22 r_k12) (zcw 3 (hB.word (zm5 k5_116) rfl) (hB.word (zm1 k1_9) rfl) (hB.word (zm5 k5_113) rfl) (hB.word (zm5 k5_115) rfl) (k2_selects_private (by decide) (hB.word (zm4 k4_109) rfl) (hB.word (zm5 k5_114) rfl) (hB.word (zm5 k5_115) rfl)) rfl rfl (by decide +kernel) ⟨Nat.le_of_ble_eq_true rfl, Nat.le_of_ble_eq_true rfl⟩) ⟨zP_blind, va_recv hK hP (ci := 7) (q0 := 0) rfl rfl, zP_pre hP hK hD hAD (zB_on hB hA0 hS)⟩ rfl rfl hl.1 rfl (lv_room (Nat.le_of_ble_eq_true rfl)) dMO_takeHold_34 ⟨Nat.le_of_ble_eq_true rfl, Nat.le_of_ble_eq_true rfl⟩) hD hS hA (fun S9 H8 locs h10 hP hD hS => ?_)
  have E := zl_s E h10.1
  have gS9 := h10.2
  refine lv_aload_n hx hb dMO_takeHold_37 rfl (lv_at hl 1 rfl) ?_
  refine m_getA_11 hx hb (hB.words zU_MO) hown hK hP (hB.word (zm4 k4_128) rfl) dMO_takeHold_38 ?_
  refine lv_iload_n hx hb dMO_takeHold_41 rfl (lv_at hl 2 rfl) ?_
  refine lv_iconst (v := 0) hx hb dMO_takeHold_42 (by decide) ?_
  refine m_astS hx hb hK hP hD hS 11 (by decide) rfl r_x0 (by decide) dMO_takeHold_43 E (fun S11 H12 locs eS11 E hP hD hS => ?_)
  have gS11 : mok S11 := by rw [eS11]; exact gS9.setF (k := 11) (show zr (-2147483648) 2147483647 0 from by decide) (Or.inl (by decide))
  refine lv_aload_n hx hb dMO_takeHold_44 rfl (lv_at hl 1 rfl) ?_
  refine m_getA_12 hx hb (hB.words zU_MO) hown hK hP (hB.word (zm4 k4_129) rfl) dMO_takeHold_45 ?_
  refine lv_iload_n hx hb dMO_takeHold_48 rfl (lv_at hl 2 rfl) ?_
  refine lv_dup2_11 hx hb dMO_takeHold_49 rfl rfl ?_
  refine m_aldS hx hb hK hP 12 (by decide) rfl r_x0 (by decide) dMO_takeHold_50 E (fun k13 ek13 E => ?_)
  refine lv_iconst (v := 1) hx hb dMO_takeHold_51 (by decide) ?_
  refine z_iadd hx hb dMO_takeHold_52 E (fun k14 ek14 E => ?_)
  refine m_astS hx hb hK hP hD hS 12 (by decide) rfl r_x0 (by decide) dMO_takeHold_53 E (fun S15 H16 locs eS15 E hP hD hS => ?_)
  have gS15 : mok S15 := by rw [eS15]; exact gS11.setF (k := 12) (zr_any k14) (Or.inl (by decide))
  refine lv_aload_n hx hb dMO_takeHold_54 rfl (lv_at hl 1 rfl) ?_
  refine lv_aload_n hx hb dMO_takeHold_55 rfl (lv_at hl 1 rfl) ?_
  refine m_getA_3 hx hb (hB.words zU_MO) hown hK hP (hB.word (zm4 k4_125) rfl) dMO_takeHold_56 ?_
  refine lv_iload_n hx hb dMO_takeHold_59 rfl (lv_at hl 2 rfl) ?_
  refine m_aldP hx hb hK hP 3 (by decide) rfl r_x0 (by decide) dMO_takeHold_60 E (fun k17 ek17 E => ?_)
  have x9 : k2 = k17 := by rw [ek2, ek17]
  subst x9
  refine lv_bipush (v := 108) hx hb dMO_takeHold_61 (by decide) ?_
  refine lv_iload_n hx hb dMO_takeHold_63 rfl (lv_at hl 2 rfl) ?_
  refine z_iadd hx hb dMO_takeHold_64 E (fun k18 ek18 E => ?_)
  have r_k18 : zr 108 113 k18 := zr_add (show zr 108 108 108 from by decide) r_x0 ek18 (by decide)
  refine lv_aload_n hx hb dMO_takeHold_65 rfl (lv_at hl 1 rfl) ?_
  refine m_getA_12 hx hb (hB.words zU_MO) hown hK hP (hB.word (zm4 k4_129) rfl) dMO_takeHold_66 ?_
  refine lv_iload_n hx hb dMO_takeHold_69 rfl (lv_at hl 2 rfl) ?_
  refine m_aldS hx hb hK hP 12 (by decide) rfl r_x0 (by decide) dMO_takeHold_70 E (fun k19 ek19 E => ?_)
  refine lv_iload_n hx hb dMO_takeHold_71 rfl (lv_at hl 2 rfl) ?_
  refine zcV (va_runV (As := [.int k2, .int k18, .int k19, .int x0]) (rest := []) ⟨hx, hb, hml, hown, zno⟩ (tMO_news l dC dI cI cZ cJ cA a0 s0 o b P S15 H16.size k2 k18 k19 x0 gP gS15 r_k22 (zr_mono r_k18 (by decide))) (zcw 4 (hB.word (zm5 k5_123) rfl) (hB.word (zm1 k1_9) rfl) (hB.word (zm5 k5_120) rfl) (hB.word (zm5 k5_122) rfl) (k2_selects_private (by decide) (hB.word (zm4 k4_109) rfl) (hB.word (zm5 k5_121) rfl) (hB.word (zm5 k5_122) rfl)) rfl rfl (by decide +kernel) ⟨Nat.le_of_ble_eq_true rfl, Nat.le_of_ble_eq_true rfl⟩) ⟨zP_blind, va_recv hK hP (ci := 7) (q0 := 0) rfl rfl, zP_pre hP hK hD hAD (zB_on hB hA0 hS)⟩ rfl rfl hl.1 rfl (lv_room (Nat.le_of_ble_eq_true rfl)) dMO_takeHold_72 ⟨Nat.le_of_ble_eq_true rfl, Nat.le_of_ble_eq_true rfl⟩) hD hS hA (fun S21 H20 locs h22 hP hD hS => ?_)
  have E := zl_s E h22.1
  have gS21 := h22.2
  rw [hQe]
  exact W.vret hx hb hr (fun t ht hW => ⟨⟨S21, rfl, ⟨E.symm.trans etg, gS21⟩, by rw [ht]; exact hP, hD⟩, hS.F ht⟩) hS.2.2 dMO_takeHold_75
noncomputable def fMO_endCommand (P S : ZS) (x0 : Int32) (x1 : Int32) : ZS × Int32 := zl (fMO_at P S x0 x1) (fun k2 => zl (S.F 15 (k2 : Int32).toNatClampNeg) (fun k3 => (if k3 = 0 then (S, 0) else zl (S.F 16 (k2 : Int32).toNatClampNeg) (fun k4 => zl (S.F 15 (k2 : Int32).toNatClampNeg) (fun k5 => zl (fMO_ends P S x0 k4 k3) (fun S7 => zl (S7.setF 15 (k2 : Int32).toNatClampNeg 0) (fun S9 => zl (S9.setI 8 1) (fun S11 => (S11, 1)))))))))
set_option maxHeartbeats 4000000 in
set_option maxRecDepth 100000 in
theorem tMO_endCommand (l : Launch) (dC : Nat → ClassId) (dI : Nat → Nat → Nat) (cI cZ cJ cA : ClassId) (a0 : Array Value) (s0 : State) (o b : Nat → Nat) (P S : ZS) (sz : Nat) (x0 : Int32) (x1 : Int32) (gP : mok P) (gS : mok S) (r_x0 : zr 0 47 x0) (r_x1 : zr 0 5 x1) : Met l yMO_endCommand [Cond.code yMO_endCommand bMO_endCommand 4 (some .boolean)] ({ frames := 3, cells := 0, slots := 0, locals := 68 } : Room) (zP zCl dC dI (zTZ cI cZ cJ cA) a0 s0 [.ref (o 0), .int x0, .int x1] sz (MW cI cZ cA o b P S)) (zQH zCl dC dI (fun (r : Int32) (x9 : ZS) => (x9, r) = fMO_endCommand P S x0 x1 ∧ mok x9 ∧ zr 0 1 r) (fun x9 : ZS => (MW cI cZ cA o b P x9)) (va_A (MW cI cZ cA o b P S) sz)) 0 0 (va_A (MW cI cZ cA o b P S) sz) := by
  refine Met.ofW (cc := bMO_endCommand) (maxL := 4) (ret := (some .boolean)) (by decide) rfl ?_
  intro p e s m args below meth c s₁ B hml hv
  obtain ⟨rfl, hsz, hP, hK, hD0, hB⟩ := hv
  have hx := B.exec
  have hb := B.bytes
  have hr := B.returns
  have hown : s.vm.findClass "RingGuardModel" = some m.cls := findClass_of_methodNamed B.named
  have hlocks := B.notSynchronized
  subst hsz
  have hD := hD0.self (sz := s.heap.size)
  have hA0 := zA0 hD0 hB
  generalize hAe : va_A (MW cI cZ cA o b P S) s.heap.size = A at hD hA0 ⊢
  have hAD := hA0
  have hA : ∀ q : Nat, s.heap.size ≤ q → A q := fun q h => by rw [← hAe]; exact Or.inr h
  have hS : va_S A s.heap s.heap [] := va_S.rf
  have hl := lv_entry ([.ref (o 0), .int x0, .int x1]) (n := 4) (Nat.le_of_ble_eq_true rfl)
  rw [lg_entry_eq]
  generalize (lg_sl ([.ref (o 0), .int x0, .int x1]) ++ List.replicate (4 - (lg_sl ([.ref (o 0), .int x0, .int x1])).length) Slot.unset).toArray = ls at hl ⊢
  have hl : lv_has ls 4 [(0, .ref (o 0)), (1, .int x0), (2, .int x1)] := hl
  refine zgenQ (fun Q hQe => ?_)
  obtain ⟨tg, etg⟩ : ∃ z, z = fMO_endCommand P S x0 x1 := ⟨_, rfl⟩
  have E := etg
  unfold fMO_endCommand at E
  refine lv_iload_n hx hb dMO_endCommand_0 rfl (lv_at hl 1 rfl) ?_
  refine lv_iload_n hx hb dMO_endCommand_1 rfl (lv_at hl 2 rfl) ?_
  refine zcallp (va_runS (As := [.int x0, .int x1]) (rest := []) ⟨hx, hb, hml, hown, zno⟩ (tMO_at l dC dI cI cZ cJ cA a0 s0 o b P S s.heap.size x0 x1 gP gS r_x0 r_x1) ⟨zcb 2 (hB.word (zm5 k5_119) rfl) (hB.word (zm1 k1_9) rfl) (hB.word (zm5 k5_117) rfl) rfl rfl (by decide +kernel) ⟨Nat.le_of_ble_eq_true rfl, Nat.le_of_ble_eq_true rfl⟩, hB.word (zm5 k5_118) rfl⟩ ⟨zP_blind, zP_pre hP hK hD hAD (zB_on hB hA0 hS)⟩ rfl rfl hl.1 rfl (lv_room (Nat.le_of_ble_eq_true rfl)) dMO_endCommand_2 ⟨Nat.le_of_ble_eq_true rfl, Nat.le_of_ble_eq_true rfl⟩) hS hA (fun k2 H1 locs hk2 hz1 hk1 hS => ?_)
  have hP := zKeep hP hk1
  have E := zl_s E hk2.1
  refine lv_istore_n (lv' := [(3, .int k2), (0, .ref (o 0)), (1, .int x0), (2, .int x1)]) hx hb dMO_endCommand_5 rfl hl (by decide) rfl (fun ls hl => ?_)
  refine lv_aload_n hx hb dMO_endCommand_6 rfl (lv_at hl 1 rfl) ?_
  refine m_getA_15 hx hb (hB.words zU_MO) hown hK hP (hB.word (zm4 k4_133) rfl) dMO_endCommand_7 ?_
  refine lv_iload_n hx hb dMO_endCommand_10 rfl (lv_at hl 0 rfl) ?_
  refine m_aldS hx hb hK hP 15 (by decide) rfl hk2.2 (by decide) dMO_endCommand_11 E (fun k3 ek3 E => ?_)
  refine z_if_ne (tgt := 17) hx hb dMO_endCommand_12 (by decide) E (fun c_12 E => ?_) (fun c_12 E => ?_)
  · refine lv_aload_n hx hb dMO_endCommand_17 rfl (lv_at hl 1 rfl) ?_
    refine lv_iload_n hx hb dMO_endCommand_18 rfl (lv_at hl 2 rfl) ?_
    refine lv_aload_n hx hb dMO_endCommand_19 rfl (lv_at hl 1 rfl) ?_
    refine m_getA_16 hx hb (hB.words zU_MO) hown hK hP (hB.word (zm4 k4_134) rfl) dMO_endCommand_20 ?_
    refine lv_iload_n hx hb dMO_endCommand_23 rfl (lv_at hl 0 rfl) ?_
    refine m_aldS hx hb hK hP 16 (by decide) rfl hk2.2 (by decide) dMO_endCommand_24 E (fun k4 ek4 E => ?_)
    have r_k4 : zr 0 59 k4 := by rw [ek4]; exact gS.1 16 _
    refine lv_aload_n hx hb dMO_endCommand_25 rfl (lv_at hl 1 rfl) ?_
    refine m_getA_15 hx hb (hB.words zU_MO) hown hK hP (hB.word (zm4 k4_133) rfl) dMO_endCommand_26 ?_
    refine lv_iload_n hx hb dMO_endCommand_29 rfl (lv_at hl 0 rfl) ?_
    refine m_aldS hx hb hK hP 15 (by decide) rfl hk2.2 (by decide) dMO_endCommand_30 E (fun k5 ek5 E => ?_)
    have x9 : k3 = k5 := by rw [ek3, ek5]
    subst x9
    refine zcV (va_runV (As := [.int x0, .int k4, .int k3]) (rest := []) ⟨hx, hb, hml, hown, zno⟩ (tMO_ends l dC dI cI cZ cJ cA a0 s0 o b P S H1.size x0 k4 k3 gP gS r_x0 r_k4) (zcw 3 (hB.word (zm5 k5_167) rfl) (hB.word (zm1 k1_9) rfl) (hB.word (zm5 k5_164) rfl) (hB.word (zm5 k5_166) rfl) (k2_selects_private (by decide) (hB.word (zm4 k4_109) rfl) (hB.word (zm5 k5_165) rfl) (hB.word (zm5 k5_166) rfl)) rfl rfl (by decide +kernel) ⟨Nat.le_of_ble_eq_true rfl, Nat.le_of_ble_eq_true rfl⟩) ⟨zP_blind, va_recv hK hP (ci := 7) (q0 := 0) rfl rfl, zP_pre hP hK hD hAD (zB_on hB hA0 hS)⟩ rfl rfl hl.1 rfl (lv_room (Nat.le_of_ble_eq_true rfl)) dMO_endCommand_31 ⟨Nat.le_of_ble_eq_true rfl, Nat.le_of_ble_eq_true rfl⟩) hD hS hA (fun S7 H6 locs h8 hP hD hS => ?_)
    have E := zl_s E h8.1
    have gS7 := h8.2
    refine lv_aload_n hx hb dMO_endCommand_34 rfl (lv_at hl 1 rfl) ?_
    refine m_getA_15 hx hb (hB.words zU_MO) hown hK hP (hB.word (zm4 k4_133) rfl) dMO_endCommand_35 ?_
    refine lv_iload_n hx hb dMO_endCommand_38 rfl (lv_at hl 0 rfl) ?_
    refine lv_iconst (v := 0) hx hb dMO_endCommand_39 (by decide) ?_
    refine m_astS hx hb hK hP hD hS 15 (by decide) rfl hk2.2 (by decide) dMO_endCommand_40 E (fun S9 H10 locs eS9 E hP hD hS => ?_)
    have gS9 : mok S9 := by rw [eS9]; exact gS7.setF (k := 15) (show zr (-2147483648) 2147483647 0 from by decide) (Or.inl (by decide))
    refine lv_aload_n hx hb dMO_endCommand_41 rfl (lv_at hl 1 rfl) ?_
    refine lv_iconst (v := 1) hx hb dMO_endCommand_42 (by decide) ?_
    refine m_put_8 hx hb (hB.words zU_MO) hown hK hP hD hS (hB.word (zm4 k4_155) rfl) (show zr 0 1 1 from by decide) dMO_endCommand_43 E (fun S11 H12 locs eS11 E hP hD hS => ?_)
    have gS11 : mok S11 := by rw [eS11]; exact gS9.setI (t := 8) (show zr 0 1 1 from by decide)
    refine lv_iconst (v := 1) hx hb dMO_endCommand_46 (by decide) ?_
    rw [hQe]
    exact W.zret (v := 1) (ty := .boolean) hx hb hr (znar (show zr 0 1 1 from by decide)) (fun t ht hW => ⟨⟨1, S11, rfl, ⟨E.symm.trans etg, gS11, (show zr 0 1 1 from by decide)⟩, by rw [ht]; exact hP, hD⟩, hS.F ht⟩) hS.2.2 dMO_endCommand_47
  · have r_k3 : zr 0 0 k3 := zeq_x (show zr 0 0 0 from by decide) c_12
    refine lv_iconst (v := 0) hx hb dMO_endCommand_15 (by decide) ?_
    rw [hQe]
    exact W.zret (v := 0) (ty := .boolean) hx hb hr (znar (show zr 0 1 0 from by decide)) (fun t ht hW => ⟨⟨0, S, rfl, ⟨E.symm.trans etg, gS, (show zr 0 1 0 from by decide)⟩, by rw [ht]; exact hP, hD⟩, hS.F ht⟩) hS.2.2 dMO_endCommand_16
noncomputable def fMO_hears_171 (P : ZS) (S_171 : ZS) (x171_1 : Int32) (x171_2 : Int32) (y171_0 : Int32) : ZS := (if y171_0 = 0 then S_171 else zl2 (fMO_endCommand P S_171 x171_1 x171_2) (fun S3 k2 => S3))
noncomputable def fMO_hears_166 (P : ZS) (S_166 : ZS) (x166_1 : Int32) (x166_2 : Int32) : ZS := fMO_hears_171 P S_166 x166_1 x166_2 1
noncomputable def fMO_hears_170 (P : ZS) (S_170 : ZS) (x170_1 : Int32) (x170_2 : Int32) : ZS := fMO_hears_171 P S_170 x170_1 x170_2 0
noncomputable def fMO_hears_155 (P : ZS) (S_155 : ZS) (x155_1 : Int32) (x155_2 : Int32) (x155_3 : Int32) (x155_5 : Int32) : ZS := (if x155_5 = 2 then (if x155_3 = 1 then fMO_hears_166 P S_155 x155_1 x155_2 else fMO_hears_170 P S_155 x155_1 x155_2) else fMO_hears_170 P S_155 x155_1 x155_2)
noncomputable def fMO_hears_131 (P : ZS) (S_131 : ZS) (x131_1 : Int32) (x131_2 : Int32) (x131_3 : Int32) (x131_4 : Int32) (x131_5 : Int32) (y131_0 : Int32) : ZS := (if y131_0 = 0 then (if x131_1 ≤ x131_4 then fMO_hears_170 P S_131 x131_1 x131_2 else (if x131_5 = 4 then (if x131_3 = 2 then fMO_hears_166 P S_131 x131_1 x131_2 else fMO_hears_155 P S_131 x131_1 x131_2 x131_3 x131_5) else fMO_hears_155 P S_131 x131_1 x131_2 x131_3 x131_5)) else fMO_hears_166 P S_131 x131_1 x131_2)
noncomputable def fMO_hears_130 (P : ZS) (S_130 : ZS) (x130_1 : Int32) (x130_2 : Int32) (x130_3 : Int32) (x130_4 : Int32) (x130_5 : Int32) : ZS := fMO_hears_131 P S_130 x130_1 x130_2 x130_3 x130_4 x130_5 0
noncomputable def fMO_hears_126 (P : ZS) (S_126 : ZS) (x126_1 : Int32) (x126_2 : Int32) (x126_3 : Int32) (x126_4 : Int32) (x126_5 : Int32) : ZS := fMO_hears_131 P S_126 x126_1 x126_2 x126_3 x126_4 x126_5 1
noncomputable def fMO_hears_91 (P : ZS) (S_91 : ZS) (x91_1 : Int32) (x91_2 : Int32) (x91_3 : Int32) (x91_4 : Int32) : ZS := zl (fMO_endAll P S_91 x91_1 x91_2 8) (fun S6 => zl (fMO_at P S6 x91_1 x91_2) (fun k9 => zl (S6.F 15 (k9 : Int32).toNatClampNeg) (fun k10 => (if k10 = 4 then (if x91_3 = 0 then fMO_hears_126 P S6 x91_1 x91_2 x91_3 x91_4 k10 else (if x91_3 = 1 then fMO_hears_126 P S6 x91_1 x91_2 x91_3 x91_4 k10 else fMO_hears_130 P S6 x91_1 x91_2 x91_3 x91_4 k10)) else fMO_hears_130 P S6 x91_1 x91_2 x91_3 x91_4 k10))))
noncomputable def fMO_hears (P S : ZS) (x0 : Int32) (x1 : Int32) (x2 : Int32) (x3 : Int32) : ZS := zl (fMO_at P S x0 x1) (fun k12 => zl (S.F 13 (k12 : Int32).toNatClampNeg) (fun k13 => (if 0 < k13 then S else (if x2 = 5 then S else (if x2 = 3 then zl (fMO_owns P S x0 x1) (fun k22 => (if k22 = 0 then S else zl (fMO_has P S x0 x1 23) (fun k24 => (if k24 = 0 then zl (S.F 11 (x1 : Int32).toNatClampNeg) (fun k25 => (if k25 = 0 then zl (S.setF 11 (x1 : Int32).toNatClampNeg 60) (fun S26 => S26) else S)) else S)))) else (if x2 = 4 then fMO_hears_91 P S x0 x1 x2 x3 else zl (fMO_owns P S x0 x1) (fun k15 => (if k15 = 0 then fMO_hears_91 P S x0 x1 x2 x3 else zl (fMO_endAll P S x0 x1 16) (fun S17 => zl (S17.setF 11 (x1 : Int32).toNatClampNeg 0) (fun S19 => fMO_hears_91 P S19 x0 x1 x2 x3))))))))))
set_option maxHeartbeats 4000000 in
set_option maxRecDepth 100000 in
theorem tMO_hears (l : Launch) (dC : Nat → ClassId) (dI : Nat → Nat → Nat) (cI cZ cJ cA : ClassId) (a0 : Array Value) (s0 : State) (o b : Nat → Nat) (P S : ZS) (sz : Nat) (x0 : Int32) (x1 : Int32) (x2 : Int32) (x3 : Int32) (gP : mok P) (gS : mok S) (r_x0 : zr 0 47 x0) (r_x1 : zr 0 5 x1) : Met l yMO_hears [Cond.code yMO_hears bMO_hears 8 none] ({ frames := 4, cells := 0, slots := 0, locals := 91 } : Room) (zP zCl dC dI (zTZ cI cZ cJ cA) a0 s0 [.ref (o 0), .int x0, .int x1, .int x2, .int x3] sz (MW cI cZ cA o b P S)) (zQG zCl dC dI (fun (x9 : ZS) => x9 = fMO_hears P S x0 x1 x2 x3 ∧ mok x9) (fun x9 : ZS => (MW cI cZ cA o b P x9)) (va_A (MW cI cZ cA o b P S) sz)) 0 0 (va_A (MW cI cZ cA o b P S) sz) := by
  refine Met.ofW (cc := bMO_hears) (maxL := 8) (ret := none) (by decide) rfl ?_
  intro p e s m args below meth c s₁ B hml hv
  obtain ⟨rfl, hsz, hP, hK, hD0, hB⟩ := hv
  have hx := B.exec
  have hb := B.bytes
  have hr := B.returns
  have hown : s.vm.findClass "RingGuardModel" = some m.cls := findClass_of_methodNamed B.named
  have hlocks := B.notSynchronized
  subst hsz
  have hD := hD0.self (sz := s.heap.size)
  have hA0 := zA0 hD0 hB
  generalize hAe : va_A (MW cI cZ cA o b P S) s.heap.size = A at hD hA0 ⊢
  have hAD := hA0
  have hA : ∀ q : Nat, s.heap.size ≤ q → A q := fun q h => by rw [← hAe]; exact Or.inr h
  have hS : va_S A s.heap s.heap [] := va_S.rf
  have hl := lv_entry ([.ref (o 0), .int x0, .int x1, .int x2, .int x3]) (n := 8) (Nat.le_of_ble_eq_true rfl)
  rw [lg_entry_eq]
  generalize (lg_sl ([.ref (o 0), .int x0, .int x1, .int x2, .int x3]) ++ List.replicate (8 - (lg_sl ([.ref (o 0), .int x0, .int x1, .int x2, .int x3])).length) Slot.unset).toArray = ls at hl ⊢
  have hl : lv_has ls 8 [(0, .ref (o 0)), (1, .int x0), (2, .int x1), (3, .int x2), (4, .int x3)] := hl
  refine zgenQ (fun Q hQe => ?_)
  obtain ⟨tg, etg⟩ : ∃ z, z = fMO_hears P S x0 x1 x2 x3 := ⟨_, rfl⟩
  have E := etg
  unfold fMO_hears at E
  have hJ91 : ∀ (H : Heap) (locs : List Loc) (ls : Array Slot) (S_91 : ZS) (x91_1 : Int32) (x91_2 : Int32) (x91_3 : Int32) (x91_4 : Int32), zr 0 47 x91_1 → zr 0 5 x91_2 → mok S_91 → tg = fMO_hears_91 P S_91 x91_1 x91_2 x91_3 x91_4 → va_P (dC, dI) zCl (MW cI cZ cA o b P S_91) H → va_D A (MW cI cZ cA o b P S_91) → va_S A s.heap H locs → lv_has ls 8 [(0, .ref (o 0)), (1, .int x91_1), (2, .int x91_2), (3, .int x91_3), (4, .int x91_4)] → W p l e ({ frames := 4, cells := 0, slots := 0, locals := 91 } : Room) s m ([.ref (o 0), .int x0, .int x1, .int x2, .int x3] : List Value).toArray below meth c H locs 0 0 Q (F0 m 91 ls []) := by
    intro H locs ls S_91 x91_1 x91_2 x91_3 x91_4 r_x91_1 r_x91_2 gS_91 E hP hD hS hl
    unfold fMO_hears_91 at E
    have hJ131 : ∀ (H : Heap) (locs : List Loc) (ls : Array Slot) (S_131 : ZS) (x131_1 : Int32) (x131_2 : Int32) (x131_3 : Int32) (x131_4 : Int32) (x131_5 : Int32) (y131_0 : Int32), zr 0 47 x131_1 → zr 0 5 x131_2 → zr 0 1 y131_0 → mok S_131 → (y131_0 = 0 ∨ zr 0 1 (x131_3)) → (y131_0 = 0 ∨ zr 4 4 (x131_5)) → tg = fMO_hears_131 P S_131 x131_1 x131_2 x131_3 x131_4 x131_5 y131_0 → va_P (dC, dI) zCl (MW cI cZ cA o b P S_131) H → va_D A (MW cI cZ cA o b P S_131) → va_S A s.heap H locs → lv_has ls 8 [(0, .ref (o 0)), (1, .int x131_1), (2, .int x131_2), (3, .int x131_3), (4, .int x131_4), (5, .int x131_5)] → W p l e ({ frames := 4, cells := 0, slots := 0, locals := 91 } : Room) s m ([.ref (o 0), .int x0, .int x1, .int x2, .int x3] : List Value).toArray below meth c H locs 0 0 Q (F0 m 131 ls [.int y131_0]) := by
      intro H locs ls S_131 x131_1 x131_2 x131_3 x131_4 x131_5 y131_0 r_x131_1 r_x131_2 r_y131_0 gS_131 cd131_0 cd131_1 E hP hD hS hl
      unfold fMO_hears_131 at E
      have hJ171 : ∀ (H : Heap) (locs : List Loc) (ls : Array Slot) (S_171 : ZS) (x171_1 : Int32) (x171_2 : Int32) (y171_0 : Int32), zr 0 47 x171_1 → zr 0 5 x171_2 → zr 0 1 y171_0 → mok S_171 → tg = fMO_hears_171 P S_171 x171_1 x171_2 y171_0 → va_P (dC, dI) zCl (MW cI cZ cA o b P S_171) H → va_D A (MW cI cZ cA o b P S_171) → va_S A s.heap H locs → lv_has ls 8 [(0, .ref (o 0)), (1, .int x171_1), (2, .int x171_2)] → W p l e ({ frames := 4, cells := 0, slots := 0, locals := 91 } : Room) s m ([.ref (o 0), .int x0, .int x1, .int x2, .int x3] : List Value).toArray below meth c H locs 0 0 Q (F0 m 171 ls [.int y171_0]) := by
        intro H locs ls S_171 x171_1 x171_2 y171_0 r_x171_1 r_x171_2 r_y171_0 gS_171 E hP hD hS hl
        unfold fMO_hears_171 at E
        refine lv_istore (lv' := [(6, .int y171_0), (0, .ref (o 0)), (1, .int x171_1), (2, .int x171_2)]) hx hb dMO_hears_171 hl (by decide) rfl (fun ls hl => ?_)
        refine lv_iload hx hb dMO_hears_173 (lv_at hl 0 rfl) ?_
        refine z_if_eq (tgt := 186) hx hb dMO_hears_175 (by decide) E (fun c_175 E => ?_) (fun c_175 E => ?_)
        · have r_y171_0 : zr 0 0 y171_0 := zeq_x (show zr 0 0 0 from by decide) c_175
          rw [hQe]
          exact W.vret hx hb hr (fun t ht hW => ⟨⟨S_171, rfl, ⟨E.symm.trans etg, gS_171⟩, by rw [ht]; exact hP, hD⟩, hS.F ht⟩) hS.2.2 dMO_hears_186
        · have r_y171_0 : zr 1 1 y171_0 := zne_lo r_y171_0 c_175 (by decide)
          refine lv_aload_n hx hb dMO_hears_178 rfl (lv_at hl 1 rfl) ?_
          refine lv_iload_n hx hb dMO_hears_179 rfl (lv_at hl 2 rfl) ?_
          refine lv_iload_n hx hb dMO_hears_180 rfl (lv_at hl 3 rfl) ?_
          refine zcI (va_runV (As := [.int x171_1, .int x171_2]) (rest := []) ⟨hx, hb, hml, hown, zno⟩ (tMO_endCommand l dC dI cI cZ cJ cA a0 s0 o b P S_171 H.size x171_1 x171_2 gP gS_171 r_x171_1 r_x171_2) (zcw 2 (hB.word (zm5 k5_179) rfl) (hB.word (zm1 k1_9) rfl) (hB.word (zm5 k5_176) rfl) (hB.word (zm5 k5_178) rfl) (k2_selects_private (by decide) (hB.word (zm4 k4_109) rfl) (hB.word (zm5 k5_177) rfl) (hB.word (zm5 k5_178) rfl)) rfl rfl (by decide +kernel) ⟨Nat.le_of_ble_eq_true rfl, Nat.le_of_ble_eq_true rfl⟩) ⟨zP_blind, va_recv hK hP (ci := 7) (q0 := 0) rfl rfl, zP_pre hP hK hD hAD (zB_on hB hA0 hS)⟩ rfl rfl hl.1 rfl (lv_room (Nat.le_of_ble_eq_true rfl)) dMO_hears_181 ⟨Nat.le_of_ble_eq_true rfl, Nat.le_of_ble_eq_true rfl⟩) hD hS hA (fun k2 S3 H1 locs h4 hP hD hS => ?_)
          have E := zl2_s E h4.1
          have gS3 := h4.2.1
          refine lv_istore (lv' := [(7, .int k2), (6, .int y171_0), (0, .ref (o 0)), (1, .int x171_1), (2, .int x171_2)]) hx hb dMO_hears_184 hl (by decide) rfl (fun ls hl => ?_)
          rw [hQe]
          exact W.vret hx hb hr (fun t ht hW => ⟨⟨S3, rfl, ⟨E.symm.trans etg, gS3⟩, by rw [ht]; exact hP, hD⟩, hS.F ht⟩) hS.2.2 dMO_hears_186
      have hJ166 : ∀ (H : Heap) (locs : List Loc) (ls : Array Slot) (S_166 : ZS) (x166_1 : Int32) (x166_2 : Int32), zr 0 47 x166_1 → zr 0 5 x166_2 → mok S_166 → tg = fMO_hears_166 P S_166 x166_1 x166_2 → va_P (dC, dI) zCl (MW cI cZ cA o b P S_166) H → va_D A (MW cI cZ cA o b P S_166) → va_S A s.heap H locs → lv_has ls 8 [(0, .ref (o 0)), (1, .int x166_1), (2, .int x166_2)] → W p l e ({ frames := 4, cells := 0, slots := 0, locals := 91 } : Room) s m ([.ref (o 0), .int x0, .int x1, .int x2, .int x3] : List Value).toArray below meth c H locs 0 0 Q (F0 m 166 ls []) := by
        intro H locs ls S_166 x166_1 x166_2 r_x166_1 r_x166_2 gS_166 E hP hD hS hl
        unfold fMO_hears_166 at E
        refine lv_iconst (v := 1) hx hb dMO_hears_166 (by decide) ?_
        refine lv_goto (tgt := 171) hx hb dMO_hears_167 (by decide) ?_
        exact hJ171 H locs ls S_166 x166_1 x166_2 1 r_x166_1 r_x166_2 (show zr 0 1 1 from by decide) gS_166 E hP hD hS (lv_sub hl [0, 1, 2] rfl)
      have hJ170 : ∀ (H : Heap) (locs : List Loc) (ls : Array Slot) (S_170 : ZS) (x170_1 : Int32) (x170_2 : Int32), zr 0 47 x170_1 → zr 0 5 x170_2 → mok S_170 → tg = fMO_hears_170 P S_170 x170_1 x170_2 → va_P (dC, dI) zCl (MW cI cZ cA o b P S_170) H → va_D A (MW cI cZ cA o b P S_170) → va_S A s.heap H locs → lv_has ls 8 [(0, .ref (o 0)), (1, .int x170_1), (2, .int x170_2)] → W p l e ({ frames := 4, cells := 0, slots := 0, locals := 91 } : Room) s m ([.ref (o 0), .int x0, .int x1, .int x2, .int x3] : List Value).toArray below meth c H locs 0 0 Q (F0 m 170 ls []) := by
        intro H locs ls S_170 x170_1 x170_2 r_x170_1 r_x170_2 gS_170 E hP hD hS hl
        unfold fMO_hears_170 at E
        refine lv_iconst (v := 0) hx hb dMO_hears_170 (by decide) ?_
        exact hJ171 H locs ls S_170 x170_1 x170_2 0 r_x170_1 r_x170_2 (show zr 0 1 0 from by decide) gS_170 E hP hD hS (lv_sub hl [0, 1, 2] rfl)
      have hJ155 : ∀ (H : Heap) (locs : List Loc) (ls : Array Slot) (S_155 : ZS) (x155_1 : Int32) (x155_2 : Int32) (x155_3 : Int32) (x155_5 : Int32), zr 0 47 x155_1 → zr 0 5 x155_2 → mok S_155 → tg = fMO_hears_155 P S_155 x155_1 x155_2 x155_3 x155_5 → va_P (dC, dI) zCl (MW cI cZ cA o b P S_155) H → va_D A (MW cI cZ cA o b P S_155) → va_S A s.heap H locs → lv_has ls 8 [(0, .ref (o 0)), (1, .int x155_1), (2, .int x155_2), (3, .int x155_3), (5, .int x155_5)] → W p l e ({ frames := 4, cells := 0, slots := 0, locals := 91 } : Room) s m ([.ref (o 0), .int x0, .int x1, .int x2, .int x3] : List Value).toArray below meth c H locs 0 0 Q (F0 m 155 ls []) := by
        intro H locs ls S_155 x155_1 x155_2 x155_3 x155_5 r_x155_1 r_x155_2 gS_155 E hP hD hS hl
        unfold fMO_hears_155 at E
        refine lv_iload hx hb dMO_hears_155 (lv_at hl 4 rfl) ?_
        refine lv_iconst (v := 2) hx hb dMO_hears_157 (by decide) ?_
        refine z_icmp_ne (tgt := 170) hx hb dMO_hears_158 (by decide) E (fun c_158 E => ?_) (fun c_158 E => ?_)
        · exact hJ170 H locs ls S_155 x155_1 x155_2 r_x155_1 r_x155_2 gS_155 E hP hD hS (lv_sub hl [0, 1, 2] rfl)
        · have r_x155_5 : zr 2 2 x155_5 := zeq_x (show zr 2 2 2 from by decide) c_158
          refine lv_iload_n hx hb dMO_hears_161 rfl (lv_at hl 3 rfl) ?_
          refine lv_iconst (v := 1) hx hb dMO_hears_162 (by decide) ?_
          refine z_icmp_ne (tgt := 170) hx hb dMO_hears_163 (by decide) E (fun c_163 E => ?_) (fun c_163 E => ?_)
          · exact hJ170 H locs ls S_155 x155_1 x155_2 r_x155_1 r_x155_2 gS_155 E hP hD hS (lv_sub hl [0, 1, 2] rfl)
          · have r_x155_3 : zr 1 1 x155_3 := zeq_x (show zr 1 1 1 from by decide) c_163
            exact hJ166 H locs ls S_155 x155_1 x155_2 r_x155_1 r_x155_2 gS_155 E hP hD hS (lv_sub hl [0, 1, 2] rfl)
      refine lv_istore (lv' := [(6, .int y131_0), (0, .ref (o 0)), (1, .int x131_1), (2, .int x131_2), (3, .int x131_3), (4, .int x131_4), (5, .int x131_5)]) hx hb dMO_hears_131 hl (by decide) rfl (fun ls hl => ?_)
      refine lv_iload hx hb dMO_hears_133 (lv_at hl 0 rfl) ?_
      refine z_if_ne (tgt := 166) hx hb dMO_hears_135 (by decide) E (fun c_135 E => ?_) (fun c_135 E => ?_)
      · have r_y131_0 : zr 1 1 y131_0 := zne_lo r_y131_0 c_135 (by decide)
        have r_x131_3 : zr 0 1 x131_3 := (cd131_0).resolve_left (zrne r_y131_0 (by decide))
        have r_x131_5 : zr 4 4 x131_5 := (cd131_1).resolve_left (zrne r_y131_0 (by decide))
        exact hJ166 H locs ls S_131 x131_1 x131_2 r_x131_1 r_x131_2 gS_131 E hP hD hS (lv_sub hl [1, 2, 3] rfl)
      · have r_y131_0 : zr 0 0 y131_0 := zeq_x (show zr 0 0 0 from by decide) c_135
        refine lv_iload hx hb dMO_hears_138 (lv_at hl 5 rfl) ?_
        refine lv_iload_n hx hb dMO_hears_140 rfl (lv_at hl 2 rfl) ?_
        refine z_icmp_ge (tgt := 170) hx hb dMO_hears_141 (by decide) E (fun c_141 E => ?_) (fun c_141 E => ?_)
        · have r_x131_4 : zr 0 2147483647 x131_4 := zle_y r_x131_1 (zr_any x131_4) c_141 (by decide)
          exact hJ170 H locs ls S_131 x131_1 x131_2 r_x131_1 r_x131_2 gS_131 E hP hD hS (lv_sub hl [1, 2, 3] rfl)
        · have r_x131_4 : zr (-2147483648) 46 x131_4 := zlt_x (zr_any x131_4) r_x131_1 (znle c_141) (by decide)
          refine lv_iload hx hb dMO_hears_144 (lv_at hl 6 rfl) ?_
          refine lv_iconst (v := 4) hx hb dMO_hears_146 (by decide) ?_
          refine z_icmp_ne (tgt := 155) hx hb dMO_hears_147 (by decide) E (fun c_147 E => ?_) (fun c_147 E => ?_)
          · exact hJ155 H locs ls S_131 x131_1 x131_2 x131_3 x131_5 r_x131_1 r_x131_2 gS_131 E hP hD hS (lv_sub hl [1, 2, 3, 4, 6] rfl)
          · have r_x131_5 : zr 4 4 x131_5 := zeq_x (show zr 4 4 4 from by decide) c_147
            refine lv_iload_n hx hb dMO_hears_150 rfl (lv_at hl 4 rfl) ?_
            refine lv_iconst (v := 2) hx hb dMO_hears_151 (by decide) ?_
            refine z_icmp_eq (tgt := 166) hx hb dMO_hears_152 (by decide) E (fun c_152 E => ?_) (fun c_152 E => ?_)
            · have r_x131_3 : zr 2 2 x131_3 := zeq_x (show zr 2 2 2 from by decide) c_152
              exact hJ166 H locs ls S_131 x131_1 x131_2 r_x131_1 r_x131_2 gS_131 E hP hD hS (lv_sub hl [1, 2, 3] rfl)
            · exact hJ155 H locs ls S_131 x131_1 x131_2 x131_3 x131_5 r_x131_1 r_x131_2 gS_131 E hP hD hS (lv_sub hl [1, 2, 3, 4, 6] rfl)
    have hJ130 : ∀ (H : Heap) (locs : List Loc) (ls : Array Slot) (S_130 : ZS) (x130_1 : Int32) (x130_2 : Int32) (x130_3 : Int32) (x130_4 : Int32) (x130_5 : Int32), zr 0 47 x130_1 → zr 0 5 x130_2 → mok S_130 → tg = fMO_hears_130 P S_130 x130_1 x130_2 x130_3 x130_4 x130_5 → va_P (dC, dI) zCl (MW cI cZ cA o b P S_130) H → va_D A (MW cI cZ cA o b P S_130) → va_S A s.heap H locs → lv_has ls 8 [(0, .ref (o 0)), (1, .int x130_1), (2, .int x130_2), (3, .int x130_3), (4, .int x130_4), (5, .int x130_5)] → W p l e ({ frames := 4, cells := 0, slots := 0, locals := 91 } : Room) s m ([.ref (o 0), .int x0, .int x1, .int x2, .int x3] : List Value).toArray below meth c H locs 0 0 Q (F0 m 130 ls []) := by
      intro H locs ls S_130 x130_1 x130_2 x130_3 x130_4 x130_5 r_x130_1 r_x130_2 gS_130 E hP hD hS hl
      unfold fMO_hears_130 at E
      refine lv_iconst (v := 0) hx hb dMO_hears_130 (by decide) ?_
      exact hJ131 H locs ls S_130 x130_1 x130_2 x130_3 x130_4 x130_5 0 r_x130_1 r_x130_2 (show zr 0 1 0 from by decide) gS_130 (Or.inl rfl) (Or.inl rfl) E hP hD hS (lv_sub hl [0, 1, 2, 3, 4, 5] rfl)
    have hJ126 : ∀ (H : Heap) (locs : List Loc) (ls : Array Slot) (S_126 : ZS) (x126_1 : Int32) (x126_2 : Int32) (x126_3 : Int32) (x126_4 : Int32) (x126_5 : Int32), zr 0 47 x126_1 → zr 0 5 x126_2 → zr 0 1 x126_3 → zr 4 4 x126_5 → mok S_126 → tg = fMO_hears_126 P S_126 x126_1 x126_2 x126_3 x126_4 x126_5 → va_P (dC, dI) zCl (MW cI cZ cA o b P S_126) H → va_D A (MW cI cZ cA o b P S_126) → va_S A s.heap H locs → lv_has ls 8 [(0, .ref (o 0)), (1, .int x126_1), (2, .int x126_2), (3, .int x126_3), (4, .int x126_4), (5, .int x126_5)] → W p l e ({ frames := 4, cells := 0, slots := 0, locals := 91 } : Room) s m ([.ref (o 0), .int x0, .int x1, .int x2, .int x3] : List Value).toArray below meth c H locs 0 0 Q (F0 m 126 ls []) := by
      intro H locs ls S_126 x126_1 x126_2 x126_3 x126_4 x126_5 r_x126_1 r_x126_2 r_x126_3 r_x126_5 gS_126 E hP hD hS hl
      unfold fMO_hears_126 at E
      refine lv_iconst (v := 1) hx hb dMO_hears_126 (by decide) ?_
      refine lv_goto (tgt := 131) hx hb dMO_hears_127 (by decide) ?_
      exact hJ131 H locs ls S_126 x126_1 x126_2 x126_3 x126_4 x126_5 1 r_x126_1 r_x126_2 (show zr 0 1 1 from by decide) gS_126 (Or.inr r_x126_3) (Or.inr r_x126_5) E hP hD hS (lv_sub hl [0, 1, 2, 3, 4, 5] rfl)
    refine lv_aload_n hx hb dMO_hears_91 rfl (lv_at hl 0 rfl) ?_
    refine lv_iload_n hx hb dMO_hears_92 rfl (lv_at hl 1 rfl) ?_
    refine lv_iload_n hx hb dMO_hears_93 rfl (lv_at hl 2 rfl) ?_
    refine lv_bipush (v := 8) hx hb dMO_hears_94 (by decide) ?_
    refine zcV (va_runV (As := [.int x91_1, .int x91_2, .int 8]) (rest := []) ⟨hx, hb, hml, hown, zno⟩ (tMO_endAll l dC dI cI cZ cJ cA a0 s0 o b P S_91 H.size x91_1 x91_2 8 gP gS_91 r_x91_1 r_x91_2) (zcw 3 (hB.word (zm5 k5_159) rfl) (hB.word (zm1 k1_9) rfl) (hB.word (zm5 k5_156) rfl) (hB.word (zm5 k5_158) rfl) (k2_selects_private (by decide) (hB.word (zm4 k4_109) rfl) (hB.word (zm5 k5_157) rfl) (hB.word (zm5 k5_158) rfl)) rfl rfl (by decide +kernel) ⟨Nat.le_of_ble_eq_true rfl, Nat.le_of_ble_eq_true rfl⟩) ⟨zP_blind, va_recv hK hP (ci := 7) (q0 := 0) rfl rfl, zP_pre hP hK hD hAD (zB_on hB hA0 hS)⟩ rfl rfl hl.1 rfl (lv_room (Nat.le_of_ble_eq_true rfl)) dMO_hears_96 ⟨Nat.le_of_ble_eq_true rfl, Nat.le_of_ble_eq_true rfl⟩) hD hS hA (fun S6 H5 locs h7 hP hD hS => ?_)
    have E := zl_s E h7.1
    have gS6 := h7.2
    refine lv_aload_n hx hb dMO_hears_99 rfl (lv_at hl 0 rfl) ?_
    refine m_getA_15 hx hb (hB.words zU_MO) hown hK hP (hB.word (zm4 k4_133) rfl) dMO_hears_100 ?_
    refine lv_iload_n hx hb dMO_hears_103 rfl (lv_at hl 1 rfl) ?_
    refine lv_iload_n hx hb dMO_hears_104 rfl (lv_at hl 2 rfl) ?_
    refine zcallp (va_runS (As := [.int x91_1, .int x91_2]) (rest := [.ref (b 15)]) ⟨hx, hb, hml, hown, zno⟩ (tMO_at l dC dI cI cZ cJ cA a0 s0 o b P S6 H5.size x91_1 x91_2 gP gS6 r_x91_1 r_x91_2) ⟨zcb 2 (hB.word (zm5 k5_119) rfl) (hB.word (zm1 k1_9) rfl) (hB.word (zm5 k5_117) rfl) rfl rfl (by decide +kernel) ⟨Nat.le_of_ble_eq_true rfl, Nat.le_of_ble_eq_true rfl⟩, hB.word (zm5 k5_118) rfl⟩ ⟨zP_blind, zP_pre hP hK hD hAD (zB_on hB hA0 hS)⟩ rfl rfl hl.1 rfl (lv_room (Nat.le_of_ble_eq_true rfl)) dMO_hears_105 ⟨Nat.le_of_ble_eq_true rfl, Nat.le_of_ble_eq_true rfl⟩) hS hA (fun k9 H8 locs hk9 hz1 hk1 hS => ?_)
    have hP := zKeep hP hk1
    have E := zl_s E hk9.1
    refine m_aldS hx hb hK hP 15 (by decide) rfl hk9.2 (by decide) dMO_hears_108 E (fun k10 ek10 E => ?_)
    refine lv_istore (lv' := [(5, .int k10), (0, .ref (o 0)), (1, .int x91_1), (2, .int x91_2), (3, .int x91_3), (4, .int x91_4)]) hx hb dMO_hears_109 hl (by decide) rfl (fun ls hl => ?_)
    refine lv_iload hx hb dMO_hears_111 (lv_at hl 0 rfl) ?_
    refine lv_iconst (v := 4) hx hb dMO_hears_113 (by decide) ?_
    refine z_icmp_ne (tgt := 130) hx hb dMO_hears_114 (by decide) E (fun c_114 E => ?_) (fun c_114 E => ?_)
    · exact hJ130 H8 locs ls S6 x91_1 x91_2 x91_3 x91_4 k10 r_x91_1 r_x91_2 gS6 E hP hD hS (lv_sub hl [1, 2, 3, 4, 5, 0] rfl)
    · have r_k10 : zr 4 4 k10 := zeq_x (show zr 4 4 4 from by decide) c_114
      refine lv_iload_n hx hb dMO_hears_117 rfl (lv_at hl 4 rfl) ?_
      refine z_if_eq (tgt := 126) hx hb dMO_hears_118 (by decide) E (fun c_118 E => ?_) (fun c_118 E => ?_)
      · have r_x91_3 : zr 0 0 x91_3 := zeq_x (show zr 0 0 0 from by decide) c_118
        exact hJ126 H8 locs ls S6 x91_1 x91_2 x91_3 x91_4 k10 r_x91_1 r_x91_2 (zr_mono r_x91_3 (by decide)) r_k10 gS6 E hP hD hS (lv_sub hl [1, 2, 3, 4, 5, 0] rfl)
      · refine lv_iload_n hx hb dMO_hears_121 rfl (lv_at hl 4 rfl) ?_
        refine lv_iconst (v := 1) hx hb dMO_hears_122 (by decide) ?_
        refine z_icmp_ne (tgt := 130) hx hb dMO_hears_123 (by decide) E (fun c_123 E => ?_) (fun c_123 E => ?_)
        · exact hJ130 H8 locs ls S6 x91_1 x91_2 x91_3 x91_4 k10 r_x91_1 r_x91_2 gS6 E hP hD hS (lv_sub hl [1, 2, 3, 4, 5, 0] rfl)
        · have r_x91_3 : zr 1 1 x91_3 := zeq_x (show zr 1 1 1 from by decide) c_123
          exact hJ126 H8 locs ls S6 x91_1 x91_2 x91_3 x91_4 k10 r_x91_1 r_x91_2 (zr_mono r_x91_3 (by decide)) r_k10 gS6 E hP hD hS (lv_sub hl [1, 2, 3, 4, 5, 0] rfl)
  refine lv_aload_n hx hb dMO_hears_0 rfl (lv_at hl 0 rfl) ?_
  refine m_getA_13 hx hb (hB.words zU_MO) hown hK hP (hB.word (zm4 k4_131) rfl) dMO_hears_1 ?_
  refine lv_iload_n hx hb dMO_hears_4 rfl (lv_at hl 1 rfl) ?_
  refine lv_iload_n hx hb dMO_hears_5 rfl (lv_at hl 2 rfl) ?_
  refine zcallp (va_runS (As := [.int x0, .int x1]) (rest := [.ref (b 13)]) ⟨hx, hb, hml, hown, zno⟩ (tMO_at l dC dI cI cZ cJ cA a0 s0 o b P S s.heap.size x0 x1 gP gS r_x0 r_x1) ⟨zcb 2 (hB.word (zm5 k5_119) rfl) (hB.word (zm1 k1_9) rfl) (hB.word (zm5 k5_117) rfl) rfl rfl (by decide +kernel) ⟨Nat.le_of_ble_eq_true rfl, Nat.le_of_ble_eq_true rfl⟩, hB.word (zm5 k5_118) rfl⟩ ⟨zP_blind, zP_pre hP hK hD hAD (zB_on hB hA0 hS)⟩ rfl rfl hl.1 rfl (lv_room (Nat.le_of_ble_eq_true rfl)) dMO_hears_6 ⟨Nat.le_of_ble_eq_true rfl, Nat.le_of_ble_eq_true rfl⟩) hS hA (fun k12 H11 locs hk12 hz1 hk1 hS => ?_)
  have hP := zKeep hP hk1
  have E := zl_s E hk12.1
  refine m_aldS hx hb hK hP 13 (by decide) rfl hk12.2 (by decide) dMO_hears_9 E (fun k13 ek13 E => ?_)
  refine z_if_gt (tgt := 18) hx hb dMO_hears_10 (by decide) E (fun c_10 E => ?_) (fun c_10 E => ?_)
  · have r_k13 : zr 1 2147483647 k13 := zlt_y (show zr 0 0 0 from by decide) (zr_any k13) c_10 (by decide)
    rw [hQe]
    exact W.vret hx hb hr (fun t ht hW => ⟨⟨S, rfl, ⟨E.symm.trans etg, gS⟩, by rw [ht]; exact hP, hD⟩, hS.F ht⟩) hS.2.2 dMO_hears_18
  · have r_k13 : zr (-2147483648) 0 k13 := zle_x (zr_any k13) (show zr 0 0 0 from by decide) (znlt c_10) (by decide)
    refine lv_iload_n hx hb dMO_hears_13 rfl (lv_at hl 3 rfl) ?_
    refine lv_iconst (v := 5) hx hb dMO_hears_14 (by decide) ?_
    refine z_icmp_ne (tgt := 19) hx hb dMO_hears_15 (by decide) E (fun c_15 E => ?_) (fun c_15 E => ?_)
    · refine lv_iload_n hx hb dMO_hears_19 rfl (lv_at hl 3 rfl) ?_
      refine lv_iconst (v := 3) hx hb dMO_hears_20 (by decide) ?_
      refine z_icmp_ne (tgt := 62) hx hb dMO_hears_21 (by decide) E (fun c_21 E => ?_) (fun c_21 E => ?_)
      · refine lv_iload_n hx hb dMO_hears_62 rfl (lv_at hl 3 rfl) ?_
        refine lv_iconst (v := 4) hx hb dMO_hears_63 (by decide) ?_
        refine z_icmp_eq (tgt := 91) hx hb dMO_hears_64 (by decide) E (fun c_64 E => ?_) (fun c_64 E => ?_)
        · have r_x2 : zr 4 4 x2 := zeq_x (show zr 4 4 4 from by decide) c_64
          exact hJ91 H11 locs ls S x0 x1 x2 x3 r_x0 r_x1 gS E hP hD hS (lv_sub hl [0, 1, 2, 3, 4] rfl)
        · refine lv_aload_n hx hb dMO_hears_67 rfl (lv_at hl 0 rfl) ?_
          refine lv_iload_n hx hb dMO_hears_68 rfl (lv_at hl 1 rfl) ?_
          refine lv_iload_n hx hb dMO_hears_69 rfl (lv_at hl 2 rfl) ?_
          refine zcallp (va_runV (As := [.int x0, .int x1]) (rest := []) ⟨hx, hb, hml, hown, zno⟩ (tMO_owns l dC dI cI cZ cJ cA a0 s0 o b P S H11.size x0 x1 gP gS r_x1) (zcw 2 (hB.word (zm5 k5_155) rfl) (hB.word (zm1 k1_9) rfl) (hB.word (zm5 k5_152) rfl) (hB.word (zm5 k5_154) rfl) (k2_selects_private (by decide) (hB.word (zm4 k4_109) rfl) (hB.word (zm5 k5_153) rfl) (hB.word (zm5 k5_154) rfl)) rfl rfl (by decide +kernel) ⟨Nat.le_of_ble_eq_true rfl, Nat.le_of_ble_eq_true rfl⟩) ⟨zP_blind, va_recv hK hP (ci := 7) (q0 := 0) rfl rfl, zP_pre hP hK hD hAD (zB_on hB hA0 hS)⟩ rfl rfl hl.1 rfl (lv_room (Nat.le_of_ble_eq_true rfl)) dMO_hears_70 ⟨Nat.le_of_ble_eq_true rfl, Nat.le_of_ble_eq_true rfl⟩) hS hA (fun k15 H14 locs hk15 hz1 hk1 hS => ?_)
          have hP := zKeep hP hk1
          have E := zl_s E hk15.1
          refine z_if_eq (tgt := 91) hx hb dMO_hears_73 (by decide) E (fun c_73 E => ?_) (fun c_73 E => ?_)
          · have r_k15 : zr 0 0 k15 := zeq_x (show zr 0 0 0 from by decide) c_73
            exact hJ91 H14 locs ls S x0 x1 x2 x3 r_x0 r_x1 gS E hP hD hS (lv_sub hl [0, 1, 2, 3, 4] rfl)
          · have r_k15 : zr 1 1 k15 := zne_lo hk15.2 c_73 (by decide)
            refine lv_aload_n hx hb dMO_hears_76 rfl (lv_at hl 0 rfl) ?_
            refine lv_iload_n hx hb dMO_hears_77 rfl (lv_at hl 1 rfl) ?_
            refine lv_iload_n hx hb dMO_hears_78 rfl (lv_at hl 2 rfl) ?_
            refine lv_bipush (v := 16) hx hb dMO_hears_79 (by decide) ?_
            refine zcV (va_runV (As := [.int x0, .int x1, .int 16]) (rest := []) ⟨hx, hb, hml, hown, zno⟩ (tMO_endAll l dC dI cI cZ cJ cA a0 s0 o b P S H14.size x0 x1 16 gP gS r_x0 r_x1) (zcw 3 (hB.word (zm5 k5_159) rfl) (hB.word (zm1 k1_9) rfl) (hB.word (zm5 k5_156) rfl) (hB.word (zm5 k5_158) rfl) (k2_selects_private (by decide) (hB.word (zm4 k4_109) rfl) (hB.word (zm5 k5_157) rfl) (hB.word (zm5 k5_158) rfl)) rfl rfl (by decide +kernel) ⟨Nat.le_of_ble_eq_true rfl, Nat.le_of_ble_eq_true rfl⟩) ⟨zP_blind, va_recv hK hP (ci := 7) (q0 := 0) rfl rfl, zP_pre hP hK hD hAD (zB_on hB hA0 hS)⟩ rfl rfl hl.1 rfl (lv_room (Nat.le_of_ble_eq_true rfl)) dMO_hears_81 ⟨Nat.le_of_ble_eq_true rfl, Nat.le_of_ble_eq_true rfl⟩) hD hS hA (fun S17 H16 locs h18 hP hD hS => ?_)
            have E := zl_s E h18.1
            have gS17 := h18.2
            refine lv_aload_n hx hb dMO_hears_84 rfl (lv_at hl 0 rfl) ?_
            refine m_getA_11 hx hb (hB.words zU_MO) hown hK hP (hB.word (zm4 k4_128) rfl) dMO_hears_85 ?_
            refine lv_iload_n hx hb dMO_hears_88 rfl (lv_at hl 2 rfl) ?_
            refine lv_iconst (v := 0) hx hb dMO_hears_89 (by decide) ?_
            refine m_astS hx hb hK hP hD hS 11 (by decide) rfl r_x1 (by decide) dMO_hears_90 E (fun S19 H20 locs eS19 E hP hD hS => ?_)
            have gS19 : mok S19 := by rw [eS19]; exact gS17.setF (k := 11) (show zr (-2147483648) 2147483647 0 from by decide) (Or.inl (by decide))
            exact hJ91 H20 locs ls S19 x0 x1 x2 x3 r_x0 r_x1 gS19 E hP hD hS (lv_sub hl [0, 1, 2, 3, 4] rfl)
      · have r_x2 : zr 3 3 x2 := zeq_x (show zr 3 3 3 from by decide) c_21
        refine lv_aload_n hx hb dMO_hears_24 rfl (lv_at hl 0 rfl) ?_
        refine lv_iload_n hx hb dMO_hears_25 rfl (lv_at hl 1 rfl) ?_
        refine lv_iload_n hx hb dMO_hears_26 rfl (lv_at hl 2 rfl) ?_
        refine zcallp (va_runV (As := [.int x0, .int x1]) (rest := []) ⟨hx, hb, hml, hown, zno⟩ (tMO_owns l dC dI cI cZ cJ cA a0 s0 o b P S H11.size x0 x1 gP gS r_x1) (zcw 2 (hB.word (zm5 k5_155) rfl) (hB.word (zm1 k1_9) rfl) (hB.word (zm5 k5_152) rfl) (hB.word (zm5 k5_154) rfl) (k2_selects_private (by decide) (hB.word (zm4 k4_109) rfl) (hB.word (zm5 k5_153) rfl) (hB.word (zm5 k5_154) rfl)) rfl rfl (by decide +kernel) ⟨Nat.le_of_ble_eq_true rfl, Nat.le_of_ble_eq_true rfl⟩) ⟨zP_blind, va_recv hK hP (ci := 7) (q0 := 0) rfl rfl, zP_pre hP hK hD hAD (zB_on hB hA0 hS)⟩ rfl rfl hl.1 rfl (lv_room (Nat.le_of_ble_eq_true rfl)) dMO_hears_27 ⟨Nat.le_of_ble_eq_true rfl, Nat.le_of_ble_eq_true rfl⟩) hS hA (fun k22 H21 locs hk22 hz1 hk1 hS => ?_)
        have hP := zKeep hP hk1
        have E := zl_s E hk22.1
        refine z_if_eq (tgt := 61) hx hb dMO_hears_30 (by decide) E (fun c_30 E => ?_) (fun c_30 E => ?_)
        · have r_k22 : zr 0 0 k22 := zeq_x (show zr 0 0 0 from by decide) c_30
          rw [hQe]
          exact W.vret hx hb hr (fun t ht hW => ⟨⟨S, rfl, ⟨E.symm.trans etg, gS⟩, by rw [ht]; exact hP, hD⟩, hS.F ht⟩) hS.2.2 dMO_hears_61
        · have r_k22 : zr 1 1 k22 := zne_lo hk22.2 c_30 (by decide)
          refine lv_aload_n hx hb dMO_hears_33 rfl (lv_at hl 0 rfl) ?_
          refine lv_iload_n hx hb dMO_hears_34 rfl (lv_at hl 1 rfl) ?_
          refine lv_iload_n hx hb dMO_hears_35 rfl (lv_at hl 2 rfl) ?_
          refine lv_bipush (v := 23) hx hb dMO_hears_36 (by decide) ?_
          refine zcallp (va_runV (As := [.int x0, .int x1, .int 23]) (rest := []) ⟨hx, hb, hml, hown, zno⟩ (tMO_has l dC dI cI cZ cJ cA a0 s0 o b P S H21.size x0 x1 23 gP gS r_x0 r_x1) (zcw 3 (hB.word (zm5 k5_207) rfl) (hB.word (zm1 k1_9) rfl) (hB.word (zm5 k5_204) rfl) (hB.word (zm5 k5_206) rfl) (k2_selects_private (by decide) (hB.word (zm4 k4_109) rfl) (hB.word (zm5 k5_205) rfl) (hB.word (zm5 k5_206) rfl)) rfl rfl (by decide +kernel) ⟨Nat.le_of_ble_eq_true rfl, Nat.le_of_ble_eq_true rfl⟩) ⟨zP_blind, va_recv hK hP (ci := 7) (q0 := 0) rfl rfl, zP_pre hP hK hD hAD (zB_on hB hA0 hS)⟩ rfl rfl hl.1 rfl (lv_room (Nat.le_of_ble_eq_true rfl)) dMO_hears_38 ⟨Nat.le_of_ble_eq_true rfl, Nat.le_of_ble_eq_true rfl⟩) hS hA (fun k24 H23 locs hk24 hz1 hk1 hS => ?_)
          have hP := zKeep hP hk1
          have E := zl_s E hk24.1
          refine z_if_ne (tgt := 61) hx hb dMO_hears_41 (by decide) E (fun c_41 E => ?_) (fun c_41 E => ?_)
          · have r_k24 : zr 1 1 k24 := zne_lo hk24.2 c_41 (by decide)
            rw [hQe]
            exact W.vret hx hb hr (fun t ht hW => ⟨⟨S, rfl, ⟨E.symm.trans etg, gS⟩, by rw [ht]; exact hP, hD⟩, hS.F ht⟩) hS.2.2 dMO_hears_61
          · have r_k24 : zr 0 0 k24 := zeq_x (show zr 0 0 0 from by decide) c_41
            refine lv_aload_n hx hb dMO_hears_44 rfl (lv_at hl 0 rfl) ?_
            refine m_getA_11 hx hb (hB.words zU_MO) hown hK hP (hB.word (zm4 k4_128) rfl) dMO_hears_45 ?_
            refine lv_iload_n hx hb dMO_hears_48 rfl (lv_at hl 2 rfl) ?_
            refine m_aldS hx hb hK hP 11 (by decide) rfl r_x1 (by decide) dMO_hears_49 E (fun k25 ek25 E => ?_)
            refine z_if_ne (tgt := 61) hx hb dMO_hears_50 (by decide) E (fun c_50 E => ?_) (fun c_50 E => ?_)
            · rw [hQe]
              exact W.vret hx hb hr (fun t ht hW => ⟨⟨S, rfl, ⟨E.symm.trans etg, gS⟩, by rw [ht]; exact hP, hD⟩, hS.F ht⟩) hS.2.2 dMO_hears_61
            · have r_k25 : zr 0 0 k25 := zeq_x (show zr 0 0 0 from by decide) c_50
              refine lv_aload_n hx hb dMO_hears_53 rfl (lv_at hl 0 rfl) ?_
              refine m_getA_11 hx hb (hB.words zU_MO) hown hK hP (hB.word (zm4 k4_128) rfl) dMO_hears_54 ?_
              refine lv_iload_n hx hb dMO_hears_57 rfl (lv_at hl 2 rfl) ?_
              refine lv_bipush (v := 60) hx hb dMO_hears_58 (by decide) ?_
              refine m_astS hx hb hK hP hD hS 11 (by decide) rfl r_x1 (by decide) dMO_hears_60 E (fun S26 H27 locs eS26 E hP hD hS => ?_)
              have gS26 : mok S26 := by rw [eS26]; exact gS.setF (k := 11) (show zr (-2147483648) 2147483647 60 from by decide) (Or.inl (by decide))
              rw [hQe]
              exact W.vret hx hb hr (fun t ht hW => ⟨⟨S26, rfl, ⟨E.symm.trans etg, gS26⟩, by rw [ht]; exact hP, hD⟩, hS.F ht⟩) hS.2.2 dMO_hears_61
    · have r_x2 : zr 5 5 x2 := zeq_x (show zr 5 5 5 from by decide) c_15
      rw [hQe]
      exact W.vret hx hb hr (fun t ht hW => ⟨⟨S, rfl, ⟨E.symm.trans etg, gS⟩, by rw [ht]; exact hP, hD⟩, hS.F ht⟩) hS.2.2 dMO_hears_18
noncomputable def fMO_arrive_210 (P : ZS) (rc165 : ZS → Int32 → Int32 → Int32 → Int32 → (ZS)) (S_210 : ZS) (x210_3 : Int32) (x210_4 : Int32) (x210_7 : Int32) (x210_8 : Int32) : ZS := zl (x210_8 + 1) (fun k1 => rc165 S_210 x210_3 x210_4 x210_7 k1)
noncomputable def fMO_arrive_165 (P : ZS) (rc165 : ZS → Int32 → Int32 → Int32 → Int32 → (ZS)) (S_165 : ZS) (x165_3 : Int32) (x165_4 : Int32) (x165_7 : Int32) (x165_8 : Int32) : ZS := (if 2 ≤ x165_8 then S_165 else zl (fMO_at P S_165 x165_4 x165_7) (fun k3 => zl (2 * k3) (fun k4 => zl (k4 + x165_8) (fun k5 => zl (P.F 6 (k5 : Int32).toNatClampNeg) (fun k6 => (if k6 = (-1) then fMO_arrive_210 P rc165 S_165 x165_3 x165_4 x165_7 x165_8 else (if k6 = x165_3 then fMO_arrive_210 P rc165 S_165 x165_3 x165_4 x165_7 x165_8 else zl (fMO_put P S_165 x165_4 k6) (fun S8 => fMO_arrive_210 P rc165 S8 x165_3 x165_4 x165_7 x165_8))))))))
noncomputable def fMO_arrive_130 (P : ZS) (S_130 : ZS) (x130_2 : Int32) (x130_3 : Int32) (x130_4 : Int32) (x130_5 : Int32) (x130_6 : Int32) (x130_7 : Int32) : ZS := zl (fMO_hears P S_130 x130_4 x130_7 x130_5 x130_6) (fun S11 => zl (S11.F 31 (x130_2 : Int32).toNatClampNeg) (fun k13 => zl (S11.F 32 (x130_2 : Int32).toNatClampNeg) (fun k14 => zl (fMO_say P S11 x130_5 x130_6 k13 k14) (fun S16 => zfix (fun S9 _ _ _ _ => S9) (fMO_arrive_165 P) 3 S16 x130_3 x130_4 x130_7 0))))
noncomputable def fMO_arrive_70 (P : ZS) (S_70 : ZS) (x70_2 : Int32) (x70_3 : Int32) (y70_0 : Int32) : ZS := zl (S_70.F 29 (x70_2 : Int32).toNatClampNeg) (fun k18 => zl (S_70.F 30 (x70_2 : Int32).toNatClampNeg) (fun k19 => (if k19 = y70_0 then S_70 else zl (P.F 2 (x70_3 : Int32).toNatClampNeg) (fun k20 => (if k18 = 3 then fMO_arrive_130 P S_70 x70_2 x70_3 y70_0 k18 k19 k20 else zl (S_70.F 31 (x70_2 : Int32).toNatClampNeg) (fun k21 => zl (S_70.F 32 (x70_2 : Int32).toNatClampNeg) (fun k22 => zl (fMO_news P S_70 y70_0 k21 k22 k20) (fun S24 => fMO_arrive_130 P S24 x70_2 x70_3 y70_0 k18 k19 k20))))))))
noncomputable def fMO_arrive (P S : ZS) (x0 : Int32) (x1 : Int32) : ZS := zl (x0 / 2) (fun k26 => zl (S.F 7 (k26 : Int32).toNatClampNeg) (fun k27 => (if k27 = 0 then zl (S.F 9 (k26 : Int32).toNatClampNeg) (fun k28 => (if k28 ≤ 0 then zl (x0 - x0 / 2 * 2) (fun k29 => (if k29 = 0 then zl (P.F 0 (k26 : Int32).toNatClampNeg) (fun k31 => fMO_arrive_70 P S x1 k26 k31) else zl (P.F 1 (k26 : Int32).toNatClampNeg) (fun k30 => fMO_arrive_70 P S x1 k26 k30))) else zl (S.F 9 (k26 : Int32).toNatClampNeg) (fun k32 => zl (k28 - 1) (fun k33 => zl (S.setF 9 (k26 : Int32).toNatClampNeg k33) (fun S34 => zl (S34.I 5) (fun k36 => zl (k36 + 1) (fun k37 => zl (S34.setI 5 k37) (fun S38 => zl (S38.setI 8 1) (fun S40 => S40))))))))) else S)))
set_option maxHeartbeats 4000000 in
set_option maxRecDepth 100000 in
theorem tMO_arrive (l : Launch) (dC : Nat → ClassId) (dI : Nat → Nat → Nat) (cI cZ cJ cA : ClassId) (a0 : Array Value) (s0 : State) (o b : Nat → Nat) (P S : ZS) (sz : Nat) (x0 : Int32) (x1 : Int32) (gP : mok P) (gS : mok S) (r_x0 : zr 0 119 x0) (r_x1 : zr 0 7679 x1) : Met l yMO_arrive [Cond.code yMO_arrive bMO_arrive 10 none] ({ frames := 5, cells := 0, slots := 0, locals := 118 } : Room) (zP zCl dC dI (zTZ cI cZ cJ cA) a0 s0 [.ref (o 0), .int x0, .int x1] sz (MW cI cZ cA o b P S)) (zQG zCl dC dI (fun (x9 : ZS) => x9 = fMO_arrive P S x0 x1 ∧ mok x9) (fun x9 : ZS => (MW cI cZ cA o b P x9)) (va_A (MW cI cZ cA o b P S) sz)) 0 0 (va_A (MW cI cZ cA o b P S) sz) := by
  refine Met.ofW (cc := bMO_arrive) (maxL := 10) (ret := none) (by decide) rfl ?_
  intro p e s m args below meth c s₁ B hml hv
  obtain ⟨rfl, hsz, hP, hK, hD0, hB⟩ := hv
  have hx := B.exec
  have hb := B.bytes
  have hr := B.returns
  have hown : s.vm.findClass "RingGuardModel" = some m.cls := findClass_of_methodNamed B.named
  have hlocks := B.notSynchronized
  subst hsz
  have hD := hD0.self (sz := s.heap.size)
  have hA0 := zA0 hD0 hB
  generalize hAe : va_A (MW cI cZ cA o b P S) s.heap.size = A at hD hA0 ⊢
  have hAD := hA0
  have hA : ∀ q : Nat, s.heap.size ≤ q → A q := fun q h => by rw [← hAe]; exact Or.inr h
  have hS : va_S A s.heap s.heap [] := va_S.rf
  have hl := lv_entry ([.ref (o 0), .int x0, .int x1]) (n := 10) (Nat.le_of_ble_eq_true rfl)
  rw [lg_entry_eq]
  generalize (lg_sl ([.ref (o 0), .int x0, .int x1]) ++ List.replicate (10 - (lg_sl ([.ref (o 0), .int x0, .int x1])).length) Slot.unset).toArray = ls at hl ⊢
  have hl : lv_has ls 10 [(0, .ref (o 0)), (1, .int x0), (2, .int x1)] := hl
  refine zgenQ (fun Q hQe => ?_)
  obtain ⟨tg, etg⟩ : ∃ z, z = fMO_arrive P S x0 x1 := ⟨_, rfl⟩
  have E := etg
  unfold fMO_arrive at E
  have hJ70 : ∀ (H : Heap) (locs : List Loc) (ls : Array Slot) (S_70 : ZS) (x70_2 : Int32) (x70_3 : Int32) (y70_0 : Int32), zr 0 7679 x70_2 → zr 0 59 x70_3 → zr 0 47 y70_0 → mok S_70 → tg = fMO_arrive_70 P S_70 x70_2 x70_3 y70_0 → va_P (dC, dI) zCl (MW cI cZ cA o b P S_70) H → va_D A (MW cI cZ cA o b P S_70) → va_S A s.heap H locs → lv_has ls 10 [(0, .ref (o 0)), (2, .int x70_2), (3, .int x70_3)] → W p l e ({ frames := 5, cells := 0, slots := 0, locals := 118 } : Room) s m ([.ref (o 0), .int x0, .int x1] : List Value).toArray below meth c H locs 0 0 Q (F0 m 70 ls [.int y70_0]) := by
    intro H locs ls S_70 x70_2 x70_3 y70_0 r_x70_2 r_x70_3 r_y70_0 gS_70 E hP hD hS hl
    unfold fMO_arrive_70 at E
    have hJ130 : ∀ (H : Heap) (locs : List Loc) (ls : Array Slot) (S_130 : ZS) (x130_2 : Int32) (x130_3 : Int32) (x130_4 : Int32) (x130_5 : Int32) (x130_6 : Int32) (x130_7 : Int32), zr 0 7679 x130_2 → zr 0 59 x130_3 → zr 0 47 x130_4 → zr 0 5 x130_7 → mok S_130 → tg = fMO_arrive_130 P S_130 x130_2 x130_3 x130_4 x130_5 x130_6 x130_7 → va_P (dC, dI) zCl (MW cI cZ cA o b P S_130) H → va_D A (MW cI cZ cA o b P S_130) → va_S A s.heap H locs → lv_has ls 10 [(0, .ref (o 0)), (2, .int x130_2), (3, .int x130_3), (4, .int x130_4), (5, .int x130_5), (6, .int x130_6), (7, .int x130_7)] → W p l e ({ frames := 5, cells := 0, slots := 0, locals := 118 } : Room) s m ([.ref (o 0), .int x0, .int x1] : List Value).toArray below meth c H locs 0 0 Q (F0 m 130 ls []) := by
      intro H locs ls S_130 x130_2 x130_3 x130_4 x130_5 x130_6 x130_7 r_x130_2 r_x130_3 r_x130_4 r_x130_7 gS_130 E hP hD hS hl
      unfold fMO_arrive_130 at E
      have hL165 : ∀ (n165 : Nat) (H : Heap) (locs : List Loc) (ls : Array Slot) (S_165 : ZS) (x165_3 : Int32) (x165_4 : Int32) (x165_7 : Int32) (x165_8 : Int32), zr 0 59 x165_3 → zr 0 47 x165_4 → zr 0 5 x165_7 → zr 0 2 x165_8 → mok S_165 → 2 + 1 - x165_8.toInt ≤ (n165 : Int) → tg = zfix (fun S9 _ _ _ _ => S9) (fMO_arrive_165 P) n165 S_165 x165_3 x165_4 x165_7 x165_8 → va_P (dC, dI) zCl (MW cI cZ cA o b P S_165) H → va_D A (MW cI cZ cA o b P S_165) → va_S A s.heap H locs → lv_has ls 10 [(0, .ref (o 0)), (3, .int x165_3), (4, .int x165_4), (7, .int x165_7), (8, .int x165_8)] → W p l e ({ frames := 5, cells := 0, slots := 0, locals := 118 } : Room) s m ([.ref (o 0), .int x0, .int x1] : List Value).toArray below meth c H locs 0 0 Q (F0 m 165 ls []) := by
        intro n165
        induction n165 with
        | zero => intro H locs ls S_165 x165_3 x165_4 x165_7 x165_8 r_x165_3 r_x165_4 r_x165_7 r_x165_8 gS_165 hm165 E hP hD hS hl; exact absurd hm165 (zfuel0U r_x165_8)
        | succ n165 ih165 =>
          intro H locs ls S_165 x165_3 x165_4 x165_7 x165_8 r_x165_3 r_x165_4 r_x165_7 r_x165_8 gS_165 hm165 E hP hD hS hl
          rw [zfix_s] at E
          generalize zfix (fun S9 _ _ _ _ => S9) (fMO_arrive_165 P) n165 = rc165 at ih165 E
          unfold fMO_arrive_165 at E
          have hJ210 : ∀ (H : Heap) (locs : List Loc) (ls : Array Slot) (S_210 : ZS) (x210_3 : Int32) (x210_4 : Int32) (x210_7 : Int32) (x210_8 : Int32), zr 0 59 x210_3 → zr 0 47 x210_4 → zr 0 5 x210_7 → zr 0 1 x210_8 → mok S_210 → 2 + 1 - x210_8.toInt ≤ ((n165 + 1 : Nat) : Int) → tg = fMO_arrive_210 P rc165 S_210 x210_3 x210_4 x210_7 x210_8 → va_P (dC, dI) zCl (MW cI cZ cA o b P S_210) H → va_D A (MW cI cZ cA o b P S_210) → va_S A s.heap H locs → lv_has ls 10 [(0, .ref (o 0)), (3, .int x210_3), (4, .int x210_4), (7, .int x210_7), (8, .int x210_8)] → W p l e ({ frames := 5, cells := 0, slots := 0, locals := 118 } : Room) s m ([.ref (o 0), .int x0, .int x1] : List Value).toArray below meth c H locs 0 0 Q (F0 m 210 ls []) := by
            intro H locs ls S_210 x210_3 x210_4 x210_7 x210_8 r_x210_3 r_x210_4 r_x210_7 r_x210_8 gS_210 hm165_210 E hP hD hS hl
            unfold fMO_arrive_210 at E
            refine z_iinc (lv' := fun v9 => [(8, .int v9), (0, .ref (o 0)), (3, .int x210_3), (4, .int x210_4), (7, .int x210_7)]) (cst := 1) hx hb dMO_arrive_210 hl (k := 4) rfl (by decide) (by decide) (fun _ => rfl) E (fun k1 ls ek1 E hl => ?_)
            have r_k1 : zr 1 2 k1 := zr_add r_x210_8 (show zr 1 1 1 from by decide) ek1 (by decide)
            refine lv_goto (tgt := 165) hx hb dMO_arrive_213 (by decide) ?_
            exact ih165 H locs ls S_210 x210_3 x210_4 x210_7 k1 r_x210_3 r_x210_4 r_x210_7 (zr_mono r_k1 (by decide)) gS_210 (zstepU ek1 r_x210_8 (by decide) hm165_210) E hP hD hS (lv_sub hl [1, 2, 3, 4, 0] rfl)
          refine lv_iload hx hb dMO_arrive_165 (lv_at hl 4 rfl) ?_
          refine lv_iconst (v := 2) hx hb dMO_arrive_167 (by decide) ?_
          refine z_icmp_ge (tgt := 216) hx hb dMO_arrive_168 (by decide) E (fun c_168 E => ?_) (fun c_168 E => ?_)
          · have r_x165_8 : zr 2 2 x165_8 := zle_y (show zr 2 2 2 from by decide) r_x165_8 c_168 (by decide)
            rw [hQe]
            exact W.vret hx hb hr (fun t ht hW => ⟨⟨S_165, rfl, ⟨E.symm.trans etg, gS_165⟩, by rw [ht]; exact hP, hD⟩, hS.F ht⟩) hS.2.2 dMO_arrive_216
          · have r_x165_8 : zr 0 1 x165_8 := zlt_x r_x165_8 (show zr 2 2 2 from by decide) (znle c_168) (by decide)
            refine lv_aload_n hx hb dMO_arrive_171 rfl (lv_at hl 0 rfl) ?_
            refine m_getA_6 hx hb (hB.words zU_MO) hown hK hP (hB.word (zm4 k4_130) rfl) dMO_arrive_172 ?_
            refine lv_iconst (v := 2) hx hb dMO_arrive_175 (by decide) ?_
            refine lv_iload hx hb dMO_arrive_176 (lv_at hl 2 rfl) ?_
            refine lv_iload hx hb dMO_arrive_178 (lv_at hl 3 rfl) ?_
            refine zcallp (va_runS (As := [.int x165_4, .int x165_7]) (rest := [.int 2, .ref (b 6)]) ⟨hx, hb, hml, hown, zno⟩ (tMO_at l dC dI cI cZ cJ cA a0 s0 o b P S_165 H.size x165_4 x165_7 gP gS_165 r_x165_4 r_x165_7) ⟨zcb 2 (hB.word (zm5 k5_119) rfl) (hB.word (zm1 k1_9) rfl) (hB.word (zm5 k5_117) rfl) rfl rfl (by decide +kernel) ⟨Nat.le_of_ble_eq_true rfl, Nat.le_of_ble_eq_true rfl⟩, hB.word (zm5 k5_118) rfl⟩ ⟨zP_blind, zP_pre hP hK hD hAD (zB_on hB hA0 hS)⟩ rfl rfl hl.1 rfl (lv_room (Nat.le_of_ble_eq_true rfl)) dMO_arrive_180 ⟨Nat.le_of_ble_eq_true rfl, Nat.le_of_ble_eq_true rfl⟩) hS hA (fun k3 H2 locs hk3 hz1 hk1 hS => ?_)
            have hP := zKeep hP hk1
            have E := zl_s E hk3.1
            refine z_imul hx hb dMO_arrive_183 E (fun k4 ek4 E => ?_)
            have r_k4 : zr 0 574 k4 := zr_mul (show zr 2 2 2 from by decide) hk3.2 ek4 (by decide)
            refine lv_iload hx hb dMO_arrive_184 (lv_at hl 4 rfl) ?_
            refine z_iadd hx hb dMO_arrive_186 E (fun k5 ek5 E => ?_)
            have r_k5 : zr 0 575 k5 := zr_add r_k4 r_x165_8 ek5 (by decide)
            refine m_aldP hx hb hK hP 6 (by decide) rfl r_k5 (by decide) dMO_arrive_187 E (fun k6 ek6 E => ?_)
            have r_k6 : zr (-1) 59 k6 := by rw [ek6]; exact gP.1 6 _
            refine lv_istore (lv' := [(9, .int k6), (0, .ref (o 0)), (3, .int x165_3), (4, .int x165_4), (7, .int x165_7), (8, .int x165_8)]) hx hb dMO_arrive_188 hl (by decide) rfl (fun ls hl => ?_)
            refine lv_iload hx hb dMO_arrive_190 (lv_at hl 0 rfl) ?_
            refine lv_iconst (v := (-1)) hx hb dMO_arrive_192 (by decide) ?_
            refine z_icmp_eq (tgt := 210) hx hb dMO_arrive_193 (by decide) E (fun c_193 E => ?_) (fun c_193 E => ?_)
            · have r_k6 : zr (-1) (-1) k6 := zeq_x (show zr (-1) (-1) (-1) from by decide) c_193
              exact hJ210 H2 locs ls S_165 x165_3 x165_4 x165_7 x165_8 r_x165_3 r_x165_4 r_x165_7 r_x165_8 gS_165 hm165 E hP hD hS (lv_sub hl [1, 2, 3, 4, 5] rfl)
            · have r_k6 : zr 0 59 k6 := zne_lo r_k6 c_193 (by decide)
              refine lv_iload hx hb dMO_arrive_196 (lv_at hl 0 rfl) ?_
              refine lv_iload_n hx hb dMO_arrive_198 rfl (lv_at hl 2 rfl) ?_
              refine z_icmp_eq (tgt := 210) hx hb dMO_arrive_199 (by decide) E (fun c_199 E => ?_) (fun c_199 E => ?_)
              · exact hJ210 H2 locs ls S_165 x165_3 x165_4 x165_7 x165_8 r_x165_3 r_x165_4 r_x165_7 r_x165_8 gS_165 hm165 E hP hD hS (lv_sub hl [1, 2, 3, 4, 5] rfl)
              · refine lv_aload_n hx hb dMO_arrive_202 rfl (lv_at hl 1 rfl) ?_
                refine lv_iload hx hb dMO_arrive_203 (lv_at hl 3 rfl) ?_
                refine lv_iload hx hb dMO_arrive_205 (lv_at hl 0 rfl) ?_
                refine zcV (va_runV (As := [.int x165_4, .int k6]) (rest := []) ⟨hx, hb, hml, hown, zno⟩ (tMO_put l dC dI cI cZ cJ cA a0 s0 o b P S_165 H2.size x165_4 k6 gP gS_165 r_k6) (zcw 2 (hB.word (zm5 k5_135) rfl) (hB.word (zm1 k1_9) rfl) (hB.word (zm5 k5_132) rfl) (hB.word (zm5 k5_134) rfl) (k2_selects_private (by decide) (hB.word (zm4 k4_109) rfl) (hB.word (zm5 k5_133) rfl) (hB.word (zm5 k5_134) rfl)) rfl rfl (by decide +kernel) ⟨Nat.le_of_ble_eq_true rfl, Nat.le_of_ble_eq_true rfl⟩) ⟨zP_blind, va_recv hK hP (ci := 7) (q0 := 0) rfl rfl, zP_pre hP hK hD hAD (zB_on hB hA0 hS)⟩ rfl rfl hl.1 rfl (lv_room (Nat.le_of_ble_eq_true rfl)) dMO_arrive_207 ⟨Nat.le_of_ble_eq_true rfl, Nat.le_of_ble_eq_true rfl⟩) hD hS hA (fun S8 H7 locs h9 hP hD hS => ?_)
                have E := zl_s E h9.1
                have gS8 := h9.2
                exact hJ210 H7 locs ls S8 x165_3 x165_4 x165_7 x165_8 r_x165_3 r_x165_4 r_x165_7 r_x165_8 gS8 hm165 E hP hD hS (lv_sub hl [1, 2, 3, 4, 5] rfl)
      refine lv_aload_n hx hb dMO_arrive_130 rfl (lv_at hl 0 rfl) ?_
      refine lv_iload hx hb dMO_arrive_131 (lv_at hl 3 rfl) ?_
      refine lv_iload hx hb dMO_arrive_133 (lv_at hl 6 rfl) ?_
      refine lv_iload hx hb dMO_arrive_135 (lv_at hl 4 rfl) ?_
      refine lv_iload hx hb dMO_arrive_137 (lv_at hl 5 rfl) ?_
      refine zcV (va_runV (As := [.int x130_4, .int x130_7, .int x130_5, .int x130_6]) (rest := []) ⟨hx, hb, hml, hown, zno⟩ (tMO_hears l dC dI cI cZ cJ cA a0 s0 o b P S_130 H.size x130_4 x130_7 x130_5 x130_6 gP gS_130 r_x130_4 r_x130_7) (zcw 4 (hB.word (zm5 k5_203) rfl) (hB.word (zm1 k1_9) rfl) (hB.word (zm5 k5_200) rfl) (hB.word (zm5 k5_202) rfl) (k2_selects_private (by decide) (hB.word (zm4 k4_109) rfl) (hB.word (zm5 k5_201) rfl) (hB.word (zm5 k5_202) rfl)) rfl rfl (by decide +kernel) ⟨Nat.le_of_ble_eq_true rfl, Nat.le_of_ble_eq_true rfl⟩) ⟨zP_blind, va_recv hK hP (ci := 7) (q0 := 0) rfl rfl, zP_pre hP hK hD hAD (zB_on hB hA0 hS)⟩ rfl rfl hl.1 rfl (lv_room (Nat.le_of_ble_eq_true rfl)) dMO_arrive_139 ⟨Nat.le_of_ble_eq_true rfl, Nat.le_of_ble_eq_true rfl⟩) hD hS hA (fun S11 H10 locs h12 hP hD hS => ?_)
      have E := zl_s E h12.1
      have gS11 := h12.2
      refine lv_aload_n hx hb dMO_arrive_142 rfl (lv_at hl 0 rfl) ?_
      refine lv_iload hx hb dMO_arrive_143 (lv_at hl 4 rfl) ?_
      refine lv_iload hx hb dMO_arrive_145 (lv_at hl 5 rfl) ?_
      refine lv_aload_n hx hb dMO_arrive_147 rfl (lv_at hl 0 rfl) ?_
      refine m_getA_31 hx hb (hB.words zU_MO) hown hK hP (hB.word (zm4 k4_149) rfl) dMO_arrive_148 ?_
      refine lv_iload_n hx hb dMO_arrive_151 rfl (lv_at hl 1 rfl) ?_
      refine m_aldS hx hb hK hP 31 (by decide) rfl r_x130_2 (by decide) dMO_arrive_152 E (fun k13 ek13 E => ?_)
      have r_k13 : zr 0 113 k13 := by rw [ek13]; exact gS11.1 31 _
      refine lv_aload_n hx hb dMO_arrive_153 rfl (lv_at hl 0 rfl) ?_
      refine m_getA_32 hx hb (hB.words zU_MO) hown hK hP (hB.word (zm4 k4_150) rfl) dMO_arrive_154 ?_
      refine lv_iload_n hx hb dMO_arrive_157 rfl (lv_at hl 1 rfl) ?_
      refine m_aldS hx hb hK hP 32 (by decide) rfl r_x130_2 (by decide) dMO_arrive_158 E (fun k14 ek14 E => ?_)
      refine zcV (va_runV (As := [.int x130_5, .int x130_6, .int k13, .int k14]) (rest := []) ⟨hx, hb, hml, hown, zno⟩ (tMO_say l dC dI cI cZ cJ cA a0 s0 o b P S11 H10.size x130_5 x130_6 k13 k14 gP gS11 r_k13) (zcw 4 (hB.word (zm5 k5_127) rfl) (hB.word (zm1 k1_9) rfl) (hB.word (zm5 k5_124) rfl) (hB.word (zm5 k5_126) rfl) (k2_selects_private (by decide) (hB.word (zm4 k4_109) rfl) (hB.word (zm5 k5_125) rfl) (hB.word (zm5 k5_126) rfl)) rfl rfl (by decide +kernel) ⟨Nat.le_of_ble_eq_true rfl, Nat.le_of_ble_eq_true rfl⟩) ⟨zP_blind, va_recv hK hP (ci := 7) (q0 := 0) rfl rfl, zP_pre hP hK hD hAD (zB_on hB hA0 hS)⟩ rfl rfl hl.1 rfl (lv_room (Nat.le_of_ble_eq_true rfl)) dMO_arrive_159 ⟨Nat.le_of_ble_eq_true rfl, Nat.le_of_ble_eq_true rfl⟩) hD hS hA (fun S16 H15 locs h17 hP hD hS => ?_)
      have E := zl_s E h17.1
      have gS16 := h17.2
      refine lv_iconst (v := 0) hx hb dMO_arrive_162 (by decide) ?_
      refine lv_istore (lv' := [(8, .int 0), (0, .ref (o 0)), (2, .int x130_2), (3, .int x130_3), (4, .int x130_4), (5, .int x130_5), (6, .int x130_6), (7, .int x130_7)]) hx hb dMO_arrive_163 hl (by decide) rfl (fun ls hl => ?_)
      exact hL165 3 H15 locs ls S16 x130_3 x130_4 x130_7 0 r_x130_3 r_x130_4 r_x130_7 (show zr 0 2 0 from by decide) gS16 (by have h9 := (show zr 0 0 0 from by decide); exact zfuelU h9 (by decide)) E hP hD hS (lv_sub hl [1, 3, 4, 7, 0] rfl)
    refine lv_istore (lv' := [(4, .int y70_0), (0, .ref (o 0)), (2, .int x70_2), (3, .int x70_3)]) hx hb dMO_arrive_70 hl (by decide) rfl (fun ls hl => ?_)
    refine lv_aload_n hx hb dMO_arrive_72 rfl (lv_at hl 1 rfl) ?_
    refine m_getA_29 hx hb (hB.words zU_MO) hown hK hP (hB.word (zm4 k4_147) rfl) dMO_arrive_73 ?_
    refine lv_iload_n hx hb dMO_arrive_76 rfl (lv_at hl 2 rfl) ?_
    refine m_aldS hx hb hK hP 29 (by decide) rfl r_x70_2 (by decide) dMO_arrive_77 E (fun k18 ek18 E => ?_)
    refine lv_istore (lv' := [(5, .int k18), (4, .int y70_0), (0, .ref (o 0)), (2, .int x70_2), (3, .int x70_3)]) hx hb dMO_arrive_78 hl (by decide) rfl (fun ls hl => ?_)
    refine lv_aload_n hx hb dMO_arrive_80 rfl (lv_at hl 2 rfl) ?_
    refine m_getA_30 hx hb (hB.words zU_MO) hown hK hP (hB.word (zm4 k4_148) rfl) dMO_arrive_81 ?_
    refine lv_iload_n hx hb dMO_arrive_84 rfl (lv_at hl 3 rfl) ?_
    refine m_aldS hx hb hK hP 30 (by decide) rfl r_x70_2 (by decide) dMO_arrive_85 E (fun k19 ek19 E => ?_)
    refine lv_istore (lv' := [(6, .int k19), (5, .int k18), (4, .int y70_0), (0, .ref (o 0)), (2, .int x70_2), (3, .int x70_3)]) hx hb dMO_arrive_86 hl (by decide) rfl (fun ls hl => ?_)
    refine lv_iload hx hb dMO_arrive_88 (lv_at hl 0 rfl) ?_
    refine lv_iload hx hb dMO_arrive_90 (lv_at hl 2 rfl) ?_
    refine z_icmp_ne (tgt := 96) hx hb dMO_arrive_92 (by decide) E (fun c_92 E => ?_) (fun c_92 E => ?_)
    · refine lv_aload_n hx hb dMO_arrive_96 rfl (lv_at hl 3 rfl) ?_
      refine m_getA_2 hx hb (hB.words zU_MO) hown hK hP (hB.word (zm4 k4_120) rfl) dMO_arrive_97 ?_
      refine lv_iload_n hx hb dMO_arrive_100 rfl (lv_at hl 5 rfl) ?_
      refine m_aldP hx hb hK hP 2 (by decide) rfl r_x70_3 (by decide) dMO_arrive_101 E (fun k20 ek20 E => ?_)
      have r_k20 : zr 0 5 k20 := by rw [ek20]; exact gP.1 2 _
      refine lv_istore (lv' := [(7, .int k20), (6, .int k19), (5, .int k18), (4, .int y70_0), (0, .ref (o 0)), (2, .int x70_2), (3, .int x70_3)]) hx hb dMO_arrive_102 hl (by decide) rfl (fun ls hl => ?_)
      refine lv_iload hx hb dMO_arrive_104 (lv_at hl 2 rfl) ?_
      refine lv_iconst (v := 3) hx hb dMO_arrive_106 (by decide) ?_
      refine z_icmp_eq (tgt := 130) hx hb dMO_arrive_107 (by decide) E (fun c_107 E => ?_) (fun c_107 E => ?_)
      · have r_k18 : zr 3 3 k18 := zeq_x (show zr 3 3 3 from by decide) c_107
        exact hJ130 H locs ls S_70 x70_2 x70_3 y70_0 k18 k19 k20 r_x70_2 r_x70_3 r_y70_0 r_k20 gS_70 E hP hD hS (lv_sub hl [4, 5, 6, 3, 2, 1, 0] rfl)
      · refine lv_aload_n hx hb dMO_arrive_110 rfl (lv_at hl 4 rfl) ?_
        refine lv_iload hx hb dMO_arrive_111 (lv_at hl 3 rfl) ?_
        refine lv_aload_n hx hb dMO_arrive_113 rfl (lv_at hl 4 rfl) ?_
        refine m_getA_31 hx hb (hB.words zU_MO) hown hK hP (hB.word (zm4 k4_149) rfl) dMO_arrive_114 ?_
        refine lv_iload_n hx hb dMO_arrive_117 rfl (lv_at hl 5 rfl) ?_
        refine m_aldS hx hb hK hP 31 (by decide) rfl r_x70_2 (by decide) dMO_arrive_118 E (fun k21 ek21 E => ?_)
        have r_k21 : zr 0 113 k21 := by rw [ek21]; exact gS_70.1 31 _
        refine lv_aload_n hx hb dMO_arrive_119 rfl (lv_at hl 4 rfl) ?_
        refine m_getA_32 hx hb (hB.words zU_MO) hown hK hP (hB.word (zm4 k4_150) rfl) dMO_arrive_120 ?_
        refine lv_iload_n hx hb dMO_arrive_123 rfl (lv_at hl 5 rfl) ?_
        refine m_aldS hx hb hK hP 32 (by decide) rfl r_x70_2 (by decide) dMO_arrive_124 E (fun k22 ek22 E => ?_)
        refine lv_iload hx hb dMO_arrive_125 (lv_at hl 0 rfl) ?_
        refine zcV (va_runV (As := [.int y70_0, .int k21, .int k22, .int k20]) (rest := []) ⟨hx, hb, hml, hown, zno⟩ (tMO_news l dC dI cI cZ cJ cA a0 s0 o b P S_70 H.size y70_0 k21 k22 k20 gP gS_70 r_y70_0 r_k21) (zcw 4 (hB.word (zm5 k5_123) rfl) (hB.word (zm1 k1_9) rfl) (hB.word (zm5 k5_120) rfl) (hB.word (zm5 k5_122) rfl) (k2_selects_private (by decide) (hB.word (zm4 k4_109) rfl) (hB.word (zm5 k5_121) rfl) (hB.word (zm5 k5_122) rfl)) rfl rfl (by decide +kernel) ⟨Nat.le_of_ble_eq_true rfl, Nat.le_of_ble_eq_true rfl⟩) ⟨zP_blind, va_recv hK hP (ci := 7) (q0 := 0) rfl rfl, zP_pre hP hK hD hAD (zB_on hB hA0 hS)⟩ rfl rfl hl.1 rfl (lv_room (Nat.le_of_ble_eq_true rfl)) dMO_arrive_127 ⟨Nat.le_of_ble_eq_true rfl, Nat.le_of_ble_eq_true rfl⟩) hD hS hA (fun S24 H23 locs h25 hP hD hS => ?_)
        have E := zl_s E h25.1
        have gS24 := h25.2
        exact hJ130 H23 locs ls S24 x70_2 x70_3 y70_0 k18 k19 k20 r_x70_2 r_x70_3 r_y70_0 r_k20 gS24 E hP hD hS (lv_sub hl [4, 5, 6, 3, 2, 1, 0] rfl)
    · have r_k19 : zr 0 47 k19 := zeq_x r_y70_0 c_92
      rw [hQe]
      exact W.vret hx hb hr (fun t ht hW => ⟨⟨S_70, rfl, ⟨E.symm.trans etg, gS_70⟩, by rw [ht]; exact hP, hD⟩, hS.F ht⟩) hS.2.2 dMO_arrive_95
  refine lv_iload_n hx hb dMO_arrive_0 rfl (lv_at hl 1 rfl) ?_
  refine lv_iconst (v := 2) hx hb dMO_arrive_1 (by decide) ?_
  refine z_idiv hx hb dMO_arrive_2 (by decide) E (fun k26 ek26 E => ?_)
  have r_k26 : zr 0 59 k26 := zr_div r_x0 (c := 2) (by decide) ek26 (by decide)
  refine lv_istore_n (lv' := [(3, .int k26), (0, .ref (o 0)), (1, .int x0), (2, .int x1)]) hx hb dMO_arrive_3 rfl hl (by decide) rfl (fun ls hl => ?_)
  refine lv_aload_n hx hb dMO_arrive_4 rfl (lv_at hl 1 rfl) ?_
  refine m_getA_7 hx hb (hB.words zU_MO) hown hK hP (hB.word (zm4 k4_121) rfl) dMO_arrive_5 ?_
  refine lv_iload_n hx hb dMO_arrive_8 rfl (lv_at hl 0 rfl) ?_
  refine m_zaldS hx hb hK hP 7 (by decide) rfl r_k26 (by decide) dMO_arrive_9 E (fun k27 ek27 E => ?_)
  have r_k27 : zr 0 1 k27 := by rw [ek27]; exact gS.1 7 _
  refine z_if_eq (tgt := 14) hx hb dMO_arrive_10 (by decide) E (fun c_10 E => ?_) (fun c_10 E => ?_)
  · have r_k27 : zr 0 0 k27 := zeq_x (show zr 0 0 0 from by decide) c_10
    refine lv_aload_n hx hb dMO_arrive_14 rfl (lv_at hl 1 rfl) ?_
    refine m_getA_9 hx hb (hB.words zU_MO) hown hK hP (hB.word (zm4 k4_123) rfl) dMO_arrive_15 ?_
    refine lv_iload_n hx hb dMO_arrive_18 rfl (lv_at hl 0 rfl) ?_
    refine m_aldS hx hb hK hP 9 (by decide) rfl r_k26 (by decide) dMO_arrive_19 E (fun k28 ek28 E => ?_)
    refine z_if_le (tgt := 49) hx hb dMO_arrive_20 (by decide) E (fun c_20 E => ?_) (fun c_20 E => ?_)
    · have r_k28 : zr (-2147483648) 0 k28 := zle_x (zr_any k28) (show zr 0 0 0 from by decide) c_20 (by decide)
      refine lv_iload_n hx hb dMO_arrive_49 rfl (lv_at hl 2 rfl) ?_
      refine lv_iconst (v := 2) hx hb dMO_arrive_50 (by decide) ?_
      refine z_irem hx hb dMO_arrive_51 (by decide) E (fun k29 ek29 E => ?_)
      have r_k29 : zr 0 1 k29 := (zr_rem (lo := 0) (hi := 1) r_x0 (c := 2) (by decide) ek29 (by decide)).1
      refine z_if_ne (tgt := 64) hx hb dMO_arrive_52 (by decide) E (fun c_52 E => ?_) (fun c_52 E => ?_)
      · have r_k29 : zr 1 1 k29 := zne_lo r_k29 c_52 (by decide)
        refine lv_aload_n hx hb dMO_arrive_64 rfl (lv_at hl 1 rfl) ?_
        refine m_getA_1 hx hb (hB.words zU_MO) hown hK hP (hB.word (zm4 k4_119) rfl) dMO_arrive_65 ?_
        refine lv_iload_n hx hb dMO_arrive_68 rfl (lv_at hl 0 rfl) ?_
        refine m_aldP hx hb hK hP 1 (by decide) rfl r_k26 (by decide) dMO_arrive_69 E (fun k30 ek30 E => ?_)
        have r_k30 : zr 0 47 k30 := by rw [ek30]; exact gP.1 1 _
        exact hJ70 s.heap [] ls S x1 k26 k30 r_x1 r_k26 r_k30 gS E hP hD hS (lv_sub hl [1, 3, 0] rfl)
      · have r_k29 : zr 0 0 k29 := zeq_x (show zr 0 0 0 from by decide) c_52
        refine lv_aload_n hx hb dMO_arrive_55 rfl (lv_at hl 1 rfl) ?_
        refine m_getA_0 hx hb (hB.words zU_MO) hown hK hP (hB.word (zm4 k4_118) rfl) dMO_arrive_56 ?_
        refine lv_iload_n hx hb dMO_arrive_59 rfl (lv_at hl 0 rfl) ?_
        refine m_aldP hx hb hK hP 0 (by decide) rfl r_k26 (by decide) dMO_arrive_60 E (fun k31 ek31 E => ?_)
        have r_k31 : zr 0 47 k31 := by rw [ek31]; exact gP.1 0 _
        refine lv_goto (tgt := 70) hx hb dMO_arrive_61 (by decide) ?_
        exact hJ70 s.heap [] ls S x1 k26 k31 r_x1 r_k26 r_k31 gS E hP hD hS (lv_sub hl [1, 3, 0] rfl)
    · have r_k28 : zr 1 2147483647 k28 := zlt_y (show zr 0 0 0 from by decide) (zr_any k28) (znle c_20) (by decide)
      refine lv_aload_n hx hb dMO_arrive_23 rfl (lv_at hl 1 rfl) ?_
      refine m_getA_9 hx hb (hB.words zU_MO) hown hK hP (hB.word (zm4 k4_123) rfl) dMO_arrive_24 ?_
      refine lv_iload_n hx hb dMO_arrive_27 rfl (lv_at hl 0 rfl) ?_
      refine lv_dup2_11 hx hb dMO_arrive_28 rfl rfl ?_
      refine m_aldS hx hb hK hP 9 (by decide) rfl r_k26 (by decide) dMO_arrive_29 E (fun k32 ek32 E => ?_)
      have x9 : k28 = k32 := by rw [ek28, ek32]
      subst x9
      refine lv_iconst (v := 1) hx hb dMO_arrive_30 (by decide) ?_
      refine z_isub hx hb dMO_arrive_31 E (fun k33 ek33 E => ?_)
      have r_k33 : zr 0 2147483646 k33 := zr_sub r_k28 (show zr 1 1 1 from by decide) ek33 (by decide)
      refine m_astS hx hb hK hP hD hS 9 (by decide) rfl r_k26 (by decide) dMO_arrive_32 E (fun S34 H35 locs eS34 E hP hD hS => ?_)
      have gS34 : mok S34 := by rw [eS34]; exact gS.setF (k := 9) (zr_any k33) (Or.inl (by decide))
      refine lv_aload_n hx hb dMO_arrive_33 rfl (lv_at hl 1 rfl) ?_
      refine lv_dup hx hb dMO_arrive_34 rfl ?_
      refine m_get_5 hx hb (hB.words zU_MO) hown hK hP (hB.word (zm4 k4_152) rfl) dMO_arrive_35 E (fun k36 ek36 E => ?_)
      refine lv_iconst (v := 1) hx hb dMO_arrive_38 (by decide) ?_
      refine z_iadd hx hb dMO_arrive_39 E (fun k37 ek37 E => ?_)
      refine m_put_5 hx hb (hB.words zU_MO) hown hK hP hD hS (hB.word (zm4 k4_152) rfl) dMO_arrive_40 E (fun S38 H39 locs eS38 E hP hD hS => ?_)
      have gS38 : mok S38 := by rw [eS38]; exact gS34.setI (t := 5) (zr_any k37)
      refine lv_aload_n hx hb dMO_arrive_43 rfl (lv_at hl 1 rfl) ?_
      refine lv_iconst (v := 1) hx hb dMO_arrive_44 (by decide) ?_
      refine m_put_8 hx hb (hB.words zU_MO) hown hK hP hD hS (hB.word (zm4 k4_155) rfl) (show zr 0 1 1 from by decide) dMO_arrive_45 E (fun S40 H41 locs eS40 E hP hD hS => ?_)
      have gS40 : mok S40 := by rw [eS40]; exact gS38.setI (t := 8) (show zr 0 1 1 from by decide)
      rw [hQe]
      exact W.vret hx hb hr (fun t ht hW => ⟨⟨S40, rfl, ⟨E.symm.trans etg, gS40⟩, by rw [ht]; exact hP, hD⟩, hS.F ht⟩) hS.2.2 dMO_arrive_48
  · have r_k27 : zr 1 1 k27 := zne_lo r_k27 c_10 (by decide)
    rw [hQe]
    exact W.vret hx hb hr (fun t ht hW => ⟨⟨S, rfl, ⟨E.symm.trans etg, gS⟩, by rw [ht]; exact hP, hD⟩, hS.F ht⟩) hS.2.2 dMO_arrive_13
noncomputable def fMO_turn_29 (P : ZS) (rc2 : ZS → Int32 → (ZS)) (rc29 : ZS → Int32 → Int32 → (ZS)) (S_29 : ZS) (x29_1 : Int32) (x29_2 : Int32) : ZS := zl (64 * x29_1) (fun k1 => zl (S_29.F 23 (x29_1 : Int32).toNatClampNeg) (fun k2 => zl (k1 + k2) (fun k3 => (if k3 ≤ x29_2 then zl (S_29.setF 23 (x29_1 : Int32).toNatClampNeg 0) (fun S4 => zl (x29_1 + 1) (fun k6 => rc2 S4 k6)) else zl (S_29.F 24 (x29_2 : Int32).toNatClampNeg) (fun k7 => zl (S_29.setF 29 (x29_2 : Int32).toNatClampNeg k7) (fun S8 => zl (S8.F 25 (x29_2 : Int32).toNatClampNeg) (fun k10 => zl (S8.setF 30 (x29_2 : Int32).toNatClampNeg k10) (fun S11 => zl (S11.F 26 (x29_2 : Int32).toNatClampNeg) (fun k13 => zl (S11.setF 31 (x29_2 : Int32).toNatClampNeg k13) (fun S14 => zl (S14.F 27 (x29_2 : Int32).toNatClampNeg) (fun k16 => zl (S14.setF 32 (x29_2 : Int32).toNatClampNeg k16) (fun S17 => zl (x29_2 + 1) (fun k19 => rc29 S17 x29_1 k19)))))))))))))
noncomputable def fMO_turn_2 (P : ZS) (rc2 : ZS → Int32 → (ZS)) (S_2 : ZS) (x2_1 : Int32) : ZS := zl (P.I 2) (fun k20 => zl (2 * k20) (fun k21 => (if k21 ≤ x2_1 then S_2 else zl (S_2.F 23 (x2_1 : Int32).toNatClampNeg) (fun k22 => zl (S_2.setF 28 (x2_1 : Int32).toNatClampNeg k22) (fun S23 => zl (64 * x2_1) (fun k25 => zfix (fun S9 _ _ => S9) (fMO_turn_29 P rc2) 7681 S23 x2_1 k25))))))
noncomputable def fMO_turn (P S : ZS) : ZS := zfix (fun S9 _ => S9) (fMO_turn_2 P) 121 S 0
set_option maxHeartbeats 4000000 in
set_option maxRecDepth 100000 in
theorem tMO_turn (l : Launch) (dC : Nat → ClassId) (dI : Nat → Nat → Nat) (cI cZ cJ cA : ClassId) (a0 : Array Value) (s0 : State) (o b : Nat → Nat) (P S : ZS) (sz : Nat) (gP : mok P) (gS : mok S) : Met l yMO_turn [Cond.code yMO_turn bMO_turn 3 none] ({ frames := 0, cells := 0, slots := 0, locals := 0 } : Room) (zP zCl dC dI (zTZ cI cZ cJ cA) a0 s0 [.ref (o 0)] sz (MW cI cZ cA o b P S)) (zQG zCl dC dI (fun (x9 : ZS) => x9 = fMO_turn P S  ∧ mok x9) (fun x9 : ZS => (MW cI cZ cA o b P x9)) (va_A (MW cI cZ cA o b P S) sz)) 0 0 (va_A (MW cI cZ cA o b P S) sz) := by
  refine Met.ofW (cc := bMO_turn) (maxL := 3) (ret := none) (by decide) rfl ?_
  intro p e s m args below meth c s₁ B hml hv
  obtain ⟨rfl, hsz, hP, hK, hD0, hB⟩ := hv
  have hx := B.exec
  have hb := B.bytes
  have hr := B.returns
  have hown : s.vm.findClass "RingGuardModel" = some m.cls := findClass_of_methodNamed B.named
  have hlocks := B.notSynchronized
  subst hsz
  have hD := hD0.self (sz := s.heap.size)
  have hA0 := zA0 hD0 hB
  generalize hAe : va_A (MW cI cZ cA o b P S) s.heap.size = A at hD hA0 ⊢
  have hAD := hA0
  have hA : ∀ q : Nat, s.heap.size ≤ q → A q := fun q h => by rw [← hAe]; exact Or.inr h
  have hS : va_S A s.heap s.heap [] := va_S.rf
  have hl := lv_entry ([.ref (o 0)]) (n := 3) (Nat.le_of_ble_eq_true rfl)
  rw [lg_entry_eq]
  generalize (lg_sl ([.ref (o 0)]) ++ List.replicate (3 - (lg_sl ([.ref (o 0)])).length) Slot.unset).toArray = ls at hl ⊢
  have hl : lv_has ls 3 [(0, .ref (o 0))] := hl
  refine zgenQ (fun Q hQe => ?_)
  obtain ⟨tg, etg⟩ : ∃ z, z = fMO_turn P S  := ⟨_, rfl⟩
  have E := etg
  unfold fMO_turn at E
  have hL2 : ∀ (n2 : Nat) (H : Heap) (locs : List Loc) (ls : Array Slot) (S_2 : ZS) (x2_1 : Int32), zr 0 120 x2_1 → mok S_2 → 120 + 1 - x2_1.toInt ≤ (n2 : Int) → tg = zfix (fun S9 _ => S9) (fMO_turn_2 P) n2 S_2 x2_1 → va_P (dC, dI) zCl (MW cI cZ cA o b P S_2) H → va_D A (MW cI cZ cA o b P S_2) → va_S A s.heap H locs → lv_has ls 3 [(0, .ref (o 0)), (1, .int x2_1)] → W p l e ({ frames := 0, cells := 0, slots := 0, locals := 0 } : Room) s m ([.ref (o 0)] : List Value).toArray below meth c H locs 0 0 Q (F0 m 2 ls []) := by
    intro n2
    induction n2 with
    | zero => intro H locs ls S_2 x2_1 r_x2_1 gS_2 hm2 E hP hD hS hl; exact absurd hm2 (zfuel0U r_x2_1)
    | succ n2 ih2 =>
      intro H locs ls S_2 x2_1 r_x2_1 gS_2 hm2 E hP hD hS hl
      rw [zfix_s] at E
      generalize zfix (fun S9 _ => S9) (fMO_turn_2 P) n2 = rc2 at ih2 E
      unfold fMO_turn_2 at E
      have hL29 : ∀ (n29 : Nat) (H : Heap) (locs : List Loc) (ls : Array Slot) (S_29 : ZS) (x29_1 : Int32) (x29_2 : Int32), zr 0 119 x29_1 → zr 0 7680 x29_2 → mok S_29 → 120 + 1 - x29_1.toInt ≤ ((n2 + 1 : Nat) : Int) → 7680 + 1 - x29_2.toInt ≤ (n29 : Int) → tg = zfix (fun S9 _ _ => S9) (fMO_turn_29 P rc2) n29 S_29 x29_1 x29_2 → va_P (dC, dI) zCl (MW cI cZ cA o b P S_29) H → va_D A (MW cI cZ cA o b P S_29) → va_S A s.heap H locs → lv_has ls 3 [(0, .ref (o 0)), (1, .int x29_1), (2, .int x29_2)] → W p l e ({ frames := 0, cells := 0, slots := 0, locals := 0 } : Room) s m ([.ref (o 0)] : List Value).toArray below meth c H locs 0 0 Q (F0 m 29 ls []) := by
        intro n29
        induction n29 with
        | zero => intro H locs ls S_29 x29_1 x29_2 r_x29_1 r_x29_2 gS_29 hm2_29 hm29 E hP hD hS hl; exact absurd hm29 (zfuel0U r_x29_2)
        | succ n29 ih29 =>
          intro H locs ls S_29 x29_1 x29_2 r_x29_1 r_x29_2 gS_29 hm2_29 hm29 E hP hD hS hl
          rw [zfix_s] at E
          generalize zfix (fun S9 _ _ => S9) (fMO_turn_29 P rc2) n29 = rc29 at ih29 E
          unfold fMO_turn_29 at E
          refine lv_iload_n hx hb dMO_turn_29 rfl (lv_at hl 2 rfl) ?_
          refine lv_bipush (v := 64) hx hb dMO_turn_30 (by decide) ?_
          refine lv_iload_n hx hb dMO_turn_32 rfl (lv_at hl 1 rfl) ?_
          refine z_imul hx hb dMO_turn_33 E (fun k1 ek1 E => ?_)
          have r_k1 : zr 0 7616 k1 := zr_mul (show zr 64 64 64 from by decide) r_x29_1 ek1 (by decide)
          refine lv_aload_n hx hb dMO_turn_34 rfl (lv_at hl 0 rfl) ?_
          refine m_getA_23 hx hb (hB.words zU_MO) hown hK hP (hB.word (zm4 k4_141) rfl) dMO_turn_35 ?_
          refine lv_iload_n hx hb dMO_turn_38 rfl (lv_at hl 1 rfl) ?_
          refine m_aldS hx hb hK hP 23 (by decide) rfl r_x29_1 (by decide) dMO_turn_39 E (fun k2 ek2 E => ?_)
          have r_k2 : zr 0 64 k2 := by rw [ek2]; exact gS_29.1 23 _
          refine z_iadd hx hb dMO_turn_40 E (fun k3 ek3 E => ?_)
          have r_k3 : zr 0 7680 k3 := zr_add r_k1 r_k2 ek3 (by decide)
          refine z_icmp_ge (tgt := 98) hx hb dMO_turn_41 (by decide) E (fun c_41 E => ?_) (fun c_41 E => ?_)
          · refine lv_aload_n hx hb dMO_turn_98 rfl (lv_at hl 0 rfl) ?_
            refine m_getA_23 hx hb (hB.words zU_MO) hown hK hP (hB.word (zm4 k4_141) rfl) dMO_turn_99 ?_
            refine lv_iload_n hx hb dMO_turn_102 rfl (lv_at hl 1 rfl) ?_
            refine lv_iconst (v := 0) hx hb dMO_turn_103 (by decide) ?_
            refine m_astS hx hb hK hP hD hS 23 (by decide) rfl r_x29_1 (by decide) dMO_turn_104 E (fun S4 H5 locs eS4 E hP hD hS => ?_)
            have gS4 : mok S4 := by rw [eS4]; exact gS_29.setF (k := 23) (show zr 0 64 0 from by decide) (Or.inl (by decide))
            refine z_iinc (lv' := fun v9 => [(1, .int v9), (0, .ref (o 0)), (2, .int x29_2)]) (cst := 1) hx hb dMO_turn_105 hl (k := 1) rfl (by decide) (by decide) (fun _ => rfl) E (fun k6 ls ek6 E hl => ?_)
            have r_k6 : zr 1 120 k6 := zr_add r_x29_1 (show zr 1 1 1 from by decide) ek6 (by decide)
            refine lv_goto (tgt := 2) hx hb dMO_turn_108 (by decide) ?_
            exact ih2 H5 locs ls S4 k6 (zr_mono r_k6 (by decide)) gS4 (zstepU ek6 r_x29_1 (by decide) hm2_29) E hP hD hS (lv_sub hl [1, 0] rfl)
          · have r_x29_2 : zr 0 7679 x29_2 := zlt_x r_x29_2 r_k3 (znle c_41) (by decide)
            have r_k3 : zr 1 7680 k3 := zlt_y r_x29_2 r_k3 (znle c_41) (by decide)
            refine lv_aload_n hx hb dMO_turn_44 rfl (lv_at hl 0 rfl) ?_
            refine m_getA_29 hx hb (hB.words zU_MO) hown hK hP (hB.word (zm4 k4_147) rfl) dMO_turn_45 ?_
            refine lv_iload_n hx hb dMO_turn_48 rfl (lv_at hl 2 rfl) ?_
            refine lv_aload_n hx hb dMO_turn_49 rfl (lv_at hl 0 rfl) ?_
            refine m_getA_24 hx hb (hB.words zU_MO) hown hK hP (hB.word (zm4 k4_142) rfl) dMO_turn_50 ?_
            refine lv_iload_n hx hb dMO_turn_53 rfl (lv_at hl 2 rfl) ?_
            refine m_aldS hx hb hK hP 24 (by decide) rfl r_x29_2 (by decide) dMO_turn_54 E (fun k7 ek7 E => ?_)
            refine m_astS hx hb hK hP hD hS 29 (by decide) rfl r_x29_2 (by decide) dMO_turn_55 E (fun S8 H9 locs eS8 E hP hD hS => ?_)
            have gS8 : mok S8 := by rw [eS8]; exact gS_29.setF (k := 29) (zr_any k7) (Or.inl (by decide))
            refine lv_aload_n hx hb dMO_turn_56 rfl (lv_at hl 0 rfl) ?_
            refine m_getA_30 hx hb (hB.words zU_MO) hown hK hP (hB.word (zm4 k4_148) rfl) dMO_turn_57 ?_
            refine lv_iload_n hx hb dMO_turn_60 rfl (lv_at hl 2 rfl) ?_
            refine lv_aload_n hx hb dMO_turn_61 rfl (lv_at hl 0 rfl) ?_
            refine m_getA_25 hx hb (hB.words zU_MO) hown hK hP (hB.word (zm4 k4_143) rfl) dMO_turn_62 ?_
            refine lv_iload_n hx hb dMO_turn_65 rfl (lv_at hl 2 rfl) ?_
            refine m_aldS hx hb hK hP 25 (by decide) rfl r_x29_2 (by decide) dMO_turn_66 E (fun k10 ek10 E => ?_)
            refine m_astS hx hb hK hP hD hS 30 (by decide) rfl r_x29_2 (by decide) dMO_turn_67 E (fun S11 H12 locs eS11 E hP hD hS => ?_)
            have gS11 : mok S11 := by rw [eS11]; exact gS8.setF (k := 30) (zr_any k10) (Or.inl (by decide))
            refine lv_aload_n hx hb dMO_turn_68 rfl (lv_at hl 0 rfl) ?_
            refine m_getA_31 hx hb (hB.words zU_MO) hown hK hP (hB.word (zm4 k4_149) rfl) dMO_turn_69 ?_
            refine lv_iload_n hx hb dMO_turn_72 rfl (lv_at hl 2 rfl) ?_
            refine lv_aload_n hx hb dMO_turn_73 rfl (lv_at hl 0 rfl) ?_
            refine m_getA_26 hx hb (hB.words zU_MO) hown hK hP (hB.word (zm4 k4_144) rfl) dMO_turn_74 ?_
            refine lv_iload_n hx hb dMO_turn_77 rfl (lv_at hl 2 rfl) ?_
            refine m_aldS hx hb hK hP 26 (by decide) rfl r_x29_2 (by decide) dMO_turn_78 E (fun k13 ek13 E => ?_)
            have r_k13 : zr 0 113 k13 := by rw [ek13]; exact gS11.1 26 _
            refine m_astS hx hb hK hP hD hS 31 (by decide) rfl r_x29_2 (by decide) dMO_turn_79 E (fun S14 H15 locs eS14 E hP hD hS => ?_)
            have gS14 : mok S14 := by rw [eS14]; exact gS11.setF (k := 31) r_k13 (Or.inl (by decide))
            refine lv_aload_n hx hb dMO_turn_80 rfl (lv_at hl 0 rfl) ?_
            refine m_getA_32 hx hb (hB.words zU_MO) hown hK hP (hB.word (zm4 k4_150) rfl) dMO_turn_81 ?_
            refine lv_iload_n hx hb dMO_turn_84 rfl (lv_at hl 2 rfl) ?_
            refine lv_aload_n hx hb dMO_turn_85 rfl (lv_at hl 0 rfl) ?_
            refine m_getA_27 hx hb (hB.words zU_MO) hown hK hP (hB.word (zm4 k4_145) rfl) dMO_turn_86 ?_
            refine lv_iload_n hx hb dMO_turn_89 rfl (lv_at hl 2 rfl) ?_
            refine m_aldS hx hb hK hP 27 (by decide) rfl r_x29_2 (by decide) dMO_turn_90 E (fun k16 ek16 E => ?_)
            refine m_astS hx hb hK hP hD hS 32 (by decide) rfl r_x29_2 (by decide) dMO_turn_91 E (fun S17 H18 locs eS17 E hP hD hS => ?_)
            have gS17 : mok S17 := by rw [eS17]; exact gS14.setF (k := 32) (zr_any k16) (Or.inl (by decide))
            refine z_iinc (lv' := fun v9 => [(2, .int v9), (0, .ref (o 0)), (1, .int x29_1)]) (cst := 1) hx hb dMO_turn_92 hl (k := 2) rfl (by decide) (by decide) (fun _ => rfl) E (fun k19 ls ek19 E hl => ?_)
            have r_k19 : zr 1 7680 k19 := zr_add r_x29_2 (show zr 1 1 1 from by decide) ek19 (by decide)
            refine lv_goto (tgt := 29) hx hb dMO_turn_95 (by decide) ?_
            exact ih29 H18 locs ls S17 x29_1 k19 r_x29_1 (zr_mono r_k19 (by decide)) gS17 hm2_29 (zstepU ek19 r_x29_2 (by decide) hm29) E hP hD hS (lv_sub hl [1, 2, 0] rfl)
      refine lv_iload_n hx hb dMO_turn_2 rfl (lv_at hl 1 rfl) ?_
      refine lv_iconst (v := 2) hx hb dMO_turn_3 (by decide) ?_
      refine lv_aload_n hx hb dMO_turn_4 rfl (lv_at hl 0 rfl) ?_
      refine m_get_2 hx hb (hB.words zU_MO) hown hK hP (hB.word (zm4 k4_117) rfl) dMO_turn_5 E (fun k20 ek20 E => ?_)
      have r_k20 : zr 0 60 k20 := by rw [ek20]; exact gP.2.1 2
      refine z_imul hx hb dMO_turn_8 E (fun k21 ek21 E => ?_)
      have r_k21 : zr 0 120 k21 := zr_mul (show zr 2 2 2 from by decide) r_k20 ek21 (by decide)
      refine z_icmp_ge (tgt := 111) hx hb dMO_turn_9 (by decide) E (fun c_9 E => ?_) (fun c_9 E => ?_)
      · rw [hQe]
        exact W.vret hx hb hr (fun t ht hW => ⟨⟨S_2, rfl, ⟨E.symm.trans etg, gS_2⟩, by rw [ht]; exact hP, hD⟩, hS.F ht⟩) hS.2.2 dMO_turn_111
      · have r_x2_1 : zr 0 119 x2_1 := zlt_x r_x2_1 r_k21 (znle c_9) (by decide)
        have r_k21 : zr 1 120 k21 := zlt_y r_x2_1 r_k21 (znle c_9) (by decide)
        refine lv_aload_n hx hb dMO_turn_12 rfl (lv_at hl 0 rfl) ?_
        refine m_getA_28 hx hb (hB.words zU_MO) hown hK hP (hB.word (zm4 k4_146) rfl) dMO_turn_13 ?_
        refine lv_iload_n hx hb dMO_turn_16 rfl (lv_at hl 1 rfl) ?_
        refine lv_aload_n hx hb dMO_turn_17 rfl (lv_at hl 0 rfl) ?_
        refine m_getA_23 hx hb (hB.words zU_MO) hown hK hP (hB.word (zm4 k4_141) rfl) dMO_turn_18 ?_
        refine lv_iload_n hx hb dMO_turn_21 rfl (lv_at hl 1 rfl) ?_
        refine m_aldS hx hb hK hP 23 (by decide) rfl r_x2_1 (by decide) dMO_turn_22 E (fun k22 ek22 E => ?_)
        have r_k22 : zr 0 64 k22 := by rw [ek22]; exact gS_2.1 23 _
        refine m_astS hx hb hK hP hD hS 28 (by decide) rfl r_x2_1 (by decide) dMO_turn_23 E (fun S23 H24 locs eS23 E hP hD hS => ?_)
        have gS23 : mok S23 := by rw [eS23]; exact gS_2.setF (k := 28) r_k22 (Or.inl (by decide))
        refine lv_bipush (v := 64) hx hb dMO_turn_24 (by decide) ?_
        refine lv_iload_n hx hb dMO_turn_26 rfl (lv_at hl 1 rfl) ?_
        refine z_imul hx hb dMO_turn_27 E (fun k25 ek25 E => ?_)
        have r_k25 : zr 0 7616 k25 := zr_mul (show zr 64 64 64 from by decide) r_x2_1 ek25 (by decide)
        refine lv_istore_n (lv' := [(2, .int k25), (0, .ref (o 0)), (1, .int x2_1)]) hx hb dMO_turn_28 rfl hl (by decide) rfl (fun ls hl => ?_)
        exact hL29 7681 H24 locs ls S23 x2_1 k25 r_x2_1 (zr_mono r_k25 (by decide)) gS23 hm2 (by have h9 := r_k25; exact zfuelU h9 (by decide)) E hP hD hS (lv_sub hl [1, 2, 0] rfl)
  refine lv_iconst (v := 0) hx hb dMO_turn_0 (by decide) ?_
  refine lv_istore_n (lv' := [(1, .int 0), (0, .ref (o 0))]) hx hb dMO_turn_1 rfl hl (by decide) rfl (fun ls hl => ?_)
  exact hL2 121 s.heap [] ls S 0 (show zr 0 120 0 from by decide) gS (by have h9 := (show zr 0 0 0 from by decide); exact zfuelU h9 (by decide)) E hP hD hS (lv_sub hl [1, 0] rfl)
noncomputable def fMO_sends_203 (P : ZS) (S_203 : ZS) (x203_1 : Int32) (x203_2 : Int32) : ZS := zl (fMO_putAll P S_203 x203_1 x203_2) (fun S2 => S2)
noncomputable def fMO_sends_60 (P : ZS) (rc12 : ZS → Int32 → Int32 → Int32 → Int32 → Int32 → (ZS)) (S_60 : ZS) (x60_1 : Int32) (x60_2 : Int32) (x60_3 : Int32) (x60_5 : Int32) (y60_0 : Int32) : ZS := zl (x60_5 + (-1)) (fun k4 => rc12 S_60 x60_1 x60_2 x60_3 y60_0 k4)
noncomputable def fMO_sends_58 (P : ZS) (rc12 : ZS → Int32 → Int32 → Int32 → Int32 → Int32 → (ZS)) (S_58 : ZS) (x58_1 : Int32) (x58_2 : Int32) (x58_3 : Int32) (x58_4 : Int32) (x58_5 : Int32) : ZS := fMO_sends_60 P rc12 S_58 x58_1 x58_2 x58_3 x58_5 x58_4
noncomputable def fMO_sends_12 (P : ZS) (rc12 : ZS → Int32 → Int32 → Int32 → Int32 → Int32 → (ZS)) (S_12 : ZS) (x12_1 : Int32) (x12_2 : Int32) (x12_3 : Int32) (x12_4 : Int32) (x12_5 : Int32) : ZS := (if x12_5 < 0 then zl (S_12.F 15 (x12_3 : Int32).toNatClampNeg) (fun k5 => (if k5 = 2 then zl (60 + x12_1) (fun k28 => zl (S_12.F 17 (x12_1 : Int32).toNatClampNeg) (fun k29 => zl (fMO_say P S_12 1 x12_1 k28 k29) (fun S31 => fMO_sends_203 P S31 x12_1 x12_2))) else (if x12_4 = (-1) then zl (S_12.F 15 (x12_3 : Int32).toNatClampNeg) (fun k6 => (if k5 = 4 then zl (60 + x12_1) (fun k19 => zl (S_12.F 17 (x12_1 : Int32).toNatClampNeg) (fun k20 => zl (fMO_say P S_12 2 x12_1 k19 k20) (fun S22 => fMO_sends_203 P S22 x12_1 x12_2))) else zl (fMO_has P S_12 x12_1 x12_2 8) (fun k8 => (if k8 = 0 then zl (fMO_has P S_12 x12_1 x12_2 16) (fun k10 => (if k10 = 0 then S_12 else zl (108 + x12_2) (fun k11 => zl (S_12.F 12 (x12_2 : Int32).toNatClampNeg) (fun k12 => zl (fMO_say P S_12 4 x12_1 k11 k12) (fun S14 => fMO_sends_203 P S14 x12_1 x12_2))))) else zl (fMO_say P S_12 3 x12_1 0 0) (fun S17 => fMO_sends_203 P S17 x12_1 x12_2))))) else zl (S_12.F 8 (x12_4 : Int32).toNatClampNeg) (fun k24 => zl (fMO_say P S_12 0 x12_1 x12_4 k24) (fun S26 => fMO_sends_203 P S26 x12_1 x12_2))))) else zl (2 * x12_3) (fun k33 => zl (k33 + x12_5) (fun k34 => zl (P.F 6 (k34 : Int32).toNatClampNeg) (fun k35 => (if k35 = (-1) then fMO_sends_58 P rc12 S_12 x12_1 x12_2 x12_3 x12_4 x12_5 else zl (fMO_end P S_12 x12_1 k35) (fun k37 => zl (S_12.F 10 (k37 : Int32).toNatClampNeg) (fun k38 => zl (k38 &&& 1) (fun k39 => (if k39 = 0 then fMO_sends_58 P rc12 S_12 x12_1 x12_2 x12_3 x12_4 x12_5 else fMO_sends_60 P rc12 S_12 x12_1 x12_2 x12_3 x12_5 k35)))))))))
noncomputable def fMO_sends (P S : ZS) (x0 : Int32) (x1 : Int32) : ZS := zl (fMO_at P S x0 x1) (fun k41 => zfix (fun S9 _ _ _ _ _ => S9) (fMO_sends_12 P) 3 S x0 x1 k41 (-1) 1)
set_option maxHeartbeats 4000000 in
set_option maxRecDepth 100000 in
theorem tMO_sends (l : Launch) (dC : Nat → ClassId) (dI : Nat → Nat → Nat) (cI cZ cJ cA : ClassId) (a0 : Array Value) (s0 : State) (o b : Nat → Nat) (P S : ZS) (sz : Nat) (x0 : Int32) (x1 : Int32) (gP : mok P) (gS : mok S) (r_x0 : zr 0 47 x0) (r_x1 : zr 0 5 x1) : Met l yMO_sends [Cond.code yMO_sends bMO_sends 7 none] ({ frames := 2, cells := 0, slots := 0, locals := 48 } : Room) (zP zCl dC dI (zTZ cI cZ cJ cA) a0 s0 [.ref (o 0), .int x0, .int x1] sz (MW cI cZ cA o b P S)) (zQG zCl dC dI (fun (x9 : ZS) => x9 = fMO_sends P S x0 x1 ∧ mok x9) (fun x9 : ZS => (MW cI cZ cA o b P x9)) (va_A (MW cI cZ cA o b P S) sz)) 0 0 (va_A (MW cI cZ cA o b P S) sz) := by
  refine Met.ofW (cc := bMO_sends) (maxL := 7) (ret := none) (by decide) rfl ?_
  intro p e s m args below meth c s₁ B hml hv
  obtain ⟨rfl, hsz, hP, hK, hD0, hB⟩ := hv
  have hx := B.exec
  have hb := B.bytes
  have hr := B.returns
  have hown : s.vm.findClass "RingGuardModel" = some m.cls := findClass_of_methodNamed B.named
  have hlocks := B.notSynchronized
  subst hsz
  have hD := hD0.self (sz := s.heap.size)
  have hA0 := zA0 hD0 hB
  generalize hAe : va_A (MW cI cZ cA o b P S) s.heap.size = A at hD hA0 ⊢
  have hAD := hA0
  have hA : ∀ q : Nat, s.heap.size ≤ q → A q := fun q h => by rw [← hAe]; exact Or.inr h
  have hS : va_S A s.heap s.heap [] := va_S.rf
  have hl := lv_entry ([.ref (o 0), .int x0, .int x1]) (n := 7) (Nat.le_of_ble_eq_true rfl)
  rw [lg_entry_eq]
  generalize (lg_sl ([.ref (o 0), .int x0, .int x1]) ++ List.replicate (7 - (lg_sl ([.ref (o 0), .int x0, .int x1])).length) Slot.unset).toArray = ls at hl ⊢
  have hl : lv_has ls 7 [(0, .ref (o 0)), (1, .int x0), (2, .int x1)] := hl
  refine zgenQ (fun Q hQe => ?_)
  obtain ⟨tg, etg⟩ : ∃ z, z = fMO_sends P S x0 x1 := ⟨_, rfl⟩
  have E := etg
  unfold fMO_sends at E
  have hL12 : ∀ (n12 : Nat) (H : Heap) (locs : List Loc) (ls : Array Slot) (S_12 : ZS) (x12_1 : Int32) (x12_2 : Int32) (x12_3 : Int32) (x12_4 : Int32) (x12_5 : Int32), zr 0 47 x12_1 → zr 0 5 x12_2 → zr 0 287 x12_3 → zr (-1) 59 x12_4 → zr (-1) 1 x12_5 → mok S_12 → x12_5.toInt - (-1) + 1 ≤ (n12 : Int) → tg = zfix (fun S9 _ _ _ _ _ => S9) (fMO_sends_12 P) n12 S_12 x12_1 x12_2 x12_3 x12_4 x12_5 → va_P (dC, dI) zCl (MW cI cZ cA o b P S_12) H → va_D A (MW cI cZ cA o b P S_12) → va_S A s.heap H locs → lv_has ls 7 [(0, .ref (o 0)), (1, .int x12_1), (2, .int x12_2), (3, .int x12_3), (4, .int x12_4), (5, .int x12_5)] → W p l e ({ frames := 2, cells := 0, slots := 0, locals := 48 } : Room) s m ([.ref (o 0), .int x0, .int x1] : List Value).toArray below meth c H locs 0 0 Q (F0 m 12 ls []) := by
    intro n12
    induction n12 with
    | zero => intro H locs ls S_12 x12_1 x12_2 x12_3 x12_4 x12_5 r_x12_1 r_x12_2 r_x12_3 r_x12_4 r_x12_5 gS_12 hm12 E hP hD hS hl; exact absurd hm12 (zfuel0D r_x12_5)
    | succ n12 ih12 =>
      intro H locs ls S_12 x12_1 x12_2 x12_3 x12_4 x12_5 r_x12_1 r_x12_2 r_x12_3 r_x12_4 r_x12_5 gS_12 hm12 E hP hD hS hl
      rw [zfix_s] at E
      generalize zfix (fun S9 _ _ _ _ _ => S9) (fMO_sends_12 P) n12 = rc12 at ih12 E
      unfold fMO_sends_12 at E
      have hJ203 : ∀ (H : Heap) (locs : List Loc) (ls : Array Slot) (S_203 : ZS) (x203_1 : Int32) (x203_2 : Int32), zr 0 47 x203_1 → zr 0 5 x203_2 → mok S_203 → tg = fMO_sends_203 P S_203 x203_1 x203_2 → va_P (dC, dI) zCl (MW cI cZ cA o b P S_203) H → va_D A (MW cI cZ cA o b P S_203) → va_S A s.heap H locs → lv_has ls 7 [(0, .ref (o 0)), (1, .int x203_1), (2, .int x203_2)] → W p l e ({ frames := 2, cells := 0, slots := 0, locals := 48 } : Room) s m ([.ref (o 0), .int x0, .int x1] : List Value).toArray below meth c H locs 0 0 Q (F0 m 203 ls []) := by
        intro H locs ls S_203 x203_1 x203_2 r_x203_1 r_x203_2 gS_203 E hP hD hS hl
        unfold fMO_sends_203 at E
        refine lv_aload_n hx hb dMO_sends_203 rfl (lv_at hl 0 rfl) ?_
        refine lv_iload_n hx hb dMO_sends_204 rfl (lv_at hl 1 rfl) ?_
        refine lv_iload_n hx hb dMO_sends_205 rfl (lv_at hl 2 rfl) ?_
        refine zcV (va_runV (As := [.int x203_1, .int x203_2]) (rest := []) ⟨hx, hb, hml, hown, zno⟩ (tMO_putAll l dC dI cI cZ cJ cA a0 s0 o b P S_203 H.size x203_1 x203_2 gP gS_203 r_x203_1 r_x203_2) (zcw 2 (hB.word (zm5 k5_131) rfl) (hB.word (zm1 k1_9) rfl) (hB.word (zm5 k5_128) rfl) (hB.word (zm5 k5_130) rfl) (k2_selects_private (by decide) (hB.word (zm4 k4_109) rfl) (hB.word (zm5 k5_129) rfl) (hB.word (zm5 k5_130) rfl)) rfl rfl (by decide +kernel) ⟨Nat.le_of_ble_eq_true rfl, Nat.le_of_ble_eq_true rfl⟩) ⟨zP_blind, va_recv hK hP (ci := 7) (q0 := 0) rfl rfl, zP_pre hP hK hD hAD (zB_on hB hA0 hS)⟩ rfl rfl hl.1 rfl (lv_room (Nat.le_of_ble_eq_true rfl)) dMO_sends_206 ⟨Nat.le_of_ble_eq_true rfl, Nat.le_of_ble_eq_true rfl⟩) hD hS hA (fun S2 H1 locs h3 hP hD hS => ?_)
        have E := zl_s E h3.1
        have gS2 := h3.2
        rw [hQe]
        exact W.vret hx hb hr (fun t ht hW => ⟨⟨S2, rfl, ⟨E.symm.trans etg, gS2⟩, by rw [ht]; exact hP, hD⟩, hS.F ht⟩) hS.2.2 dMO_sends_209
      have hJ60 : ∀ (H : Heap) (locs : List Loc) (ls : Array Slot) (S_60 : ZS) (x60_1 : Int32) (x60_2 : Int32) (x60_3 : Int32) (x60_5 : Int32) (y60_0 : Int32), zr 0 47 x60_1 → zr 0 5 x60_2 → zr 0 287 x60_3 → zr 0 1 x60_5 → zr (-1) 59 y60_0 → mok S_60 → x60_5.toInt - (-1) + 1 ≤ ((n12 + 1 : Nat) : Int) → tg = fMO_sends_60 P rc12 S_60 x60_1 x60_2 x60_3 x60_5 y60_0 → va_P (dC, dI) zCl (MW cI cZ cA o b P S_60) H → va_D A (MW cI cZ cA o b P S_60) → va_S A s.heap H locs → lv_has ls 7 [(0, .ref (o 0)), (1, .int x60_1), (2, .int x60_2), (3, .int x60_3), (5, .int x60_5)] → W p l e ({ frames := 2, cells := 0, slots := 0, locals := 48 } : Room) s m ([.ref (o 0), .int x0, .int x1] : List Value).toArray below meth c H locs 0 0 Q (F0 m 60 ls [.int y60_0]) := by
        intro H locs ls S_60 x60_1 x60_2 x60_3 x60_5 y60_0 r_x60_1 r_x60_2 r_x60_3 r_x60_5 r_y60_0 gS_60 hm12_60 E hP hD hS hl
        unfold fMO_sends_60 at E
        refine lv_istore (lv' := [(4, .int y60_0), (0, .ref (o 0)), (1, .int x60_1), (2, .int x60_2), (3, .int x60_3), (5, .int x60_5)]) hx hb dMO_sends_60 hl (by decide) rfl (fun ls hl => ?_)
        refine z_iinc (lv' := fun v9 => [(5, .int v9), (4, .int y60_0), (0, .ref (o 0)), (1, .int x60_1), (2, .int x60_2), (3, .int x60_3)]) (cst := (-1)) hx hb dMO_sends_62 hl (k := 5) rfl (by decide) (by decide) (fun _ => rfl) E (fun k4 ls ek4 E hl => ?_)
        have r_k4 : zr (-1) 0 k4 := zr_add r_x60_5 (show zr (-1) (-1) (-1) from by decide) ek4 (by decide)
        refine lv_goto (tgt := 12) hx hb dMO_sends_65 (by decide) ?_
        exact ih12 H locs ls S_60 x60_1 x60_2 x60_3 y60_0 k4 r_x60_1 r_x60_2 r_x60_3 r_y60_0 (zr_mono r_k4 (by decide)) gS_60 (zstepD ek4 r_x60_5 (by decide) hm12_60) E hP hD hS (lv_sub hl [2, 3, 4, 5, 1, 0] rfl)
      have hJ58 : ∀ (H : Heap) (locs : List Loc) (ls : Array Slot) (S_58 : ZS) (x58_1 : Int32) (x58_2 : Int32) (x58_3 : Int32) (x58_4 : Int32) (x58_5 : Int32), zr 0 47 x58_1 → zr 0 5 x58_2 → zr 0 287 x58_3 → zr (-1) 59 x58_4 → zr 0 1 x58_5 → mok S_58 → x58_5.toInt - (-1) + 1 ≤ ((n12 + 1 : Nat) : Int) → tg = fMO_sends_58 P rc12 S_58 x58_1 x58_2 x58_3 x58_4 x58_5 → va_P (dC, dI) zCl (MW cI cZ cA o b P S_58) H → va_D A (MW cI cZ cA o b P S_58) → va_S A s.heap H locs → lv_has ls 7 [(0, .ref (o 0)), (1, .int x58_1), (2, .int x58_2), (3, .int x58_3), (4, .int x58_4), (5, .int x58_5)] → W p l e ({ frames := 2, cells := 0, slots := 0, locals := 48 } : Room) s m ([.ref (o 0), .int x0, .int x1] : List Value).toArray below meth c H locs 0 0 Q (F0 m 58 ls []) := by
        intro H locs ls S_58 x58_1 x58_2 x58_3 x58_4 x58_5 r_x58_1 r_x58_2 r_x58_3 r_x58_4 r_x58_5 gS_58 hm12_58 E hP hD hS hl
        unfold fMO_sends_58 at E
        refine lv_iload hx hb dMO_sends_58 (lv_at hl 4 rfl) ?_
        exact hJ60 H locs ls S_58 x58_1 x58_2 x58_3 x58_5 x58_4 r_x58_1 r_x58_2 r_x58_3 r_x58_5 r_x58_4 gS_58 hm12_58 E hP hD hS (lv_sub hl [0, 1, 2, 3, 5] rfl)
      refine lv_iload hx hb dMO_sends_12 (lv_at hl 5 rfl) ?_
      refine z_if_lt (tgt := 68) hx hb dMO_sends_14 (by decide) E (fun c_14 E => ?_) (fun c_14 E => ?_)
      · have r_x12_5 : zr (-1) (-1) x12_5 := zlt_x r_x12_5 (show zr 0 0 0 from by decide) c_14 (by decide)
        refine lv_aload_n hx hb dMO_sends_68 rfl (lv_at hl 0 rfl) ?_
        refine m_getA_15 hx hb (hB.words zU_MO) hown hK hP (hB.word (zm4 k4_133) rfl) dMO_sends_69 ?_
        refine lv_iload_n hx hb dMO_sends_72 rfl (lv_at hl 3 rfl) ?_
        refine m_aldS hx hb hK hP 15 (by decide) rfl r_x12_3 (by decide) dMO_sends_73 E (fun k5 ek5 E => ?_)
        refine lv_iconst (v := 2) hx hb dMO_sends_74 (by decide) ?_
        refine z_icmp_ne (tgt := 97) hx hb dMO_sends_75 (by decide) E (fun c_75 E => ?_) (fun c_75 E => ?_)
        · refine lv_iload hx hb dMO_sends_97 (lv_at hl 4 rfl) ?_
          refine lv_iconst (v := (-1)) hx hb dMO_sends_99 (by decide) ?_
          refine z_icmp_eq (tgt := 121) hx hb dMO_sends_100 (by decide) E (fun c_100 E => ?_) (fun c_100 E => ?_)
          · have r_x12_4 : zr (-1) (-1) x12_4 := zeq_x (show zr (-1) (-1) (-1) from by decide) c_100
            refine lv_aload_n hx hb dMO_sends_121 rfl (lv_at hl 0 rfl) ?_
            refine m_getA_15 hx hb (hB.words zU_MO) hown hK hP (hB.word (zm4 k4_133) rfl) dMO_sends_122 ?_
            refine lv_iload_n hx hb dMO_sends_125 rfl (lv_at hl 3 rfl) ?_
            refine m_aldS hx hb hK hP 15 (by decide) rfl r_x12_3 (by decide) dMO_sends_126 E (fun k6 ek6 E => ?_)
            have x9 : k5 = k6 := by rw [ek5, ek6]
            subst x9
            refine lv_iconst (v := 4) hx hb dMO_sends_127 (by decide) ?_
            refine z_icmp_ne (tgt := 150) hx hb dMO_sends_128 (by decide) E (fun c_128 E => ?_) (fun c_128 E => ?_)
            · refine lv_aload_n hx hb dMO_sends_150 rfl (lv_at hl 0 rfl) ?_
              refine lv_iload_n hx hb dMO_sends_151 rfl (lv_at hl 1 rfl) ?_
              refine lv_iload_n hx hb dMO_sends_152 rfl (lv_at hl 2 rfl) ?_
              refine lv_bipush (v := 8) hx hb dMO_sends_153 (by decide) ?_
              refine zcallp (va_runV (As := [.int x12_1, .int x12_2, .int 8]) (rest := []) ⟨hx, hb, hml, hown, zno⟩ (tMO_has l dC dI cI cZ cJ cA a0 s0 o b P S_12 H.size x12_1 x12_2 8 gP gS_12 r_x12_1 r_x12_2) (zcw 3 (hB.word (zm5 k5_207) rfl) (hB.word (zm1 k1_9) rfl) (hB.word (zm5 k5_204) rfl) (hB.word (zm5 k5_206) rfl) (k2_selects_private (by decide) (hB.word (zm4 k4_109) rfl) (hB.word (zm5 k5_205) rfl) (hB.word (zm5 k5_206) rfl)) rfl rfl (by decide +kernel) ⟨Nat.le_of_ble_eq_true rfl, Nat.le_of_ble_eq_true rfl⟩) ⟨zP_blind, va_recv hK hP (ci := 7) (q0 := 0) rfl rfl, zP_pre hP hK hD hAD (zB_on hB hA0 hS)⟩ rfl rfl hl.1 rfl (lv_room (Nat.le_of_ble_eq_true rfl)) dMO_sends_155 ⟨Nat.le_of_ble_eq_true rfl, Nat.le_of_ble_eq_true rfl⟩) hS hA (fun k8 H7 locs hk8 hz1 hk1 hS => ?_)
              have hP := zKeep hP hk1
              have E := zl_s E hk8.1
              refine z_if_eq (tgt := 172) hx hb dMO_sends_158 (by decide) E (fun c_158 E => ?_) (fun c_158 E => ?_)
              · have r_k8 : zr 0 0 k8 := zeq_x (show zr 0 0 0 from by decide) c_158
                refine lv_aload_n hx hb dMO_sends_172 rfl (lv_at hl 0 rfl) ?_
                refine lv_iload_n hx hb dMO_sends_173 rfl (lv_at hl 1 rfl) ?_
                refine lv_iload_n hx hb dMO_sends_174 rfl (lv_at hl 2 rfl) ?_
                refine lv_bipush (v := 16) hx hb dMO_sends_175 (by decide) ?_
                refine zcallp (va_runV (As := [.int x12_1, .int x12_2, .int 16]) (rest := []) ⟨hx, hb, hml, hown, zno⟩ (tMO_has l dC dI cI cZ cJ cA a0 s0 o b P S_12 H7.size x12_1 x12_2 16 gP gS_12 r_x12_1 r_x12_2) (zcw 3 (hB.word (zm5 k5_207) rfl) (hB.word (zm1 k1_9) rfl) (hB.word (zm5 k5_204) rfl) (hB.word (zm5 k5_206) rfl) (k2_selects_private (by decide) (hB.word (zm4 k4_109) rfl) (hB.word (zm5 k5_205) rfl) (hB.word (zm5 k5_206) rfl)) rfl rfl (by decide +kernel) ⟨Nat.le_of_ble_eq_true rfl, Nat.le_of_ble_eq_true rfl⟩) ⟨zP_blind, va_recv hK hP (ci := 7) (q0 := 0) rfl rfl, zP_pre hP hK hD hAD (zB_on hB hA0 hS)⟩ rfl rfl hl.1 rfl (lv_room (Nat.le_of_ble_eq_true rfl)) dMO_sends_177 ⟨Nat.le_of_ble_eq_true rfl, Nat.le_of_ble_eq_true rfl⟩) hS hA (fun k10 H9 locs hk10 hz1 hk1 hS => ?_)
                have hP := zKeep hP hk1
                have E := zl_s E hk10.1
                refine z_if_eq (tgt := 202) hx hb dMO_sends_180 (by decide) E (fun c_180 E => ?_) (fun c_180 E => ?_)
                · have r_k10 : zr 0 0 k10 := zeq_x (show zr 0 0 0 from by decide) c_180
                  rw [hQe]
                  exact W.vret hx hb hr (fun t ht hW => ⟨⟨S_12, rfl, ⟨E.symm.trans etg, gS_12⟩, by rw [ht]; exact hP, hD⟩, hS.F ht⟩) hS.2.2 dMO_sends_202
                · have r_k10 : zr 1 1 k10 := zne_lo hk10.2 c_180 (by decide)
                  refine lv_aload_n hx hb dMO_sends_183 rfl (lv_at hl 0 rfl) ?_
                  refine lv_iconst (v := 4) hx hb dMO_sends_184 (by decide) ?_
                  refine lv_iload_n hx hb dMO_sends_185 rfl (lv_at hl 1 rfl) ?_
                  refine lv_bipush (v := 108) hx hb dMO_sends_186 (by decide) ?_
                  refine lv_iload_n hx hb dMO_sends_188 rfl (lv_at hl 2 rfl) ?_
                  refine z_iadd hx hb dMO_sends_189 E (fun k11 ek11 E => ?_)
                  have r_k11 : zr 108 113 k11 := zr_add (show zr 108 108 108 from by decide) r_x12_2 ek11 (by decide)
                  refine lv_aload_n hx hb dMO_sends_190 rfl (lv_at hl 0 rfl) ?_
                  refine m_getA_12 hx hb (hB.words zU_MO) hown hK hP (hB.word (zm4 k4_129) rfl) dMO_sends_191 ?_
                  refine lv_iload_n hx hb dMO_sends_194 rfl (lv_at hl 2 rfl) ?_
                  refine m_aldS hx hb hK hP 12 (by decide) rfl r_x12_2 (by decide) dMO_sends_195 E (fun k12 ek12 E => ?_)
                  refine zcV (va_runV (As := [.int 4, .int x12_1, .int k11, .int k12]) (rest := []) ⟨hx, hb, hml, hown, zno⟩ (tMO_say l dC dI cI cZ cJ cA a0 s0 o b P S_12 H9.size 4 x12_1 k11 k12 gP gS_12 (zr_mono r_k11 (by decide))) (zcw 4 (hB.word (zm5 k5_127) rfl) (hB.word (zm1 k1_9) rfl) (hB.word (zm5 k5_124) rfl) (hB.word (zm5 k5_126) rfl) (k2_selects_private (by decide) (hB.word (zm4 k4_109) rfl) (hB.word (zm5 k5_125) rfl) (hB.word (zm5 k5_126) rfl)) rfl rfl (by decide +kernel) ⟨Nat.le_of_ble_eq_true rfl, Nat.le_of_ble_eq_true rfl⟩) ⟨zP_blind, va_recv hK hP (ci := 7) (q0 := 0) rfl rfl, zP_pre hP hK hD hAD (zB_on hB hA0 hS)⟩ rfl rfl hl.1 rfl (lv_room (Nat.le_of_ble_eq_true rfl)) dMO_sends_196 ⟨Nat.le_of_ble_eq_true rfl, Nat.le_of_ble_eq_true rfl⟩) hD hS hA (fun S14 H13 locs h15 hP hD hS => ?_)
                  have E := zl_s E h15.1
                  have gS14 := h15.2
                  refine lv_goto (tgt := 203) hx hb dMO_sends_199 (by decide) ?_
                  exact hJ203 H13 locs ls S14 x12_1 x12_2 r_x12_1 r_x12_2 gS14 E hP hD hS (lv_sub hl [0, 1, 2] rfl)
              · have r_k8 : zr 1 1 k8 := zne_lo hk8.2 c_158 (by decide)
                refine lv_aload_n hx hb dMO_sends_161 rfl (lv_at hl 0 rfl) ?_
                refine lv_iconst (v := 3) hx hb dMO_sends_162 (by decide) ?_
                refine lv_iload_n hx hb dMO_sends_163 rfl (lv_at hl 1 rfl) ?_
                refine lv_iconst (v := 0) hx hb dMO_sends_164 (by decide) ?_
                refine lv_iconst (v := 0) hx hb dMO_sends_165 (by decide) ?_
                refine zcV (va_runV (As := [.int 3, .int x12_1, .int 0, .int 0]) (rest := []) ⟨hx, hb, hml, hown, zno⟩ (tMO_say l dC dI cI cZ cJ cA a0 s0 o b P S_12 H7.size 3 x12_1 0 0 gP gS_12 (show zr 0 113 0 from by decide)) (zcw 4 (hB.word (zm5 k5_127) rfl) (hB.word (zm1 k1_9) rfl) (hB.word (zm5 k5_124) rfl) (hB.word (zm5 k5_126) rfl) (k2_selects_private (by decide) (hB.word (zm4 k4_109) rfl) (hB.word (zm5 k5_125) rfl) (hB.word (zm5 k5_126) rfl)) rfl rfl (by decide +kernel) ⟨Nat.le_of_ble_eq_true rfl, Nat.le_of_ble_eq_true rfl⟩) ⟨zP_blind, va_recv hK hP (ci := 7) (q0 := 0) rfl rfl, zP_pre hP hK hD hAD (zB_on hB hA0 hS)⟩ rfl rfl hl.1 rfl (lv_room (Nat.le_of_ble_eq_true rfl)) dMO_sends_166 ⟨Nat.le_of_ble_eq_true rfl, Nat.le_of_ble_eq_true rfl⟩) hD hS hA (fun S17 H16 locs h18 hP hD hS => ?_)
                have E := zl_s E h18.1
                have gS17 := h18.2
                refine lv_goto (tgt := 203) hx hb dMO_sends_169 (by decide) ?_
                exact hJ203 H16 locs ls S17 x12_1 x12_2 r_x12_1 r_x12_2 gS17 E hP hD hS (lv_sub hl [0, 1, 2] rfl)
            · have r_k5 : zr 4 4 k5 := zeq_x (show zr 4 4 4 from by decide) c_128
              refine lv_aload_n hx hb dMO_sends_131 rfl (lv_at hl 0 rfl) ?_
              refine lv_iconst (v := 2) hx hb dMO_sends_132 (by decide) ?_
              refine lv_iload_n hx hb dMO_sends_133 rfl (lv_at hl 1 rfl) ?_
              refine lv_bipush (v := 60) hx hb dMO_sends_134 (by decide) ?_
              refine lv_iload_n hx hb dMO_sends_136 rfl (lv_at hl 1 rfl) ?_
              refine z_iadd hx hb dMO_sends_137 E (fun k19 ek19 E => ?_)
              have r_k19 : zr 60 107 k19 := zr_add (show zr 60 60 60 from by decide) r_x12_1 ek19 (by decide)
              refine lv_aload_n hx hb dMO_sends_138 rfl (lv_at hl 0 rfl) ?_
              refine m_getA_17 hx hb (hB.words zU_MO) hown hK hP (hB.word (zm4 k4_135) rfl) dMO_sends_139 ?_
              refine lv_iload_n hx hb dMO_sends_142 rfl (lv_at hl 1 rfl) ?_
              refine m_aldS hx hb hK hP 17 (by decide) rfl r_x12_1 (by decide) dMO_sends_143 E (fun k20 ek20 E => ?_)
              refine zcV (va_runV (As := [.int 2, .int x12_1, .int k19, .int k20]) (rest := []) ⟨hx, hb, hml, hown, zno⟩ (tMO_say l dC dI cI cZ cJ cA a0 s0 o b P S_12 H.size 2 x12_1 k19 k20 gP gS_12 (zr_mono r_k19 (by decide))) (zcw 4 (hB.word (zm5 k5_127) rfl) (hB.word (zm1 k1_9) rfl) (hB.word (zm5 k5_124) rfl) (hB.word (zm5 k5_126) rfl) (k2_selects_private (by decide) (hB.word (zm4 k4_109) rfl) (hB.word (zm5 k5_125) rfl) (hB.word (zm5 k5_126) rfl)) rfl rfl (by decide +kernel) ⟨Nat.le_of_ble_eq_true rfl, Nat.le_of_ble_eq_true rfl⟩) ⟨zP_blind, va_recv hK hP (ci := 7) (q0 := 0) rfl rfl, zP_pre hP hK hD hAD (zB_on hB hA0 hS)⟩ rfl rfl hl.1 rfl (lv_room (Nat.le_of_ble_eq_true rfl)) dMO_sends_144 ⟨Nat.le_of_ble_eq_true rfl, Nat.le_of_ble_eq_true rfl⟩) hD hS hA (fun S22 H21 locs h23 hP hD hS => ?_)
              have E := zl_s E h23.1
              have gS22 := h23.2
              refine lv_goto (tgt := 203) hx hb dMO_sends_147 (by decide) ?_
              exact hJ203 H21 locs ls S22 x12_1 x12_2 r_x12_1 r_x12_2 gS22 E hP hD hS (lv_sub hl [0, 1, 2] rfl)
          · have r_x12_4 : zr 0 59 x12_4 := zne_lo r_x12_4 c_100 (by decide)
            refine lv_aload_n hx hb dMO_sends_103 rfl (lv_at hl 0 rfl) ?_
            refine lv_iconst (v := 0) hx hb dMO_sends_104 (by decide) ?_
            refine lv_iload_n hx hb dMO_sends_105 rfl (lv_at hl 1 rfl) ?_
            refine lv_iload hx hb dMO_sends_106 (lv_at hl 4 rfl) ?_
            refine lv_aload_n hx hb dMO_sends_108 rfl (lv_at hl 0 rfl) ?_
            refine m_getA_8 hx hb (hB.words zU_MO) hown hK hP (hB.word (zm4 k4_122) rfl) dMO_sends_109 ?_
            refine lv_iload hx hb dMO_sends_112 (lv_at hl 4 rfl) ?_
            refine m_aldS hx hb hK hP 8 (by decide) rfl r_x12_4 (by decide) dMO_sends_114 E (fun k24 ek24 E => ?_)
            refine zcV (va_runV (As := [.int 0, .int x12_1, .int x12_4, .int k24]) (rest := []) ⟨hx, hb, hml, hown, zno⟩ (tMO_say l dC dI cI cZ cJ cA a0 s0 o b P S_12 H.size 0 x12_1 x12_4 k24 gP gS_12 (zr_mono r_x12_4 (by decide))) (zcw 4 (hB.word (zm5 k5_127) rfl) (hB.word (zm1 k1_9) rfl) (hB.word (zm5 k5_124) rfl) (hB.word (zm5 k5_126) rfl) (k2_selects_private (by decide) (hB.word (zm4 k4_109) rfl) (hB.word (zm5 k5_125) rfl) (hB.word (zm5 k5_126) rfl)) rfl rfl (by decide +kernel) ⟨Nat.le_of_ble_eq_true rfl, Nat.le_of_ble_eq_true rfl⟩) ⟨zP_blind, va_recv hK hP (ci := 7) (q0 := 0) rfl rfl, zP_pre hP hK hD hAD (zB_on hB hA0 hS)⟩ rfl rfl hl.1 rfl (lv_room (Nat.le_of_ble_eq_true rfl)) dMO_sends_115 ⟨Nat.le_of_ble_eq_true rfl, Nat.le_of_ble_eq_true rfl⟩) hD hS hA (fun S26 H25 locs h27 hP hD hS => ?_)
            have E := zl_s E h27.1
            have gS26 := h27.2
            refine lv_goto (tgt := 203) hx hb dMO_sends_118 (by decide) ?_
            exact hJ203 H25 locs ls S26 x12_1 x12_2 r_x12_1 r_x12_2 gS26 E hP hD hS (lv_sub hl [0, 1, 2] rfl)
        · have r_k5 : zr 2 2 k5 := zeq_x (show zr 2 2 2 from by decide) c_75
          refine lv_aload_n hx hb dMO_sends_78 rfl (lv_at hl 0 rfl) ?_
          refine lv_iconst (v := 1) hx hb dMO_sends_79 (by decide) ?_
          refine lv_iload_n hx hb dMO_sends_80 rfl (lv_at hl 1 rfl) ?_
          refine lv_bipush (v := 60) hx hb dMO_sends_81 (by decide) ?_
          refine lv_iload_n hx hb dMO_sends_83 rfl (lv_at hl 1 rfl) ?_
          refine z_iadd hx hb dMO_sends_84 E (fun k28 ek28 E => ?_)
          have r_k28 : zr 60 107 k28 := zr_add (show zr 60 60 60 from by decide) r_x12_1 ek28 (by decide)
          refine lv_aload_n hx hb dMO_sends_85 rfl (lv_at hl 0 rfl) ?_
          refine m_getA_17 hx hb (hB.words zU_MO) hown hK hP (hB.word (zm4 k4_135) rfl) dMO_sends_86 ?_
          refine lv_iload_n hx hb dMO_sends_89 rfl (lv_at hl 1 rfl) ?_
          refine m_aldS hx hb hK hP 17 (by decide) rfl r_x12_1 (by decide) dMO_sends_90 E (fun k29 ek29 E => ?_)
          refine zcV (va_runV (As := [.int 1, .int x12_1, .int k28, .int k29]) (rest := []) ⟨hx, hb, hml, hown, zno⟩ (tMO_say l dC dI cI cZ cJ cA a0 s0 o b P S_12 H.size 1 x12_1 k28 k29 gP gS_12 (zr_mono r_k28 (by decide))) (zcw 4 (hB.word (zm5 k5_127) rfl) (hB.word (zm1 k1_9) rfl) (hB.word (zm5 k5_124) rfl) (hB.word (zm5 k5_126) rfl) (k2_selects_private (by decide) (hB.word (zm4 k4_109) rfl) (hB.word (zm5 k5_125) rfl) (hB.word (zm5 k5_126) rfl)) rfl rfl (by decide +kernel) ⟨Nat.le_of_ble_eq_true rfl, Nat.le_of_ble_eq_true rfl⟩) ⟨zP_blind, va_recv hK hP (ci := 7) (q0 := 0) rfl rfl, zP_pre hP hK hD hAD (zB_on hB hA0 hS)⟩ rfl rfl hl.1 rfl (lv_room (Nat.le_of_ble_eq_true rfl)) dMO_sends_91 ⟨Nat.le_of_ble_eq_true rfl, Nat.le_of_ble_eq_true rfl⟩) hD hS hA (fun S31 H30 locs h32 hP hD hS => ?_)
          have E := zl_s E h32.1
          have gS31 := h32.2
          refine lv_goto (tgt := 203) hx hb dMO_sends_94 (by decide) ?_
          exact hJ203 H30 locs ls S31 x12_1 x12_2 r_x12_1 r_x12_2 gS31 E hP hD hS (lv_sub hl [0, 1, 2] rfl)
      · have r_x12_5 : zr 0 1 x12_5 := zle_y (show zr 0 0 0 from by decide) r_x12_5 (znlt c_14) (by decide)
        refine lv_aload_n hx hb dMO_sends_17 rfl (lv_at hl 0 rfl) ?_
        refine m_getA_6 hx hb (hB.words zU_MO) hown hK hP (hB.word (zm4 k4_130) rfl) dMO_sends_18 ?_
        refine lv_iconst (v := 2) hx hb dMO_sends_21 (by decide) ?_
        refine lv_iload_n hx hb dMO_sends_22 rfl (lv_at hl 3 rfl) ?_
        refine z_imul hx hb dMO_sends_23 E (fun k33 ek33 E => ?_)
        have r_k33 : zr 0 574 k33 := zr_mul (show zr 2 2 2 from by decide) r_x12_3 ek33 (by decide)
        refine lv_iload hx hb dMO_sends_24 (lv_at hl 5 rfl) ?_
        refine z_iadd hx hb dMO_sends_26 E (fun k34 ek34 E => ?_)
        have r_k34 : zr 0 575 k34 := zr_add r_k33 r_x12_5 ek34 (by decide)
        refine m_aldP hx hb hK hP 6 (by decide) rfl r_k34 (by decide) dMO_sends_27 E (fun k35 ek35 E => ?_)
        have r_k35 : zr (-1) 59 k35 := by rw [ek35]; exact gP.1 6 _
        refine lv_istore (lv' := [(6, .int k35), (0, .ref (o 0)), (1, .int x12_1), (2, .int x12_2), (3, .int x12_3), (4, .int x12_4), (5, .int x12_5)]) hx hb dMO_sends_28 hl (by decide) rfl (fun ls hl => ?_)
        refine lv_iload hx hb dMO_sends_30 (lv_at hl 0 rfl) ?_
        refine lv_iconst (v := (-1)) hx hb dMO_sends_32 (by decide) ?_
        refine z_icmp_eq (tgt := 58) hx hb dMO_sends_33 (by decide) E (fun c_33 E => ?_) (fun c_33 E => ?_)
        · have r_k35 : zr (-1) (-1) k35 := zeq_x (show zr (-1) (-1) (-1) from by decide) c_33
          exact hJ58 H locs ls S_12 x12_1 x12_2 x12_3 x12_4 x12_5 r_x12_1 r_x12_2 r_x12_3 r_x12_4 r_x12_5 gS_12 hm12 E hP hD hS (lv_sub hl [1, 2, 3, 4, 5, 6] rfl)
        · have r_k35 : zr 0 59 k35 := zne_lo r_k35 c_33 (by decide)
          refine lv_aload_n hx hb dMO_sends_36 rfl (lv_at hl 1 rfl) ?_
          refine m_getA_10 hx hb (hB.words zU_MO) hown hK hP (hB.word (zm4 k4_124) rfl) dMO_sends_37 ?_
          refine lv_aload_n hx hb dMO_sends_40 rfl (lv_at hl 1 rfl) ?_
          refine lv_iload_n hx hb dMO_sends_41 rfl (lv_at hl 2 rfl) ?_
          refine lv_iload hx hb dMO_sends_42 (lv_at hl 0 rfl) ?_
          refine zcallp (va_runV (As := [.int x12_1, .int k35]) (rest := [.ref (b 10)]) ⟨hx, hb, hml, hown, zno⟩ (tMO_end l dC dI cI cZ cJ cA a0 s0 o b P S_12 H.size x12_1 k35 gP gS_12 r_k35) (zcw 2 (hB.word (zm5 k5_112) rfl) (hB.word (zm1 k1_9) rfl) (hB.word (zm5 k5_109) rfl) (hB.word (zm5 k5_111) rfl) (k2_selects_private (by decide) (hB.word (zm4 k4_109) rfl) (hB.word (zm5 k5_110) rfl) (hB.word (zm5 k5_111) rfl)) rfl rfl (by decide +kernel) ⟨Nat.le_of_ble_eq_true rfl, Nat.le_of_ble_eq_true rfl⟩) ⟨zP_blind, va_recv hK hP (ci := 7) (q0 := 0) rfl rfl, zP_pre hP hK hD hAD (zB_on hB hA0 hS)⟩ rfl rfl hl.1 rfl (lv_room (Nat.le_of_ble_eq_true rfl)) dMO_sends_44 ⟨Nat.le_of_ble_eq_true rfl, Nat.le_of_ble_eq_true rfl⟩) hS hA (fun k37 H36 locs hk37 hz1 hk1 hS => ?_)
          have hP := zKeep hP hk1
          have E := zl_s E hk37.1
          refine m_aldS hx hb hK hP 10 (by decide) rfl hk37.2 (by decide) dMO_sends_47 E (fun k38 ek38 E => ?_)
          refine lv_iconst (v := 1) hx hb dMO_sends_48 (by decide) ?_
          refine z_iand hx hb dMO_sends_49 E (fun k39 ek39 E => ?_)
          have r_k39 : zr 0 1 k39 := zr_and (c := 1) (by decide) ek39 (by decide)
          refine z_if_eq (tgt := 58) hx hb dMO_sends_50 (by decide) E (fun c_50 E => ?_) (fun c_50 E => ?_)
          · have r_k39 : zr 0 0 k39 := zeq_x (show zr 0 0 0 from by decide) c_50
            exact hJ58 H36 locs ls S_12 x12_1 x12_2 x12_3 x12_4 x12_5 r_x12_1 r_x12_2 r_x12_3 r_x12_4 r_x12_5 gS_12 hm12 E hP hD hS (lv_sub hl [1, 2, 3, 4, 5, 6] rfl)
          · have r_k39 : zr 1 1 k39 := zne_lo r_k39 c_50 (by decide)
            refine lv_iload hx hb dMO_sends_53 (lv_at hl 0 rfl) ?_
            refine lv_goto (tgt := 60) hx hb dMO_sends_55 (by decide) ?_
            exact hJ60 H36 locs ls S_12 x12_1 x12_2 x12_3 x12_5 k35 r_x12_1 r_x12_2 r_x12_3 r_x12_5 (zr_mono r_k35 (by decide)) gS_12 hm12 E hP hD hS (lv_sub hl [1, 2, 3, 4, 6] rfl)
  refine lv_iload_n hx hb dMO_sends_0 rfl (lv_at hl 1 rfl) ?_
  refine lv_iload_n hx hb dMO_sends_1 rfl (lv_at hl 2 rfl) ?_
  refine zcallp (va_runS (As := [.int x0, .int x1]) (rest := []) ⟨hx, hb, hml, hown, zno⟩ (tMO_at l dC dI cI cZ cJ cA a0 s0 o b P S s.heap.size x0 x1 gP gS r_x0 r_x1) ⟨zcb 2 (hB.word (zm5 k5_119) rfl) (hB.word (zm1 k1_9) rfl) (hB.word (zm5 k5_117) rfl) rfl rfl (by decide +kernel) ⟨Nat.le_of_ble_eq_true rfl, Nat.le_of_ble_eq_true rfl⟩, hB.word (zm5 k5_118) rfl⟩ ⟨zP_blind, zP_pre hP hK hD hAD (zB_on hB hA0 hS)⟩ rfl rfl hl.1 rfl (lv_room (Nat.le_of_ble_eq_true rfl)) dMO_sends_2 ⟨Nat.le_of_ble_eq_true rfl, Nat.le_of_ble_eq_true rfl⟩) hS hA (fun k41 H40 locs hk41 hz1 hk1 hS => ?_)
  have hP := zKeep hP hk1
  have E := zl_s E hk41.1
  refine lv_istore_n (lv' := [(3, .int k41), (0, .ref (o 0)), (1, .int x0), (2, .int x1)]) hx hb dMO_sends_5 rfl hl (by decide) rfl (fun ls hl => ?_)
  refine lv_iconst (v := (-1)) hx hb dMO_sends_6 (by decide) ?_
  refine lv_istore (lv' := [(4, .int (-1)), (3, .int k41), (0, .ref (o 0)), (1, .int x0), (2, .int x1)]) hx hb dMO_sends_7 hl (by decide) rfl (fun ls hl => ?_)
  refine lv_iconst (v := 1) hx hb dMO_sends_9 (by decide) ?_
  refine lv_istore (lv' := [(5, .int 1), (4, .int (-1)), (3, .int k41), (0, .ref (o 0)), (1, .int x0), (2, .int x1)]) hx hb dMO_sends_10 hl (by decide) rfl (fun ls hl => ?_)
  exact hL12 3 H40 locs ls S x0 x1 k41 (-1) 1 r_x0 r_x1 hk41.2 (show zr (-1) 59 (-1) from by decide) (show zr (-1) 1 1 from by decide) gS (by have h9 := (show zr 1 1 1 from by decide); exact zfuelD h9 (by decide)) E hP hD hS (lv_sub hl [3, 4, 5, 2, 1, 0] rfl)
theorem zowns_ne {P S : ZS} {b r k : Int32} (h : k = fMO_owns P S b r) (c : ¬ k = 0) (rb : zr 0 47 b) : ¬ P.F 3 r.toNatClampNeg = -1 := by
  simp only [fMO_owns, zl] at h
  split at h
  · rename_i e
    intro q
    rw [e] at q
    rw [q] at rb
    exact absurd rb.1 (by decide)
  · exact absurd h c
noncomputable def fMO_tickOf_168 (P : ZS) (S_168 : ZS) (x168_1 : Int32) (x168_2 : Int32) : ZS := zl (fMO_sends P S_168 x168_1 x168_2) (fun S2 => S2)
noncomputable def fMO_tickOf_136 (P : ZS) (S_136 : ZS) (x136_1 : Int32) (x136_2 : Int32) (x136_3 : Int32) : ZS := zl (S_136.F 14 (x136_3 : Int32).toNatClampNeg) (fun k4 => zl (k4 + 1) (fun k5 => zl (S_136.setF 14 (x136_3 : Int32).toNatClampNeg k5) (fun S6 => zl (S6.F 14 (x136_3 : Int32).toNatClampNeg) (fun k8 => (if k8 ≤ 3 then fMO_tickOf_168 P S6 x136_1 x136_2 else zl (S6.F 14 (x136_3 : Int32).toNatClampNeg) (fun k9 => zl (k8 - k8 / 5 * 5) (fun k10 => (if k10 = 3 then fMO_tickOf_168 P S6 x136_1 x136_2 else S6))))))))
noncomputable def fMO_tickOf_108 (P : ZS) (S_108 : ZS) (x108_1 : Int32) (x108_2 : Int32) (x108_3 : Int32) : ZS := zl (S_108.F 13 (x108_3 : Int32).toNatClampNeg) (fun k11 => (if k11 = 0 then zl (fMO_has P S_108 x108_1 x108_2 23) (fun k13 => (if k13 = 0 then fMO_tickOf_136 P S_108 x108_1 x108_2 x108_3 else zl (fMO_endAll P S_108 x108_1 x108_2 8) (fun S15 => fMO_tickOf_136 P S15 x108_1 x108_2 x108_3))) else fMO_tickOf_136 P S_108 x108_1 x108_2 x108_3))
noncomputable def fMO_tickOf_32 (P : ZS) (S_32 : ZS) (x32_1 : Int32) (x32_2 : Int32) (x32_3 : Int32) (y32_0 : Int32) (y32_1 : Int32) : ZS := zl (S_32.setF 13 (y32_1 : Int32).toNatClampNeg y32_0) (fun S17 => zl (fMO_owns P S17 x32_1 x32_2) (fun k20 => (if k20 = 0 then fMO_tickOf_108 P S17 x32_1 x32_2 x32_3 else zl (fMO_has P S17 x32_1 x32_2 23) (fun k22 => (if k22 = 0 then zl (S17.F 11 (x32_2 : Int32).toNatClampNeg) (fun k23 => (if k23 ≤ 0 then zl (fMO_has P S17 x32_1 x32_2 8) (fun k25 => (if k25 = 0 then fMO_tickOf_108 P S17 x32_1 x32_2 x32_3 else zl (S17.setF 11 (x32_2 : Int32).toNatClampNeg 60) (fun S26 => fMO_tickOf_108 P S26 x32_1 x32_2 x32_3))) else zl (S17.F 11 (x32_2 : Int32).toNatClampNeg) (fun k28 => zl (k23 - 1) (fun k29 => zl (S17.setF 11 (x32_2 : Int32).toNatClampNeg k29) (fun S30 => zl (S30.F 11 (x32_2 : Int32).toNatClampNeg) (fun k32 => (if k32 = 0 then zl (fMO_takeHold P S30 x32_2) (fun S34 => fMO_tickOf_108 P S34 x32_1 x32_2 x32_3) else fMO_tickOf_108 P S30 x32_1 x32_2 x32_3))))))) else fMO_tickOf_108 P S17 x32_1 x32_2 x32_3)))))
noncomputable def fMO_tickOf (P S : ZS) (x0 : Int32) (x1 : Int32) : ZS := zl (fMO_at P S x0 x1) (fun k37 => zl (S.F 13 (k37 : Int32).toNatClampNeg) (fun k38 => (if k38 ≤ 0 then fMO_tickOf_32 P S x0 x1 k37 0 k37 else zl (S.F 13 (k37 : Int32).toNatClampNeg) (fun k39 => zl (k38 - 1) (fun k40 => fMO_tickOf_32 P S x0 x1 k37 k40 k37)))))
set_option maxHeartbeats 4000000 in
set_option maxRecDepth 100000 in
theorem tMO_tickOf (l : Launch) (dC : Nat → ClassId) (dI : Nat → Nat → Nat) (cI cZ cJ cA : ClassId) (a0 : Array Value) (s0 : State) (o b : Nat → Nat) (P S : ZS) (sz : Nat) (x0 : Int32) (x1 : Int32) (gP : mok P) (gS : mok S) (gM : zM P) (r_x0 : zr 0 47 x0) (r_x1 : zr 0 5 x1) : Met l yMO_tickOf [Cond.code yMO_tickOf bMO_tickOf 4 none] ({ frames := 4, cells := 0, slots := 0, locals := 95 } : Room) (zP zCl dC dI (zTZ cI cZ cJ cA) a0 s0 [.ref (o 0), .int x0, .int x1] sz (MW cI cZ cA o b P S)) (zQG zCl dC dI (fun (x9 : ZS) => x9 = fMO_tickOf P S x0 x1 ∧ mok x9) (fun x9 : ZS => (MW cI cZ cA o b P x9)) (va_A (MW cI cZ cA o b P S) sz)) 0 0 (va_A (MW cI cZ cA o b P S) sz) := by
  refine Met.ofW (cc := bMO_tickOf) (maxL := 4) (ret := none) (by decide) rfl ?_
  intro p e s m args below meth c s₁ B hml hv
  obtain ⟨rfl, hsz, hP, hK, hD0, hB⟩ := hv
  have hx := B.exec
  have hb := B.bytes
  have hr := B.returns
  have hown : s.vm.findClass "RingGuardModel" = some m.cls := findClass_of_methodNamed B.named
  have hlocks := B.notSynchronized
  subst hsz
  have hD := hD0.self (sz := s.heap.size)
  have hA0 := zA0 hD0 hB
  generalize hAe : va_A (MW cI cZ cA o b P S) s.heap.size = A at hD hA0 ⊢
  have hAD := hA0
  have hA : ∀ q : Nat, s.heap.size ≤ q → A q := fun q h => by rw [← hAe]; exact Or.inr h
  have hS : va_S A s.heap s.heap [] := va_S.rf
  have hl := lv_entry ([.ref (o 0), .int x0, .int x1]) (n := 4) (Nat.le_of_ble_eq_true rfl)
  rw [lg_entry_eq]
  generalize (lg_sl ([.ref (o 0), .int x0, .int x1]) ++ List.replicate (4 - (lg_sl ([.ref (o 0), .int x0, .int x1])).length) Slot.unset).toArray = ls at hl ⊢
  have hl : lv_has ls 4 [(0, .ref (o 0)), (1, .int x0), (2, .int x1)] := hl
  refine zgenQ (fun Q hQe => ?_)
  obtain ⟨tg, etg⟩ : ∃ z, z = fMO_tickOf P S x0 x1 := ⟨_, rfl⟩
  have E := etg
  unfold fMO_tickOf at E
  have hJ32 : ∀ (H : Heap) (locs : List Loc) (ls : Array Slot) (S_32 : ZS) (x32_1 : Int32) (x32_2 : Int32) (x32_3 : Int32) (y32_0 : Int32) (y32_1 : Int32), zr 0 47 x32_1 → zr 0 5 x32_2 → zr 0 287 x32_3 → zr 0 2147483647 y32_0 → zr 0 287 y32_1 → mok S_32 → tg = fMO_tickOf_32 P S_32 x32_1 x32_2 x32_3 y32_0 y32_1 → va_P (dC, dI) zCl (MW cI cZ cA o b P S_32) H → va_D A (MW cI cZ cA o b P S_32) → va_S A s.heap H locs → lv_has ls 4 [(0, .ref (o 0)), (1, .int x32_1), (2, .int x32_2), (3, .int x32_3)] → W p l e ({ frames := 4, cells := 0, slots := 0, locals := 95 } : Room) s m ([.ref (o 0), .int x0, .int x1] : List Value).toArray below meth c H locs 0 0 Q (F0 m 32 ls [.int y32_0, .int y32_1, .ref (b 13)]) := by
    intro H locs ls S_32 x32_1 x32_2 x32_3 y32_0 y32_1 r_x32_1 r_x32_2 r_x32_3 r_y32_0 r_y32_1 gS_32 E hP hD hS hl
    unfold fMO_tickOf_32 at E
    have hJ108 : ∀ (H : Heap) (locs : List Loc) (ls : Array Slot) (S_108 : ZS) (x108_1 : Int32) (x108_2 : Int32) (x108_3 : Int32), zr 0 47 x108_1 → zr 0 5 x108_2 → zr 0 287 x108_3 → mok S_108 → tg = fMO_tickOf_108 P S_108 x108_1 x108_2 x108_3 → va_P (dC, dI) zCl (MW cI cZ cA o b P S_108) H → va_D A (MW cI cZ cA o b P S_108) → va_S A s.heap H locs → lv_has ls 4 [(0, .ref (o 0)), (1, .int x108_1), (2, .int x108_2), (3, .int x108_3)] → W p l e ({ frames := 4, cells := 0, slots := 0, locals := 95 } : Room) s m ([.ref (o 0), .int x0, .int x1] : List Value).toArray below meth c H locs 0 0 Q (F0 m 108 ls []) := by
      intro H locs ls S_108 x108_1 x108_2 x108_3 r_x108_1 r_x108_2 r_x108_3 gS_108 E hP hD hS hl
      unfold fMO_tickOf_108 at E
      have hJ136 : ∀ (H : Heap) (locs : List Loc) (ls : Array Slot) (S_136 : ZS) (x136_1 : Int32) (x136_2 : Int32) (x136_3 : Int32), zr 0 47 x136_1 → zr 0 5 x136_2 → zr 0 287 x136_3 → mok S_136 → tg = fMO_tickOf_136 P S_136 x136_1 x136_2 x136_3 → va_P (dC, dI) zCl (MW cI cZ cA o b P S_136) H → va_D A (MW cI cZ cA o b P S_136) → va_S A s.heap H locs → lv_has ls 4 [(0, .ref (o 0)), (1, .int x136_1), (2, .int x136_2), (3, .int x136_3)] → W p l e ({ frames := 4, cells := 0, slots := 0, locals := 95 } : Room) s m ([.ref (o 0), .int x0, .int x1] : List Value).toArray below meth c H locs 0 0 Q (F0 m 136 ls []) := by
        intro H locs ls S_136 x136_1 x136_2 x136_3 r_x136_1 r_x136_2 r_x136_3 gS_136 E hP hD hS hl
        unfold fMO_tickOf_136 at E
        have hJ168 : ∀ (H : Heap) (locs : List Loc) (ls : Array Slot) (S_168 : ZS) (x168_1 : Int32) (x168_2 : Int32), zr 0 47 x168_1 → zr 0 5 x168_2 → mok S_168 → tg = fMO_tickOf_168 P S_168 x168_1 x168_2 → va_P (dC, dI) zCl (MW cI cZ cA o b P S_168) H → va_D A (MW cI cZ cA o b P S_168) → va_S A s.heap H locs → lv_has ls 4 [(0, .ref (o 0)), (1, .int x168_1), (2, .int x168_2)] → W p l e ({ frames := 4, cells := 0, slots := 0, locals := 95 } : Room) s m ([.ref (o 0), .int x0, .int x1] : List Value).toArray below meth c H locs 0 0 Q (F0 m 168 ls []) := by
          intro H locs ls S_168 x168_1 x168_2 r_x168_1 r_x168_2 gS_168 E hP hD hS hl
          unfold fMO_tickOf_168 at E
          refine lv_aload_n hx hb dMO_tickOf_168 rfl (lv_at hl 0 rfl) ?_
          refine lv_iload_n hx hb dMO_tickOf_169 rfl (lv_at hl 1 rfl) ?_
          refine lv_iload_n hx hb dMO_tickOf_170 rfl (lv_at hl 2 rfl) ?_
          refine zcV (va_runV (As := [.int x168_1, .int x168_2]) (rest := []) ⟨hx, hb, hml, hown, zno⟩ (tMO_sends l dC dI cI cZ cJ cA a0 s0 o b P S_168 H.size x168_1 x168_2 gP gS_168 r_x168_1 r_x168_2) (zcw 2 (hB.word (zm5 k5_215) rfl) (hB.word (zm1 k1_9) rfl) (hB.word (zm5 k5_212) rfl) (hB.word (zm5 k5_214) rfl) (k2_selects_private (by decide) (hB.word (zm4 k4_109) rfl) (hB.word (zm5 k5_213) rfl) (hB.word (zm5 k5_214) rfl)) rfl rfl (by decide +kernel) ⟨Nat.le_of_ble_eq_true rfl, Nat.le_of_ble_eq_true rfl⟩) ⟨zP_blind, va_recv hK hP (ci := 7) (q0 := 0) rfl rfl, zP_pre hP hK hD hAD (zB_on hB hA0 hS)⟩ rfl rfl hl.1 rfl (lv_room (Nat.le_of_ble_eq_true rfl)) dMO_tickOf_171 ⟨Nat.le_of_ble_eq_true rfl, Nat.le_of_ble_eq_true rfl⟩) hD hS hA (fun S2 H1 locs h3 hP hD hS => ?_)
          have E := zl_s E h3.1
          have gS2 := h3.2
          rw [hQe]
          exact W.vret hx hb hr (fun t ht hW => ⟨⟨S2, rfl, ⟨E.symm.trans etg, gS2⟩, by rw [ht]; exact hP, hD⟩, hS.F ht⟩) hS.2.2 dMO_tickOf_174
        refine lv_aload_n hx hb dMO_tickOf_136 rfl (lv_at hl 0 rfl) ?_
        refine m_getA_14 hx hb (hB.words zU_MO) hown hK hP (hB.word (zm4 k4_132) rfl) dMO_tickOf_137 ?_
        refine lv_iload_n hx hb dMO_tickOf_140 rfl (lv_at hl 3 rfl) ?_
        refine lv_dup2_11 hx hb dMO_tickOf_141 rfl rfl ?_
        refine m_aldS hx hb hK hP 14 (by decide) rfl r_x136_3 (by decide) dMO_tickOf_142 E (fun k4 ek4 E => ?_)
        refine lv_iconst (v := 1) hx hb dMO_tickOf_143 (by decide) ?_
        refine z_iadd hx hb dMO_tickOf_144 E (fun k5 ek5 E => ?_)
        refine m_astS hx hb hK hP hD hS 14 (by decide) rfl r_x136_3 (by decide) dMO_tickOf_145 E (fun S6 H7 locs eS6 E hP hD hS => ?_)
        have gS6 : mok S6 := by rw [eS6]; exact gS_136.setF (k := 14) (zr_any k5) (Or.inl (by decide))
        refine lv_aload_n hx hb dMO_tickOf_146 rfl (lv_at hl 0 rfl) ?_
        refine m_getA_14 hx hb (hB.words zU_MO) hown hK hP (hB.word (zm4 k4_132) rfl) dMO_tickOf_147 ?_
        refine lv_iload_n hx hb dMO_tickOf_150 rfl (lv_at hl 3 rfl) ?_
        refine m_aldS hx hb hK hP 14 (by decide) rfl r_x136_3 (by decide) dMO_tickOf_151 E (fun k8 ek8 E => ?_)
        refine lv_iconst (v := 3) hx hb dMO_tickOf_152 (by decide) ?_
        refine z_icmp_le (tgt := 168) hx hb dMO_tickOf_153 (by decide) E (fun c_153 E => ?_) (fun c_153 E => ?_)
        · have r_k8 : zr (-2147483648) 3 k8 := zle_x (zr_any k8) (show zr 3 3 3 from by decide) c_153 (by decide)
          exact hJ168 H7 locs ls S6 x136_1 x136_2 r_x136_1 r_x136_2 gS6 E hP hD hS (lv_sub hl [0, 1, 2] rfl)
        · have r_k8 : zr 4 2147483647 k8 := zlt_y (show zr 3 3 3 from by decide) (zr_any k8) (znle c_153) (by decide)
          refine lv_aload_n hx hb dMO_tickOf_156 rfl (lv_at hl 0 rfl) ?_
          refine m_getA_14 hx hb (hB.words zU_MO) hown hK hP (hB.word (zm4 k4_132) rfl) dMO_tickOf_157 ?_
          refine lv_iload_n hx hb dMO_tickOf_160 rfl (lv_at hl 3 rfl) ?_
          refine m_aldS hx hb hK hP 14 (by decide) rfl r_x136_3 (by decide) dMO_tickOf_161 E (fun k9 ek9 E => ?_)
          have x9 : k8 = k9 := by rw [ek8, ek9]
          subst x9
          refine lv_iconst (v := 5) hx hb dMO_tickOf_162 (by decide) ?_
          refine z_irem hx hb dMO_tickOf_163 (by decide) E (fun k10 ek10 E => ?_)
          have r_k10 : zr 0 4 k10 := (zr_rem (lo := 0) (hi := 4) r_k8 (c := 5) (by decide) ek10 (by decide)).1
          refine lv_iconst (v := 3) hx hb dMO_tickOf_164 (by decide) ?_
          refine z_icmp_ne (tgt := 174) hx hb dMO_tickOf_165 (by decide) E (fun c_165 E => ?_) (fun c_165 E => ?_)
          · rw [hQe]
            exact W.vret hx hb hr (fun t ht hW => ⟨⟨S6, rfl, ⟨E.symm.trans etg, gS6⟩, by rw [ht]; exact hP, hD⟩, hS.F ht⟩) hS.2.2 dMO_tickOf_174
          · have r_k10 : zr 3 3 k10 := zeq_x (show zr 3 3 3 from by decide) c_165
            exact hJ168 H7 locs ls S6 x136_1 x136_2 r_x136_1 r_x136_2 gS6 E hP hD hS (lv_sub hl [0, 1, 2] rfl)
      refine lv_aload_n hx hb dMO_tickOf_108 rfl (lv_at hl 0 rfl) ?_
      refine m_getA_13 hx hb (hB.words zU_MO) hown hK hP (hB.word (zm4 k4_131) rfl) dMO_tickOf_109 ?_
      refine lv_iload_n hx hb dMO_tickOf_112 rfl (lv_at hl 3 rfl) ?_
      refine m_aldS hx hb hK hP 13 (by decide) rfl r_x108_3 (by decide) dMO_tickOf_113 E (fun k11 ek11 E => ?_)
      refine z_if_ne (tgt := 136) hx hb dMO_tickOf_114 (by decide) E (fun c_114 E => ?_) (fun c_114 E => ?_)
      · exact hJ136 H locs ls S_108 x108_1 x108_2 x108_3 r_x108_1 r_x108_2 r_x108_3 gS_108 E hP hD hS (lv_sub hl [0, 1, 2, 3] rfl)
      · have r_k11 : zr 0 0 k11 := zeq_x (show zr 0 0 0 from by decide) c_114
        refine lv_aload_n hx hb dMO_tickOf_117 rfl (lv_at hl 0 rfl) ?_
        refine lv_iload_n hx hb dMO_tickOf_118 rfl (lv_at hl 1 rfl) ?_
        refine lv_iload_n hx hb dMO_tickOf_119 rfl (lv_at hl 2 rfl) ?_
        refine lv_bipush (v := 23) hx hb dMO_tickOf_120 (by decide) ?_
        refine zcallp (va_runV (As := [.int x108_1, .int x108_2, .int 23]) (rest := []) ⟨hx, hb, hml, hown, zno⟩ (tMO_has l dC dI cI cZ cJ cA a0 s0 o b P S_108 H.size x108_1 x108_2 23 gP gS_108 r_x108_1 r_x108_2) (zcw 3 (hB.word (zm5 k5_207) rfl) (hB.word (zm1 k1_9) rfl) (hB.word (zm5 k5_204) rfl) (hB.word (zm5 k5_206) rfl) (k2_selects_private (by decide) (hB.word (zm4 k4_109) rfl) (hB.word (zm5 k5_205) rfl) (hB.word (zm5 k5_206) rfl)) rfl rfl (by decide +kernel) ⟨Nat.le_of_ble_eq_true rfl, Nat.le_of_ble_eq_true rfl⟩) ⟨zP_blind, va_recv hK hP (ci := 7) (q0 := 0) rfl rfl, zP_pre hP hK hD hAD (zB_on hB hA0 hS)⟩ rfl rfl hl.1 rfl (lv_room (Nat.le_of_ble_eq_true rfl)) dMO_tickOf_122 ⟨Nat.le_of_ble_eq_true rfl, Nat.le_of_ble_eq_true rfl⟩) hS hA (fun k13 H12 locs hk13 hz1 hk1 hS => ?_)
        have hP := zKeep hP hk1
        have E := zl_s E hk13.1
        refine z_if_eq (tgt := 136) hx hb dMO_tickOf_125 (by decide) E (fun c_125 E => ?_) (fun c_125 E => ?_)
        · have r_k13 : zr 0 0 k13 := zeq_x (show zr 0 0 0 from by decide) c_125
          exact hJ136 H12 locs ls S_108 x108_1 x108_2 x108_3 r_x108_1 r_x108_2 r_x108_3 gS_108 E hP hD hS (lv_sub hl [0, 1, 2, 3] rfl)
        · have r_k13 : zr 1 1 k13 := zne_lo hk13.2 c_125 (by decide)
          refine lv_aload_n hx hb dMO_tickOf_128 rfl (lv_at hl 0 rfl) ?_
          refine lv_iload_n hx hb dMO_tickOf_129 rfl (lv_at hl 1 rfl) ?_
          refine lv_iload_n hx hb dMO_tickOf_130 rfl (lv_at hl 2 rfl) ?_
          refine lv_bipush (v := 8) hx hb dMO_tickOf_131 (by decide) ?_
          refine zcV (va_runV (As := [.int x108_1, .int x108_2, .int 8]) (rest := []) ⟨hx, hb, hml, hown, zno⟩ (tMO_endAll l dC dI cI cZ cJ cA a0 s0 o b P S_108 H12.size x108_1 x108_2 8 gP gS_108 r_x108_1 r_x108_2) (zcw 3 (hB.word (zm5 k5_159) rfl) (hB.word (zm1 k1_9) rfl) (hB.word (zm5 k5_156) rfl) (hB.word (zm5 k5_158) rfl) (k2_selects_private (by decide) (hB.word (zm4 k4_109) rfl) (hB.word (zm5 k5_157) rfl) (hB.word (zm5 k5_158) rfl)) rfl rfl (by decide +kernel) ⟨Nat.le_of_ble_eq_true rfl, Nat.le_of_ble_eq_true rfl⟩) ⟨zP_blind, va_recv hK hP (ci := 7) (q0 := 0) rfl rfl, zP_pre hP hK hD hAD (zB_on hB hA0 hS)⟩ rfl rfl hl.1 rfl (lv_room (Nat.le_of_ble_eq_true rfl)) dMO_tickOf_133 ⟨Nat.le_of_ble_eq_true rfl, Nat.le_of_ble_eq_true rfl⟩) hD hS hA (fun S15 H14 locs h16 hP hD hS => ?_)
          have E := zl_s E h16.1
          have gS15 := h16.2
          exact hJ136 H14 locs ls S15 x108_1 x108_2 x108_3 r_x108_1 r_x108_2 r_x108_3 gS15 E hP hD hS (lv_sub hl [0, 1, 2, 3] rfl)
    refine m_astS hx hb hK hP hD hS 13 (by decide) rfl r_y32_1 (by decide) dMO_tickOf_32 E (fun S17 H18 locs eS17 E hP hD hS => ?_)
    have gS17 : mok S17 := by rw [eS17]; exact gS_32.setF (k := 13) (zr_any y32_0) (Or.inl (by decide))
    refine lv_aload_n hx hb dMO_tickOf_33 rfl (lv_at hl 0 rfl) ?_
    refine lv_iload_n hx hb dMO_tickOf_34 rfl (lv_at hl 1 rfl) ?_
    refine lv_iload_n hx hb dMO_tickOf_35 rfl (lv_at hl 2 rfl) ?_
    refine zcallp (va_runV (As := [.int x32_1, .int x32_2]) (rest := []) ⟨hx, hb, hml, hown, zno⟩ (tMO_owns l dC dI cI cZ cJ cA a0 s0 o b P S17 H18.size x32_1 x32_2 gP gS17 r_x32_2) (zcw 2 (hB.word (zm5 k5_155) rfl) (hB.word (zm1 k1_9) rfl) (hB.word (zm5 k5_152) rfl) (hB.word (zm5 k5_154) rfl) (k2_selects_private (by decide) (hB.word (zm4 k4_109) rfl) (hB.word (zm5 k5_153) rfl) (hB.word (zm5 k5_154) rfl)) rfl rfl (by decide +kernel) ⟨Nat.le_of_ble_eq_true rfl, Nat.le_of_ble_eq_true rfl⟩) ⟨zP_blind, va_recv hK hP (ci := 7) (q0 := 0) rfl rfl, zP_pre hP hK hD hAD (zB_on hB hA0 hS)⟩ rfl rfl hl.1 rfl (lv_room (Nat.le_of_ble_eq_true rfl)) dMO_tickOf_36 ⟨Nat.le_of_ble_eq_true rfl, Nat.le_of_ble_eq_true rfl⟩) hS hA (fun k20 H19 locs hk20 hz1 hk1 hS => ?_)
    have hP := zKeep hP hk1
    have E := zl_s E hk20.1
    refine z_if_eq (tgt := 108) hx hb dMO_tickOf_39 (by decide) E (fun c_39 E => ?_) (fun c_39 E => ?_)
    · have r_k20 : zr 0 0 k20 := zeq_x (show zr 0 0 0 from by decide) c_39
      exact hJ108 H19 locs ls S17 x32_1 x32_2 x32_3 r_x32_1 r_x32_2 r_x32_3 gS17 E hP hD hS (lv_sub hl [0, 1, 2, 3] rfl)
    · have r_k20 : zr 1 1 k20 := zne_lo hk20.2 c_39 (by decide)
      refine lv_aload_n hx hb dMO_tickOf_42 rfl (lv_at hl 0 rfl) ?_
      refine lv_iload_n hx hb dMO_tickOf_43 rfl (lv_at hl 1 rfl) ?_
      refine lv_iload_n hx hb dMO_tickOf_44 rfl (lv_at hl 2 rfl) ?_
      refine lv_bipush (v := 23) hx hb dMO_tickOf_45 (by decide) ?_
      refine zcallp (va_runV (As := [.int x32_1, .int x32_2, .int 23]) (rest := []) ⟨hx, hb, hml, hown, zno⟩ (tMO_has l dC dI cI cZ cJ cA a0 s0 o b P S17 H19.size x32_1 x32_2 23 gP gS17 r_x32_1 r_x32_2) (zcw 3 (hB.word (zm5 k5_207) rfl) (hB.word (zm1 k1_9) rfl) (hB.word (zm5 k5_204) rfl) (hB.word (zm5 k5_206) rfl) (k2_selects_private (by decide) (hB.word (zm4 k4_109) rfl) (hB.word (zm5 k5_205) rfl) (hB.word (zm5 k5_206) rfl)) rfl rfl (by decide +kernel) ⟨Nat.le_of_ble_eq_true rfl, Nat.le_of_ble_eq_true rfl⟩) ⟨zP_blind, va_recv hK hP (ci := 7) (q0 := 0) rfl rfl, zP_pre hP hK hD hAD (zB_on hB hA0 hS)⟩ rfl rfl hl.1 rfl (lv_room (Nat.le_of_ble_eq_true rfl)) dMO_tickOf_47 ⟨Nat.le_of_ble_eq_true rfl, Nat.le_of_ble_eq_true rfl⟩) hS hA (fun k22 H21 locs hk22 hz1 hk1 hS => ?_)
      have hP := zKeep hP hk1
      have E := zl_s E hk22.1
      refine z_if_ne (tgt := 108) hx hb dMO_tickOf_50 (by decide) E (fun c_50 E => ?_) (fun c_50 E => ?_)
      · have r_k22 : zr 1 1 k22 := zne_lo hk22.2 c_50 (by decide)
        exact hJ108 H21 locs ls S17 x32_1 x32_2 x32_3 r_x32_1 r_x32_2 r_x32_3 gS17 E hP hD hS (lv_sub hl [0, 1, 2, 3] rfl)
      · have r_k22 : zr 0 0 k22 := zeq_x (show zr 0 0 0 from by decide) c_50
        refine lv_aload_n hx hb dMO_tickOf_53 rfl (lv_at hl 0 rfl) ?_
        refine m_getA_11 hx hb (hB.words zU_MO) hown hK hP (hB.word (zm4 k4_128) rfl) dMO_tickOf_54 ?_
        refine lv_iload_n hx hb dMO_tickOf_57 rfl (lv_at hl 2 rfl) ?_
        refine m_aldS hx hb hK hP 11 (by decide) rfl r_x32_2 (by decide) dMO_tickOf_58 E (fun k23 ek23 E => ?_)
        refine z_if_le (tgt := 89) hx hb dMO_tickOf_59 (by decide) E (fun c_59 E => ?_) (fun c_59 E => ?_)
        · have r_k23 : zr (-2147483648) 0 k23 := zle_x (zr_any k23) (show zr 0 0 0 from by decide) c_59 (by decide)
          refine lv_aload_n hx hb dMO_tickOf_89 rfl (lv_at hl 0 rfl) ?_
          refine lv_iload_n hx hb dMO_tickOf_90 rfl (lv_at hl 1 rfl) ?_
          refine lv_iload_n hx hb dMO_tickOf_91 rfl (lv_at hl 2 rfl) ?_
          refine lv_bipush (v := 8) hx hb dMO_tickOf_92 (by decide) ?_
          refine zcallp (va_runV (As := [.int x32_1, .int x32_2, .int 8]) (rest := []) ⟨hx, hb, hml, hown, zno⟩ (tMO_has l dC dI cI cZ cJ cA a0 s0 o b P S17 H21.size x32_1 x32_2 8 gP gS17 r_x32_1 r_x32_2) (zcw 3 (hB.word (zm5 k5_207) rfl) (hB.word (zm1 k1_9) rfl) (hB.word (zm5 k5_204) rfl) (hB.word (zm5 k5_206) rfl) (k2_selects_private (by decide) (hB.word (zm4 k4_109) rfl) (hB.word (zm5 k5_205) rfl) (hB.word (zm5 k5_206) rfl)) rfl rfl (by decide +kernel) ⟨Nat.le_of_ble_eq_true rfl, Nat.le_of_ble_eq_true rfl⟩) ⟨zP_blind, va_recv hK hP (ci := 7) (q0 := 0) rfl rfl, zP_pre hP hK hD hAD (zB_on hB hA0 hS)⟩ rfl rfl hl.1 rfl (lv_room (Nat.le_of_ble_eq_true rfl)) dMO_tickOf_94 ⟨Nat.le_of_ble_eq_true rfl, Nat.le_of_ble_eq_true rfl⟩) hS hA (fun k25 H24 locs hk25 hz1 hk1 hS => ?_)
          have hP := zKeep hP hk1
          have E := zl_s E hk25.1
          refine z_if_eq (tgt := 108) hx hb dMO_tickOf_97 (by decide) E (fun c_97 E => ?_) (fun c_97 E => ?_)
          · have r_k25 : zr 0 0 k25 := zeq_x (show zr 0 0 0 from by decide) c_97
            exact hJ108 H24 locs ls S17 x32_1 x32_2 x32_3 r_x32_1 r_x32_2 r_x32_3 gS17 E hP hD hS (lv_sub hl [0, 1, 2, 3] rfl)
          · have r_k25 : zr 1 1 k25 := zne_lo hk25.2 c_97 (by decide)
            refine lv_aload_n hx hb dMO_tickOf_100 rfl (lv_at hl 0 rfl) ?_
            refine m_getA_11 hx hb (hB.words zU_MO) hown hK hP (hB.word (zm4 k4_128) rfl) dMO_tickOf_101 ?_
            refine lv_iload_n hx hb dMO_tickOf_104 rfl (lv_at hl 2 rfl) ?_
            refine lv_bipush (v := 60) hx hb dMO_tickOf_105 (by decide) ?_
            refine m_astS hx hb hK hP hD hS 11 (by decide) rfl r_x32_2 (by decide) dMO_tickOf_107 E (fun S26 H27 locs eS26 E hP hD hS => ?_)
            have gS26 : mok S26 := by rw [eS26]; exact gS17.setF (k := 11) (show zr (-2147483648) 2147483647 60 from by decide) (Or.inl (by decide))
            exact hJ108 H27 locs ls S26 x32_1 x32_2 x32_3 r_x32_1 r_x32_2 r_x32_3 gS26 E hP hD hS (lv_sub hl [0, 1, 2, 3] rfl)
        · have r_k23 : zr 1 2147483647 k23 := zlt_y (show zr 0 0 0 from by decide) (zr_any k23) (znle c_59) (by decide)
          refine lv_aload_n hx hb dMO_tickOf_62 rfl (lv_at hl 0 rfl) ?_
          refine m_getA_11 hx hb (hB.words zU_MO) hown hK hP (hB.word (zm4 k4_128) rfl) dMO_tickOf_63 ?_
          refine lv_iload_n hx hb dMO_tickOf_66 rfl (lv_at hl 2 rfl) ?_
          refine lv_dup2_11 hx hb dMO_tickOf_67 rfl rfl ?_
          refine m_aldS hx hb hK hP 11 (by decide) rfl r_x32_2 (by decide) dMO_tickOf_68 E (fun k28 ek28 E => ?_)
          have x9 : k23 = k28 := by rw [ek23, ek28]
          subst x9
          refine lv_iconst (v := 1) hx hb dMO_tickOf_69 (by decide) ?_
          refine z_isub hx hb dMO_tickOf_70 E (fun k29 ek29 E => ?_)
          have r_k29 : zr 0 2147483646 k29 := zr_sub r_k23 (show zr 1 1 1 from by decide) ek29 (by decide)
          refine m_astS hx hb hK hP hD hS 11 (by decide) rfl r_x32_2 (by decide) dMO_tickOf_71 E (fun S30 H31 locs eS30 E hP hD hS => ?_)
          have gS30 : mok S30 := by rw [eS30]; exact gS17.setF (k := 11) (zr_any k29) (Or.inl (by decide))
          refine lv_aload_n hx hb dMO_tickOf_72 rfl (lv_at hl 0 rfl) ?_
          refine m_getA_11 hx hb (hB.words zU_MO) hown hK hP (hB.word (zm4 k4_128) rfl) dMO_tickOf_73 ?_
          refine lv_iload_n hx hb dMO_tickOf_76 rfl (lv_at hl 2 rfl) ?_
          refine m_aldS hx hb hK hP 11 (by decide) rfl r_x32_2 (by decide) dMO_tickOf_77 E (fun k32 ek32 E => ?_)
          refine z_if_ne (tgt := 108) hx hb dMO_tickOf_78 (by decide) E (fun c_78 E => ?_) (fun c_78 E => ?_)
          · exact hJ108 H31 locs ls S30 x32_1 x32_2 x32_3 r_x32_1 r_x32_2 r_x32_3 gS30 E hP hD hS (lv_sub hl [0, 1, 2, 3] rfl)
          · have r_k32 : zr 0 0 k32 := zeq_x (show zr 0 0 0 from by decide) c_78
            refine lv_aload_n hx hb dMO_tickOf_81 rfl (lv_at hl 0 rfl) ?_
            refine lv_iload_n hx hb dMO_tickOf_82 rfl (lv_at hl 2 rfl) ?_
            refine zcV (va_runV (As := [.int x32_2]) (rest := []) ⟨hx, hb, hml, hown, zno⟩ (tMO_takeHold l dC dI cI cZ cJ cA a0 s0 o b P S30 H31.size x32_2 gP gS30 r_x32_2 (zowns_ne hk20.1 c_39 r_x32_1) ((gM _).resolve_left (zowns_ne hk20.1 c_39 r_x32_1))) (zcw 1 (hB.word (zm5 k5_108) rfl) (hB.word (zm1 k1_9) rfl) (hB.word (zm5 k5_105) rfl) (hB.word (zm5 k5_107) rfl) (k2_selects_private (by decide) (hB.word (zm4 k4_109) rfl) (hB.word (zm5 k5_106) rfl) (hB.word (zm5 k5_107) rfl)) rfl rfl (by decide +kernel) ⟨Nat.le_of_ble_eq_true rfl, Nat.le_of_ble_eq_true rfl⟩) ⟨zP_blind, va_recv hK hP (ci := 7) (q0 := 0) rfl rfl, zP_pre hP hK hD hAD (zB_on hB hA0 hS)⟩ rfl rfl hl.1 rfl (lv_room (Nat.le_of_ble_eq_true rfl)) dMO_tickOf_83 ⟨Nat.le_of_ble_eq_true rfl, Nat.le_of_ble_eq_true rfl⟩) hD hS hA (fun S34 H33 locs h35 hP hD hS => ?_)
            have E := zl_s E h35.1
            have gS34 := h35.2
            refine lv_goto (tgt := 108) hx hb dMO_tickOf_86 (by decide) ?_
            exact hJ108 H33 locs ls S34 x32_1 x32_2 x32_3 r_x32_1 r_x32_2 r_x32_3 gS34 E hP hD hS (lv_sub hl [0, 1, 2, 3] rfl)
  refine lv_iload_n hx hb dMO_tickOf_0 rfl (lv_at hl 1 rfl) ?_
  refine lv_iload_n hx hb dMO_tickOf_1 rfl (lv_at hl 2 rfl) ?_
  refine zcallp (va_runS (As := [.int x0, .int x1]) (rest := []) ⟨hx, hb, hml, hown, zno⟩ (tMO_at l dC dI cI cZ cJ cA a0 s0 o b P S s.heap.size x0 x1 gP gS r_x0 r_x1) ⟨zcb 2 (hB.word (zm5 k5_119) rfl) (hB.word (zm1 k1_9) rfl) (hB.word (zm5 k5_117) rfl) rfl rfl (by decide +kernel) ⟨Nat.le_of_ble_eq_true rfl, Nat.le_of_ble_eq_true rfl⟩, hB.word (zm5 k5_118) rfl⟩ ⟨zP_blind, zP_pre hP hK hD hAD (zB_on hB hA0 hS)⟩ rfl rfl hl.1 rfl (lv_room (Nat.le_of_ble_eq_true rfl)) dMO_tickOf_2 ⟨Nat.le_of_ble_eq_true rfl, Nat.le_of_ble_eq_true rfl⟩) hS hA (fun k37 H36 locs hk37 hz1 hk1 hS => ?_)
  have hP := zKeep hP hk1
  have E := zl_s E hk37.1
  refine lv_istore_n (lv' := [(3, .int k37), (0, .ref (o 0)), (1, .int x0), (2, .int x1)]) hx hb dMO_tickOf_5 rfl hl (by decide) rfl (fun ls hl => ?_)
  refine lv_aload_n hx hb dMO_tickOf_6 rfl (lv_at hl 1 rfl) ?_
  refine m_getA_13 hx hb (hB.words zU_MO) hown hK hP (hB.word (zm4 k4_131) rfl) dMO_tickOf_7 ?_
  refine lv_iload_n hx hb dMO_tickOf_10 rfl (lv_at hl 0 rfl) ?_
  refine lv_aload_n hx hb dMO_tickOf_11 rfl (lv_at hl 1 rfl) ?_
  refine m_getA_13 hx hb (hB.words zU_MO) hown hK hP (hB.word (zm4 k4_131) rfl) dMO_tickOf_12 ?_
  refine lv_iload_n hx hb dMO_tickOf_15 rfl (lv_at hl 0 rfl) ?_
  refine m_aldS hx hb hK hP 13 (by decide) rfl hk37.2 (by decide) dMO_tickOf_16 E (fun k38 ek38 E => ?_)
  refine z_if_le (tgt := 31) hx hb dMO_tickOf_17 (by decide) E (fun c_17 E => ?_) (fun c_17 E => ?_)
  · have r_k38 : zr (-2147483648) 0 k38 := zle_x (zr_any k38) (show zr 0 0 0 from by decide) c_17 (by decide)
    refine lv_iconst (v := 0) hx hb dMO_tickOf_31 (by decide) ?_
    exact hJ32 H36 locs ls S x0 x1 k37 0 k37 r_x0 r_x1 hk37.2 (show zr 0 2147483647 0 from by decide) hk37.2 gS E hP hD hS (lv_sub hl [1, 2, 3, 0] rfl)
  · have r_k38 : zr 1 2147483647 k38 := zlt_y (show zr 0 0 0 from by decide) (zr_any k38) (znle c_17) (by decide)
    refine lv_aload_n hx hb dMO_tickOf_20 rfl (lv_at hl 1 rfl) ?_
    refine m_getA_13 hx hb (hB.words zU_MO) hown hK hP (hB.word (zm4 k4_131) rfl) dMO_tickOf_21 ?_
    refine lv_iload_n hx hb dMO_tickOf_24 rfl (lv_at hl 0 rfl) ?_
    refine m_aldS hx hb hK hP 13 (by decide) rfl hk37.2 (by decide) dMO_tickOf_25 E (fun k39 ek39 E => ?_)
    have x9 : k38 = k39 := by rw [ek38, ek39]
    subst x9
    refine lv_iconst (v := 1) hx hb dMO_tickOf_26 (by decide) ?_
    refine z_isub hx hb dMO_tickOf_27 E (fun k40 ek40 E => ?_)
    have r_k40 : zr 0 2147483646 k40 := zr_sub r_k38 (show zr 1 1 1 from by decide) ek40 (by decide)
    refine lv_goto (tgt := 32) hx hb dMO_tickOf_28 (by decide) ?_
    exact hJ32 H36 locs ls S x0 x1 k37 k40 k37 r_x0 r_x1 hk37.2 (zr_mono r_k40 (by decide)) hk37.2 gS E hP hD hS (lv_sub hl [1, 2, 3, 0] rfl)
noncomputable def fMO_isOpen_37 (P : ZS) (S : ZS) : Int32 := 0
noncomputable def fMO_isOpen (P S : ZS) (x0 : Int32) : Int32 := zl (S.F 7 (x0 : Int32).toNatClampNeg) (fun k1 => (if k1 = 0 then zl (2 * x0) (fun k2 => zl (S.F 10 (k2 : Int32).toNatClampNeg) (fun k3 => (if k3 = 0 then zl (2 * x0) (fun k4 => zl (k4 + 1) (fun k5 => zl (S.F 10 (k5 : Int32).toNatClampNeg) (fun k6 => (if k6 = 0 then 1 else fMO_isOpen_37 P S)))) else fMO_isOpen_37 P S))) else fMO_isOpen_37 P S))
set_option maxHeartbeats 4000000 in
set_option maxRecDepth 100000 in
theorem tMO_isOpen (l : Launch) (dC : Nat → ClassId) (dI : Nat → Nat → Nat) (cI cZ cJ cA : ClassId) (a0 : Array Value) (s0 : State) (o b : Nat → Nat) (P S : ZS) (sz : Nat) (x0 : Int32) (gP : mok P) (gS : mok S) (r_x0 : zr 0 59 x0) : Met l yMO_isOpen [Cond.code yMO_isOpen bMO_isOpen 2 (some .boolean)] ({ frames := 0, cells := 0, slots := 0, locals := 0 } : Room) (zP zCl dC dI (zTZ cI cZ cJ cA) a0 s0 [.ref (o 0), .int x0] sz (MW cI cZ cA o b P S)) (zQp (fun r => r = fMO_isOpen P S x0 ∧ zr 0 1 r) sz) 0 0 (zN sz) := by
  refine Met.ofW (cc := bMO_isOpen) (maxL := 2) (ret := (some .boolean)) (by decide) rfl ?_
  intro p e s m args below meth c s₁ B hml hv
  obtain ⟨rfl, hsz, hP, hK, hD0, hB⟩ := hv
  have hx := B.exec
  have hb := B.bytes
  have hr := B.returns
  have hown : s.vm.findClass "RingGuardModel" = some m.cls := findClass_of_methodNamed B.named
  have hlocks := B.notSynchronized
  subst hsz
  have hD := hD0
  have hA0 : ∀ q, zN s.heap.size q → s0.heap.size ≤ q := zA1 hB
  have hAD : ∀ q, zN s0.heap.size q → s0.heap.size ≤ q := fun _ h => h
  have hA : ∀ q : Nat, s.heap.size ≤ q → zN s.heap.size q := fun _ h => h
  have hS : va_S (zN s.heap.size) s.heap s.heap [] := va_S.rf
  have hl := lv_entry ([.ref (o 0), .int x0]) (n := 2) (Nat.le_of_ble_eq_true rfl)
  rw [lg_entry_eq]
  generalize (lg_sl ([.ref (o 0), .int x0]) ++ List.replicate (2 - (lg_sl ([.ref (o 0), .int x0])).length) Slot.unset).toArray = ls at hl ⊢
  have hl : lv_has ls 2 [(0, .ref (o 0)), (1, .int x0)] := hl
  refine zgenQ (fun Q hQe => ?_)
  obtain ⟨tg, etg⟩ : ∃ z, z = fMO_isOpen P S x0 := ⟨_, rfl⟩
  have E := etg
  unfold fMO_isOpen at E
  have hJ37 : ∀ (H : Heap) (locs : List Loc) (ls : Array Slot), tg = fMO_isOpen_37 P S  → va_P (dC, dI) zCl (MW cI cZ cA o b P S) H → va_S (zN s.heap.size) s.heap H locs → lv_has ls 2 [] → W p l e ({ frames := 0, cells := 0, slots := 0, locals := 0 } : Room) s m ([.ref (o 0), .int x0] : List Value).toArray below meth c H locs 0 0 Q (F0 m 37 ls []) := by
    intro H locs ls E hP hS hl
    unfold fMO_isOpen_37 at E
    refine lv_iconst (v := 0) hx hb dMO_isOpen_37 (by decide) ?_
    rw [hQe]
    exact W.zret (v := 0) (ty := .boolean) hx hb hr (znar (show zr 0 1 0 from by decide)) (fun t ht hW => ⟨⟨0, (), rfl, ⟨E.symm.trans etg, (show zr 0 1 0 from by decide)⟩, trivial⟩, hS.F ht⟩) hS.2.2 dMO_isOpen_38
  refine lv_aload_n hx hb dMO_isOpen_0 rfl (lv_at hl 0 rfl) ?_
  refine m_getA_7 hx hb (hB.words zU_MO) hown hK hP (hB.word (zm4 k4_121) rfl) dMO_isOpen_1 ?_
  refine lv_iload_n hx hb dMO_isOpen_4 rfl (lv_at hl 1 rfl) ?_
  refine m_zaldS hx hb hK hP 7 (by decide) rfl r_x0 (by decide) dMO_isOpen_5 E (fun k1 ek1 E => ?_)
  have r_k1 : zr 0 1 k1 := by rw [ek1]; exact gS.1 7 _
  refine z_if_ne (tgt := 37) hx hb dMO_isOpen_6 (by decide) E (fun c_6 E => ?_) (fun c_6 E => ?_)
  · have r_k1 : zr 1 1 k1 := zne_lo r_k1 c_6 (by decide)
    exact hJ37 s.heap [] ls  E hP hS (lv_sub hl [] rfl)
  · have r_k1 : zr 0 0 k1 := zeq_x (show zr 0 0 0 from by decide) c_6
    refine lv_aload_n hx hb dMO_isOpen_9 rfl (lv_at hl 0 rfl) ?_
    refine m_getA_10 hx hb (hB.words zU_MO) hown hK hP (hB.word (zm4 k4_124) rfl) dMO_isOpen_10 ?_
    refine lv_iconst (v := 2) hx hb dMO_isOpen_13 (by decide) ?_
    refine lv_iload_n hx hb dMO_isOpen_14 rfl (lv_at hl 1 rfl) ?_
    refine z_imul hx hb dMO_isOpen_15 E (fun k2 ek2 E => ?_)
    have r_k2 : zr 0 118 k2 := zr_mul (show zr 2 2 2 from by decide) r_x0 ek2 (by decide)
    refine m_aldS hx hb hK hP 10 (by decide) rfl r_k2 (by decide) dMO_isOpen_16 E (fun k3 ek3 E => ?_)
    refine z_if_ne (tgt := 37) hx hb dMO_isOpen_17 (by decide) E (fun c_17 E => ?_) (fun c_17 E => ?_)
    · exact hJ37 s.heap [] ls  E hP hS (lv_sub hl [] rfl)
    · have r_k3 : zr 0 0 k3 := zeq_x (show zr 0 0 0 from by decide) c_17
      refine lv_aload_n hx hb dMO_isOpen_20 rfl (lv_at hl 0 rfl) ?_
      refine m_getA_10 hx hb (hB.words zU_MO) hown hK hP (hB.word (zm4 k4_124) rfl) dMO_isOpen_21 ?_
      refine lv_iconst (v := 2) hx hb dMO_isOpen_24 (by decide) ?_
      refine lv_iload_n hx hb dMO_isOpen_25 rfl (lv_at hl 1 rfl) ?_
      refine z_imul hx hb dMO_isOpen_26 E (fun k4 ek4 E => ?_)
      have r_k4 : zr 0 118 k4 := zr_mul (show zr 2 2 2 from by decide) r_x0 ek4 (by decide)
      refine lv_iconst (v := 1) hx hb dMO_isOpen_27 (by decide) ?_
      refine z_iadd hx hb dMO_isOpen_28 E (fun k5 ek5 E => ?_)
      have r_k5 : zr 1 119 k5 := zr_add r_k4 (show zr 1 1 1 from by decide) ek5 (by decide)
      refine m_aldS hx hb hK hP 10 (by decide) rfl r_k5 (by decide) dMO_isOpen_29 E (fun k6 ek6 E => ?_)
      refine z_if_ne (tgt := 37) hx hb dMO_isOpen_30 (by decide) E (fun c_30 E => ?_) (fun c_30 E => ?_)
      · exact hJ37 s.heap [] ls  E hP hS (lv_sub hl [] rfl)
      · have r_k6 : zr 0 0 k6 := zeq_x (show zr 0 0 0 from by decide) c_30
        refine lv_iconst (v := 1) hx hb dMO_isOpen_33 (by decide) ?_
        refine lv_goto (tgt := 38) hx hb dMO_isOpen_34 (by decide) ?_
        rw [hQe]
        exact W.zret (v := 1) (ty := .boolean) hx hb hr (znar (show zr 0 1 1 from by decide)) (fun t ht hW => ⟨⟨1, (), rfl, ⟨E.symm.trans etg, (show zr 0 1 1 from by decide)⟩, trivial⟩, hS.F ht⟩) hS.2.2 dMO_isOpen_38
noncomputable def fMO_look_100 (P : ZS) (S_100 : ZS) (y100_0 : Int32) (y100_1 : Int32) : ZS := zl (y100_1 + y100_0) (fun k1 => zl (S_100.setI 9 k1) (fun S2 => S2))
noncomputable def fMO_look_79 (P : ZS) (rc35 : ZS → Int32 → Int32 → (ZS)) (S_79 : ZS) (x79_2 : Int32) (y79_0 : Int32) : ZS := zl (x79_2 + 1) (fun k4 => rc35 S_79 y79_0 k4)
noncomputable def fMO_look_74 (P : ZS) (rc35 : ZS → Int32 → Int32 → (ZS)) (S_74 : ZS) (x74_2 : Int32) : ZS := fMO_look_79 P rc35 S_74 x74_2 1
noncomputable def fMO_look_70 (P : ZS) (rc35 : ZS → Int32 → Int32 → (ZS)) (S_70 : ZS) (x70_1 : Int32) (x70_2 : Int32) : ZS := (if x70_1 = 0 then fMO_look_79 P rc35 S_70 x70_2 0 else fMO_look_74 P rc35 S_70 x70_2)
noncomputable def fMO_look_35 (P : ZS) (rc35 : ZS → Int32 → Int32 → (ZS)) (S_35 : ZS) (x35_1 : Int32) (x35_2 : Int32) : ZS := zl (P.I 2) (fun k5 => (if k5 ≤ x35_2 then zl (S_35.I 9) (fun k6 => (if x35_1 = 0 then fMO_look_100 P S_35 0 k6 else fMO_look_100 P S_35 1 k6)) else zl (fMO_isOpen P S_35 x35_2) (fun k8 => (if k8 = 0 then fMO_look_70 P rc35 S_35 x35_1 x35_2 else zl (P.F 0 (x35_2 : Int32).toNatClampNeg) (fun k9 => zl (P.F 1 (x35_2 : Int32).toNatClampNeg) (fun k10 => zl2 (fMO_join P S_35 k9 k10) (fun S13 k12 => (if k12 = 0 then fMO_look_74 P rc35 S13 x35_2 else fMO_look_70 P rc35 S13 x35_1 x35_2))))))))
noncomputable def fMO_look_10 (P : ZS) (rc10 : ZS → Int32 → (ZS)) (S_10 : ZS) (x10_1 : Int32) : ZS := zl (P.I 1) (fun k15 => (if k15 ≤ x10_1 then zfix (fun S9 _ _ => S9) (fMO_look_35 P) 61 S_10 0 0 else zl (S_10.setF 33 (x10_1 : Int32).toNatClampNeg x10_1) (fun S16 => zl (x10_1 + 1) (fun k18 => rc10 S16 k18))))
noncomputable def fMO_look (P S : ZS) : ZS := zl (S.I 3) (fun k19 => (if k19 ≤ 0 then zfix (fun S9 _ => S9) (fMO_look_10 P) 49 S 0 else S))
set_option maxHeartbeats 4000000 in
set_option maxRecDepth 100000 in
theorem tMO_look (l : Launch) (dC : Nat → ClassId) (dI : Nat → Nat → Nat) (cI cZ cJ cA : ClassId) (a0 : Array Value) (s0 : State) (o b : Nat → Nat) (P S : ZS) (sz : Nat) (gP : mok P) (gS : mok S) : Met l yMO_look [Cond.code yMO_look bMO_look 3 none] ({ frames := 1, cells := 0, slots := 0, locals := 25 } : Room) (zP zCl dC dI (zTZ cI cZ cJ cA) a0 s0 [.ref (o 0)] sz (MW cI cZ cA o b P S)) (zQG zCl dC dI (fun (x9 : ZS) => x9 = fMO_look P S  ∧ mok x9) (fun x9 : ZS => (MW cI cZ cA o b P x9)) (va_A (MW cI cZ cA o b P S) sz)) 0 0 (va_A (MW cI cZ cA o b P S) sz) := by
  refine Met.ofW (cc := bMO_look) (maxL := 3) (ret := none) (by decide) rfl ?_
  intro p e s m args below meth c s₁ B hml hv
  obtain ⟨rfl, hsz, hP, hK, hD0, hB⟩ := hv
  have hx := B.exec
  have hb := B.bytes
  have hr := B.returns
  have hown : s.vm.findClass "RingGuardModel" = some m.cls := findClass_of_methodNamed B.named
  have hlocks := B.notSynchronized
  subst hsz
  have hD := hD0.self (sz := s.heap.size)
  have hA0 := zA0 hD0 hB
  generalize hAe : va_A (MW cI cZ cA o b P S) s.heap.size = A at hD hA0 ⊢
  have hAD := hA0
  have hA : ∀ q : Nat, s.heap.size ≤ q → A q := fun q h => by rw [← hAe]; exact Or.inr h
  have hS : va_S A s.heap s.heap [] := va_S.rf
  have hl := lv_entry ([.ref (o 0)]) (n := 3) (Nat.le_of_ble_eq_true rfl)
  rw [lg_entry_eq]
  generalize (lg_sl ([.ref (o 0)]) ++ List.replicate (3 - (lg_sl ([.ref (o 0)])).length) Slot.unset).toArray = ls at hl ⊢
  have hl : lv_has ls 3 [(0, .ref (o 0))] := hl
  refine zgenQ (fun Q hQe => ?_)
  obtain ⟨tg, etg⟩ : ∃ z, z = fMO_look P S  := ⟨_, rfl⟩
  have E := etg
  unfold fMO_look at E
  have hL10 : ∀ (n10 : Nat) (H : Heap) (locs : List Loc) (ls : Array Slot) (S_10 : ZS) (x10_1 : Int32), zr 0 48 x10_1 → mok S_10 → 48 + 1 - x10_1.toInt ≤ (n10 : Int) → tg = zfix (fun S9 _ => S9) (fMO_look_10 P) n10 S_10 x10_1 → va_P (dC, dI) zCl (MW cI cZ cA o b P S_10) H → va_D A (MW cI cZ cA o b P S_10) → va_S A s.heap H locs → lv_has ls 3 [(0, .ref (o 0)), (1, .int x10_1)] → W p l e ({ frames := 1, cells := 0, slots := 0, locals := 25 } : Room) s m ([.ref (o 0)] : List Value).toArray below meth c H locs 0 0 Q (F0 m 10 ls []) := by
    intro n10
    induction n10 with
    | zero => intro H locs ls S_10 x10_1 r_x10_1 gS_10 hm10 E hP hD hS hl; exact absurd hm10 (zfuel0U r_x10_1)
    | succ n10 ih10 =>
      intro H locs ls S_10 x10_1 r_x10_1 gS_10 hm10 E hP hD hS hl
      rw [zfix_s] at E
      generalize zfix (fun S9 _ => S9) (fMO_look_10 P) n10 = rc10 at ih10 E
      unfold fMO_look_10 at E
      have hL35 : ∀ (n35 : Nat) (H : Heap) (locs : List Loc) (ls : Array Slot) (S_35 : ZS) (x35_1 : Int32) (x35_2 : Int32), zr 0 1 x35_1 → zr 0 60 x35_2 → mok S_35 → (x35_1 = 0 ∨ zr 1 60 (x35_2)) → 60 + 1 - x35_2.toInt ≤ (n35 : Int) → tg = zfix (fun S9 _ _ => S9) (fMO_look_35 P) n35 S_35 x35_1 x35_2 → va_P (dC, dI) zCl (MW cI cZ cA o b P S_35) H → va_D A (MW cI cZ cA o b P S_35) → va_S A s.heap H locs → lv_has ls 3 [(0, .ref (o 0)), (1, .int x35_1), (2, .int x35_2)] → W p l e ({ frames := 1, cells := 0, slots := 0, locals := 25 } : Room) s m ([.ref (o 0)] : List Value).toArray below meth c H locs 0 0 Q (F0 m 35 ls []) := by
        intro n35
        induction n35 with
        | zero => intro H locs ls S_35 x35_1 x35_2 r_x35_1 r_x35_2 gS_35 cd35_0 hm35 E hP hD hS hl; exact absurd hm35 (zfuel0U r_x35_2)
        | succ n35 ih35 =>
          intro H locs ls S_35 x35_1 x35_2 r_x35_1 r_x35_2 gS_35 cd35_0 hm35 E hP hD hS hl
          rw [zfix_s] at E
          generalize zfix (fun S9 _ _ => S9) (fMO_look_35 P) n35 = rc35 at ih35 E
          unfold fMO_look_35 at E
          have hJ100 : ∀ (H : Heap) (locs : List Loc) (ls : Array Slot) (S_100 : ZS) (y100_0 : Int32) (y100_1 : Int32), zr 0 1 y100_0 → mok S_100 → tg = fMO_look_100 P S_100 y100_0 y100_1 → va_P (dC, dI) zCl (MW cI cZ cA o b P S_100) H → va_D A (MW cI cZ cA o b P S_100) → va_S A s.heap H locs → lv_has ls 3 [] → W p l e ({ frames := 1, cells := 0, slots := 0, locals := 25 } : Room) s m ([.ref (o 0)] : List Value).toArray below meth c H locs 0 0 Q (F0 m 100 ls [.int y100_0, .int y100_1, .ref (o 0)]) := by
            intro H locs ls S_100 y100_0 y100_1 r_y100_0 gS_100 E hP hD hS hl
            unfold fMO_look_100 at E
            refine z_iadd hx hb dMO_look_100 E (fun k1 ek1 E => ?_)
            refine m_put_9 hx hb (hB.words zU_MO) hown hK hP hD hS (hB.word (zm4 k4_156) rfl) dMO_look_101 E (fun S2 H3 locs eS2 E hP hD hS => ?_)
            have gS2 : mok S2 := by rw [eS2]; exact gS_100.setI (t := 9) (zr_any k1)
            rw [hQe]
            exact W.vret hx hb hr (fun t ht hW => ⟨⟨S2, rfl, ⟨E.symm.trans etg, gS2⟩, by rw [ht]; exact hP, hD⟩, hS.F ht⟩) hS.2.2 dMO_look_104
          have hJ79 : ∀ (H : Heap) (locs : List Loc) (ls : Array Slot) (S_79 : ZS) (x79_2 : Int32) (y79_0 : Int32), zr 0 59 x79_2 → zr 0 1 y79_0 → mok S_79 → 60 + 1 - x79_2.toInt ≤ ((n35 + 1 : Nat) : Int) → tg = fMO_look_79 P rc35 S_79 x79_2 y79_0 → va_P (dC, dI) zCl (MW cI cZ cA o b P S_79) H → va_D A (MW cI cZ cA o b P S_79) → va_S A s.heap H locs → lv_has ls 3 [(0, .ref (o 0)), (2, .int x79_2)] → W p l e ({ frames := 1, cells := 0, slots := 0, locals := 25 } : Room) s m ([.ref (o 0)] : List Value).toArray below meth c H locs 0 0 Q (F0 m 79 ls [.int y79_0]) := by
            intro H locs ls S_79 x79_2 y79_0 r_x79_2 r_y79_0 gS_79 hm35_79 E hP hD hS hl
            unfold fMO_look_79 at E
            refine lv_istore_n (lv' := [(1, .int y79_0), (0, .ref (o 0)), (2, .int x79_2)]) hx hb dMO_look_79 rfl hl (by decide) rfl (fun ls hl => ?_)
            refine z_iinc (lv' := fun v9 => [(2, .int v9), (1, .int y79_0), (0, .ref (o 0))]) (cst := 1) hx hb dMO_look_80 hl (k := 2) rfl (by decide) (by decide) (fun _ => rfl) E (fun k4 ls ek4 E hl => ?_)
            have r_k4 : zr 1 60 k4 := zr_add r_x79_2 (show zr 1 1 1 from by decide) ek4 (by decide)
            refine lv_goto (tgt := 35) hx hb dMO_look_83 (by decide) ?_
            exact ih35 H locs ls S_79 y79_0 k4 r_y79_0 (zr_mono r_k4 (by decide)) gS_79 (Or.inr r_k4) (zstepU ek4 r_x79_2 (by decide) hm35_79) E hP hD hS (lv_sub hl [2, 1, 0] rfl)
          have hJ74 : ∀ (H : Heap) (locs : List Loc) (ls : Array Slot) (S_74 : ZS) (x74_2 : Int32), zr 0 59 x74_2 → mok S_74 → 60 + 1 - x74_2.toInt ≤ ((n35 + 1 : Nat) : Int) → tg = fMO_look_74 P rc35 S_74 x74_2 → va_P (dC, dI) zCl (MW cI cZ cA o b P S_74) H → va_D A (MW cI cZ cA o b P S_74) → va_S A s.heap H locs → lv_has ls 3 [(0, .ref (o 0)), (2, .int x74_2)] → W p l e ({ frames := 1, cells := 0, slots := 0, locals := 25 } : Room) s m ([.ref (o 0)] : List Value).toArray below meth c H locs 0 0 Q (F0 m 74 ls []) := by
            intro H locs ls S_74 x74_2 r_x74_2 gS_74 hm35_74 E hP hD hS hl
            unfold fMO_look_74 at E
            refine lv_iconst (v := 1) hx hb dMO_look_74 (by decide) ?_
            refine lv_goto (tgt := 79) hx hb dMO_look_75 (by decide) ?_
            exact hJ79 H locs ls S_74 x74_2 1 r_x74_2 (show zr 0 1 1 from by decide) gS_74 hm35_74 E hP hD hS (lv_sub hl [0, 1] rfl)
          have hJ70 : ∀ (H : Heap) (locs : List Loc) (ls : Array Slot) (S_70 : ZS) (x70_1 : Int32) (x70_2 : Int32), zr 0 1 x70_1 → zr 0 59 x70_2 → mok S_70 → 60 + 1 - x70_2.toInt ≤ ((n35 + 1 : Nat) : Int) → tg = fMO_look_70 P rc35 S_70 x70_1 x70_2 → va_P (dC, dI) zCl (MW cI cZ cA o b P S_70) H → va_D A (MW cI cZ cA o b P S_70) → va_S A s.heap H locs → lv_has ls 3 [(0, .ref (o 0)), (1, .int x70_1), (2, .int x70_2)] → W p l e ({ frames := 1, cells := 0, slots := 0, locals := 25 } : Room) s m ([.ref (o 0)] : List Value).toArray below meth c H locs 0 0 Q (F0 m 70 ls []) := by
            intro H locs ls S_70 x70_1 x70_2 r_x70_1 r_x70_2 gS_70 hm35_70 E hP hD hS hl
            unfold fMO_look_70 at E
            refine lv_iload_n hx hb dMO_look_70 rfl (lv_at hl 1 rfl) ?_
            refine z_if_eq (tgt := 78) hx hb dMO_look_71 (by decide) E (fun c_71 E => ?_) (fun c_71 E => ?_)
            · have r_x70_1 : zr 0 0 x70_1 := zeq_x (show zr 0 0 0 from by decide) c_71
              refine lv_iconst (v := 0) hx hb dMO_look_78 (by decide) ?_
              exact hJ79 H locs ls S_70 x70_2 0 r_x70_2 (show zr 0 1 0 from by decide) gS_70 hm35_70 E hP hD hS (lv_sub hl [0, 2] rfl)
            · have r_x70_1 : zr 1 1 x70_1 := zne_lo r_x70_1 c_71 (by decide)
              exact hJ74 H locs ls S_70 x70_2 r_x70_2 gS_70 hm35_70 E hP hD hS (lv_sub hl [0, 2] rfl)
          refine lv_iload_n hx hb dMO_look_35 rfl (lv_at hl 2 rfl) ?_
          refine lv_aload_n hx hb dMO_look_36 rfl (lv_at hl 0 rfl) ?_
          refine m_get_2 hx hb (hB.words zU_MO) hown hK hP (hB.word (zm4 k4_117) rfl) dMO_look_37 E (fun k5 ek5 E => ?_)
          have r_k5 : zr 0 60 k5 := by rw [ek5]; exact gP.2.1 2
          refine z_icmp_ge (tgt := 86) hx hb dMO_look_40 (by decide) E (fun c_40 E => ?_) (fun c_40 E => ?_)
          · refine lv_aload_n hx hb dMO_look_86 rfl (lv_at hl 0 rfl) ?_
            refine lv_dup hx hb dMO_look_87 rfl ?_
            refine m_get_9 hx hb (hB.words zU_MO) hown hK hP (hB.word (zm4 k4_156) rfl) dMO_look_88 E (fun k6 ek6 E => ?_)
            refine lv_iload_n hx hb dMO_look_91 rfl (lv_at hl 1 rfl) ?_
            refine z_if_eq (tgt := 99) hx hb dMO_look_92 (by decide) E (fun c_92 E => ?_) (fun c_92 E => ?_)
            · have r_x35_1 : zr 0 0 x35_1 := zeq_x (show zr 0 0 0 from by decide) c_92
              refine lv_iconst (v := 0) hx hb dMO_look_99 (by decide) ?_
              exact hJ100 H locs ls S_35 0 k6 (show zr 0 1 0 from by decide) gS_35 E hP hD hS (lv_sub hl [] rfl)
            · have r_x35_1 : zr 1 1 x35_1 := zne_lo r_x35_1 c_92 (by decide)
              have r_x35_2 : zr 1 60 x35_2 := (cd35_0).resolve_left (zrne r_x35_1 (by decide))
              refine lv_iconst (v := 1) hx hb dMO_look_95 (by decide) ?_
              refine lv_goto (tgt := 100) hx hb dMO_look_96 (by decide) ?_
              exact hJ100 H locs ls S_35 1 k6 (show zr 0 1 1 from by decide) gS_35 E hP hD hS (lv_sub hl [] rfl)
          · have r_x35_2 : zr 0 59 x35_2 := zlt_x r_x35_2 r_k5 (znle c_40) (by decide)
            have r_k5 : zr 1 60 k5 := zlt_y r_x35_2 r_k5 (znle c_40) (by decide)
            refine lv_aload_n hx hb dMO_look_43 rfl (lv_at hl 0 rfl) ?_
            refine lv_iload_n hx hb dMO_look_44 rfl (lv_at hl 2 rfl) ?_
            refine zcallp (va_runV (As := [.int x35_2]) (rest := []) ⟨hx, hb, hml, hown, zno⟩ (tMO_isOpen l dC dI cI cZ cJ cA a0 s0 o b P S_35 H.size x35_2 gP gS_35 r_x35_2) (zcw 1 (hB.word (zm5 k5_147) rfl) (hB.word (zm1 k1_9) rfl) (hB.word (zm5 k5_144) rfl) (hB.word (zm5 k5_146) rfl) (k2_selects_private (by decide) (hB.word (zm4 k4_109) rfl) (hB.word (zm5 k5_145) rfl) (hB.word (zm5 k5_146) rfl)) rfl rfl (by decide +kernel) ⟨Nat.le_of_ble_eq_true rfl, Nat.le_of_ble_eq_true rfl⟩) ⟨zP_blind, va_recv hK hP (ci := 7) (q0 := 0) rfl rfl, zP_pre hP hK hD hAD (zB_on hB hA0 hS)⟩ rfl rfl hl.1 rfl (lv_room (Nat.le_of_ble_eq_true rfl)) dMO_look_45 ⟨Nat.le_of_ble_eq_true rfl, Nat.le_of_ble_eq_true rfl⟩) hS hA (fun k8 H7 locs hk8 hz1 hk1 hS => ?_)
            have hP := zKeep hP hk1
            have E := zl_s E hk8.1
            refine z_if_eq (tgt := 70) hx hb dMO_look_48 (by decide) E (fun c_48 E => ?_) (fun c_48 E => ?_)
            · have r_k8 : zr 0 0 k8 := zeq_x (show zr 0 0 0 from by decide) c_48
              exact hJ70 H7 locs ls S_35 x35_1 x35_2 r_x35_1 r_x35_2 gS_35 hm35 E hP hD hS (lv_sub hl [0, 1, 2] rfl)
            · have r_k8 : zr 1 1 k8 := zne_lo hk8.2 c_48 (by decide)
              refine lv_aload_n hx hb dMO_look_51 rfl (lv_at hl 0 rfl) ?_
              refine lv_aload_n hx hb dMO_look_52 rfl (lv_at hl 0 rfl) ?_
              refine m_getA_0 hx hb (hB.words zU_MO) hown hK hP (hB.word (zm4 k4_118) rfl) dMO_look_53 ?_
              refine lv_iload_n hx hb dMO_look_56 rfl (lv_at hl 2 rfl) ?_
              refine m_aldP hx hb hK hP 0 (by decide) rfl r_x35_2 (by decide) dMO_look_57 E (fun k9 ek9 E => ?_)
              have r_k9 : zr 0 47 k9 := by rw [ek9]; exact gP.1 0 _
              refine lv_aload_n hx hb dMO_look_58 rfl (lv_at hl 0 rfl) ?_
              refine m_getA_1 hx hb (hB.words zU_MO) hown hK hP (hB.word (zm4 k4_119) rfl) dMO_look_59 ?_
              refine lv_iload_n hx hb dMO_look_62 rfl (lv_at hl 2 rfl) ?_
              refine m_aldP hx hb hK hP 1 (by decide) rfl r_x35_2 (by decide) dMO_look_63 E (fun k10 ek10 E => ?_)
              have r_k10 : zr 0 47 k10 := by rw [ek10]; exact gP.1 1 _
              refine zcI (va_runV (As := [.int k9, .int k10]) (rest := []) ⟨hx, hb, hml, hown, zno⟩ (tMO_join l dC dI cI cZ cJ cA a0 s0 o b P S_35 H7.size k9 k10 gP gS_35 r_k9 r_k10) (zcw 2 (hB.word (zm5 k5_100) rfl) (hB.word (zm1 k1_9) rfl) (hB.word (zm5 k5_97) rfl) (hB.word (zm5 k5_99) rfl) (k2_selects_private (by decide) (hB.word (zm4 k4_109) rfl) (hB.word (zm5 k5_98) rfl) (hB.word (zm5 k5_99) rfl)) rfl rfl (by decide +kernel) ⟨Nat.le_of_ble_eq_true rfl, Nat.le_of_ble_eq_true rfl⟩) ⟨zP_blind, va_recv hK hP (ci := 7) (q0 := 0) rfl rfl, zP_pre hP hK hD hAD (zB_on hB hA0 hS)⟩ rfl rfl hl.1 rfl (lv_room (Nat.le_of_ble_eq_true rfl)) dMO_look_64 ⟨Nat.le_of_ble_eq_true rfl, Nat.le_of_ble_eq_true rfl⟩) hD hS hA (fun k12 S13 H11 locs h14 hP hD hS => ?_)
              have E := zl2_s E h14.1
              have gS13 := h14.2.1
              refine z_if_eq (tgt := 74) hx hb dMO_look_67 (by decide) E (fun c_67 E => ?_) (fun c_67 E => ?_)
              · have r_k12 : zr 0 0 k12 := zeq_x (show zr 0 0 0 from by decide) c_67
                exact hJ74 H11 locs ls S13 x35_2 r_x35_2 gS13 hm35 E hP hD hS (lv_sub hl [0, 2] rfl)
              · have r_k12 : zr 1 1 k12 := zne_lo h14.2.2 c_67 (by decide)
                exact hJ70 H11 locs ls S13 x35_1 x35_2 r_x35_1 r_x35_2 gS13 hm35 E hP hD hS (lv_sub hl [0, 1, 2] rfl)
      refine lv_iload_n hx hb dMO_look_10 rfl (lv_at hl 1 rfl) ?_
      refine lv_aload_n hx hb dMO_look_11 rfl (lv_at hl 0 rfl) ?_
      refine m_get_1 hx hb (hB.words zU_MO) hown hK hP (hB.word (zm4 k4_116) rfl) dMO_look_12 E (fun k15 ek15 E => ?_)
      have r_k15 : zr 0 48 k15 := by rw [ek15]; exact gP.2.1 1
      refine z_icmp_ge (tgt := 31) hx hb dMO_look_15 (by decide) E (fun c_15 E => ?_) (fun c_15 E => ?_)
      · refine lv_iconst (v := 0) hx hb dMO_look_31 (by decide) ?_
        refine lv_istore_n (lv' := [(1, .int 0), (0, .ref (o 0))]) hx hb dMO_look_32 rfl hl (by decide) rfl (fun ls hl => ?_)
        refine lv_iconst (v := 0) hx hb dMO_look_33 (by decide) ?_
        refine lv_istore_n (lv' := [(2, .int 0), (1, .int 0), (0, .ref (o 0))]) hx hb dMO_look_34 rfl hl (by decide) rfl (fun ls hl => ?_)
        exact hL35 61 H locs ls S_10 0 0 (show zr 0 1 0 from by decide) (show zr 0 60 0 from by decide) gS_10 (Or.inl rfl) (by have h9 := (show zr 0 0 0 from by decide); exact zfuelU h9 (by decide)) E hP hD hS (lv_sub hl [2, 1, 0] rfl)
      · have r_x10_1 : zr 0 47 x10_1 := zlt_x r_x10_1 r_k15 (znle c_15) (by decide)
        have r_k15 : zr 1 48 k15 := zlt_y r_x10_1 r_k15 (znle c_15) (by decide)
        refine lv_aload_n hx hb dMO_look_18 rfl (lv_at hl 0 rfl) ?_
        refine m_getA_33 hx hb (hB.words zU_MO) hown hK hP (hB.word (zm4 k4_158) rfl) dMO_look_19 ?_
        refine lv_iload_n hx hb dMO_look_22 rfl (lv_at hl 1 rfl) ?_
        refine lv_iload_n hx hb dMO_look_23 rfl (lv_at hl 1 rfl) ?_
        refine m_astS hx hb hK hP hD hS 33 (by decide) rfl r_x10_1 (by decide) dMO_look_24 E (fun S16 H17 locs eS16 E hP hD hS => ?_)
        have gS16 : mok S16 := by rw [eS16]; exact gS_10.setF (k := 33) r_x10_1 (Or.inl (by decide))
        refine z_iinc (lv' := fun v9 => [(1, .int v9), (0, .ref (o 0))]) (cst := 1) hx hb dMO_look_25 hl (k := 1) rfl (by decide) (by decide) (fun _ => rfl) E (fun k18 ls ek18 E hl => ?_)
        have r_k18 : zr 1 48 k18 := zr_add r_x10_1 (show zr 1 1 1 from by decide) ek18 (by decide)
        refine lv_goto (tgt := 10) hx hb dMO_look_28 (by decide) ?_
        exact ih10 H17 locs ls S16 k18 (zr_mono r_k18 (by decide)) gS16 (zstepU ek18 r_x10_1 (by decide) hm10) E hP hD hS (lv_sub hl [1, 0] rfl)
  refine lv_aload_n hx hb dMO_look_0 rfl (lv_at hl 0 rfl) ?_
  refine m_get_3 hx hb (hB.words zU_MO) hown hK hP (hB.word (zm4 k4_114) rfl) dMO_look_1 E (fun k19 ek19 E => ?_)
  have r_k19 : zr 0 2 k19 := by rw [ek19]; exact gS.2.1 3
  refine z_if_le (tgt := 8) hx hb dMO_look_4 (by decide) E (fun c_4 E => ?_) (fun c_4 E => ?_)
  · have r_k19 : zr 0 0 k19 := zle_x r_k19 (show zr 0 0 0 from by decide) c_4 (by decide)
    refine lv_iconst (v := 0) hx hb dMO_look_8 (by decide) ?_
    refine lv_istore_n (lv' := [(1, .int 0), (0, .ref (o 0))]) hx hb dMO_look_9 rfl hl (by decide) rfl (fun ls hl => ?_)
    exact hL10 49 s.heap [] ls S 0 (show zr 0 48 0 from by decide) gS (by have h9 := (show zr 0 0 0 from by decide); exact zfuelU h9 (by decide)) E hP hD hS (lv_sub hl [1, 0] rfl)
  · have r_k19 : zr 1 2 k19 := zlt_y (show zr 0 0 0 from by decide) r_k19 (znle c_4) (by decide)
    rw [hQe]
    exact W.vret hx hb hr (fun t ht hW => ⟨⟨S, rfl, ⟨E.symm.trans etg, gS⟩, by rw [ht]; exact hP, hD⟩, hS.F ht⟩) hS.2.2 dMO_look_7
noncomputable def fMO_isCalm_107 (P : ZS) (S : ZS) (rc38 : Int32 → Int32 → (Int32)) (x107_2 : Int32) (y107_0 : Int32) : Int32 := zl (x107_2 + 1) (fun k1 => rc38 y107_0 k1)
noncomputable def fMO_isCalm_106 (P : ZS) (S : ZS) (rc38 : Int32 → Int32 → (Int32)) (x106_2 : Int32) : Int32 := fMO_isCalm_107 P S rc38 x106_2 0
noncomputable def fMO_isCalm_85 (P : ZS) (S : ZS) (rc38 : Int32 → Int32 → (Int32)) (rc49 : Int32 → Int32 → Int32 → Int32 → (Int32)) (x85_1 : Int32) (x85_2 : Int32) (x85_4 : Int32) (y85_0 : Int32) (y85_1 : Int32) : Int32 := zl (y85_1 + y85_0) (fun k2 => zl (x85_4 + 1) (fun k3 => rc49 x85_1 x85_2 k2 k3))
noncomputable def fMO_isCalm_84 (P : ZS) (S : ZS) (rc38 : Int32 → Int32 → (Int32)) (rc49 : Int32 → Int32 → Int32 → Int32 → (Int32)) (x84_1 : Int32) (x84_2 : Int32) (x84_4 : Int32) (y84_0 : Int32) : Int32 := fMO_isCalm_85 P S rc38 rc49 x84_1 x84_2 x84_4 0 y84_0
noncomputable def fMO_isCalm_49 (P : ZS) (S : ZS) (rc38 : Int32 → Int32 → (Int32)) (rc49 : Int32 → Int32 → Int32 → Int32 → (Int32)) (x49_1 : Int32) (x49_2 : Int32) (x49_3 : Int32) (x49_4 : Int32) : Int32 := zl (P.I 2) (fun k4 => (if k4 ≤ x49_4 then (if x49_1 = 0 then fMO_isCalm_106 P S rc38 x49_2 else (if 2 ≤ x49_3 then fMO_isCalm_106 P S rc38 x49_2 else fMO_isCalm_107 P S rc38 x49_2 1)) else zl (P.F 2 (x49_4 : Int32).toNatClampNeg) (fun k5 => (if k5 = x49_2 then zl (S.F 7 (x49_4 : Int32).toNatClampNeg) (fun k6 => (if k6 = 0 then fMO_isCalm_84 P S rc38 rc49 x49_1 x49_2 x49_4 x49_3 else fMO_isCalm_85 P S rc38 rc49 x49_1 x49_2 x49_4 1 x49_3)) else fMO_isCalm_84 P S rc38 rc49 x49_1 x49_2 x49_4 x49_3))))
noncomputable def fMO_isCalm_38 (P : ZS) (S : ZS) (rc38 : Int32 → Int32 → (Int32)) (x38_1 : Int32) (x38_2 : Int32) : Int32 := (if 6 ≤ x38_2 then x38_1 else zfix (fun _ _ _ _ => 0) (fMO_isCalm_49 P S rc38) 61 x38_1 x38_2 0 0)
noncomputable def fMO_isCalm_29 (P : ZS) (S : ZS) (rc4 : Int32 → Int32 → (Int32)) (x29_2 : Int32) (y29_0 : Int32) : Int32 := zl (x29_2 + 1) (fun k7 => rc4 y29_0 k7)
noncomputable def fMO_isCalm_28 (P : ZS) (S : ZS) (rc4 : Int32 → Int32 → (Int32)) (x28_2 : Int32) : Int32 := fMO_isCalm_29 P S rc4 x28_2 0
noncomputable def fMO_isCalm_4 (P : ZS) (S : ZS) (rc4 : Int32 → Int32 → (Int32)) (x4_1 : Int32) (x4_2 : Int32) : Int32 := (if 288 ≤ x4_2 then zfix (fun _ _ => 0) (fMO_isCalm_38 P S) 7 x4_1 0 else (if x4_1 = 0 then fMO_isCalm_28 P S rc4 x4_2 else zl (S.F 15 (x4_2 : Int32).toNatClampNeg) (fun k8 => (if k8 = 0 then fMO_isCalm_29 P S rc4 x4_2 1 else fMO_isCalm_28 P S rc4 x4_2))))
noncomputable def fMO_isCalm (P S : ZS) : Int32 := zfix (fun _ _ => 0) (fMO_isCalm_4 P S) 289 1 0
set_option maxHeartbeats 4000000 in
set_option maxRecDepth 100000 in
theorem tMO_isCalm (l : Launch) (dC : Nat → ClassId) (dI : Nat → Nat → Nat) (cI cZ cJ cA : ClassId) (a0 : Array Value) (s0 : State) (o b : Nat → Nat) (P S : ZS) (sz : Nat) (gP : mok P) (gS : mok S) : Met l yMO_isCalm [Cond.code yMO_isCalm bMO_isCalm 5 (some .boolean)] ({ frames := 0, cells := 0, slots := 0, locals := 0 } : Room) (zP zCl dC dI (zTZ cI cZ cJ cA) a0 s0 [.ref (o 0)] sz (MW cI cZ cA o b P S)) (zQp (fun r => r = fMO_isCalm P S  ∧ zr 0 1 r) sz) 0 0 (zN sz) := by
  refine Met.ofW (cc := bMO_isCalm) (maxL := 5) (ret := (some .boolean)) (by decide) rfl ?_
  intro p e s m args below meth c s₁ B hml hv
  obtain ⟨rfl, hsz, hP, hK, hD0, hB⟩ := hv
  have hx := B.exec
  have hb := B.bytes
  have hr := B.returns
  have hown : s.vm.findClass "RingGuardModel" = some m.cls := findClass_of_methodNamed B.named
  have hlocks := B.notSynchronized
  subst hsz
  have hD := hD0
  have hA0 : ∀ q, zN s.heap.size q → s0.heap.size ≤ q := zA1 hB
  have hAD : ∀ q, zN s0.heap.size q → s0.heap.size ≤ q := fun _ h => h
  have hA : ∀ q : Nat, s.heap.size ≤ q → zN s.heap.size q := fun _ h => h
  have hS : va_S (zN s.heap.size) s.heap s.heap [] := va_S.rf
  have hl := lv_entry ([.ref (o 0)]) (n := 5) (Nat.le_of_ble_eq_true rfl)
  rw [lg_entry_eq]
  generalize (lg_sl ([.ref (o 0)]) ++ List.replicate (5 - (lg_sl ([.ref (o 0)])).length) Slot.unset).toArray = ls at hl ⊢
  have hl : lv_has ls 5 [(0, .ref (o 0))] := hl
  refine zgenQ (fun Q hQe => ?_)
  obtain ⟨tg, etg⟩ : ∃ z, z = fMO_isCalm P S  := ⟨_, rfl⟩
  have E := etg
  unfold fMO_isCalm at E
  have hL4 : ∀ (n4 : Nat) (H : Heap) (locs : List Loc) (ls : Array Slot) (x4_1 : Int32) (x4_2 : Int32), zr 0 1 x4_1 → zr 0 288 x4_2 → (x4_1 = 1 ∨ zr 1 288 (x4_2)) → 288 + 1 - x4_2.toInt ≤ (n4 : Int) → tg = zfix (fun _ _ => 0) (fMO_isCalm_4 P S) n4 x4_1 x4_2 → va_P (dC, dI) zCl (MW cI cZ cA o b P S) H → va_S (zN s.heap.size) s.heap H locs → lv_has ls 5 [(0, .ref (o 0)), (1, .int x4_1), (2, .int x4_2)] → W p l e ({ frames := 0, cells := 0, slots := 0, locals := 0 } : Room) s m ([.ref (o 0)] : List Value).toArray below meth c H locs 0 0 Q (F0 m 4 ls []) := by
    intro n4
    induction n4 with
    | zero => intro H locs ls x4_1 x4_2 r_x4_1 r_x4_2 cd4_0 hm4 E hP hS hl; exact absurd hm4 (zfuel0U r_x4_2)
    | succ n4 ih4 =>
      intro H locs ls x4_1 x4_2 r_x4_1 r_x4_2 cd4_0 hm4 E hP hS hl
      rw [zfix_s] at E
      generalize zfix (fun _ _ => 0) (fMO_isCalm_4 P S) n4 = rc4 at ih4 E
      unfold fMO_isCalm_4 at E
      have hL38 : ∀ (n38 : Nat) (H : Heap) (locs : List Loc) (ls : Array Slot) (x38_1 : Int32) (x38_2 : Int32), zr 0 1 x38_1 → zr 0 6 x38_2 → 6 + 1 - x38_2.toInt ≤ (n38 : Int) → tg = zfix (fun _ _ => 0) (fMO_isCalm_38 P S) n38 x38_1 x38_2 → va_P (dC, dI) zCl (MW cI cZ cA o b P S) H → va_S (zN s.heap.size) s.heap H locs → lv_has ls 5 [(0, .ref (o 0)), (1, .int x38_1), (2, .int x38_2)] → W p l e ({ frames := 0, cells := 0, slots := 0, locals := 0 } : Room) s m ([.ref (o 0)] : List Value).toArray below meth c H locs 0 0 Q (F0 m 38 ls []) := by
        intro n38
        induction n38 with
        | zero => intro H locs ls x38_1 x38_2 r_x38_1 r_x38_2 hm38 E hP hS hl; exact absurd hm38 (zfuel0U r_x38_2)
        | succ n38 ih38 =>
          intro H locs ls x38_1 x38_2 r_x38_1 r_x38_2 hm38 E hP hS hl
          rw [zfix_s] at E
          generalize zfix (fun _ _ => 0) (fMO_isCalm_38 P S) n38 = rc38 at ih38 E
          unfold fMO_isCalm_38 at E
          have hL49 : ∀ (n49 : Nat) (H : Heap) (locs : List Loc) (ls : Array Slot) (x49_1 : Int32) (x49_2 : Int32) (x49_3 : Int32) (x49_4 : Int32), zr 0 1 x49_1 → zr 0 5 x49_2 → zr 0 60 x49_4 → 6 + 1 - x49_2.toInt ≤ ((n38 + 1 : Nat) : Int) → 60 + 1 - x49_4.toInt ≤ (n49 : Int) → tg = zfix (fun _ _ _ _ => 0) (fMO_isCalm_49 P S rc38) n49 x49_1 x49_2 x49_3 x49_4 → va_P (dC, dI) zCl (MW cI cZ cA o b P S) H → va_S (zN s.heap.size) s.heap H locs → lv_has ls 5 [(0, .ref (o 0)), (1, .int x49_1), (2, .int x49_2), (3, .int x49_3), (4, .int x49_4)] → W p l e ({ frames := 0, cells := 0, slots := 0, locals := 0 } : Room) s m ([.ref (o 0)] : List Value).toArray below meth c H locs 0 0 Q (F0 m 49 ls []) := by
            intro n49
            induction n49 with
            | zero => intro H locs ls x49_1 x49_2 x49_3 x49_4 r_x49_1 r_x49_2 r_x49_4 hm38_49 hm49 E hP hS hl; exact absurd hm49 (zfuel0U r_x49_4)
            | succ n49 ih49 =>
              intro H locs ls x49_1 x49_2 x49_3 x49_4 r_x49_1 r_x49_2 r_x49_4 hm38_49 hm49 E hP hS hl
              rw [zfix_s] at E
              generalize zfix (fun _ _ _ _ => 0) (fMO_isCalm_49 P S rc38) n49 = rc49 at ih49 E
              unfold fMO_isCalm_49 at E
              have hJ107 : ∀ (H : Heap) (locs : List Loc) (ls : Array Slot) (x107_2 : Int32) (y107_0 : Int32), zr 0 5 x107_2 → zr 0 1 y107_0 → 6 + 1 - x107_2.toInt ≤ ((n38 + 1 : Nat) : Int) → tg = fMO_isCalm_107 P S rc38 x107_2 y107_0 → va_P (dC, dI) zCl (MW cI cZ cA o b P S) H → va_S (zN s.heap.size) s.heap H locs → lv_has ls 5 [(0, .ref (o 0)), (2, .int x107_2)] → W p l e ({ frames := 0, cells := 0, slots := 0, locals := 0 } : Room) s m ([.ref (o 0)] : List Value).toArray below meth c H locs 0 0 Q (F0 m 107 ls [.int y107_0]) := by
                intro H locs ls x107_2 y107_0 r_x107_2 r_y107_0 hm38_107 E hP hS hl
                unfold fMO_isCalm_107 at E
                refine lv_istore_n (lv' := [(1, .int y107_0), (0, .ref (o 0)), (2, .int x107_2)]) hx hb dMO_isCalm_107 rfl hl (by decide) rfl (fun ls hl => ?_)
                refine z_iinc (lv' := fun v9 => [(2, .int v9), (1, .int y107_0), (0, .ref (o 0))]) (cst := 1) hx hb dMO_isCalm_108 hl (k := 2) rfl (by decide) (by decide) (fun _ => rfl) E (fun k1 ls ek1 E hl => ?_)
                have r_k1 : zr 1 6 k1 := zr_add r_x107_2 (show zr 1 1 1 from by decide) ek1 (by decide)
                refine lv_goto (tgt := 38) hx hb dMO_isCalm_111 (by decide) ?_
                exact ih38 H locs ls y107_0 k1 r_y107_0 (zr_mono r_k1 (by decide)) (zstepU ek1 r_x107_2 (by decide) hm38_107) E hP hS (lv_sub hl [2, 1, 0] rfl)
              have hJ106 : ∀ (H : Heap) (locs : List Loc) (ls : Array Slot) (x106_2 : Int32), zr 0 5 x106_2 → 6 + 1 - x106_2.toInt ≤ ((n38 + 1 : Nat) : Int) → tg = fMO_isCalm_106 P S rc38 x106_2 → va_P (dC, dI) zCl (MW cI cZ cA o b P S) H → va_S (zN s.heap.size) s.heap H locs → lv_has ls 5 [(0, .ref (o 0)), (2, .int x106_2)] → W p l e ({ frames := 0, cells := 0, slots := 0, locals := 0 } : Room) s m ([.ref (o 0)] : List Value).toArray below meth c H locs 0 0 Q (F0 m 106 ls []) := by
                intro H locs ls x106_2 r_x106_2 hm38_106 E hP hS hl
                unfold fMO_isCalm_106 at E
                refine lv_iconst (v := 0) hx hb dMO_isCalm_106 (by decide) ?_
                exact hJ107 H locs ls x106_2 0 r_x106_2 (show zr 0 1 0 from by decide) hm38_106 E hP hS (lv_sub hl [0, 1] rfl)
              have hJ85 : ∀ (H : Heap) (locs : List Loc) (ls : Array Slot) (x85_1 : Int32) (x85_2 : Int32) (x85_4 : Int32) (y85_0 : Int32) (y85_1 : Int32), zr 0 1 x85_1 → zr 0 5 x85_2 → zr 0 59 x85_4 → zr 0 1 y85_0 → 6 + 1 - x85_2.toInt ≤ ((n38 + 1 : Nat) : Int) → 60 + 1 - x85_4.toInt ≤ ((n49 + 1 : Nat) : Int) → tg = fMO_isCalm_85 P S rc38 rc49 x85_1 x85_2 x85_4 y85_0 y85_1 → va_P (dC, dI) zCl (MW cI cZ cA o b P S) H → va_S (zN s.heap.size) s.heap H locs → lv_has ls 5 [(0, .ref (o 0)), (1, .int x85_1), (2, .int x85_2), (4, .int x85_4)] → W p l e ({ frames := 0, cells := 0, slots := 0, locals := 0 } : Room) s m ([.ref (o 0)] : List Value).toArray below meth c H locs 0 0 Q (F0 m 85 ls [.int y85_0, .int y85_1]) := by
                intro H locs ls x85_1 x85_2 x85_4 y85_0 y85_1 r_x85_1 r_x85_2 r_x85_4 r_y85_0 hm38_85 hm49_85 E hP hS hl
                unfold fMO_isCalm_85 at E
                refine z_iadd hx hb dMO_isCalm_85 E (fun k2 ek2 E => ?_)
                refine lv_istore_n (lv' := [(3, .int k2), (0, .ref (o 0)), (1, .int x85_1), (2, .int x85_2), (4, .int x85_4)]) hx hb dMO_isCalm_86 rfl hl (by decide) rfl (fun ls hl => ?_)
                refine z_iinc (lv' := fun v9 => [(4, .int v9), (3, .int k2), (0, .ref (o 0)), (1, .int x85_1), (2, .int x85_2)]) (cst := 1) hx hb dMO_isCalm_87 hl (k := 4) rfl (by decide) (by decide) (fun _ => rfl) E (fun k3 ls ek3 E hl => ?_)
                have r_k3 : zr 1 60 k3 := zr_add r_x85_4 (show zr 1 1 1 from by decide) ek3 (by decide)
                refine lv_goto (tgt := 49) hx hb dMO_isCalm_90 (by decide) ?_
                exact ih49 H locs ls x85_1 x85_2 k2 k3 r_x85_1 r_x85_2 (zr_mono r_k3 (by decide)) hm38_85 (zstepU ek3 r_x85_4 (by decide) hm49_85) E hP hS (lv_sub hl [2, 3, 4, 1, 0] rfl)
              have hJ84 : ∀ (H : Heap) (locs : List Loc) (ls : Array Slot) (x84_1 : Int32) (x84_2 : Int32) (x84_4 : Int32) (y84_0 : Int32), zr 0 1 x84_1 → zr 0 5 x84_2 → zr 0 59 x84_4 → 6 + 1 - x84_2.toInt ≤ ((n38 + 1 : Nat) : Int) → 60 + 1 - x84_4.toInt ≤ ((n49 + 1 : Nat) : Int) → tg = fMO_isCalm_84 P S rc38 rc49 x84_1 x84_2 x84_4 y84_0 → va_P (dC, dI) zCl (MW cI cZ cA o b P S) H → va_S (zN s.heap.size) s.heap H locs → lv_has ls 5 [(0, .ref (o 0)), (1, .int x84_1), (2, .int x84_2), (4, .int x84_4)] → W p l e ({ frames := 0, cells := 0, slots := 0, locals := 0 } : Room) s m ([.ref (o 0)] : List Value).toArray below meth c H locs 0 0 Q (F0 m 84 ls [.int y84_0]) := by
                intro H locs ls x84_1 x84_2 x84_4 y84_0 r_x84_1 r_x84_2 r_x84_4 hm38_84 hm49_84 E hP hS hl
                unfold fMO_isCalm_84 at E
                refine lv_iconst (v := 0) hx hb dMO_isCalm_84 (by decide) ?_
                exact hJ85 H locs ls x84_1 x84_2 x84_4 0 y84_0 r_x84_1 r_x84_2 r_x84_4 (show zr 0 1 0 from by decide) hm38_84 hm49_84 E hP hS (lv_sub hl [0, 1, 2, 3] rfl)
              refine lv_iload hx hb dMO_isCalm_49 (lv_at hl 4 rfl) ?_
              refine lv_aload_n hx hb dMO_isCalm_51 rfl (lv_at hl 0 rfl) ?_
              refine m_get_2 hx hb (hB.words zU_MO) hown hK hP (hB.word (zm4 k4_117) rfl) dMO_isCalm_52 E (fun k4 ek4 E => ?_)
              have r_k4 : zr 0 60 k4 := by rw [ek4]; exact gP.2.1 2
              refine z_icmp_ge (tgt := 93) hx hb dMO_isCalm_55 (by decide) E (fun c_55 E => ?_) (fun c_55 E => ?_)
              · refine lv_iload_n hx hb dMO_isCalm_93 rfl (lv_at hl 1 rfl) ?_
                refine z_if_eq (tgt := 106) hx hb dMO_isCalm_94 (by decide) E (fun c_94 E => ?_) (fun c_94 E => ?_)
                · have r_x49_1 : zr 0 0 x49_1 := zeq_x (show zr 0 0 0 from by decide) c_94
                  exact hJ106 H locs ls x49_2 r_x49_2 hm38_49 E hP hS (lv_sub hl [0, 2] rfl)
                · have r_x49_1 : zr 1 1 x49_1 := zne_lo r_x49_1 c_94 (by decide)
                  refine lv_iload_n hx hb dMO_isCalm_97 rfl (lv_at hl 3 rfl) ?_
                  refine lv_iconst (v := 2) hx hb dMO_isCalm_98 (by decide) ?_
                  refine z_icmp_ge (tgt := 106) hx hb dMO_isCalm_99 (by decide) E (fun c_99 E => ?_) (fun c_99 E => ?_)
                  · have r_x49_3 : zr 2 2147483647 x49_3 := zle_y (show zr 2 2 2 from by decide) (zr_any x49_3) c_99 (by decide)
                    exact hJ106 H locs ls x49_2 r_x49_2 hm38_49 E hP hS (lv_sub hl [0, 2] rfl)
                  · have r_x49_3 : zr (-2147483648) 1 x49_3 := zlt_x (zr_any x49_3) (show zr 2 2 2 from by decide) (znle c_99) (by decide)
                    refine lv_iconst (v := 1) hx hb dMO_isCalm_102 (by decide) ?_
                    refine lv_goto (tgt := 107) hx hb dMO_isCalm_103 (by decide) ?_
                    exact hJ107 H locs ls x49_2 1 r_x49_2 (show zr 0 1 1 from by decide) hm38_49 E hP hS (lv_sub hl [0, 2] rfl)
              · have r_x49_4 : zr 0 59 x49_4 := zlt_x r_x49_4 r_k4 (znle c_55) (by decide)
                have r_k4 : zr 1 60 k4 := zlt_y r_x49_4 r_k4 (znle c_55) (by decide)
                refine lv_iload_n hx hb dMO_isCalm_58 rfl (lv_at hl 3 rfl) ?_
                refine lv_aload_n hx hb dMO_isCalm_59 rfl (lv_at hl 0 rfl) ?_
                refine m_getA_2 hx hb (hB.words zU_MO) hown hK hP (hB.word (zm4 k4_120) rfl) dMO_isCalm_60 ?_
                refine lv_iload hx hb dMO_isCalm_63 (lv_at hl 4 rfl) ?_
                refine m_aldP hx hb hK hP 2 (by decide) rfl r_x49_4 (by decide) dMO_isCalm_65 E (fun k5 ek5 E => ?_)
                have r_k5 : zr 0 5 k5 := by rw [ek5]; exact gP.1 2 _
                refine lv_iload_n hx hb dMO_isCalm_66 rfl (lv_at hl 2 rfl) ?_
                refine z_icmp_ne (tgt := 84) hx hb dMO_isCalm_67 (by decide) E (fun c_67 E => ?_) (fun c_67 E => ?_)
                · exact hJ84 H locs ls x49_1 x49_2 x49_4 x49_3 r_x49_1 r_x49_2 r_x49_4 hm38_49 hm49 E hP hS (lv_sub hl [0, 1, 2, 4] rfl)
                · refine lv_aload_n hx hb dMO_isCalm_70 rfl (lv_at hl 0 rfl) ?_
                  refine m_getA_7 hx hb (hB.words zU_MO) hown hK hP (hB.word (zm4 k4_121) rfl) dMO_isCalm_71 ?_
                  refine lv_iload hx hb dMO_isCalm_74 (lv_at hl 4 rfl) ?_
                  refine m_zaldS hx hb hK hP 7 (by decide) rfl r_x49_4 (by decide) dMO_isCalm_76 E (fun k6 ek6 E => ?_)
                  have r_k6 : zr 0 1 k6 := by rw [ek6]; exact gS.1 7 _
                  refine z_if_eq (tgt := 84) hx hb dMO_isCalm_77 (by decide) E (fun c_77 E => ?_) (fun c_77 E => ?_)
                  · have r_k6 : zr 0 0 k6 := zeq_x (show zr 0 0 0 from by decide) c_77
                    exact hJ84 H locs ls x49_1 x49_2 x49_4 x49_3 r_x49_1 r_x49_2 r_x49_4 hm38_49 hm49 E hP hS (lv_sub hl [0, 1, 2, 4] rfl)
                  · have r_k6 : zr 1 1 k6 := zne_lo r_k6 c_77 (by decide)
                    refine lv_iconst (v := 1) hx hb dMO_isCalm_80 (by decide) ?_
                    refine lv_goto (tgt := 85) hx hb dMO_isCalm_81 (by decide) ?_
                    exact hJ85 H locs ls x49_1 x49_2 x49_4 1 x49_3 r_x49_1 r_x49_2 r_x49_4 (show zr 0 1 1 from by decide) hm38_49 hm49 E hP hS (lv_sub hl [0, 1, 2, 4] rfl)
          refine lv_iload_n hx hb dMO_isCalm_38 rfl (lv_at hl 2 rfl) ?_
          refine lv_bipush (v := 6) hx hb dMO_isCalm_39 (by decide) ?_
          refine z_icmp_ge (tgt := 114) hx hb dMO_isCalm_41 (by decide) E (fun c_41 E => ?_) (fun c_41 E => ?_)
          · have r_x38_2 : zr 6 6 x38_2 := zle_y (show zr 6 6 6 from by decide) r_x38_2 c_41 (by decide)
            refine lv_iload_n hx hb dMO_isCalm_114 rfl (lv_at hl 1 rfl) ?_
            rw [hQe]
            exact W.zret (v := x38_1) (ty := .boolean) hx hb hr (znar r_x38_1) (fun t ht hW => ⟨⟨x38_1, (), rfl, ⟨E.symm.trans etg, r_x38_1⟩, trivial⟩, hS.F ht⟩) hS.2.2 dMO_isCalm_115
          · have r_x38_2 : zr 0 5 x38_2 := zlt_x r_x38_2 (show zr 6 6 6 from by decide) (znle c_41) (by decide)
            refine lv_iconst (v := 0) hx hb dMO_isCalm_44 (by decide) ?_
            refine lv_istore_n (lv' := [(3, .int 0), (0, .ref (o 0)), (1, .int x38_1), (2, .int x38_2)]) hx hb dMO_isCalm_45 rfl hl (by decide) rfl (fun ls hl => ?_)
            refine lv_iconst (v := 0) hx hb dMO_isCalm_46 (by decide) ?_
            refine lv_istore (lv' := [(4, .int 0), (3, .int 0), (0, .ref (o 0)), (1, .int x38_1), (2, .int x38_2)]) hx hb dMO_isCalm_47 hl (by decide) rfl (fun ls hl => ?_)
            exact hL49 61 H locs ls x38_1 x38_2 0 0 r_x38_1 r_x38_2 (show zr 0 60 0 from by decide) hm38 (by have h9 := (show zr 0 0 0 from by decide); exact zfuelU h9 (by decide)) E hP hS (lv_sub hl [2, 3, 4, 1, 0] rfl)
      have hJ29 : ∀ (H : Heap) (locs : List Loc) (ls : Array Slot) (x29_2 : Int32) (y29_0 : Int32), zr 0 287 x29_2 → zr 0 1 y29_0 → 288 + 1 - x29_2.toInt ≤ ((n4 + 1 : Nat) : Int) → tg = fMO_isCalm_29 P S rc4 x29_2 y29_0 → va_P (dC, dI) zCl (MW cI cZ cA o b P S) H → va_S (zN s.heap.size) s.heap H locs → lv_has ls 5 [(0, .ref (o 0)), (2, .int x29_2)] → W p l e ({ frames := 0, cells := 0, slots := 0, locals := 0 } : Room) s m ([.ref (o 0)] : List Value).toArray below meth c H locs 0 0 Q (F0 m 29 ls [.int y29_0]) := by
        intro H locs ls x29_2 y29_0 r_x29_2 r_y29_0 hm4_29 E hP hS hl
        unfold fMO_isCalm_29 at E
        refine lv_istore_n (lv' := [(1, .int y29_0), (0, .ref (o 0)), (2, .int x29_2)]) hx hb dMO_isCalm_29 rfl hl (by decide) rfl (fun ls hl => ?_)
        refine z_iinc (lv' := fun v9 => [(2, .int v9), (1, .int y29_0), (0, .ref (o 0))]) (cst := 1) hx hb dMO_isCalm_30 hl (k := 2) rfl (by decide) (by decide) (fun _ => rfl) E (fun k7 ls ek7 E hl => ?_)
        have r_k7 : zr 1 288 k7 := zr_add r_x29_2 (show zr 1 1 1 from by decide) ek7 (by decide)
        refine lv_goto (tgt := 4) hx hb dMO_isCalm_33 (by decide) ?_
        exact ih4 H locs ls y29_0 k7 r_y29_0 (zr_mono r_k7 (by decide)) (Or.inr r_k7) (zstepU ek7 r_x29_2 (by decide) hm4_29) E hP hS (lv_sub hl [2, 1, 0] rfl)
      have hJ28 : ∀ (H : Heap) (locs : List Loc) (ls : Array Slot) (x28_2 : Int32), zr 0 287 x28_2 → 288 + 1 - x28_2.toInt ≤ ((n4 + 1 : Nat) : Int) → tg = fMO_isCalm_28 P S rc4 x28_2 → va_P (dC, dI) zCl (MW cI cZ cA o b P S) H → va_S (zN s.heap.size) s.heap H locs → lv_has ls 5 [(0, .ref (o 0)), (2, .int x28_2)] → W p l e ({ frames := 0, cells := 0, slots := 0, locals := 0 } : Room) s m ([.ref (o 0)] : List Value).toArray below meth c H locs 0 0 Q (F0 m 28 ls []) := by
        intro H locs ls x28_2 r_x28_2 hm4_28 E hP hS hl
        unfold fMO_isCalm_28 at E
        refine lv_iconst (v := 0) hx hb dMO_isCalm_28 (by decide) ?_
        exact hJ29 H locs ls x28_2 0 r_x28_2 (show zr 0 1 0 from by decide) hm4_28 E hP hS (lv_sub hl [0, 1] rfl)
      refine lv_iload_n hx hb dMO_isCalm_4 rfl (lv_at hl 2 rfl) ?_
      refine lv_sipush (v := 288) hx hb dMO_isCalm_5 (by decide) ?_
      refine z_icmp_ge (tgt := 36) hx hb dMO_isCalm_8 (by decide) E (fun c_8 E => ?_) (fun c_8 E => ?_)
      · have r_x4_2 : zr 288 288 x4_2 := zle_y (show zr 288 288 288 from by decide) r_x4_2 c_8 (by decide)
        refine lv_iconst (v := 0) hx hb dMO_isCalm_36 (by decide) ?_
        refine lv_istore_n (lv' := [(2, .int 0), (0, .ref (o 0)), (1, .int x4_1)]) hx hb dMO_isCalm_37 rfl hl (by decide) rfl (fun ls hl => ?_)
        exact hL38 7 H locs ls x4_1 0 r_x4_1 (show zr 0 6 0 from by decide) (by have h9 := (show zr 0 0 0 from by decide); exact zfuelU h9 (by decide)) E hP hS (lv_sub hl [1, 2, 0] rfl)
      · have r_x4_2 : zr 0 287 x4_2 := zlt_x r_x4_2 (show zr 288 288 288 from by decide) (znle c_8) (by decide)
        refine lv_iload_n hx hb dMO_isCalm_11 rfl (lv_at hl 1 rfl) ?_
        refine z_if_eq (tgt := 28) hx hb dMO_isCalm_12 (by decide) E (fun c_12 E => ?_) (fun c_12 E => ?_)
        · have r_x4_1 : zr 0 0 x4_1 := zeq_x (show zr 0 0 0 from by decide) c_12
          exact hJ28 H locs ls x4_2 r_x4_2 hm4 E hP hS (lv_sub hl [0, 2] rfl)
        · have r_x4_1 : zr 1 1 x4_1 := zne_lo r_x4_1 c_12 (by decide)
          refine lv_aload_n hx hb dMO_isCalm_15 rfl (lv_at hl 0 rfl) ?_
          refine m_getA_15 hx hb (hB.words zU_MO) hown hK hP (hB.word (zm4 k4_133) rfl) dMO_isCalm_16 ?_
          refine lv_iload_n hx hb dMO_isCalm_19 rfl (lv_at hl 2 rfl) ?_
          refine m_aldS hx hb hK hP 15 (by decide) rfl r_x4_2 (by decide) dMO_isCalm_20 E (fun k8 ek8 E => ?_)
          refine z_if_ne (tgt := 28) hx hb dMO_isCalm_21 (by decide) E (fun c_21 E => ?_) (fun c_21 E => ?_)
          · exact hJ28 H locs ls x4_2 r_x4_2 hm4 E hP hS (lv_sub hl [0, 2] rfl)
          · have r_k8 : zr 0 0 k8 := zeq_x (show zr 0 0 0 from by decide) c_21
            refine lv_iconst (v := 1) hx hb dMO_isCalm_24 (by decide) ?_
            refine lv_goto (tgt := 29) hx hb dMO_isCalm_25 (by decide) ?_
            exact hJ29 H locs ls x4_2 1 r_x4_2 (show zr 0 1 1 from by decide) hm4 E hP hS (lv_sub hl [0, 2] rfl)
  refine lv_iconst (v := 1) hx hb dMO_isCalm_0 (by decide) ?_
  refine lv_istore_n (lv' := [(1, .int 1), (0, .ref (o 0))]) hx hb dMO_isCalm_1 rfl hl (by decide) rfl (fun ls hl => ?_)
  refine lv_iconst (v := 0) hx hb dMO_isCalm_2 (by decide) ?_
  refine lv_istore_n (lv' := [(2, .int 0), (1, .int 1), (0, .ref (o 0))]) hx hb dMO_isCalm_3 rfl hl (by decide) rfl (fun ls hl => ?_)
  exact hL4 289 s.heap [] ls 1 0 (show zr 0 1 1 from by decide) (show zr 0 288 0 from by decide) (Or.inl rfl) (by have h9 := (show zr 0 0 0 from by decide); exact zfuelU h9 (by decide)) E hP hS (lv_sub hl [2, 1, 0] rfl)
noncomputable def fMO_areJoined_36 (P : ZS) (S : ZS) (rc4 : Int32 → Int32 → (Int32)) (x36_2 : Int32) (y36_0 : Int32) : Int32 := zl (x36_2 + 1) (fun k1 => rc4 y36_0 k1)
noncomputable def fMO_areJoined_35 (P : ZS) (S : ZS) (rc4 : Int32 → Int32 → (Int32)) (x35_2 : Int32) : Int32 := fMO_areJoined_36 P S rc4 x35_2 0
noncomputable def fMO_areJoined_4 (P : ZS) (S : ZS) (rc4 : Int32 → Int32 → (Int32)) (x4_1 : Int32) (x4_2 : Int32) : Int32 := zl (P.I 1) (fun k2 => (if k2 ≤ x4_2 then x4_1 else (if x4_1 = 0 then fMO_areJoined_35 P S rc4 x4_2 else zl (S.F 33 (x4_2 : Int32).toNatClampNeg) (fun k3 => zl (S.F 33 (0 : Int32).toNatClampNeg) (fun k4 => (if k3 = k4 then fMO_areJoined_36 P S rc4 x4_2 1 else fMO_areJoined_35 P S rc4 x4_2))))))
noncomputable def fMO_areJoined (P S : ZS) : Int32 := zfix (fun _ _ => 0) (fMO_areJoined_4 P S) 48 1 1
set_option maxHeartbeats 4000000 in
set_option maxRecDepth 100000 in
theorem tMO_areJoined (l : Launch) (dC : Nat → ClassId) (dI : Nat → Nat → Nat) (cI cZ cJ cA : ClassId) (a0 : Array Value) (s0 : State) (o b : Nat → Nat) (P S : ZS) (sz : Nat) (gP : mok P) (gS : mok S) : Met l yMO_areJoined [Cond.code yMO_areJoined bMO_areJoined 3 (some .boolean)] ({ frames := 0, cells := 0, slots := 0, locals := 0 } : Room) (zP zCl dC dI (zTZ cI cZ cJ cA) a0 s0 [.ref (o 0)] sz (MW cI cZ cA o b P S)) (zQp (fun r => r = fMO_areJoined P S  ∧ zr 0 1 r) sz) 0 0 (zN sz) := by
  refine Met.ofW (cc := bMO_areJoined) (maxL := 3) (ret := (some .boolean)) (by decide) rfl ?_
  intro p e s m args below meth c s₁ B hml hv
  obtain ⟨rfl, hsz, hP, hK, hD0, hB⟩ := hv
  have hx := B.exec
  have hb := B.bytes
  have hr := B.returns
  have hown : s.vm.findClass "RingGuardModel" = some m.cls := findClass_of_methodNamed B.named
  have hlocks := B.notSynchronized
  subst hsz
  have hD := hD0
  have hA0 : ∀ q, zN s.heap.size q → s0.heap.size ≤ q := zA1 hB
  have hAD : ∀ q, zN s0.heap.size q → s0.heap.size ≤ q := fun _ h => h
  have hA : ∀ q : Nat, s.heap.size ≤ q → zN s.heap.size q := fun _ h => h
  have hS : va_S (zN s.heap.size) s.heap s.heap [] := va_S.rf
  have hl := lv_entry ([.ref (o 0)]) (n := 3) (Nat.le_of_ble_eq_true rfl)
  rw [lg_entry_eq]
  generalize (lg_sl ([.ref (o 0)]) ++ List.replicate (3 - (lg_sl ([.ref (o 0)])).length) Slot.unset).toArray = ls at hl ⊢
  have hl : lv_has ls 3 [(0, .ref (o 0))] := hl
  refine zgenQ (fun Q hQe => ?_)
  obtain ⟨tg, etg⟩ : ∃ z, z = fMO_areJoined P S  := ⟨_, rfl⟩
  have E := etg
  unfold fMO_areJoined at E
  have hL4 : ∀ (n4 : Nat) (H : Heap) (locs : List Loc) (ls : Array Slot) (x4_1 : Int32) (x4_2 : Int32), zr 0 1 x4_1 → zr 1 48 x4_2 → (x4_1 = 1 ∨ zr 2 48 (x4_2)) → 48 + 1 - x4_2.toInt ≤ (n4 : Int) → tg = zfix (fun _ _ => 0) (fMO_areJoined_4 P S) n4 x4_1 x4_2 → va_P (dC, dI) zCl (MW cI cZ cA o b P S) H → va_S (zN s.heap.size) s.heap H locs → lv_has ls 3 [(0, .ref (o 0)), (1, .int x4_1), (2, .int x4_2)] → W p l e ({ frames := 0, cells := 0, slots := 0, locals := 0 } : Room) s m ([.ref (o 0)] : List Value).toArray below meth c H locs 0 0 Q (F0 m 4 ls []) := by
    intro n4
    induction n4 with
    | zero => intro H locs ls x4_1 x4_2 r_x4_1 r_x4_2 cd4_0 hm4 E hP hS hl; exact absurd hm4 (zfuel0U r_x4_2)
    | succ n4 ih4 =>
      intro H locs ls x4_1 x4_2 r_x4_1 r_x4_2 cd4_0 hm4 E hP hS hl
      rw [zfix_s] at E
      generalize zfix (fun _ _ => 0) (fMO_areJoined_4 P S) n4 = rc4 at ih4 E
      unfold fMO_areJoined_4 at E
      have hJ36 : ∀ (H : Heap) (locs : List Loc) (ls : Array Slot) (x36_2 : Int32) (y36_0 : Int32), zr 1 47 x36_2 → zr 0 1 y36_0 → 48 + 1 - x36_2.toInt ≤ ((n4 + 1 : Nat) : Int) → tg = fMO_areJoined_36 P S rc4 x36_2 y36_0 → va_P (dC, dI) zCl (MW cI cZ cA o b P S) H → va_S (zN s.heap.size) s.heap H locs → lv_has ls 3 [(0, .ref (o 0)), (2, .int x36_2)] → W p l e ({ frames := 0, cells := 0, slots := 0, locals := 0 } : Room) s m ([.ref (o 0)] : List Value).toArray below meth c H locs 0 0 Q (F0 m 36 ls [.int y36_0]) := by
        intro H locs ls x36_2 y36_0 r_x36_2 r_y36_0 hm4_36 E hP hS hl
        unfold fMO_areJoined_36 at E
        refine lv_istore_n (lv' := [(1, .int y36_0), (0, .ref (o 0)), (2, .int x36_2)]) hx hb dMO_areJoined_36 rfl hl (by decide) rfl (fun ls hl => ?_)
        refine z_iinc (lv' := fun v9 => [(2, .int v9), (1, .int y36_0), (0, .ref (o 0))]) (cst := 1) hx hb dMO_areJoined_37 hl (k := 2) rfl (by decide) (by decide) (fun _ => rfl) E (fun k1 ls ek1 E hl => ?_)
        have r_k1 : zr 2 48 k1 := zr_add r_x36_2 (show zr 1 1 1 from by decide) ek1 (by decide)
        refine lv_goto (tgt := 4) hx hb dMO_areJoined_40 (by decide) ?_
        exact ih4 H locs ls y36_0 k1 r_y36_0 (zr_mono r_k1 (by decide)) (Or.inr r_k1) (zstepU ek1 r_x36_2 (by decide) hm4_36) E hP hS (lv_sub hl [2, 1, 0] rfl)
      have hJ35 : ∀ (H : Heap) (locs : List Loc) (ls : Array Slot) (x35_2 : Int32), zr 1 47 x35_2 → 48 + 1 - x35_2.toInt ≤ ((n4 + 1 : Nat) : Int) → tg = fMO_areJoined_35 P S rc4 x35_2 → va_P (dC, dI) zCl (MW cI cZ cA o b P S) H → va_S (zN s.heap.size) s.heap H locs → lv_has ls 3 [(0, .ref (o 0)), (2, .int x35_2)] → W p l e ({ frames := 0, cells := 0, slots := 0, locals := 0 } : Room) s m ([.ref (o 0)] : List Value).toArray below meth c H locs 0 0 Q (F0 m 35 ls []) := by
        intro H locs ls x35_2 r_x35_2 hm4_35 E hP hS hl
        unfold fMO_areJoined_35 at E
        refine lv_iconst (v := 0) hx hb dMO_areJoined_35 (by decide) ?_
        exact hJ36 H locs ls x35_2 0 r_x35_2 (show zr 0 1 0 from by decide) hm4_35 E hP hS (lv_sub hl [0, 1] rfl)
      refine lv_iload_n hx hb dMO_areJoined_4 rfl (lv_at hl 2 rfl) ?_
      refine lv_aload_n hx hb dMO_areJoined_5 rfl (lv_at hl 0 rfl) ?_
      refine m_get_1 hx hb (hB.words zU_MO) hown hK hP (hB.word (zm4 k4_116) rfl) dMO_areJoined_6 E (fun k2 ek2 E => ?_)
      have r_k2 : zr 0 48 k2 := by rw [ek2]; exact gP.2.1 1
      refine z_icmp_ge (tgt := 43) hx hb dMO_areJoined_9 (by decide) E (fun c_9 E => ?_) (fun c_9 E => ?_)
      · refine lv_iload_n hx hb dMO_areJoined_43 rfl (lv_at hl 1 rfl) ?_
        rw [hQe]
        exact W.zret (v := x4_1) (ty := .boolean) hx hb hr (znar r_x4_1) (fun t ht hW => ⟨⟨x4_1, (), rfl, ⟨E.symm.trans etg, r_x4_1⟩, trivial⟩, hS.F ht⟩) hS.2.2 dMO_areJoined_44
      · have r_x4_2 : zr 1 47 x4_2 := zlt_x r_x4_2 r_k2 (znle c_9) (by decide)
        have r_k2 : zr 2 48 k2 := zlt_y r_x4_2 r_k2 (znle c_9) (by decide)
        refine lv_iload_n hx hb dMO_areJoined_12 rfl (lv_at hl 1 rfl) ?_
        refine z_if_eq (tgt := 35) hx hb dMO_areJoined_13 (by decide) E (fun c_13 E => ?_) (fun c_13 E => ?_)
        · have r_x4_1 : zr 0 0 x4_1 := zeq_x (show zr 0 0 0 from by decide) c_13
          exact hJ35 H locs ls x4_2 r_x4_2 hm4 E hP hS (lv_sub hl [0, 2] rfl)
        · have r_x4_1 : zr 1 1 x4_1 := zne_lo r_x4_1 c_13 (by decide)
          refine lv_aload_n hx hb dMO_areJoined_16 rfl (lv_at hl 0 rfl) ?_
          refine m_getA_33 hx hb (hB.words zU_MO) hown hK hP (hB.word (zm4 k4_158) rfl) dMO_areJoined_17 ?_
          refine lv_iload_n hx hb dMO_areJoined_20 rfl (lv_at hl 2 rfl) ?_
          refine m_aldS hx hb hK hP 33 (by decide) rfl r_x4_2 (by decide) dMO_areJoined_21 E (fun k3 ek3 E => ?_)
          have r_k3 : zr 0 47 k3 := by rw [ek3]; exact gS.1 33 _
          refine lv_aload_n hx hb dMO_areJoined_22 rfl (lv_at hl 0 rfl) ?_
          refine m_getA_33 hx hb (hB.words zU_MO) hown hK hP (hB.word (zm4 k4_158) rfl) dMO_areJoined_23 ?_
          refine lv_iconst (v := 0) hx hb dMO_areJoined_26 (by decide) ?_
          refine m_aldS hx hb hK hP 33 (by decide) rfl (show zr 0 0 0 from by decide) (by decide) dMO_areJoined_27 E (fun k4 ek4 E => ?_)
          have r_k4 : zr 0 47 k4 := by rw [ek4]; exact gS.1 33 _
          refine z_icmp_ne (tgt := 35) hx hb dMO_areJoined_28 (by decide) E (fun c_28 E => ?_) (fun c_28 E => ?_)
          · exact hJ35 H locs ls x4_2 r_x4_2 hm4 E hP hS (lv_sub hl [0, 2] rfl)
          · refine lv_iconst (v := 1) hx hb dMO_areJoined_31 (by decide) ?_
            refine lv_goto (tgt := 36) hx hb dMO_areJoined_32 (by decide) ?_
            exact hJ36 H locs ls x4_2 1 r_x4_2 (show zr 0 1 1 from by decide) hm4 E hP hS (lv_sub hl [0, 2] rfl)
  refine lv_iconst (v := 1) hx hb dMO_areJoined_0 (by decide) ?_
  refine lv_istore_n (lv' := [(1, .int 1), (0, .ref (o 0))]) hx hb dMO_areJoined_1 rfl hl (by decide) rfl (fun ls hl => ?_)
  refine lv_iconst (v := 1) hx hb dMO_areJoined_2 (by decide) ?_
  refine lv_istore_n (lv' := [(2, .int 1), (1, .int 1), (0, .ref (o 0))]) hx hb dMO_areJoined_3 rfl hl (by decide) rfl (fun ls hl => ?_)
  exact hL4 48 s.heap [] ls 1 1 (show zr 0 1 1 from by decide) (show zr 1 48 1 from by decide) (Or.inl rfl) (by have h9 := (show zr 1 1 1 from by decide); exact zfuelU h9 (by decide)) E hP hS (lv_sub hl [2, 1, 0] rfl)
noncomputable def fMO_tick_183 (P : ZS) (S_183 : ZS) (y183_0 : Int32) (y183_1 : Int32) : ZS := zl (y183_1 + y183_0) (fun k1 => zl (S_183.setI 10 k1) (fun S2 => S2))
noncomputable def fMO_tick_182 (P : ZS) (S_182 : ZS) (y182_0 : Int32) : ZS := fMO_tick_183 P S_182 0 y182_0
noncomputable def fMO_tick_136 (P : ZS) (S_136 : ZS) (y136_0 : Int32) : ZS := zl (S_136.setI 7 y136_0) (fun S4 => zl (fMO_look P S4) (fun S7 => zl (S7.I 10) (fun k9 => zl (S7.I 7) (fun k10 => zl (P.I 1) (fun k11 => zl (4 * k11) (fun k12 => zl (k12 + 80) (fun k13 => (if k10 < k13 then fMO_tick_182 P S7 k9 else zl (fMO_isCalm P S7) (fun k15 => (if k15 = 0 then fMO_tick_182 P S7 k9 else zl (fMO_areJoined P S7) (fun k17 => (if k17 = 0 then fMO_tick_183 P S7 1 k9 else fMO_tick_182 P S7 k9))))))))))))
noncomputable def fMO_tick_106 (P : ZS) (rc68 : ZS → Int32 → (ZS)) (rc78 : ZS → Int32 → Int32 → (ZS)) (S_106 : ZS) (x106_1 : Int32) (x106_2 : Int32) : ZS := zl (x106_2 + 1) (fun k18 => rc78 S_106 x106_1 k18)
noncomputable def fMO_tick_78 (P : ZS) (rc68 : ZS → Int32 → (ZS)) (rc78 : ZS → Int32 → Int32 → (ZS)) (S_78 : ZS) (x78_1 : Int32) (x78_2 : Int32) : ZS := (if 6 ≤ x78_2 then zl (x78_1 + 1) (fun k19 => rc68 S_78 k19) else zl (fMO_at P S_78 x78_1 x78_2) (fun k21 => zl (2 * k21) (fun k22 => zl (P.F 6 (k22 : Int32).toNatClampNeg) (fun k23 => (if k23 = (-1) then fMO_tick_106 P rc68 rc78 S_78 x78_1 x78_2 else zl (fMO_tickOf P S_78 x78_1 x78_2) (fun S25 => fMO_tick_106 P rc68 rc78 S25 x78_1 x78_2))))))
noncomputable def fMO_tick_68 (P : ZS) (rc68 : ZS → Int32 → (ZS)) (S_68 : ZS) (x68_1 : Int32) : ZS := zl (P.I 1) (fun k27 => (if k27 ≤ x68_1 then zl (S_68.I 8) (fun k28 => (if k28 = 0 then zl (S_68.I 7) (fun k29 => zl (k29 + 1) (fun k30 => fMO_tick_136 P S_68 k30)) else fMO_tick_136 P S_68 0)) else zfix (fun S9 _ _ => S9) (fMO_tick_78 P rc68) 7 S_68 x68_1 0))
noncomputable def fMO_tick_33 (P : ZS) (rc21 : ZS → Int32 → (ZS)) (rc33 : ZS → Int32 → Int32 → (ZS)) (S_33 : ZS) (x33_1 : Int32) (x33_2 : Int32) : ZS := zl (S_33.F 28 (x33_1 : Int32).toNatClampNeg) (fun k31 => (if k31 ≤ x33_2 then zl (x33_1 + 1) (fun k32 => rc21 S_33 k32) else zl (64 * x33_1) (fun k33 => zl (k33 + x33_2) (fun k34 => zl (fMO_arrive P S_33 x33_1 k34) (fun S36 => zl (x33_2 + 1) (fun k38 => rc33 S36 x33_1 k38))))))
noncomputable def fMO_tick_21 (P : ZS) (rc21 : ZS → Int32 → (ZS)) (S_21 : ZS) (x21_1 : Int32) : ZS := zl (P.I 2) (fun k39 => zl (2 * k39) (fun k40 => (if k40 ≤ x21_1 then zfix (fun S9 _ => S9) (fMO_tick_68 P) 49 S_21 0 else zfix (fun S9 _ _ => S9) (fMO_tick_33 P rc21) 65 S_21 x21_1 0)))
noncomputable def fMO_tick (P S : ZS) : ZS := zl (S.I 4) (fun k41 => zl (k41 + 1) (fun k42 => zl (S.setI 4 k42) (fun S43 => zl (S43.setI 8 0) (fun S45 => zl (fMO_turn P S45) (fun S48 => zfix (fun S9 _ => S9) (fMO_tick_21 P) 121 S48 0)))))
set_option maxHeartbeats 4000000 in
set_option maxRecDepth 100000 in
theorem tMO_tick (l : Launch) (dC : Nat → ClassId) (dI : Nat → Nat → Nat) (cI cZ cJ cA : ClassId) (a0 : Array Value) (s0 : State) (o b : Nat → Nat) (P S : ZS) (sz : Nat) (gP : mok P) (gS : mok S) (gM : zM P) : Met l yMO_tick [Cond.code yMO_tick bMO_tick 3 none] ({ frames := 6, cells := 0, slots := 0, locals := 147 } : Room) (zP zCl dC dI (zTZ cI cZ cJ cA) a0 s0 [.ref (o 0)] sz (MW cI cZ cA o b P S)) (zQG zCl dC dI (fun (x9 : ZS) => x9 = fMO_tick P S  ∧ mok x9) (fun x9 : ZS => (MW cI cZ cA o b P x9)) (va_A (MW cI cZ cA o b P S) sz)) 0 0 (va_A (MW cI cZ cA o b P S) sz) := by
  refine Met.ofW (cc := bMO_tick) (maxL := 3) (ret := none) (by decide) rfl ?_
  intro p e s m args below meth c s₁ B hml hv
  obtain ⟨rfl, hsz, hP, hK, hD0, hB⟩ := hv
  have hx := B.exec
  have hb := B.bytes
  have hr := B.returns
  have hown : s.vm.findClass "RingGuardModel" = some m.cls := findClass_of_methodNamed B.named
  have hlocks := B.notSynchronized
  subst hsz
  have hD := hD0.self (sz := s.heap.size)
  have hA0 := zA0 hD0 hB
  generalize hAe : va_A (MW cI cZ cA o b P S) s.heap.size = A at hD hA0 ⊢
  have hAD := hA0
  have hA : ∀ q : Nat, s.heap.size ≤ q → A q := fun q h => by rw [← hAe]; exact Or.inr h
  have hS : va_S A s.heap s.heap [] := va_S.rf
  have hl := lv_entry ([.ref (o 0)]) (n := 3) (Nat.le_of_ble_eq_true rfl)
  rw [lg_entry_eq]
  generalize (lg_sl ([.ref (o 0)]) ++ List.replicate (3 - (lg_sl ([.ref (o 0)])).length) Slot.unset).toArray = ls at hl ⊢
  have hl : lv_has ls 3 [(0, .ref (o 0))] := hl
  refine zgenQ (fun Q hQe => ?_)
  obtain ⟨tg, etg⟩ : ∃ z, z = fMO_tick P S  := ⟨_, rfl⟩
  have E := etg
  unfold fMO_tick at E
  have hL21 : ∀ (n21 : Nat) (H : Heap) (locs : List Loc) (ls : Array Slot) (S_21 : ZS) (x21_1 : Int32), zr 0 120 x21_1 → mok S_21 → 120 + 1 - x21_1.toInt ≤ (n21 : Int) → tg = zfix (fun S9 _ => S9) (fMO_tick_21 P) n21 S_21 x21_1 → va_P (dC, dI) zCl (MW cI cZ cA o b P S_21) H → va_D A (MW cI cZ cA o b P S_21) → va_S A s.heap H locs → lv_has ls 3 [(0, .ref (o 0)), (1, .int x21_1)] → W p l e ({ frames := 6, cells := 0, slots := 0, locals := 147 } : Room) s m ([.ref (o 0)] : List Value).toArray below meth c H locs 0 0 Q (F0 m 21 ls []) := by
    intro n21
    induction n21 with
    | zero => intro H locs ls S_21 x21_1 r_x21_1 gS_21 hm21 E hP hD hS hl; exact absurd hm21 (zfuel0U r_x21_1)
    | succ n21 ih21 =>
      intro H locs ls S_21 x21_1 r_x21_1 gS_21 hm21 E hP hD hS hl
      rw [zfix_s] at E
      generalize zfix (fun S9 _ => S9) (fMO_tick_21 P) n21 = rc21 at ih21 E
      unfold fMO_tick_21 at E
      have hL68 : ∀ (n68 : Nat) (H : Heap) (locs : List Loc) (ls : Array Slot) (S_68 : ZS) (x68_1 : Int32), zr 0 48 x68_1 → mok S_68 → 48 + 1 - x68_1.toInt ≤ (n68 : Int) → tg = zfix (fun S9 _ => S9) (fMO_tick_68 P) n68 S_68 x68_1 → va_P (dC, dI) zCl (MW cI cZ cA o b P S_68) H → va_D A (MW cI cZ cA o b P S_68) → va_S A s.heap H locs → lv_has ls 3 [(0, .ref (o 0)), (1, .int x68_1)] → W p l e ({ frames := 6, cells := 0, slots := 0, locals := 147 } : Room) s m ([.ref (o 0)] : List Value).toArray below meth c H locs 0 0 Q (F0 m 68 ls []) := by
        intro n68
        induction n68 with
        | zero => intro H locs ls S_68 x68_1 r_x68_1 gS_68 hm68 E hP hD hS hl; exact absurd hm68 (zfuel0U r_x68_1)
        | succ n68 ih68 =>
          intro H locs ls S_68 x68_1 r_x68_1 gS_68 hm68 E hP hD hS hl
          rw [zfix_s] at E
          generalize zfix (fun S9 _ => S9) (fMO_tick_68 P) n68 = rc68 at ih68 E
          unfold fMO_tick_68 at E
          have hJ136 : ∀ (H : Heap) (locs : List Loc) (ls : Array Slot) (S_136 : ZS) (y136_0 : Int32), mok S_136 → tg = fMO_tick_136 P S_136 y136_0 → va_P (dC, dI) zCl (MW cI cZ cA o b P S_136) H → va_D A (MW cI cZ cA o b P S_136) → va_S A s.heap H locs → lv_has ls 3 [(0, .ref (o 0))] → W p l e ({ frames := 6, cells := 0, slots := 0, locals := 147 } : Room) s m ([.ref (o 0)] : List Value).toArray below meth c H locs 0 0 Q (F0 m 136 ls [.int y136_0, .ref (o 0)]) := by
            intro H locs ls S_136 y136_0 gS_136 E hP hD hS hl
            unfold fMO_tick_136 at E
            have hJ183 : ∀ (H : Heap) (locs : List Loc) (ls : Array Slot) (S_183 : ZS) (y183_0 : Int32) (y183_1 : Int32), zr 0 1 y183_0 → mok S_183 → tg = fMO_tick_183 P S_183 y183_0 y183_1 → va_P (dC, dI) zCl (MW cI cZ cA o b P S_183) H → va_D A (MW cI cZ cA o b P S_183) → va_S A s.heap H locs → lv_has ls 3 [] → W p l e ({ frames := 6, cells := 0, slots := 0, locals := 147 } : Room) s m ([.ref (o 0)] : List Value).toArray below meth c H locs 0 0 Q (F0 m 183 ls [.int y183_0, .int y183_1, .ref (o 0)]) := by
              intro H locs ls S_183 y183_0 y183_1 r_y183_0 gS_183 E hP hD hS hl
              unfold fMO_tick_183 at E
              refine z_iadd hx hb dMO_tick_183 E (fun k1 ek1 E => ?_)
              refine m_put_10 hx hb (hB.words zU_MO) hown hK hP hD hS (hB.word (zm4 k4_157) rfl) dMO_tick_184 E (fun S2 H3 locs eS2 E hP hD hS => ?_)
              have gS2 : mok S2 := by rw [eS2]; exact gS_183.setI (t := 10) (zr_any k1)
              rw [hQe]
              exact W.vret hx hb hr (fun t ht hW => ⟨⟨S2, rfl, ⟨E.symm.trans etg, gS2⟩, by rw [ht]; exact hP, hD⟩, hS.F ht⟩) hS.2.2 dMO_tick_187
            have hJ182 : ∀ (H : Heap) (locs : List Loc) (ls : Array Slot) (S_182 : ZS) (y182_0 : Int32), mok S_182 → tg = fMO_tick_182 P S_182 y182_0 → va_P (dC, dI) zCl (MW cI cZ cA o b P S_182) H → va_D A (MW cI cZ cA o b P S_182) → va_S A s.heap H locs → lv_has ls 3 [] → W p l e ({ frames := 6, cells := 0, slots := 0, locals := 147 } : Room) s m ([.ref (o 0)] : List Value).toArray below meth c H locs 0 0 Q (F0 m 182 ls [.int y182_0, .ref (o 0)]) := by
              intro H locs ls S_182 y182_0 gS_182 E hP hD hS hl
              unfold fMO_tick_182 at E
              refine lv_iconst (v := 0) hx hb dMO_tick_182 (by decide) ?_
              exact hJ183 H locs ls S_182 0 y182_0 (show zr 0 1 0 from by decide) gS_182 E hP hD hS (lv_sub hl [] rfl)
            refine m_put_7 hx hb (hB.words zU_MO) hown hK hP hD hS (hB.word (zm4 k4_154) rfl) dMO_tick_136 E (fun S4 H5 locs eS4 E hP hD hS => ?_)
            have gS4 : mok S4 := by rw [eS4]; exact gS_136.setI (t := 7) (zr_any y136_0)
            refine lv_aload_n hx hb dMO_tick_139 rfl (lv_at hl 0 rfl) ?_
            refine zcV (va_runV (As := []) (rest := []) ⟨hx, hb, hml, hown, zno⟩ (tMO_look l dC dI cI cZ cJ cA a0 s0 o b P S4 H5.size gP gS4) (zcw 0 (hB.word (zm5 k5_143) rfl) (hB.word (zm1 k1_9) rfl) (hB.word (zm5 k5_140) rfl) (hB.word (zm5 k5_142) rfl) (k2_selects_private (by decide) (hB.word (zm4 k4_109) rfl) (hB.word (zm5 k5_141) rfl) (hB.word (zm5 k5_142) rfl)) rfl rfl (by decide +kernel) ⟨Nat.le_of_ble_eq_true rfl, Nat.le_of_ble_eq_true rfl⟩) ⟨zP_blind, va_recv hK hP (ci := 7) (q0 := 0) rfl rfl, zP_pre hP hK hD hAD (zB_on hB hA0 hS)⟩ rfl rfl hl.1 rfl (lv_room (Nat.le_of_ble_eq_true rfl)) dMO_tick_140 ⟨Nat.le_of_ble_eq_true rfl, Nat.le_of_ble_eq_true rfl⟩) hD hS hA (fun S7 H6 locs h8 hP hD hS => ?_)
            have E := zl_s E h8.1
            have gS7 := h8.2
            refine lv_aload_n hx hb dMO_tick_143 rfl (lv_at hl 0 rfl) ?_
            refine lv_dup hx hb dMO_tick_144 rfl ?_
            refine m_get_10 hx hb (hB.words zU_MO) hown hK hP (hB.word (zm4 k4_157) rfl) dMO_tick_145 E (fun k9 ek9 E => ?_)
            refine lv_aload_n hx hb dMO_tick_148 rfl (lv_at hl 0 rfl) ?_
            refine m_get_7 hx hb (hB.words zU_MO) hown hK hP (hB.word (zm4 k4_154) rfl) dMO_tick_149 E (fun k10 ek10 E => ?_)
            refine lv_iconst (v := 4) hx hb dMO_tick_152 (by decide) ?_
            refine lv_aload_n hx hb dMO_tick_153 rfl (lv_at hl 0 rfl) ?_
            refine m_get_1 hx hb (hB.words zU_MO) hown hK hP (hB.word (zm4 k4_116) rfl) dMO_tick_154 E (fun k11 ek11 E => ?_)
            have r_k11 : zr 0 48 k11 := by rw [ek11]; exact gP.2.1 1
            refine z_imul hx hb dMO_tick_157 E (fun k12 ek12 E => ?_)
            have r_k12 : zr 0 192 k12 := zr_mul (show zr 4 4 4 from by decide) r_k11 ek12 (by decide)
            refine lv_bipush (v := 80) hx hb dMO_tick_158 (by decide) ?_
            refine z_iadd hx hb dMO_tick_160 E (fun k13 ek13 E => ?_)
            have r_k13 : zr 80 272 k13 := zr_add r_k12 (show zr 80 80 80 from by decide) ek13 (by decide)
            refine z_icmp_lt (tgt := 182) hx hb dMO_tick_161 (by decide) E (fun c_161 E => ?_) (fun c_161 E => ?_)
            · have r_k10 : zr (-2147483648) 271 k10 := zlt_x (zr_any k10) r_k13 c_161 (by decide)
              exact hJ182 H6 locs ls S7 k9 gS7 E hP hD hS (lv_sub hl [] rfl)
            · have r_k10 : zr 80 2147483647 k10 := zle_y r_k13 (zr_any k10) (znlt c_161) (by decide)
              refine lv_aload_n hx hb dMO_tick_164 rfl (lv_at hl 0 rfl) ?_
              refine zcallp (va_runV (As := []) (rest := [.int k9, .ref (o 0)]) ⟨hx, hb, hml, hown, zno⟩ (tMO_isCalm l dC dI cI cZ cJ cA a0 s0 o b P S7 H6.size gP gS7) (zcw 0 (hB.word (zm5 k5_219) rfl) (hB.word (zm1 k1_9) rfl) (hB.word (zm5 k5_216) rfl) (hB.word (zm5 k5_218) rfl) (k2_selects_private (by decide) (hB.word (zm4 k4_109) rfl) (hB.word (zm5 k5_217) rfl) (hB.word (zm5 k5_218) rfl)) rfl rfl (by decide +kernel) ⟨Nat.le_of_ble_eq_true rfl, Nat.le_of_ble_eq_true rfl⟩) ⟨zP_blind, va_recv hK hP (ci := 7) (q0 := 0) rfl rfl, zP_pre hP hK hD hAD (zB_on hB hA0 hS)⟩ rfl rfl hl.1 rfl (lv_room (Nat.le_of_ble_eq_true rfl)) dMO_tick_165 ⟨Nat.le_of_ble_eq_true rfl, Nat.le_of_ble_eq_true rfl⟩) hS hA (fun k15 H14 locs hk15 hz1 hk1 hS => ?_)
              have hP := zKeep hP hk1
              have E := zl_s E hk15.1
              refine z_if_eq (tgt := 182) hx hb dMO_tick_168 (by decide) E (fun c_168 E => ?_) (fun c_168 E => ?_)
              · have r_k15 : zr 0 0 k15 := zeq_x (show zr 0 0 0 from by decide) c_168
                exact hJ182 H14 locs ls S7 k9 gS7 E hP hD hS (lv_sub hl [] rfl)
              · have r_k15 : zr 1 1 k15 := zne_lo hk15.2 c_168 (by decide)
                refine lv_aload_n hx hb dMO_tick_171 rfl (lv_at hl 0 rfl) ?_
                refine zcallp (va_runV (As := []) (rest := [.int k9, .ref (o 0)]) ⟨hx, hb, hml, hown, zno⟩ (tMO_areJoined l dC dI cI cZ cJ cA a0 s0 o b P S7 H14.size gP gS7) (zcw 0 (hB.word (zm5 k5_223) rfl) (hB.word (zm1 k1_9) rfl) (hB.word (zm5 k5_220) rfl) (hB.word (zm5 k5_222) rfl) (k2_selects_private (by decide) (hB.word (zm4 k4_109) rfl) (hB.word (zm5 k5_221) rfl) (hB.word (zm5 k5_222) rfl)) rfl rfl (by decide +kernel) ⟨Nat.le_of_ble_eq_true rfl, Nat.le_of_ble_eq_true rfl⟩) ⟨zP_blind, va_recv hK hP (ci := 7) (q0 := 0) rfl rfl, zP_pre hP hK hD hAD (zB_on hB hA0 hS)⟩ rfl rfl hl.1 rfl (lv_room (Nat.le_of_ble_eq_true rfl)) dMO_tick_172 ⟨Nat.le_of_ble_eq_true rfl, Nat.le_of_ble_eq_true rfl⟩) hS hA (fun k17 H16 locs hk17 hz1 hk1 hS => ?_)
                have hP := zKeep hP hk1
                have E := zl_s E hk17.1
                refine z_if_ne (tgt := 182) hx hb dMO_tick_175 (by decide) E (fun c_175 E => ?_) (fun c_175 E => ?_)
                · have r_k17 : zr 1 1 k17 := zne_lo hk17.2 c_175 (by decide)
                  exact hJ182 H16 locs ls S7 k9 gS7 E hP hD hS (lv_sub hl [] rfl)
                · have r_k17 : zr 0 0 k17 := zeq_x (show zr 0 0 0 from by decide) c_175
                  refine lv_iconst (v := 1) hx hb dMO_tick_178 (by decide) ?_
                  refine lv_goto (tgt := 183) hx hb dMO_tick_179 (by decide) ?_
                  exact hJ183 H16 locs ls S7 1 k9 (show zr 0 1 1 from by decide) gS7 E hP hD hS (lv_sub hl [] rfl)
          have hL78 : ∀ (n78 : Nat) (H : Heap) (locs : List Loc) (ls : Array Slot) (S_78 : ZS) (x78_1 : Int32) (x78_2 : Int32), zr 0 47 x78_1 → zr 0 6 x78_2 → mok S_78 → 48 + 1 - x78_1.toInt ≤ ((n68 + 1 : Nat) : Int) → 6 + 1 - x78_2.toInt ≤ (n78 : Int) → tg = zfix (fun S9 _ _ => S9) (fMO_tick_78 P rc68) n78 S_78 x78_1 x78_2 → va_P (dC, dI) zCl (MW cI cZ cA o b P S_78) H → va_D A (MW cI cZ cA o b P S_78) → va_S A s.heap H locs → lv_has ls 3 [(0, .ref (o 0)), (1, .int x78_1), (2, .int x78_2)] → W p l e ({ frames := 6, cells := 0, slots := 0, locals := 147 } : Room) s m ([.ref (o 0)] : List Value).toArray below meth c H locs 0 0 Q (F0 m 78 ls []) := by
            intro n78
            induction n78 with
            | zero => intro H locs ls S_78 x78_1 x78_2 r_x78_1 r_x78_2 gS_78 hm68_78 hm78 E hP hD hS hl; exact absurd hm78 (zfuel0U r_x78_2)
            | succ n78 ih78 =>
              intro H locs ls S_78 x78_1 x78_2 r_x78_1 r_x78_2 gS_78 hm68_78 hm78 E hP hD hS hl
              rw [zfix_s] at E
              generalize zfix (fun S9 _ _ => S9) (fMO_tick_78 P rc68) n78 = rc78 at ih78 E
              unfold fMO_tick_78 at E
              have hJ106 : ∀ (H : Heap) (locs : List Loc) (ls : Array Slot) (S_106 : ZS) (x106_1 : Int32) (x106_2 : Int32), zr 0 47 x106_1 → zr 0 5 x106_2 → mok S_106 → 48 + 1 - x106_1.toInt ≤ ((n68 + 1 : Nat) : Int) → 6 + 1 - x106_2.toInt ≤ ((n78 + 1 : Nat) : Int) → tg = fMO_tick_106 P rc68 rc78 S_106 x106_1 x106_2 → va_P (dC, dI) zCl (MW cI cZ cA o b P S_106) H → va_D A (MW cI cZ cA o b P S_106) → va_S A s.heap H locs → lv_has ls 3 [(0, .ref (o 0)), (1, .int x106_1), (2, .int x106_2)] → W p l e ({ frames := 6, cells := 0, slots := 0, locals := 147 } : Room) s m ([.ref (o 0)] : List Value).toArray below meth c H locs 0 0 Q (F0 m 106 ls []) := by
                intro H locs ls S_106 x106_1 x106_2 r_x106_1 r_x106_2 gS_106 hm68_106 hm78_106 E hP hD hS hl
                unfold fMO_tick_106 at E
                refine z_iinc (lv' := fun v9 => [(2, .int v9), (0, .ref (o 0)), (1, .int x106_1)]) (cst := 1) hx hb dMO_tick_106 hl (k := 2) rfl (by decide) (by decide) (fun _ => rfl) E (fun k18 ls ek18 E hl => ?_)
                have r_k18 : zr 1 6 k18 := zr_add r_x106_2 (show zr 1 1 1 from by decide) ek18 (by decide)
                refine lv_goto (tgt := 78) hx hb dMO_tick_109 (by decide) ?_
                exact ih78 H locs ls S_106 x106_1 k18 r_x106_1 (zr_mono r_k18 (by decide)) gS_106 hm68_106 (zstepU ek18 r_x106_2 (by decide) hm78_106) E hP hD hS (lv_sub hl [1, 2, 0] rfl)
              refine lv_iload_n hx hb dMO_tick_78 rfl (lv_at hl 2 rfl) ?_
              refine lv_bipush (v := 6) hx hb dMO_tick_79 (by decide) ?_
              refine z_icmp_ge (tgt := 112) hx hb dMO_tick_81 (by decide) E (fun c_81 E => ?_) (fun c_81 E => ?_)
              · have r_x78_2 : zr 6 6 x78_2 := zle_y (show zr 6 6 6 from by decide) r_x78_2 c_81 (by decide)
                refine z_iinc (lv' := fun v9 => [(1, .int v9), (0, .ref (o 0)), (2, .int x78_2)]) (cst := 1) hx hb dMO_tick_112 hl (k := 1) rfl (by decide) (by decide) (fun _ => rfl) E (fun k19 ls ek19 E hl => ?_)
                have r_k19 : zr 1 48 k19 := zr_add r_x78_1 (show zr 1 1 1 from by decide) ek19 (by decide)
                refine lv_goto (tgt := 68) hx hb dMO_tick_115 (by decide) ?_
                exact ih68 H locs ls S_78 k19 (zr_mono r_k19 (by decide)) gS_78 (zstepU ek19 r_x78_1 (by decide) hm68_78) E hP hD hS (lv_sub hl [1, 0] rfl)
              · have r_x78_2 : zr 0 5 x78_2 := zlt_x r_x78_2 (show zr 6 6 6 from by decide) (znle c_81) (by decide)
                refine lv_aload_n hx hb dMO_tick_84 rfl (lv_at hl 0 rfl) ?_
                refine m_getA_6 hx hb (hB.words zU_MO) hown hK hP (hB.word (zm4 k4_130) rfl) dMO_tick_85 ?_
                refine lv_iconst (v := 2) hx hb dMO_tick_88 (by decide) ?_
                refine lv_iload_n hx hb dMO_tick_89 rfl (lv_at hl 1 rfl) ?_
                refine lv_iload_n hx hb dMO_tick_90 rfl (lv_at hl 2 rfl) ?_
                refine zcallp (va_runS (As := [.int x78_1, .int x78_2]) (rest := [.int 2, .ref (b 6)]) ⟨hx, hb, hml, hown, zno⟩ (tMO_at l dC dI cI cZ cJ cA a0 s0 o b P S_78 H.size x78_1 x78_2 gP gS_78 r_x78_1 r_x78_2) ⟨zcb 2 (hB.word (zm5 k5_119) rfl) (hB.word (zm1 k1_9) rfl) (hB.word (zm5 k5_117) rfl) rfl rfl (by decide +kernel) ⟨Nat.le_of_ble_eq_true rfl, Nat.le_of_ble_eq_true rfl⟩, hB.word (zm5 k5_118) rfl⟩ ⟨zP_blind, zP_pre hP hK hD hAD (zB_on hB hA0 hS)⟩ rfl rfl hl.1 rfl (lv_room (Nat.le_of_ble_eq_true rfl)) dMO_tick_91 ⟨Nat.le_of_ble_eq_true rfl, Nat.le_of_ble_eq_true rfl⟩) hS hA (fun k21 H20 locs hk21 hz1 hk1 hS => ?_)
                have hP := zKeep hP hk1
                have E := zl_s E hk21.1
                refine z_imul hx hb dMO_tick_94 E (fun k22 ek22 E => ?_)
                have r_k22 : zr 0 574 k22 := zr_mul (show zr 2 2 2 from by decide) hk21.2 ek22 (by decide)
                refine m_aldP hx hb hK hP 6 (by decide) rfl r_k22 (by decide) dMO_tick_95 E (fun k23 ek23 E => ?_)
                have r_k23 : zr (-1) 59 k23 := by rw [ek23]; exact gP.1 6 _
                refine lv_iconst (v := (-1)) hx hb dMO_tick_96 (by decide) ?_
                refine z_icmp_eq (tgt := 106) hx hb dMO_tick_97 (by decide) E (fun c_97 E => ?_) (fun c_97 E => ?_)
                · have r_k23 : zr (-1) (-1) k23 := zeq_x (show zr (-1) (-1) (-1) from by decide) c_97
                  exact hJ106 H20 locs ls S_78 x78_1 x78_2 r_x78_1 r_x78_2 gS_78 hm68_78 hm78 E hP hD hS (lv_sub hl [0, 1, 2] rfl)
                · have r_k23 : zr 0 59 k23 := zne_lo r_k23 c_97 (by decide)
                  refine lv_aload_n hx hb dMO_tick_100 rfl (lv_at hl 0 rfl) ?_
                  refine lv_iload_n hx hb dMO_tick_101 rfl (lv_at hl 1 rfl) ?_
                  refine lv_iload_n hx hb dMO_tick_102 rfl (lv_at hl 2 rfl) ?_
                  refine zcV (va_runV (As := [.int x78_1, .int x78_2]) (rest := []) ⟨hx, hb, hml, hown, zno⟩ (tMO_tickOf l dC dI cI cZ cJ cA a0 s0 o b P S_78 H20.size x78_1 x78_2 gP gS_78 gM r_x78_1 r_x78_2) (zcw 2 (hB.word (zm5 k5_211) rfl) (hB.word (zm1 k1_9) rfl) (hB.word (zm5 k5_208) rfl) (hB.word (zm5 k5_210) rfl) (k2_selects_private (by decide) (hB.word (zm4 k4_109) rfl) (hB.word (zm5 k5_209) rfl) (hB.word (zm5 k5_210) rfl)) rfl rfl (by decide +kernel) ⟨Nat.le_of_ble_eq_true rfl, Nat.le_of_ble_eq_true rfl⟩) ⟨zP_blind, va_recv hK hP (ci := 7) (q0 := 0) rfl rfl, zP_pre hP hK hD hAD (zB_on hB hA0 hS)⟩ rfl rfl hl.1 rfl (lv_room (Nat.le_of_ble_eq_true rfl)) dMO_tick_103 ⟨Nat.le_of_ble_eq_true rfl, Nat.le_of_ble_eq_true rfl⟩) hD hS hA (fun S25 H24 locs h26 hP hD hS => ?_)
                  have E := zl_s E h26.1
                  have gS25 := h26.2
                  exact hJ106 H24 locs ls S25 x78_1 x78_2 r_x78_1 r_x78_2 gS25 hm68_78 hm78 E hP hD hS (lv_sub hl [0, 1, 2] rfl)
          refine lv_iload_n hx hb dMO_tick_68 rfl (lv_at hl 1 rfl) ?_
          refine lv_aload_n hx hb dMO_tick_69 rfl (lv_at hl 0 rfl) ?_
          refine m_get_1 hx hb (hB.words zU_MO) hown hK hP (hB.word (zm4 k4_116) rfl) dMO_tick_70 E (fun k27 ek27 E => ?_)
          have r_k27 : zr 0 48 k27 := by rw [ek27]; exact gP.2.1 1
          refine z_icmp_ge (tgt := 118) hx hb dMO_tick_73 (by decide) E (fun c_73 E => ?_) (fun c_73 E => ?_)
          · refine lv_aload_n hx hb dMO_tick_118 rfl (lv_at hl 0 rfl) ?_
            refine lv_aload_n hx hb dMO_tick_119 rfl (lv_at hl 0 rfl) ?_
            refine m_get_8 hx hb (hB.words zU_MO) hown hK hP (hB.word (zm4 k4_155) rfl) dMO_tick_120 E (fun k28 ek28 E => ?_)
            have r_k28 : zr 0 1 k28 := by rw [ek28]; exact gS_68.2.1 8
            refine z_if_eq (tgt := 130) hx hb dMO_tick_123 (by decide) E (fun c_123 E => ?_) (fun c_123 E => ?_)
            · have r_k28 : zr 0 0 k28 := zeq_x (show zr 0 0 0 from by decide) c_123
              refine lv_aload_n hx hb dMO_tick_130 rfl (lv_at hl 0 rfl) ?_
              refine m_get_7 hx hb (hB.words zU_MO) hown hK hP (hB.word (zm4 k4_154) rfl) dMO_tick_131 E (fun k29 ek29 E => ?_)
              refine lv_iconst (v := 1) hx hb dMO_tick_134 (by decide) ?_
              refine z_iadd hx hb dMO_tick_135 E (fun k30 ek30 E => ?_)
              exact hJ136 H locs ls S_68 k30 gS_68 E hP hD hS (lv_sub hl [0] rfl)
            · have r_k28 : zr 1 1 k28 := zne_lo r_k28 c_123 (by decide)
              refine lv_iconst (v := 0) hx hb dMO_tick_126 (by decide) ?_
              refine lv_goto (tgt := 136) hx hb dMO_tick_127 (by decide) ?_
              exact hJ136 H locs ls S_68 0 gS_68 E hP hD hS (lv_sub hl [0] rfl)
          · have r_x68_1 : zr 0 47 x68_1 := zlt_x r_x68_1 r_k27 (znle c_73) (by decide)
            have r_k27 : zr 1 48 k27 := zlt_y r_x68_1 r_k27 (znle c_73) (by decide)
            refine lv_iconst (v := 0) hx hb dMO_tick_76 (by decide) ?_
            refine lv_istore_n (lv' := [(2, .int 0), (0, .ref (o 0)), (1, .int x68_1)]) hx hb dMO_tick_77 rfl hl (by decide) rfl (fun ls hl => ?_)
            exact hL78 7 H locs ls S_68 x68_1 0 r_x68_1 (show zr 0 6 0 from by decide) gS_68 hm68 (by have h9 := (show zr 0 0 0 from by decide); exact zfuelU h9 (by decide)) E hP hD hS (lv_sub hl [1, 2, 0] rfl)
      have hL33 : ∀ (n33 : Nat) (H : Heap) (locs : List Loc) (ls : Array Slot) (S_33 : ZS) (x33_1 : Int32) (x33_2 : Int32), zr 0 119 x33_1 → zr 0 64 x33_2 → mok S_33 → 120 + 1 - x33_1.toInt ≤ ((n21 + 1 : Nat) : Int) → 64 + 1 - x33_2.toInt ≤ (n33 : Int) → tg = zfix (fun S9 _ _ => S9) (fMO_tick_33 P rc21) n33 S_33 x33_1 x33_2 → va_P (dC, dI) zCl (MW cI cZ cA o b P S_33) H → va_D A (MW cI cZ cA o b P S_33) → va_S A s.heap H locs → lv_has ls 3 [(0, .ref (o 0)), (1, .int x33_1), (2, .int x33_2)] → W p l e ({ frames := 6, cells := 0, slots := 0, locals := 147 } : Room) s m ([.ref (o 0)] : List Value).toArray below meth c H locs 0 0 Q (F0 m 33 ls []) := by
        intro n33
        induction n33 with
        | zero => intro H locs ls S_33 x33_1 x33_2 r_x33_1 r_x33_2 gS_33 hm21_33 hm33 E hP hD hS hl; exact absurd hm33 (zfuel0U r_x33_2)
        | succ n33 ih33 =>
          intro H locs ls S_33 x33_1 x33_2 r_x33_1 r_x33_2 gS_33 hm21_33 hm33 E hP hD hS hl
          rw [zfix_s] at E
          generalize zfix (fun S9 _ _ => S9) (fMO_tick_33 P rc21) n33 = rc33 at ih33 E
          unfold fMO_tick_33 at E
          refine lv_iload_n hx hb dMO_tick_33 rfl (lv_at hl 2 rfl) ?_
          refine lv_aload_n hx hb dMO_tick_34 rfl (lv_at hl 0 rfl) ?_
          refine m_getA_28 hx hb (hB.words zU_MO) hown hK hP (hB.word (zm4 k4_146) rfl) dMO_tick_35 ?_
          refine lv_iload_n hx hb dMO_tick_38 rfl (lv_at hl 1 rfl) ?_
          refine m_aldS hx hb hK hP 28 (by decide) rfl r_x33_1 (by decide) dMO_tick_39 E (fun k31 ek31 E => ?_)
          have r_k31 : zr 0 64 k31 := by rw [ek31]; exact gS_33.1 28 _
          refine z_icmp_ge (tgt := 60) hx hb dMO_tick_40 (by decide) E (fun c_40 E => ?_) (fun c_40 E => ?_)
          · refine z_iinc (lv' := fun v9 => [(1, .int v9), (0, .ref (o 0)), (2, .int x33_2)]) (cst := 1) hx hb dMO_tick_60 hl (k := 1) rfl (by decide) (by decide) (fun _ => rfl) E (fun k32 ls ek32 E hl => ?_)
            have r_k32 : zr 1 120 k32 := zr_add r_x33_1 (show zr 1 1 1 from by decide) ek32 (by decide)
            refine lv_goto (tgt := 21) hx hb dMO_tick_63 (by decide) ?_
            exact ih21 H locs ls S_33 k32 (zr_mono r_k32 (by decide)) gS_33 (zstepU ek32 r_x33_1 (by decide) hm21_33) E hP hD hS (lv_sub hl [1, 0] rfl)
          · have r_x33_2 : zr 0 63 x33_2 := zlt_x r_x33_2 r_k31 (znle c_40) (by decide)
            have r_k31 : zr 1 64 k31 := zlt_y r_x33_2 r_k31 (znle c_40) (by decide)
            refine lv_aload_n hx hb dMO_tick_43 rfl (lv_at hl 0 rfl) ?_
            refine lv_iload_n hx hb dMO_tick_44 rfl (lv_at hl 1 rfl) ?_
            refine lv_bipush (v := 64) hx hb dMO_tick_45 (by decide) ?_
            refine lv_iload_n hx hb dMO_tick_47 rfl (lv_at hl 1 rfl) ?_
            refine z_imul hx hb dMO_tick_48 E (fun k33 ek33 E => ?_)
            have r_k33 : zr 0 7616 k33 := zr_mul (show zr 64 64 64 from by decide) r_x33_1 ek33 (by decide)
            refine lv_iload_n hx hb dMO_tick_49 rfl (lv_at hl 2 rfl) ?_
            refine z_iadd hx hb dMO_tick_50 E (fun k34 ek34 E => ?_)
            have r_k34 : zr 0 7679 k34 := zr_add r_k33 r_x33_2 ek34 (by decide)
            refine zcV (va_runV (As := [.int x33_1, .int k34]) (rest := []) ⟨hx, hb, hml, hown, zno⟩ (tMO_arrive l dC dI cI cZ cJ cA a0 s0 o b P S_33 H.size x33_1 k34 gP gS_33 r_x33_1 r_k34) (zcw 2 (hB.word (zm5 k5_199) rfl) (hB.word (zm1 k1_9) rfl) (hB.word (zm5 k5_196) rfl) (hB.word (zm5 k5_198) rfl) (k2_selects_private (by decide) (hB.word (zm4 k4_109) rfl) (hB.word (zm5 k5_197) rfl) (hB.word (zm5 k5_198) rfl)) rfl rfl (by decide +kernel) ⟨Nat.le_of_ble_eq_true rfl, Nat.le_of_ble_eq_true rfl⟩) ⟨zP_blind, va_recv hK hP (ci := 7) (q0 := 0) rfl rfl, zP_pre hP hK hD hAD (zB_on hB hA0 hS)⟩ rfl rfl hl.1 rfl (lv_room (Nat.le_of_ble_eq_true rfl)) dMO_tick_51 ⟨Nat.le_of_ble_eq_true rfl, Nat.le_of_ble_eq_true rfl⟩) hD hS hA (fun S36 H35 locs h37 hP hD hS => ?_)
            have E := zl_s E h37.1
            have gS36 := h37.2
            refine z_iinc (lv' := fun v9 => [(2, .int v9), (0, .ref (o 0)), (1, .int x33_1)]) (cst := 1) hx hb dMO_tick_54 hl (k := 2) rfl (by decide) (by decide) (fun _ => rfl) E (fun k38 ls ek38 E hl => ?_)
            have r_k38 : zr 1 64 k38 := zr_add r_x33_2 (show zr 1 1 1 from by decide) ek38 (by decide)
            refine lv_goto (tgt := 33) hx hb dMO_tick_57 (by decide) ?_
            exact ih33 H35 locs ls S36 x33_1 k38 r_x33_1 (zr_mono r_k38 (by decide)) gS36 hm21_33 (zstepU ek38 r_x33_2 (by decide) hm33) E hP hD hS (lv_sub hl [1, 2, 0] rfl)
      refine lv_iload_n hx hb dMO_tick_21 rfl (lv_at hl 1 rfl) ?_
      refine lv_iconst (v := 2) hx hb dMO_tick_22 (by decide) ?_
      refine lv_aload_n hx hb dMO_tick_23 rfl (lv_at hl 0 rfl) ?_
      refine m_get_2 hx hb (hB.words zU_MO) hown hK hP (hB.word (zm4 k4_117) rfl) dMO_tick_24 E (fun k39 ek39 E => ?_)
      have r_k39 : zr 0 60 k39 := by rw [ek39]; exact gP.2.1 2
      refine z_imul hx hb dMO_tick_27 E (fun k40 ek40 E => ?_)
      have r_k40 : zr 0 120 k40 := zr_mul (show zr 2 2 2 from by decide) r_k39 ek40 (by decide)
      refine z_icmp_ge (tgt := 66) hx hb dMO_tick_28 (by decide) E (fun c_28 E => ?_) (fun c_28 E => ?_)
      · refine lv_iconst (v := 0) hx hb dMO_tick_66 (by decide) ?_
        refine lv_istore_n (lv' := [(1, .int 0), (0, .ref (o 0))]) hx hb dMO_tick_67 rfl hl (by decide) rfl (fun ls hl => ?_)
        exact hL68 49 H locs ls S_21 0 (show zr 0 48 0 from by decide) gS_21 (by have h9 := (show zr 0 0 0 from by decide); exact zfuelU h9 (by decide)) E hP hD hS (lv_sub hl [1, 0] rfl)
      · have r_x21_1 : zr 0 119 x21_1 := zlt_x r_x21_1 r_k40 (znle c_28) (by decide)
        have r_k40 : zr 1 120 k40 := zlt_y r_x21_1 r_k40 (znle c_28) (by decide)
        refine lv_iconst (v := 0) hx hb dMO_tick_31 (by decide) ?_
        refine lv_istore_n (lv' := [(2, .int 0), (0, .ref (o 0)), (1, .int x21_1)]) hx hb dMO_tick_32 rfl hl (by decide) rfl (fun ls hl => ?_)
        exact hL33 65 H locs ls S_21 x21_1 0 r_x21_1 (show zr 0 64 0 from by decide) gS_21 hm21 (by have h9 := (show zr 0 0 0 from by decide); exact zfuelU h9 (by decide)) E hP hD hS (lv_sub hl [1, 2, 0] rfl)
  refine lv_aload_n hx hb dMO_tick_0 rfl (lv_at hl 0 rfl) ?_
  refine lv_dup hx hb dMO_tick_1 rfl ?_
  refine m_get_4 hx hb (hB.words zU_MO) hown hK hP (hB.word (zm4 k4_151) rfl) dMO_tick_2 E (fun k41 ek41 E => ?_)
  refine lv_iconst (v := 1) hx hb dMO_tick_5 (by decide) ?_
  refine z_iadd hx hb dMO_tick_6 E (fun k42 ek42 E => ?_)
  refine m_put_4 hx hb (hB.words zU_MO) hown hK hP hD hS (hB.word (zm4 k4_151) rfl) dMO_tick_7 E (fun S43 H44 locs eS43 E hP hD hS => ?_)
  have gS43 : mok S43 := by rw [eS43]; exact gS.setI (t := 4) (zr_any k42)
  refine lv_aload_n hx hb dMO_tick_10 rfl (lv_at hl 0 rfl) ?_
  refine lv_iconst (v := 0) hx hb dMO_tick_11 (by decide) ?_
  refine m_put_8 hx hb (hB.words zU_MO) hown hK hP hD hS (hB.word (zm4 k4_155) rfl) (show zr 0 1 0 from by decide) dMO_tick_12 E (fun S45 H46 locs eS45 E hP hD hS => ?_)
  have gS45 : mok S45 := by rw [eS45]; exact gS43.setI (t := 8) (show zr 0 1 0 from by decide)
  refine lv_aload_n hx hb dMO_tick_15 rfl (lv_at hl 0 rfl) ?_
  refine zcV (va_runV (As := []) (rest := []) ⟨hx, hb, hml, hown, zno⟩ (tMO_turn l dC dI cI cZ cJ cA a0 s0 o b P S45 H46.size gP gS45) (zcw 0 (hB.word (zm5 k5_195) rfl) (hB.word (zm1 k1_9) rfl) (hB.word (zm5 k5_192) rfl) (hB.word (zm5 k5_194) rfl) (k2_selects_private (by decide) (hB.word (zm4 k4_109) rfl) (hB.word (zm5 k5_193) rfl) (hB.word (zm5 k5_194) rfl)) rfl rfl (by decide +kernel) ⟨Nat.le_of_ble_eq_true rfl, Nat.le_of_ble_eq_true rfl⟩) ⟨zP_blind, va_recv hK hP (ci := 7) (q0 := 0) rfl rfl, zP_pre hP hK hD hAD (zB_on hB hA0 hS)⟩ rfl rfl hl.1 rfl (lv_room (Nat.le_of_ble_eq_true rfl)) dMO_tick_16 ⟨Nat.le_of_ble_eq_true rfl, Nat.le_of_ble_eq_true rfl⟩) hD hS hA (fun S48 H47 locs h49 hP hD hS => ?_)
  have E := zl_s E h49.1
  have gS48 := h49.2
  refine lv_iconst (v := 0) hx hb dMO_tick_19 (by decide) ?_
  refine lv_istore_n (lv' := [(1, .int 0), (0, .ref (o 0))]) hx hb dMO_tick_20 rfl hl (by decide) rfl (fun ls hl => ?_)
  exact hL21 121 H47 locs ls S48 0 (show zr 0 120 0 from by decide) gS48 (by have h9 := (show zr 0 0 0 from by decide); exact zfuelU h9 (by decide)) E hP hD hS (lv_sub hl [1, 0] rfl)
noncomputable def fMO_known_53 (P : ZS) (S : ZS) : Int32 := (-1)
noncomputable def fMO_known (P S : ZS) (x0 : Int32) (x1 : Int32) (x2 : Int32) : Int32 := zl (256 * x0) (fun k1 => zl (64 * x1) (fun k2 => zl (k1 + k2) (fun k3 => zl (k3 + x2) (fun k4 => zl (S.F 20 (k4 : Int32).toNatClampNeg) (fun k5 => (if k5 = (-1) then fMO_known_53 P S else zl (S.I 4) (fun k6 => zl (S.F 21 (k4 : Int32).toNatClampNeg) (fun k7 => zl (k6 - k7) (fun k8 => (if 300 ≤ k8 then fMO_known_53 P S else zl (S.F 20 (k4 : Int32).toNatClampNeg) (fun k9 => k5)))))))))))
set_option maxHeartbeats 4000000 in
set_option maxRecDepth 100000 in
theorem tMO_known (l : Launch) (dC : Nat → ClassId) (dI : Nat → Nat → Nat) (cI cZ cJ cA : ClassId) (a0 : Array Value) (s0 : State) (o b : Nat → Nat) (P S : ZS) (sz : Nat) (x0 : Int32) (x1 : Int32) (x2 : Int32) (gP : mok P) (gS : mok S) (r_x0 : zr 0 47 x0) (r_x1 : zr 0 3 x1) (r_x2 : zr 0 63 x2) : Met l yMO_known [Cond.code yMO_known bMO_known 5 (some .int)] ({ frames := 0, cells := 0, slots := 0, locals := 0 } : Room) (zP zCl dC dI (zTZ cI cZ cJ cA) a0 s0 [.ref (o 0), .int x0, .int x1, .int x2] sz (MW cI cZ cA o b P S)) (zQp (fun r => r = fMO_known P S x0 x1 x2 ∧ True) sz) 0 0 (zN sz) := by
  refine Met.ofW (cc := bMO_known) (maxL := 5) (ret := (some .int)) (by decide) rfl ?_
  intro p e s m args below meth c s₁ B hml hv
  obtain ⟨rfl, hsz, hP, hK, hD0, hB⟩ := hv
  have hx := B.exec
  have hb := B.bytes
  have hr := B.returns
  have hown : s.vm.findClass "RingGuardModel" = some m.cls := findClass_of_methodNamed B.named
  have hlocks := B.notSynchronized
  subst hsz
  have hD := hD0
  have hA0 : ∀ q, zN s.heap.size q → s0.heap.size ≤ q := zA1 hB
  have hAD : ∀ q, zN s0.heap.size q → s0.heap.size ≤ q := fun _ h => h
  have hA : ∀ q : Nat, s.heap.size ≤ q → zN s.heap.size q := fun _ h => h
  have hS : va_S (zN s.heap.size) s.heap s.heap [] := va_S.rf
  have hl := lv_entry ([.ref (o 0), .int x0, .int x1, .int x2]) (n := 5) (Nat.le_of_ble_eq_true rfl)
  rw [lg_entry_eq]
  generalize (lg_sl ([.ref (o 0), .int x0, .int x1, .int x2]) ++ List.replicate (5 - (lg_sl ([.ref (o 0), .int x0, .int x1, .int x2])).length) Slot.unset).toArray = ls at hl ⊢
  have hl : lv_has ls 5 [(0, .ref (o 0)), (1, .int x0), (2, .int x1), (3, .int x2)] := hl
  refine zgenQ (fun Q hQe => ?_)
  obtain ⟨tg, etg⟩ : ∃ z, z = fMO_known P S x0 x1 x2 := ⟨_, rfl⟩
  have E := etg
  unfold fMO_known at E
  have hJ53 : ∀ (H : Heap) (locs : List Loc) (ls : Array Slot), tg = fMO_known_53 P S  → va_P (dC, dI) zCl (MW cI cZ cA o b P S) H → va_S (zN s.heap.size) s.heap H locs → lv_has ls 5 [] → W p l e ({ frames := 0, cells := 0, slots := 0, locals := 0 } : Room) s m ([.ref (o 0), .int x0, .int x1, .int x2] : List Value).toArray below meth c H locs 0 0 Q (F0 m 53 ls []) := by
    intro H locs ls E hP hS hl
    unfold fMO_known_53 at E
    refine lv_iconst (v := (-1)) hx hb dMO_known_53 (by decide) ?_
    rw [hQe]
    exact W.iret (v := (-1)) hx hb hr (fun t ht hW => ⟨⟨(-1), (), rfl, ⟨E.symm.trans etg, trivial⟩, trivial⟩, hS.F ht⟩) hS.2.2 dMO_known_54
  refine lv_sipush (v := 256) hx hb dMO_known_0 (by decide) ?_
  refine lv_iload_n hx hb dMO_known_3 rfl (lv_at hl 1 rfl) ?_
  refine z_imul hx hb dMO_known_4 E (fun k1 ek1 E => ?_)
  have r_k1 : zr 0 12032 k1 := zr_mul (show zr 256 256 256 from by decide) r_x0 ek1 (by decide)
  refine lv_bipush (v := 64) hx hb dMO_known_5 (by decide) ?_
  refine lv_iload_n hx hb dMO_known_7 rfl (lv_at hl 2 rfl) ?_
  refine z_imul hx hb dMO_known_8 E (fun k2 ek2 E => ?_)
  have r_k2 : zr 0 192 k2 := zr_mul (show zr 64 64 64 from by decide) r_x1 ek2 (by decide)
  refine z_iadd hx hb dMO_known_9 E (fun k3 ek3 E => ?_)
  have r_k3 : zr 0 12224 k3 := zr_add r_k1 r_k2 ek3 (by decide)
  refine lv_iload_n hx hb dMO_known_10 rfl (lv_at hl 3 rfl) ?_
  refine z_iadd hx hb dMO_known_11 E (fun k4 ek4 E => ?_)
  have r_k4 : zr 0 12287 k4 := zr_add r_k3 r_x2 ek4 (by decide)
  refine lv_istore (lv' := [(4, .int k4), (0, .ref (o 0)), (1, .int x0), (2, .int x1), (3, .int x2)]) hx hb dMO_known_12 hl (by decide) rfl (fun ls hl => ?_)
  refine lv_aload_n hx hb dMO_known_14 rfl (lv_at hl 1 rfl) ?_
  refine m_getA_20 hx hb (hB.words zU_MO) hown hK hP (hB.word (zm4 k4_138) rfl) dMO_known_15 ?_
  refine lv_iload hx hb dMO_known_18 (lv_at hl 0 rfl) ?_
  refine m_aldS hx hb hK hP 20 (by decide) rfl r_k4 (by decide) dMO_known_20 E (fun k5 ek5 E => ?_)
  refine lv_iconst (v := (-1)) hx hb dMO_known_21 (by decide) ?_
  refine z_icmp_eq (tgt := 53) hx hb dMO_known_22 (by decide) E (fun c_22 E => ?_) (fun c_22 E => ?_)
  · have r_k5 : zr (-1) (-1) k5 := zeq_x (show zr (-1) (-1) (-1) from by decide) c_22
    exact hJ53 s.heap [] ls  E hP hS (lv_sub hl [] rfl)
  · refine lv_aload_n hx hb dMO_known_25 rfl (lv_at hl 1 rfl) ?_
    refine m_get_4 hx hb (hB.words zU_MO) hown hK hP (hB.word (zm4 k4_151) rfl) dMO_known_26 E (fun k6 ek6 E => ?_)
    refine lv_aload_n hx hb dMO_known_29 rfl (lv_at hl 1 rfl) ?_
    refine m_getA_21 hx hb (hB.words zU_MO) hown hK hP (hB.word (zm4 k4_139) rfl) dMO_known_30 ?_
    refine lv_iload hx hb dMO_known_33 (lv_at hl 0 rfl) ?_
    refine m_aldS hx hb hK hP 21 (by decide) rfl r_k4 (by decide) dMO_known_35 E (fun k7 ek7 E => ?_)
    refine z_isub hx hb dMO_known_36 E (fun k8 ek8 E => ?_)
    refine lv_sipush (v := 300) hx hb dMO_known_37 (by decide) ?_
    refine z_icmp_ge (tgt := 53) hx hb dMO_known_40 (by decide) E (fun c_40 E => ?_) (fun c_40 E => ?_)
    · have r_k8 : zr 300 2147483647 k8 := zle_y (show zr 300 300 300 from by decide) (zr_any k8) c_40 (by decide)
      exact hJ53 s.heap [] ls  E hP hS (lv_sub hl [] rfl)
    · have r_k8 : zr (-2147483648) 299 k8 := zlt_x (zr_any k8) (show zr 300 300 300 from by decide) (znle c_40) (by decide)
      refine lv_aload_n hx hb dMO_known_43 rfl (lv_at hl 1 rfl) ?_
      refine m_getA_20 hx hb (hB.words zU_MO) hown hK hP (hB.word (zm4 k4_138) rfl) dMO_known_44 ?_
      refine lv_iload hx hb dMO_known_47 (lv_at hl 0 rfl) ?_
      refine m_aldS hx hb hK hP 20 (by decide) rfl r_k4 (by decide) dMO_known_49 E (fun k9 ek9 E => ?_)
      have x9 : k5 = k9 := by rw [ek5, ek9]
      subst x9
      refine lv_goto (tgt := 54) hx hb dMO_known_50 (by decide) ?_
      rw [hQe]
      exact W.iret (v := k5) hx hb hr (fun t ht hW => ⟨⟨k5, (), rfl, ⟨E.symm.trans etg, trivial⟩, trivial⟩, hS.F ht⟩) hS.2.2 dMO_known_54
