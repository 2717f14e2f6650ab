theorem k2_139 : tables_1_2[139]? = some (Jvm.Cond.methodLink "RingGuardLaw" (79 : Nat) ({ cls := "RingGuardLaw", name := "link", desc := "(LRingGuard;III[J)I" } : Jvm.MethodName)) := by decide +kernel
theorem k2_140 : tables_1_2[140]? = some (Jvm.Cond.static ({ cls := "RingGuardLaw", name := "link", desc := "(LRingGuard;III[J)I" } : Jvm.MethodName)) := by decide +kernel
theorem k2_141 : tables_1_2[141]? = some (Jvm.Cond.codeWith ({ cls := "RingGuardLaw", name := "link", desc := "(LRingGuard;III[J)I" } : Jvm.MethodName) method_4_code (6 : Nat) (Option.some Jvm.ClassFile.FieldType.int) [((0 : Nat), (12 : Nat), (15 : Nat), (19 : Nat)), ((0 : Nat), (12 : Nat), (19 : Nat), (13 : Nat))]) := rfl
theorem k2_178 : tables_1_2[178]? = some (Jvm.Cond.methodLink "RingGuardLaw" (83 : Nat) ({ cls := "RingGuardLaw", name := "owner", desc := "(LRingGuard;III)I" } : Jvm.MethodName)) := by decide +kernel
theorem k2_179 : tables_1_2[179]? = some (Jvm.Cond.static ({ cls := "RingGuardLaw", name := "owner", desc := "(LRingGuard;III)I" } : Jvm.MethodName)) := by decide +kernel
theorem k2_180 : tables_1_2[180]? = some (Jvm.Cond.codeWith ({ cls := "RingGuardLaw", name := "owner", desc := "(LRingGuard;III)I" } : Jvm.MethodName) method_5_code (5 : Nat) (Option.some Jvm.ClassFile.FieldType.int) [((0 : Nat), (7 : Nat), (10 : Nat), (19 : Nat)), ((0 : Nat), (7 : Nat), (14 : Nat), (13 : Nat))]) := rfl
theorem k2_190 : tables_1_2[190]? = some (Jvm.Cond.methodLink "RingGuardLaw" (87 : Nat) ({ cls := "RingGuardLaw", name := "start", desc := "(LRingGuard;[J)I" } : Jvm.MethodName)) := by decide +kernel
theorem k2_191 : tables_1_2[191]? = some (Jvm.Cond.static ({ cls := "RingGuardLaw", name := "start", desc := "(LRingGuard;[J)I" } : Jvm.MethodName)) := by decide +kernel
theorem k2_192 : tables_1_2[192]? = some (Jvm.Cond.codeWith ({ cls := "RingGuardLaw", name := "start", desc := "(LRingGuard;[J)I" } : Jvm.MethodName) method_6_code (3 : Nat) (Option.some Jvm.ClassFile.FieldType.int) [((0 : Nat), (8 : Nat), (11 : Nat), (13 : Nat))]) := rfl
theorem k3_48 : tables_1_3[48]? = some (Jvm.Cond.methodLink "RingGuardLaw" (90 : Nat) ({ cls := "RingGuardLaw", name := "fail", desc := "(LRingGuard;I[J)I" } : Jvm.MethodName)) := by decide +kernel
theorem k3_49 : tables_1_3[49]? = some (Jvm.Cond.static ({ cls := "RingGuardLaw", name := "fail", desc := "(LRingGuard;I[J)I" } : Jvm.MethodName)) := by decide +kernel
theorem k3_50 : tables_1_3[50]? = some (Jvm.Cond.codeWith ({ cls := "RingGuardLaw", name := "fail", desc := "(LRingGuard;I[J)I" } : Jvm.MethodName) method_7_code (4 : Nat) (Option.some Jvm.ClassFile.FieldType.int) [((0 : Nat), (16 : Nat), (19 : Nat), (19 : Nat)), ((0 : Nat), (16 : Nat), (22 : Nat), (13 : Nat))]) := rfl
theorem k3_94 : tables_1_3[94]? = some (Jvm.Cond.methodLink "RingGuardLaw" (94 : Nat) ({ cls := "RingGuardLaw", name := "heal", desc := "(LRingGuard;I[J)I" } : Jvm.MethodName)) := by decide +kernel
theorem k3_95 : tables_1_3[95]? = some (Jvm.Cond.static ({ cls := "RingGuardLaw", name := "heal", desc := "(LRingGuard;I[J)I" } : Jvm.MethodName)) := by decide +kernel
theorem k3_96 : tables_1_3[96]? = some (Jvm.Cond.codeWith ({ cls := "RingGuardLaw", name := "heal", desc := "(LRingGuard;I[J)I" } : Jvm.MethodName) method_8_code (4 : Nat) (Option.some Jvm.ClassFile.FieldType.int) [((0 : Nat), (16 : Nat), (19 : Nat), (19 : Nat)), ((0 : Nat), (16 : Nat), (22 : Nat), (13 : Nat))]) := rfl
theorem k3_109 : tables_1_3[109]? = some (Jvm.Cond.methodLink "RingGuardLaw" (100 : Nat) ({ cls := "RingGuardLaw", name := "lose", desc := "(LRingGuard;II[J)I" } : Jvm.MethodName)) := by decide +kernel
theorem k3_110 : tables_1_3[110]? = some (Jvm.Cond.static ({ cls := "RingGuardLaw", name := "lose", desc := "(LRingGuard;II[J)I" } : Jvm.MethodName)) := by decide +kernel
theorem k3_111 : tables_1_3[111]? = some (Jvm.Cond.codeWith ({ cls := "RingGuardLaw", name := "lose", desc := "(LRingGuard;II[J)I" } : Jvm.MethodName) method_9_code (5 : Nat) (Option.some Jvm.ClassFile.FieldType.int) [((0 : Nat), (10 : Nat), (13 : Nat), (19 : Nat)), ((0 : Nat), (10 : Nat), (17 : Nat), (13 : Nat))]) := rfl
theorem k3_117 : tables_1_3[117]? = some (Jvm.Cond.methodLink "RingGuardLaw" (104 : Nat) ({ cls := "RingGuardLaw", name := "order", desc := "(LRingGuard;IIZ[J)I" } : Jvm.MethodName)) := by decide +kernel
theorem k3_118 : tables_1_3[118]? = some (Jvm.Cond.static ({ cls := "RingGuardLaw", name := "order", desc := "(LRingGuard;IIZ[J)I" } : Jvm.MethodName)) := by decide +kernel
theorem k3_119 : tables_1_3[119]? = some (Jvm.Cond.codeWith ({ cls := "RingGuardLaw", name := "order", desc := "(LRingGuard;IIZ[J)I" } : Jvm.MethodName) method_10_code (6 : Nat) (Option.some Jvm.ClassFile.FieldType.int) [((0 : Nat), (19 : Nat), (22 : Nat), (19 : Nat)), ((0 : Nat), (19 : Nat), (26 : Nat), (13 : Nat))]) := rfl
theorem k5_34 : tables_1_5[34]? = some (Jvm.Cond.methodLink "RingGuardLaw" (97 : Nat) ({ cls := "RingGuardModel", name := "thrown", desc := "()I" } : Jvm.MethodName)) := by decide +kernel
theorem k5_35 : tables_1_5[35]? = some (Jvm.Cond.instanceMethod ({ cls := "RingGuardModel", name := "thrown", desc := "()I" } : Jvm.MethodName)) := by decide +kernel
theorem k5_36 : tables_1_5[36]? = some (Jvm.Cond.selects "RingGuardModel" ({ cls := "RingGuardModel", name := "thrown", desc := "()I" } : Jvm.MethodName) ({ cls := "RingGuardModel", name := "thrown", desc := "()I" } : Jvm.MethodName)) := by decide +kernel
theorem k5_37 : tables_1_5[37]? = some (Jvm.Cond.code ({ cls := "RingGuardModel", name := "thrown", desc := "()I" } : Jvm.MethodName) prog_10_method_2_code (1 : Nat) (Option.some Jvm.ClassFile.FieldType.int)) := rfl
theorem k5_42 : tables_1_5[42]? = some (Jvm.Cond.methodLink "RingGuardLaw" (82 : Nat) ({ cls := "RingGuardModel", name := "link", desc := "(III)I" } : Jvm.MethodName)) := by decide +kernel
theorem k5_43 : tables_1_5[43]? = some (Jvm.Cond.instanceMethod ({ cls := "RingGuardModel", name := "link", desc := "(III)I" } : Jvm.MethodName)) := by decide +kernel
theorem k5_44 : tables_1_5[44]? = some (Jvm.Cond.selects "RingGuardModel" ({ cls := "RingGuardModel", name := "link", desc := "(III)I" } : Jvm.MethodName) ({ cls := "RingGuardModel", name := "link", desc := "(III)I" } : Jvm.MethodName)) := by decide +kernel
theorem k5_45 : tables_1_5[45]? = some (Jvm.Cond.code ({ cls := "RingGuardModel", name := "link", desc := "(III)I" } : Jvm.MethodName) prog_10_method_10_code (4 : Nat) (Option.some Jvm.ClassFile.FieldType.int)) := rfl
theorem k5_57 : tables_1_5[57]? = some (Jvm.Cond.methodLink "RingGuardLaw" (86 : Nat) ({ cls := "RingGuardModel", name := "owner", desc := "(III)V" } : Jvm.MethodName)) := by decide +kernel
theorem k5_58 : tables_1_5[58]? = some (Jvm.Cond.instanceMethod ({ cls := "RingGuardModel", name := "owner", desc := "(III)V" } : Jvm.MethodName)) := by decide +kernel
theorem k5_59 : tables_1_5[59]? = some (Jvm.Cond.selects "RingGuardModel" ({ cls := "RingGuardModel", name := "owner", desc := "(III)V" } : Jvm.MethodName) ({ cls := "RingGuardModel", name := "owner", desc := "(III)V" } : Jvm.MethodName)) := by decide +kernel
theorem k5_60 : tables_1_5[60]? = some (Jvm.Cond.code ({ cls := "RingGuardModel", name := "owner", desc := "(III)V" } : Jvm.MethodName) prog_10_method_11_code (4 : Nat) (Option.none : Option Jvm.ClassFile.FieldType)) := rfl
theorem k5_65 : tables_1_5[65]? = some (Jvm.Cond.methodLink "RingGuardLaw" (89 : Nat) ({ cls := "RingGuardModel", name := "start", desc := "()I" } : Jvm.MethodName)) := by decide +kernel
theorem k5_66 : tables_1_5[66]? = some (Jvm.Cond.instanceMethod ({ cls := "RingGuardModel", name := "start", desc := "()I" } : Jvm.MethodName)) := by decide +kernel
theorem k5_67 : tables_1_5[67]? = some (Jvm.Cond.selects "RingGuardModel" ({ cls := "RingGuardModel", name := "start", desc := "()I" } : Jvm.MethodName) ({ cls := "RingGuardModel", name := "start", desc := "()I" } : Jvm.MethodName)) := by decide +kernel
theorem k5_68 : tables_1_5[68]? = some (Jvm.Cond.code ({ cls := "RingGuardModel", name := "start", desc := "()I" } : Jvm.MethodName) prog_10_method_20_code (5 : Nat) (Option.some Jvm.ClassFile.FieldType.int)) := rfl
theorem k5_136 : tables_1_5[136]? = some (Jvm.Cond.methodLink "RingGuardLaw" (93 : Nat) ({ cls := "RingGuardModel", name := "fail", desc := "(I)Z" } : Jvm.MethodName)) := by decide +kernel
theorem k5_137 : tables_1_5[137]? = some (Jvm.Cond.instanceMethod ({ cls := "RingGuardModel", name := "fail", desc := "(I)Z" } : Jvm.MethodName)) := by decide +kernel
theorem k5_138 : tables_1_5[138]? = some (Jvm.Cond.selects "RingGuardModel" ({ cls := "RingGuardModel", name := "fail", desc := "(I)Z" } : Jvm.MethodName) ({ cls := "RingGuardModel", name := "fail", desc := "(I)Z" } : Jvm.MethodName)) := by decide +kernel
theorem k5_139 : tables_1_5[139]? = some (Jvm.Cond.code ({ cls := "RingGuardModel", name := "fail", desc := "(I)Z" } : Jvm.MethodName) prog_10_method_31_code (4 : Nat) (Option.some Jvm.ClassFile.FieldType.boolean)) := rfl
theorem k5_160 : tables_1_5[160]? = some (Jvm.Cond.methodLink "RingGuardLaw" (96 : Nat) ({ cls := "RingGuardModel", name := "heal", desc := "(I)Z" } : Jvm.MethodName)) := by decide +kernel
theorem k5_161 : tables_1_5[161]? = some (Jvm.Cond.instanceMethod ({ cls := "RingGuardModel", name := "heal", desc := "(I)Z" } : Jvm.MethodName)) := by decide +kernel
theorem k5_162 : tables_1_5[162]? = some (Jvm.Cond.selects "RingGuardModel" ({ cls := "RingGuardModel", name := "heal", desc := "(I)Z" } : Jvm.MethodName) ({ cls := "RingGuardModel", name := "heal", desc := "(I)Z" } : Jvm.MethodName)) := by decide +kernel
theorem k5_163 : tables_1_5[163]? = some (Jvm.Cond.code ({ cls := "RingGuardModel", name := "heal", desc := "(I)Z" } : Jvm.MethodName) prog_10_method_32_code (2 : Nat) (Option.some Jvm.ClassFile.FieldType.boolean)) := rfl
theorem k5_168 : tables_1_5[168]? = some (Jvm.Cond.methodLink "RingGuardLaw" (103 : Nat) ({ cls := "RingGuardModel", name := "lose", desc := "(II)I" } : Jvm.MethodName)) := by decide +kernel
theorem k5_169 : tables_1_5[169]? = some (Jvm.Cond.instanceMethod ({ cls := "RingGuardModel", name := "lose", desc := "(II)I" } : Jvm.MethodName)) := by decide +kernel
theorem k5_170 : tables_1_5[170]? = some (Jvm.Cond.selects "RingGuardModel" ({ cls := "RingGuardModel", name := "lose", desc := "(II)I" } : Jvm.MethodName) ({ cls := "RingGuardModel", name := "lose", desc := "(II)I" } : Jvm.MethodName)) := by decide +kernel
theorem k5_171 : tables_1_5[171]? = some (Jvm.Cond.code ({ cls := "RingGuardModel", name := "lose", desc := "(II)I" } : Jvm.MethodName) prog_10_method_33_code (4 : Nat) (Option.some Jvm.ClassFile.FieldType.int)) := rfl
theorem k5_172 : tables_1_5[172]? = some (Jvm.Cond.methodLink "RingGuardLaw" (107 : Nat) ({ cls := "RingGuardModel", name := "order", desc := "(IIZ)Z" } : Jvm.MethodName)) := by decide +kernel
theorem k5_173 : tables_1_5[173]? = some (Jvm.Cond.instanceMethod ({ cls := "RingGuardModel", name := "order", desc := "(IIZ)Z" } : Jvm.MethodName)) := by decide +kernel
theorem k5_174 : tables_1_5[174]? = some (Jvm.Cond.selects "RingGuardModel" ({ cls := "RingGuardModel", name := "order", desc := "(IIZ)Z" } : Jvm.MethodName) ({ cls := "RingGuardModel", name := "order", desc := "(IIZ)Z" } : Jvm.MethodName)) := by decide +kernel
theorem k5_175 : tables_1_5[175]? = some (Jvm.Cond.code ({ cls := "RingGuardModel", name := "order", desc := "(IIZ)Z" } : Jvm.MethodName) prog_10_method_34_code (8 : Nat) (Option.some Jvm.ClassFile.FieldType.boolean)) := rfl
theorem dLA_law_152 : decode bLA_law 152 = .ok (.aload_n 1, 1) := by decide +kernel
theorem dLA_law_153 : decode bLA_law 153 = .ok (.aload_n 0, 1) := by decide +kernel
theorem dLA_law_154 : decode bLA_law 154 = .ok (.iload 4, 2) := by decide +kernel
theorem dLA_law_156 : decode bLA_law 156 = .ok (.iconst 1, 1) := by decide +kernel
theorem dLA_law_157 : decode bLA_law 157 = .ok (.iadd, 1) := by decide +kernel
theorem dLA_law_158 : decode bLA_law 158 = .ok (.iaload, 1) := by decide +kernel
theorem dLA_law_159 : decode bLA_law 159 = .ok (.aload_n 0, 1) := by decide +kernel
theorem dLA_law_160 : decode bLA_law 160 = .ok (.iload 4, 2) := by decide +kernel
theorem dLA_law_162 : decode bLA_law 162 = .ok (.iconst 2, 1) := by decide +kernel
theorem dLA_law_163 : decode bLA_law 163 = .ok (.iadd, 1) := by decide +kernel
theorem dLA_law_164 : decode bLA_law 164 = .ok (.iaload, 1) := by decide +kernel
theorem dLA_law_165 : decode bLA_law 165 = .ok (.aload_n 0, 1) := by decide +kernel
theorem dLA_law_166 : decode bLA_law 166 = .ok (.iload 4, 2) := by decide +kernel
theorem dLA_law_168 : decode bLA_law 168 = .ok (.iconst 3, 1) := by decide +kernel
theorem dLA_law_169 : decode bLA_law 169 = .ok (.iadd, 1) := by decide +kernel
theorem dLA_law_170 : decode bLA_law 170 = .ok (.iaload, 1) := by decide +kernel
theorem dLA_law_171 : decode bLA_law 171 = .ok (.aload_n 3, 1) := by decide +kernel
theorem dLA_law_172 : decode bLA_law 172 = .ok (.invokestatic 79, 3) := by decide +kernel
theorem dLA_law_175 : decode bLA_law 175 = .ok (.istore 5, 2) := by decide +kernel
theorem dLA_law_177 : decode bLA_law 177 = .ok (.aload_n 2, 1) := by decide +kernel
theorem dLA_law_178 : decode bLA_law 178 = .ok (.aload_n 0, 1) := by decide +kernel
theorem dLA_law_179 : decode bLA_law 179 = .ok (.iload 4, 2) := by decide +kernel
theorem dLA_law_181 : decode bLA_law 181 = .ok (.iconst 1, 1) := by decide +kernel
theorem dLA_law_182 : decode bLA_law 182 = .ok (.iadd, 1) := by decide +kernel
theorem dLA_law_183 : decode bLA_law 183 = .ok (.iaload, 1) := by decide +kernel
theorem dLA_law_184 : decode bLA_law 184 = .ok (.aload_n 0, 1) := by decide +kernel
theorem dLA_law_185 : decode bLA_law 185 = .ok (.iload 4, 2) := by decide +kernel
theorem dLA_law_187 : decode bLA_law 187 = .ok (.iconst 2, 1) := by decide +kernel
theorem dLA_law_188 : decode bLA_law 188 = .ok (.iadd, 1) := by decide +kernel
theorem dLA_law_189 : decode bLA_law 189 = .ok (.iaload, 1) := by decide +kernel
theorem dLA_law_190 : decode bLA_law 190 = .ok (.aload_n 0, 1) := by decide +kernel
theorem dLA_law_191 : decode bLA_law 191 = .ok (.iload 4, 2) := by decide +kernel
theorem dLA_law_193 : decode bLA_law 193 = .ok (.iconst 3, 1) := by decide +kernel
theorem dLA_law_194 : decode bLA_law 194 = .ok (.iadd, 1) := by decide +kernel
theorem dLA_law_195 : decode bLA_law 195 = .ok (.iaload, 1) := by decide +kernel
theorem dLA_law_196 : decode bLA_law 196 = .ok (.invokevirtual 82, 3) := by decide +kernel
theorem dLA_law_199 : decode bLA_law 199 = .ok (.istore 6, 2) := by decide +kernel
theorem dLA_law_201 : decode bLA_law 201 = .ok (.goto 676, 3) := by decide +kernel
theorem dLA_law_204 : decode bLA_law 204 = .ok (.aload_n 1, 1) := by decide +kernel
theorem dLA_law_205 : decode bLA_law 205 = .ok (.aload_n 0, 1) := by decide +kernel
theorem dLA_law_206 : decode bLA_law 206 = .ok (.iload 4, 2) := by decide +kernel
theorem dLA_law_208 : decode bLA_law 208 = .ok (.iconst 1, 1) := by decide +kernel
theorem dLA_law_209 : decode bLA_law 209 = .ok (.iadd, 1) := by decide +kernel
theorem dLA_law_210 : decode bLA_law 210 = .ok (.iaload, 1) := by decide +kernel
theorem dLA_law_211 : decode bLA_law 211 = .ok (.aload_n 0, 1) := by decide +kernel
theorem dLA_law_212 : decode bLA_law 212 = .ok (.iload 4, 2) := by decide +kernel
theorem dLA_law_214 : decode bLA_law 214 = .ok (.iconst 2, 1) := by decide +kernel
theorem dLA_law_215 : decode bLA_law 215 = .ok (.iadd, 1) := by decide +kernel
theorem dLA_law_216 : decode bLA_law 216 = .ok (.iaload, 1) := by decide +kernel
theorem dLA_law_217 : decode bLA_law 217 = .ok (.aload_n 0, 1) := by decide +kernel
theorem dLA_law_218 : decode bLA_law 218 = .ok (.iload 4, 2) := by decide +kernel
theorem dLA_law_220 : decode bLA_law 220 = .ok (.iconst 3, 1) := by decide +kernel
theorem dLA_law_221 : decode bLA_law 221 = .ok (.iadd, 1) := by decide +kernel
theorem dLA_law_222 : decode bLA_law 222 = .ok (.iaload, 1) := by decide +kernel
theorem dLA_law_223 : decode bLA_law 223 = .ok (.invokestatic 83, 3) := by decide +kernel
theorem dLA_law_226 : decode bLA_law 226 = .ok (.istore 5, 2) := by decide +kernel
theorem dLA_law_228 : decode bLA_law 228 = .ok (.aload_n 2, 1) := by decide +kernel
theorem dLA_law_229 : decode bLA_law 229 = .ok (.aload_n 0, 1) := by decide +kernel
theorem dLA_law_230 : decode bLA_law 230 = .ok (.iload 4, 2) := by decide +kernel
theorem dLA_law_232 : decode bLA_law 232 = .ok (.iconst 1, 1) := by decide +kernel
theorem dLA_law_233 : decode bLA_law 233 = .ok (.iadd, 1) := by decide +kernel
theorem dLA_law_234 : decode bLA_law 234 = .ok (.iaload, 1) := by decide +kernel
theorem dLA_law_235 : decode bLA_law 235 = .ok (.aload_n 0, 1) := by decide +kernel
theorem dLA_law_236 : decode bLA_law 236 = .ok (.iload 4, 2) := by decide +kernel
theorem dLA_law_238 : decode bLA_law 238 = .ok (.iconst 2, 1) := by decide +kernel
theorem dLA_law_239 : decode bLA_law 239 = .ok (.iadd, 1) := by decide +kernel
theorem dLA_law_240 : decode bLA_law 240 = .ok (.iaload, 1) := by decide +kernel
theorem dLA_law_241 : decode bLA_law 241 = .ok (.aload_n 0, 1) := by decide +kernel
theorem dLA_law_242 : decode bLA_law 242 = .ok (.iload 4, 2) := by decide +kernel
theorem dLA_law_244 : decode bLA_law 244 = .ok (.iconst 3, 1) := by decide +kernel
theorem dLA_law_245 : decode bLA_law 245 = .ok (.iadd, 1) := by decide +kernel
theorem dLA_law_246 : decode bLA_law 246 = .ok (.iaload, 1) := by decide +kernel
theorem dLA_law_247 : decode bLA_law 247 = .ok (.invokevirtual 86, 3) := by decide +kernel
theorem dLA_law_250 : decode bLA_law 250 = .ok (.goto 627, 3) := by decide +kernel
theorem dLA_law_253 : decode bLA_law 253 = .ok (.aload_n 1, 1) := by decide +kernel
theorem dLA_law_254 : decode bLA_law 254 = .ok (.aload_n 3, 1) := by decide +kernel
theorem dLA_law_255 : decode bLA_law 255 = .ok (.invokestatic 87, 3) := by decide +kernel
theorem dLA_law_258 : decode bLA_law 258 = .ok (.istore 5, 2) := by decide +kernel
theorem dLA_law_260 : decode bLA_law 260 = .ok (.aload_n 2, 1) := by decide +kernel
theorem dLA_law_261 : decode bLA_law 261 = .ok (.invokevirtual 89, 3) := by decide +kernel
theorem dLA_law_264 : decode bLA_law 264 = .ok (.istore 6, 2) := by decide +kernel
theorem dLA_law_266 : decode bLA_law 266 = .ok (.goto 611, 3) := by decide +kernel
theorem dLA_law_269 : decode bLA_law 269 = .ok (.aload_n 1, 1) := by decide +kernel
theorem dLA_law_270 : decode bLA_law 270 = .ok (.aload_n 0, 1) := by decide +kernel
theorem dLA_law_271 : decode bLA_law 271 = .ok (.iload 4, 2) := by decide +kernel
theorem dLA_law_273 : decode bLA_law 273 = .ok (.iconst 1, 1) := by decide +kernel
theorem dLA_law_274 : decode bLA_law 274 = .ok (.iadd, 1) := by decide +kernel
theorem dLA_law_275 : decode bLA_law 275 = .ok (.iaload, 1) := by decide +kernel
theorem dLA_law_276 : decode bLA_law 276 = .ok (.aload_n 3, 1) := by decide +kernel
theorem dLA_law_277 : decode bLA_law 277 = .ok (.invokestatic 90, 3) := by decide +kernel
theorem dLA_law_280 : decode bLA_law 280 = .ok (.istore 5, 2) := by decide +kernel
theorem dLA_law_282 : decode bLA_law 282 = .ok (.aload_n 2, 1) := by decide +kernel
theorem dLA_law_283 : decode bLA_law 283 = .ok (.aload_n 0, 1) := by decide +kernel
theorem dLA_law_284 : decode bLA_law 284 = .ok (.iload 4, 2) := by decide +kernel
theorem dLA_law_286 : decode bLA_law 286 = .ok (.iconst 1, 1) := by decide +kernel
theorem dLA_law_287 : decode bLA_law 287 = .ok (.iadd, 1) := by decide +kernel
theorem dLA_law_288 : decode bLA_law 288 = .ok (.iaload, 1) := by decide +kernel
theorem dLA_law_289 : decode bLA_law 289 = .ok (.invokevirtual 93, 3) := by decide +kernel
theorem dLA_law_292 : decode bLA_law 292 = .ok (.istore 6, 2) := by decide +kernel
theorem dLA_law_294 : decode bLA_law 294 = .ok (.goto 583, 3) := by decide +kernel
theorem dLA_law_297 : decode bLA_law 297 = .ok (.aload_n 1, 1) := by decide +kernel
theorem dLA_law_298 : decode bLA_law 298 = .ok (.aload_n 0, 1) := by decide +kernel
theorem dLA_law_299 : decode bLA_law 299 = .ok (.iload 4, 2) := by decide +kernel
theorem dLA_law_301 : decode bLA_law 301 = .ok (.iconst 1, 1) := by decide +kernel
theorem dLA_law_302 : decode bLA_law 302 = .ok (.iadd, 1) := by decide +kernel
theorem dLA_law_303 : decode bLA_law 303 = .ok (.iaload, 1) := by decide +kernel
theorem dLA_law_304 : decode bLA_law 304 = .ok (.aload_n 3, 1) := by decide +kernel
theorem dLA_law_305 : decode bLA_law 305 = .ok (.invokestatic 94, 3) := by decide +kernel
theorem dLA_law_308 : decode bLA_law 308 = .ok (.istore 5, 2) := by decide +kernel
theorem dLA_law_310 : decode bLA_law 310 = .ok (.aload_n 2, 1) := by decide +kernel
theorem dLA_law_311 : decode bLA_law 311 = .ok (.aload_n 0, 1) := by decide +kernel
theorem dLA_law_312 : decode bLA_law 312 = .ok (.iload 4, 2) := by decide +kernel
theorem dLA_law_314 : decode bLA_law 314 = .ok (.iconst 1, 1) := by decide +kernel
theorem dLA_law_315 : decode bLA_law 315 = .ok (.iadd, 1) := by decide +kernel
theorem dLA_law_316 : decode bLA_law 316 = .ok (.iaload, 1) := by decide +kernel
theorem dLA_law_317 : decode bLA_law 317 = .ok (.invokevirtual 96, 3) := by decide +kernel
theorem dLA_law_320 : decode bLA_law 320 = .ok (.istore 6, 2) := by decide +kernel
theorem dLA_law_322 : decode bLA_law 322 = .ok (.aload_n 2, 1) := by decide +kernel
theorem dLA_law_323 : decode bLA_law 323 = .ok (.invokevirtual 97, 3) := by decide +kernel
theorem dLA_law_326 : decode bLA_law 326 = .ok (.iload 5, 2) := by decide +kernel
theorem dLA_law_328 : decode bLA_law 328 = .ok (.if_icmp .eq 5, 3) := by decide +kernel
theorem dLA_law_333 : decode bLA_law 333 = .ok (.iload 5, 2) := by decide +kernel
theorem dLA_law_335 : decode bLA_law 335 = .ok (.ifCond .ne 22, 3) := by decide +kernel
theorem dLA_law_338 : decode bLA_law 338 = .ok (.aload_n 3, 1) := by decide +kernel
theorem dLA_law_339 : decode bLA_law 339 = .ok (.iconst 0, 1) := by decide +kernel
theorem dLA_law_340 : decode bLA_law 340 = .ok (.laload, 1) := by decide +kernel
theorem dLA_law_341 : decode bLA_law 341 = .ok (.iload 6, 2) := by decide +kernel
theorem dLA_law_343 : decode bLA_law 343 = .ok (.ifCond .eq 7, 3) := by decide +kernel
theorem dLA_law_346 : decode bLA_law 346 = .ok (.lconst 1, 1) := by decide +kernel
theorem dLA_law_347 : decode bLA_law 347 = .ok (.goto 4, 3) := by decide +kernel
theorem dLA_law_350 : decode bLA_law 350 = .ok (.lconst 0, 1) := by decide +kernel
theorem dLA_law_351 : decode bLA_law 351 = .ok (.lcmp, 1) := by decide +kernel
theorem dLA_law_352 : decode bLA_law 352 = .ok (.ifCond .eq 5, 3) := by decide +kernel
theorem dLA_law_357 : decode bLA_law 357 = .ok (.goto 520, 3) := by decide +kernel
theorem dLA_law_360 : decode bLA_law 360 = .ok (.aload_n 1, 1) := by decide +kernel
theorem dLA_law_361 : decode bLA_law 361 = .ok (.aload_n 0, 1) := by decide +kernel
theorem dLA_law_362 : decode bLA_law 362 = .ok (.iload 4, 2) := by decide +kernel
theorem dLA_law_364 : decode bLA_law 364 = .ok (.iconst 1, 1) := by decide +kernel
theorem dLA_law_365 : decode bLA_law 365 = .ok (.iadd, 1) := by decide +kernel
theorem dLA_law_366 : decode bLA_law 366 = .ok (.iaload, 1) := by decide +kernel
theorem dLA_law_367 : decode bLA_law 367 = .ok (.aload_n 0, 1) := by decide +kernel
theorem dLA_law_368 : decode bLA_law 368 = .ok (.iload 4, 2) := by decide +kernel
theorem dLA_law_370 : decode bLA_law 370 = .ok (.iconst 2, 1) := by decide +kernel
theorem dLA_law_371 : decode bLA_law 371 = .ok (.iadd, 1) := by decide +kernel
theorem dLA_law_372 : decode bLA_law 372 = .ok (.iaload, 1) := by decide +kernel
theorem dLA_law_373 : decode bLA_law 373 = .ok (.aload_n 3, 1) := by decide +kernel
theorem dLA_law_374 : decode bLA_law 374 = .ok (.invokestatic 100, 3) := by decide +kernel
theorem dLA_law_377 : decode bLA_law 377 = .ok (.istore 5, 2) := by decide +kernel
theorem dLA_law_379 : decode bLA_law 379 = .ok (.aload_n 2, 1) := by decide +kernel
theorem dLA_law_380 : decode bLA_law 380 = .ok (.aload_n 0, 1) := by decide +kernel
theorem dLA_law_381 : decode bLA_law 381 = .ok (.iload 4, 2) := by decide +kernel
theorem dLA_law_383 : decode bLA_law 383 = .ok (.iconst 1, 1) := by decide +kernel
theorem dLA_law_384 : decode bLA_law 384 = .ok (.iadd, 1) := by decide +kernel
theorem dLA_law_385 : decode bLA_law 385 = .ok (.iaload, 1) := by decide +kernel
theorem dLA_law_386 : decode bLA_law 386 = .ok (.aload_n 0, 1) := by decide +kernel
theorem dLA_law_387 : decode bLA_law 387 = .ok (.iload 4, 2) := by decide +kernel
theorem dLA_law_389 : decode bLA_law 389 = .ok (.iconst 2, 1) := by decide +kernel
theorem dLA_law_390 : decode bLA_law 390 = .ok (.iadd, 1) := by decide +kernel
theorem dLA_law_391 : decode bLA_law 391 = .ok (.iaload, 1) := by decide +kernel
theorem dLA_law_392 : decode bLA_law 392 = .ok (.invokevirtual 103, 3) := by decide +kernel
theorem dLA_law_395 : decode bLA_law 395 = .ok (.istore 6, 2) := by decide +kernel
theorem dLA_law_397 : decode bLA_law 397 = .ok (.goto 480, 3) := by decide +kernel
theorem dLA_law_400 : decode bLA_law 400 = .ok (.aload_n 1, 1) := by decide +kernel
theorem dLA_law_401 : decode bLA_law 401 = .ok (.aload_n 0, 1) := by decide +kernel
theorem dLA_law_402 : decode bLA_law 402 = .ok (.iload 4, 2) := by decide +kernel
theorem dLA_law_404 : decode bLA_law 404 = .ok (.iconst 1, 1) := by decide +kernel
theorem dLA_law_405 : decode bLA_law 405 = .ok (.iadd, 1) := by decide +kernel
theorem dLA_law_406 : decode bLA_law 406 = .ok (.iaload, 1) := by decide +kernel
theorem dLA_law_407 : decode bLA_law 407 = .ok (.aload_n 0, 1) := by decide +kernel
theorem dLA_law_408 : decode bLA_law 408 = .ok (.iload 4, 2) := by decide +kernel
theorem dLA_law_410 : decode bLA_law 410 = .ok (.iconst 2, 1) := by decide +kernel
theorem dLA_law_411 : decode bLA_law 411 = .ok (.iadd, 1) := by decide +kernel
theorem dLA_law_412 : decode bLA_law 412 = .ok (.iaload, 1) := by decide +kernel
theorem dLA_law_413 : decode bLA_law 413 = .ok (.aload_n 0, 1) := by decide +kernel
theorem dLA_law_414 : decode bLA_law 414 = .ok (.iload 4, 2) := by decide +kernel
theorem dLA_law_416 : decode bLA_law 416 = .ok (.iconst 3, 1) := by decide +kernel
theorem dLA_law_417 : decode bLA_law 417 = .ok (.iadd, 1) := by decide +kernel
theorem dLA_law_418 : decode bLA_law 418 = .ok (.iaload, 1) := by decide +kernel
theorem dLA_law_419 : decode bLA_law 419 = .ok (.ifCond .eq 7, 3) := by decide +kernel
theorem dLA_law_422 : decode bLA_law 422 = .ok (.iconst 1, 1) := by decide +kernel
theorem dLA_law_423 : decode bLA_law 423 = .ok (.goto 4, 3) := by decide +kernel
theorem dLA_law_426 : decode bLA_law 426 = .ok (.iconst 0, 1) := by decide +kernel
theorem dLA_law_427 : decode bLA_law 427 = .ok (.aload_n 3, 1) := by decide +kernel
theorem dLA_law_428 : decode bLA_law 428 = .ok (.invokestatic 104, 3) := by decide +kernel
theorem dLA_law_431 : decode bLA_law 431 = .ok (.istore 5, 2) := by decide +kernel
theorem dLA_law_433 : decode bLA_law 433 = .ok (.aload_n 2, 1) := by decide +kernel
theorem dLA_law_434 : decode bLA_law 434 = .ok (.aload_n 0, 1) := by decide +kernel
theorem dLA_law_435 : decode bLA_law 435 = .ok (.iload 4, 2) := by decide +kernel
theorem dLA_law_437 : decode bLA_law 437 = .ok (.iconst 1, 1) := by decide +kernel
theorem dLA_law_438 : decode bLA_law 438 = .ok (.iadd, 1) := by decide +kernel
theorem dLA_law_439 : decode bLA_law 439 = .ok (.iaload, 1) := by decide +kernel
theorem dLA_law_440 : decode bLA_law 440 = .ok (.aload_n 0, 1) := by decide +kernel
theorem dLA_law_441 : decode bLA_law 441 = .ok (.iload 4, 2) := by decide +kernel
theorem dLA_law_443 : decode bLA_law 443 = .ok (.iconst 2, 1) := by decide +kernel
theorem dLA_law_444 : decode bLA_law 444 = .ok (.iadd, 1) := by decide +kernel
theorem dLA_law_445 : decode bLA_law 445 = .ok (.iaload, 1) := by decide +kernel
theorem dLA_law_446 : decode bLA_law 446 = .ok (.aload_n 0, 1) := by decide +kernel
theorem dLA_law_447 : decode bLA_law 447 = .ok (.iload 4, 2) := by decide +kernel
theorem dLA_law_449 : decode bLA_law 449 = .ok (.iconst 3, 1) := by decide +kernel
theorem dLA_law_450 : decode bLA_law 450 = .ok (.iadd, 1) := by decide +kernel
theorem dLA_law_451 : decode bLA_law 451 = .ok (.iaload, 1) := by decide +kernel
theorem dLA_law_452 : decode bLA_law 452 = .ok (.ifCond .eq 7, 3) := by decide +kernel
theorem dLA_law_455 : decode bLA_law 455 = .ok (.iconst 1, 1) := by decide +kernel
theorem dLA_law_456 : decode bLA_law 456 = .ok (.goto 4, 3) := by decide +kernel
theorem dLA_law_459 : decode bLA_law 459 = .ok (.iconst 0, 1) := by decide +kernel
theorem dLA_law_460 : decode bLA_law 460 = .ok (.invokevirtual 107, 3) := by decide +kernel
theorem dLA_law_463 : decode bLA_law 463 = .ok (.istore 6, 2) := by decide +kernel
theorem dLA_law_465 : decode bLA_law 465 = .ok (.goto 412, 3) := by decide +kernel
set_option maxHeartbeats 4000000 in
set_option maxRecDepth 100000 in
theorem law_0 {p : Program} {e : Env} {s : State} {m : MethodId} {below : List Frame} {meth : Method} {c : Code} (l : Launch) (hfl : l.flags = Jvm.pinnedFlags ++ [Jvm.noTraceFlag]) {sb L : Nat} {xs : Nat → Int32} (C0 : zAt p s m meth c sb L xs) (dC : Nat → ClassId) (dI : Nat → Nat → Nat) (cI cZ cJ cA : ClassId) (hK : va_K (dC, dI) zCl (zTZ cI cZ cJ cA) s) {o mo mb : Nat → Nat} {qo : Nat} {k cs ss : Nat} (hL : L ≤ 2048) (hcs : cs + 1 ≤ 601024) (hss : ss + 6 ≤ 7293034) (hk : 4 * k + 4 ≤ L) (NX : zGo p l e s m below meth c dC dI cI cZ cJ cA sb qo o mo mb (k + 1) (nI (4 * k)) 877 (cs + 1) (ss + 6)) : zGo p l e s m below meth c dC dI cI cZ cJ cA sb qo o mo mb (k) (nI (4 * k)) 136 (cs) (ss) := by
  intro H locs ls b P S P' S' f hR hP hD hS hl
  have C1 := C0
  obtain ⟨hx, hb, hr, hml, hown, hB, hX, hbl, hlocks⟩ := C0
  have hA0 : ∀ q, zN s.heap.size q → s.heap.size ≤ q := fun _ h => h
  have hAD := hA0
  have hA : ∀ q : Nat, s.heap.size ≤ q → zN s.heap.size q := fun _ h => h
  have hbA : ¬ zN s.heap.size sb := Nat.not_le.mpr hbl
  obtain ⟨hI, gS, gS', hT⟩ := hR
  have gP := hI.1
  have gP' := hI.2.1
  refine lv_aload_n hx hb dLA_law_136 rfl (lv_at hl 3 rfl) ?_
  refine lv_aload_n hx hb dLA_law_137 rfl (lv_at hl 1 rfl) ?_
  have hcw : ∀ w ∈ [Cond.codeWith yLA_bridge bLA_bridge 3 (some .int) [(0, 8, 11, 13)]], w.before ([.ref sb] : List Value).toArray s = true := fun w h => by rw [List.mem_singleton.mp h]; exact hB.word (zm2 k2_61) rfl
  refine zcIL (tq_runSW (n := 2) (As := [.ref (o 0), .ref qo]) (rest := []) ⟨hx, hb, hml, hown, hcw⟩ (tLA_bridge l dC dI cI cZ cJ cA #[Value.ref sb] s o b hfl P S f qo H.size  gP gS) zgoodW rfl rfl rfl ⟨Nat.le_of_ble_eq_true rfl, Nat.le_of_ble_eq_true rfl⟩ (hB.word (zm2 k2_60) rfl) (hB.word (zm1 k1_0) rfl) (hB.word (zm2 k2_59) rfl) (by decide +kernel) ⟨zP_blind, zP_pre (zPL hP) hK (zDL hD) hAD (zB_on hB hA0 hS)⟩ rfl rfl hl.1 rfl (lv_room (Nat.le_of_ble_eq_true rfl)) dLA_law_138 ⟨hcs, hss⟩) hP hD hS hA (fun r1 x9 H locs hr1 hP hD hS => ?_)
  obtain ⟨P2, S3, f4⟩ := x9
  have hP : va_P (dC, dI) zCl ((CW cI cZ cA o b P2 S3 ++ [(qo, .inl (cJ, 1, .inr (.inl f4)))]) ++ MW cI cZ cA mo mb P' S') H := hP
  have hD : va_D (zN s.heap.size) ((CW cI cZ cA o b P2 S3 ++ [(qo, .inl (cJ, 1, .inr (.inl f4)))]) ++ MW cI cZ cA mo mb P' S') := hD
  have gPr1 := hr1.2.1
  have gSr1 := hr1.2.2
  refine lv_istore (lv' := [(5, .int r1), (4, .int (nI (4 * k))), (3, .ref qo), (2, .ref (mo 0)), (1, .ref (o 0)), (0, .ref sb)]) hx hb dLA_law_141 hl (by decide) rfl (fun ls hl => ?_)
  refine lv_aload_n hx hb dLA_law_143 rfl (lv_at hl 3 rfl) ?_
  have hP := zPC hP
  have hD := zDC hD
  have hPc := zPL hP
  have hDc := zDL hD
  refine zcIL (va_runV (As := []) (rest := []) ⟨hx, hb, hml, hown, zno⟩ (tMO_bridge l dC dI cI cZ cJ cA #[Value.ref sb] s mo mb P' S' H.size  gP' gS') (zcw 0 (hB.word (zm5 k5_41) rfl) (hB.word (zm1 k1_9) rfl) (hB.word (zm5 k5_38) rfl) (hB.word (zm5 k5_39) rfl) (hB.word (zm5 k5_40) rfl) rfl rfl (by decide +kernel) ⟨Nat.le_of_ble_eq_true rfl, Nat.le_of_ble_eq_true rfl⟩) ⟨zP_blind, va_recv hK hPc (ci := 7) (q0 := 0) rfl rfl, zP_pre hPc hK hDc hAD (zB_on hB hA0 hS)⟩ rfl rfl hl.1 rfl (lv_room (Nat.le_of_ble_eq_true rfl)) dLA_law_144 ⟨hcs, hss⟩) hP hD hS hA (fun r6 x9 H locs hr6 hP hD hS => ?_)
  obtain ⟨P7, S8⟩ := x9
  have gPr6 := hr6.2.1
  have gSr6 := hr6.2.2.1
  have hP := zPC hP
  have hD := zDC hD
  have hP : va_P (dC, dI) zCl ((CW cI cZ cA o b P2 S3 ++ [(qo, .inl (cJ, 1, .inr (.inl f4)))]) ++ MW cI cZ cA mo mb P7 S8) H := hP
  have hD : va_D (zN s.heap.size) ((CW cI cZ cA o b P2 S3 ++ [(qo, .inl (cJ, 1, .inr (.inl f4)))]) ++ MW cI cZ cA mo mb P7 S8) := hD
  have hZ := zs_bridge hI hr1.1 gPr1 hr6.1 gPr6
  have hJ : zIv P2 P7 := hZ.1
  have hTr6 : zXr (k + 1) P2 S3 P7 S8 := zk_bridge hI hT hr1.1 hr6.1 hJ
  refine lv_istore (lv' := [(6, .int r6), (5, .int r1), (4, .int (nI (4 * k))), (3, .ref qo), (2, .ref (mo 0)), (1, .ref (o 0)), (0, .ref sb)]) hx hb dLA_law_147 hl (by decide) rfl (fun ls hl => ?_)
  refine lv_goto (tgt := 877) hx hb dLA_law_149 (by decide) ?_
  exact NX H locs ls b P2 S3 P7 S8 f4 ⟨hJ, gSr1, gSr6, hTr6⟩ hP hD hS (lv_sub hl [2, 3, 4, 5, 6] rfl)
set_option maxHeartbeats 4000000 in
set_option maxRecDepth 100000 in
theorem law_1 {p : Program} {e : Env} {s : State} {m : MethodId} {below : List Frame} {meth : Method} {c : Code} (l : Launch) (hfl : l.flags = Jvm.pinnedFlags ++ [Jvm.noTraceFlag]) {sb L : Nat} {xs : Nat → Int32} (C0 : zAt p s m meth c sb L xs) (dC : Nat → ClassId) (dI : Nat → Nat → Nat) (cI cZ cJ cA : ClassId) (hK : va_K (dC, dI) zCl (zTZ cI cZ cJ cA) s) {o mo mb : Nat → Nat} {qo : Nat} {k cs ss : Nat} (hL : L ≤ 2048) (hcs : cs + 1 ≤ 601024) (hss : ss + 6 ≤ 7293034) (hk : 4 * k + 4 ≤ L) (NX : zGo p l e s m below meth c dC dI cI cZ cJ cA sb qo o mo mb (k + 1) (nI (4 * k)) 877 (cs + 1) (ss + 6)) : zGo p l e s m below meth c dC dI cI cZ cJ cA sb qo o mo mb (k) (nI (4 * k)) 152 (cs) (ss) := by
  intro H locs ls b P S P' S' f hR hP hD hS hl
  have C1 := C0
  obtain ⟨hx, hb, hr, hml, hown, hB, hX, hbl, hlocks⟩ := C0
  have hA0 : ∀ q, zN s.heap.size q → s.heap.size ≤ q := fun _ h => h
  have hAD := hA0
  have hA : ∀ q : Nat, s.heap.size ≤ q → zN s.heap.size q := fun _ h => h
  have hbA : ¬ zN s.heap.size sb := Nat.not_le.mpr hbl
  obtain ⟨hI, gS, gS', hT⟩ := hR
  have gP := hI.1
  have gP' := hI.2.1
  refine lv_aload_n hx hb dLA_law_152 rfl (lv_at hl 3 rfl) ?_
  refine lv_aload_n hx hb dLA_law_153 rfl (lv_at hl 4 rfl) ?_
  refine lv_iload hx hb dLA_law_154 (lv_at hl 0 rfl) ?_
  refine lv_iconst (v := 1) hx hb dLA_law_156 (by decide) ?_
  refine lv_iadd hx hb dLA_law_157 ?_
  refine lv_topi (fun k1 ek1 => ?_)
  have ek1 : k1 = nI ((4 * k) + 1) := ek1.trans (nI_add (4 * k) 1)
  subst ek1
  refine va_sld hx hb hX hbl hbA hS (i := nI ((4 * k) + 1)) (vp_in_nI (by omega) (by omega)) dLA_law_158 ?_
  refine lv_aload_n hx hb dLA_law_159 rfl (lv_at hl 4 rfl) ?_
  refine lv_iload hx hb dLA_law_160 (lv_at hl 0 rfl) ?_
  refine lv_iconst (v := 2) hx hb dLA_law_162 (by decide) ?_
  refine lv_iadd hx hb dLA_law_163 ?_
  refine lv_topi (fun k2 ek2 => ?_)
  have ek2 : k2 = nI ((4 * k) + 2) := ek2.trans (nI_add (4 * k) 2)
  subst ek2
  refine va_sld hx hb hX hbl hbA hS (i := nI ((4 * k) + 2)) (vp_in_nI (by omega) (by omega)) dLA_law_164 ?_
  refine lv_aload_n hx hb dLA_law_165 rfl (lv_at hl 4 rfl) ?_
  refine lv_iload hx hb dLA_law_166 (lv_at hl 0 rfl) ?_
  refine lv_iconst (v := 3) hx hb dLA_law_168 (by decide) ?_
  refine lv_iadd hx hb dLA_law_169 ?_
  refine lv_topi (fun k3 ek3 => ?_)
  have ek3 : k3 = nI ((4 * k) + 3) := ek3.trans (nI_add (4 * k) 3)
  subst ek3
  refine va_sld hx hb hX hbl hbA hS (i := nI ((4 * k) + 3)) (vp_in_nI (by omega) (by omega)) dLA_law_170 ?_
  refine lv_aload_n hx hb dLA_law_171 rfl (lv_at hl 1 rfl) ?_
  have hcw : ∀ w ∈ [Cond.codeWith yLA_link bLA_link 6 (some .int) [(0, 12, 15, 19), (0, 12, 19, 13)]], w.before ([.ref sb] : List Value).toArray s = true := fun w h => by rw [List.mem_singleton.mp h]; exact hB.word (zm2 k2_141) rfl
  refine zcIL (tq_runSW (n := 5) (As := [.ref (o 0), .int (xs (nI ((4 * k) + 1)).toNatClampNeg), .int (xs (nI ((4 * k) + 2)).toNatClampNeg), .int (xs (nI ((4 * k) + 3)).toNatClampNeg), .ref qo]) (rest := []) ⟨hx, hb, hml, hown, hcw⟩ (tLA_link l dC dI cI cZ cJ cA #[Value.ref sb] s o b hfl P S f qo H.size (xs (nI ((4 * k) + 1)).toNatClampNeg) (xs (nI ((4 * k) + 2)).toNatClampNeg) (xs (nI ((4 * k) + 3)).toNatClampNeg) gP gS) zgoodW rfl rfl rfl ⟨Nat.le_of_ble_eq_true rfl, Nat.le_of_ble_eq_true rfl⟩ (hB.word (zm2 k2_140) rfl) (hB.word (zm1 k1_0) rfl) (hB.word (zm2 k2_139) rfl) (by decide +kernel) ⟨zP_blind, zP_pre (zPL hP) hK (zDL hD) hAD (zB_on hB hA0 hS)⟩ rfl rfl hl.1 rfl (lv_room (Nat.le_of_ble_eq_true rfl)) dLA_law_172 ⟨hcs, hss⟩) hP hD hS hA (fun r4 x9 H locs hr4 hP hD hS => ?_)
  obtain ⟨P5, S6, f7⟩ := x9
  have hP : va_P (dC, dI) zCl ((CW cI cZ cA o b P5 S6 ++ [(qo, .inl (cJ, 1, .inr (.inl f7)))]) ++ MW cI cZ cA mo mb P' S') H := hP
  have hD : va_D (zN s.heap.size) ((CW cI cZ cA o b P5 S6 ++ [(qo, .inl (cJ, 1, .inr (.inl f7)))]) ++ MW cI cZ cA mo mb P' S') := hD
  have gPr4 := hr4.2.1
  have gSr4 := hr4.2.2
  refine lv_istore (lv' := [(5, .int r4), (4, .int (nI (4 * k))), (3, .ref qo), (2, .ref (mo 0)), (1, .ref (o 0)), (0, .ref sb)]) hx hb dLA_law_175 hl (by decide) rfl (fun ls hl => ?_)
  refine lv_aload_n hx hb dLA_law_177 rfl (lv_at hl 3 rfl) ?_
  refine lv_aload_n hx hb dLA_law_178 rfl (lv_at hl 5 rfl) ?_
  refine lv_iload hx hb dLA_law_179 (lv_at hl 1 rfl) ?_
  refine lv_iconst (v := 1) hx hb dLA_law_181 (by decide) ?_
  refine lv_iadd hx hb dLA_law_182 ?_
  refine lv_topi (fun k9 ek9 => ?_)
  have ek9 : k9 = nI ((4 * k) + 1) := ek9.trans (nI_add (4 * k) 1)
  subst ek9
  refine va_sld hx hb hX hbl hbA hS (i := nI ((4 * k) + 1)) (vp_in_nI (by omega) (by omega)) dLA_law_183 ?_
  refine lv_aload_n hx hb dLA_law_184 rfl (lv_at hl 5 rfl) ?_
  refine lv_iload hx hb dLA_law_185 (lv_at hl 1 rfl) ?_
  refine lv_iconst (v := 2) hx hb dLA_law_187 (by decide) ?_
  refine lv_iadd hx hb dLA_law_188 ?_
  refine lv_topi (fun k10 ek10 => ?_)
  have ek10 : k10 = nI ((4 * k) + 2) := ek10.trans (nI_add (4 * k) 2)
  subst ek10
  refine va_sld hx hb hX hbl hbA hS (i := nI ((4 * k) + 2)) (vp_in_nI (by omega) (by omega)) dLA_law_189 ?_
  refine lv_aload_n hx hb dLA_law_190 rfl (lv_at hl 5 rfl) ?_
  refine lv_iload hx hb dLA_law_191 (lv_at hl 1 rfl) ?_
  refine lv_iconst (v := 3) hx hb dLA_law_193 (by decide) ?_
  refine lv_iadd hx hb dLA_law_194 ?_
  refine lv_topi (fun k11 ek11 => ?_)
  have ek11 : k11 = nI ((4 * k) + 3) := ek11.trans (nI_add (4 * k) 3)
  subst ek11
  refine va_sld hx hb hX hbl hbA hS (i := nI ((4 * k) + 3)) (vp_in_nI (by omega) (by omega)) dLA_law_195 ?_
  have hP := zPC hP
  have hD := zDC hD
  have hPc := zPL hP
  have hDc := zDL hD
  refine zcIL (va_runV (As := [.int (xs (nI ((4 * k) + 1)).toNatClampNeg), .int (xs (nI ((4 * k) + 2)).toNatClampNeg), .int (xs (nI ((4 * k) + 3)).toNatClampNeg)]) (rest := []) ⟨hx, hb, hml, hown, zno⟩ (tMO_link l dC dI cI cZ cJ cA #[Value.ref sb] s mo mb P' S' H.size (xs (nI ((4 * k) + 1)).toNatClampNeg) (xs (nI ((4 * k) + 2)).toNatClampNeg) (xs (nI ((4 * k) + 3)).toNatClampNeg) gP' gS') (zcw 3 (hB.word (zm5 k5_45) rfl) (hB.word (zm1 k1_9) rfl) (hB.word (zm5 k5_42) rfl) (hB.word (zm5 k5_43) rfl) (hB.word (zm5 k5_44) rfl) rfl rfl (by decide +kernel) ⟨Nat.le_of_ble_eq_true rfl, Nat.le_of_ble_eq_true rfl⟩) ⟨zP_blind, va_recv hK hPc (ci := 7) (q0 := 0) rfl rfl, zP_pre hPc hK hDc hAD (zB_on hB hA0 hS)⟩ rfl rfl hl.1 rfl (lv_room (Nat.le_of_ble_eq_true rfl)) dLA_law_196 ⟨hcs, hss⟩) hP hD hS hA (fun r12 x9 H locs hr12 hP hD hS => ?_)
  obtain ⟨P13, S14⟩ := x9
  have gPr12 := hr12.2.1
  have gSr12 := hr12.2.2.1
  have hP := zPC hP
  have hD := zDC hD
  have hP : va_P (dC, dI) zCl ((CW cI cZ cA o b P5 S6 ++ [(qo, .inl (cJ, 1, .inr (.inl f7)))]) ++ MW cI cZ cA mo mb P13 S14) H := hP
  have hD : va_D (zN s.heap.size) ((CW cI cZ cA o b P5 S6 ++ [(qo, .inl (cJ, 1, .inr (.inl f7)))]) ++ MW cI cZ cA mo mb P13 S14) := hD
  have hZ := zs_link hI hr4.1 gPr4 hr12.1 gPr12
  have hJ : zIv P5 P13 := hZ
  have hTr12 : zXr (k + 1) P5 S6 P13 S14 := zk_link hI hT hr4.1 hr12.1 hJ
  refine lv_istore (lv' := [(6, .int r12), (5, .int r4), (4, .int (nI (4 * k))), (3, .ref qo), (2, .ref (mo 0)), (1, .ref (o 0)), (0, .ref sb)]) hx hb dLA_law_199 hl (by decide) rfl (fun ls hl => ?_)
  refine lv_goto (tgt := 877) hx hb dLA_law_201 (by decide) ?_
  exact NX H locs ls b P5 S6 P13 S14 f7 ⟨hJ, gSr4, gSr12, hTr12⟩ hP hD hS (lv_sub hl [2, 3, 4, 5, 6] rfl)
set_option maxHeartbeats 4000000 in
set_option maxRecDepth 100000 in
theorem law_2 {p : Program} {e : Env} {s : State} {m : MethodId} {below : List Frame} {meth : Method} {c : Code} (l : Launch) (hfl : l.flags = Jvm.pinnedFlags ++ [Jvm.noTraceFlag]) {sb L : Nat} {xs : Nat → Int32} (C0 : zAt p s m meth c sb L xs) (dC : Nat → ClassId) (dI : Nat → Nat → Nat) (cI cZ cJ cA : ClassId) (hK : va_K (dC, dI) zCl (zTZ cI cZ cJ cA) s) {o mo mb : Nat → Nat} {qo : Nat} {k cs ss : Nat} (hL : L ≤ 2048) (hcs : cs + 1 ≤ 601024) (hss : ss + 6 ≤ 7293034) (hk : 4 * k + 4 ≤ L) (NX : zGo p l e s m below meth c dC dI cI cZ cJ cA sb qo o mo mb (k + 1) (nI (4 * k)) 877 (cs + 1) (ss + 6)) : zGo p l e s m below meth c dC dI cI cZ cJ cA sb qo o mo mb (k) (nI (4 * k)) 204 (cs) (ss) := by
  intro H locs ls b P S P' S' f hR hP hD hS hl
  have C1 := C0
  obtain ⟨hx, hb, hr, hml, hown, hB, hX, hbl, hlocks⟩ := C0
  have hA0 : ∀ q, zN s.heap.size q → s.heap.size ≤ q := fun _ h => h
  have hAD := hA0
  have hA : ∀ q : Nat, s.heap.size ≤ q → zN s.heap.size q := fun _ h => h
  have hbA : ¬ zN s.heap.size sb := Nat.not_le.mpr hbl
  obtain ⟨hI, gS, gS', hT⟩ := hR
  have gP := hI.1
  have gP' := hI.2.1
  refine lv_aload_n hx hb dLA_law_204 rfl (lv_at hl 3 rfl) ?_
  refine lv_aload_n hx hb dLA_law_205 rfl (lv_at hl 4 rfl) ?_
  refine lv_iload hx hb dLA_law_206 (lv_at hl 0 rfl) ?_
  refine lv_iconst (v := 1) hx hb dLA_law_208 (by decide) ?_
  refine lv_iadd hx hb dLA_law_209 ?_
  refine lv_topi (fun k1 ek1 => ?_)
  have ek1 : k1 = nI ((4 * k) + 1) := ek1.trans (nI_add (4 * k) 1)
  subst ek1
  refine va_sld hx hb hX hbl hbA hS (i := nI ((4 * k) + 1)) (vp_in_nI (by omega) (by omega)) dLA_law_210 ?_
  refine lv_aload_n hx hb dLA_law_211 rfl (lv_at hl 4 rfl) ?_
  refine lv_iload hx hb dLA_law_212 (lv_at hl 0 rfl) ?_
  refine lv_iconst (v := 2) hx hb dLA_law_214 (by decide) ?_
  refine lv_iadd hx hb dLA_law_215 ?_
  refine lv_topi (fun k2 ek2 => ?_)
  have ek2 : k2 = nI ((4 * k) + 2) := ek2.trans (nI_add (4 * k) 2)
  subst ek2
  refine va_sld hx hb hX hbl hbA hS (i := nI ((4 * k) + 2)) (vp_in_nI (by omega) (by omega)) dLA_law_216 ?_
  refine lv_aload_n hx hb dLA_law_217 rfl (lv_at hl 4 rfl) ?_
  refine lv_iload hx hb dLA_law_218 (lv_at hl 0 rfl) ?_
  refine lv_iconst (v := 3) hx hb dLA_law_220 (by decide) ?_
  refine lv_iadd hx hb dLA_law_221 ?_
  refine lv_topi (fun k3 ek3 => ?_)
  have ek3 : k3 = nI ((4 * k) + 3) := ek3.trans (nI_add (4 * k) 3)
  subst ek3
  refine va_sld hx hb hX hbl hbA hS (i := nI ((4 * k) + 3)) (vp_in_nI (by omega) (by omega)) dLA_law_222 ?_
  have hcw : ∀ w ∈ [Cond.codeWith yLA_owner bLA_owner 5 (some .int) [(0, 7, 10, 19), (0, 7, 14, 13)]], w.before ([.ref sb] : List Value).toArray s = true := fun w h => by rw [List.mem_singleton.mp h]; exact hB.word (zm2 k2_180) rfl
  refine zcIL (tq_runSW (n := 4) (As := [.ref (o 0), .int (xs (nI ((4 * k) + 1)).toNatClampNeg), .int (xs (nI ((4 * k) + 2)).toNatClampNeg), .int (xs (nI ((4 * k) + 3)).toNatClampNeg)]) (rest := []) ⟨hx, hb, hml, hown, hcw⟩ (tLA_owner l dC dI cI cZ cJ cA #[Value.ref sb] s o b hfl P S f qo H.size (xs (nI ((4 * k) + 1)).toNatClampNeg) (xs (nI ((4 * k) + 2)).toNatClampNeg) (xs (nI ((4 * k) + 3)).toNatClampNeg) gP gS) zgoodW rfl rfl rfl ⟨Nat.le_of_ble_eq_true rfl, Nat.le_of_ble_eq_true rfl⟩ (hB.word (zm2 k2_179) rfl) (hB.word (zm1 k1_0) rfl) (hB.word (zm2 k2_178) rfl) (by decide +kernel) ⟨zP_blind, zP_pre (zPL hP) hK (zDL hD) hAD (zB_on hB hA0 hS)⟩ rfl rfl hl.1 rfl (lv_room (Nat.le_of_ble_eq_true rfl)) dLA_law_223 ⟨hcs, hss⟩) hP hD hS hA (fun r4 x9 H locs hr4 hP hD hS => ?_)
  obtain ⟨P5, S6, f7⟩ := x9
  have hP : va_P (dC, dI) zCl ((CW cI cZ cA o b P5 S6 ++ [(qo, .inl (cJ, 1, .inr (.inl f7)))]) ++ MW cI cZ cA mo mb P' S') H := hP
  have hD : va_D (zN s.heap.size) ((CW cI cZ cA o b P5 S6 ++ [(qo, .inl (cJ, 1, .inr (.inl f7)))]) ++ MW cI cZ cA mo mb P' S') := hD
  have gPr4 := hr4.2.1
  have gSr4 := hr4.2.2
  refine lv_istore (lv' := [(5, .int r4), (4, .int (nI (4 * k))), (3, .ref qo), (2, .ref (mo 0)), (1, .ref (o 0)), (0, .ref sb)]) hx hb dLA_law_226 hl (by decide) rfl (fun ls hl => ?_)
  refine lv_aload_n hx hb dLA_law_228 rfl (lv_at hl 3 rfl) ?_
  refine lv_aload_n hx hb dLA_law_229 rfl (lv_at hl 5 rfl) ?_
  refine lv_iload hx hb dLA_law_230 (lv_at hl 1 rfl) ?_
  refine lv_iconst (v := 1) hx hb dLA_law_232 (by decide) ?_
  refine lv_iadd hx hb dLA_law_233 ?_
  refine lv_topi (fun k9 ek9 => ?_)
  have ek9 : k9 = nI ((4 * k) + 1) := ek9.trans (nI_add (4 * k) 1)
  subst ek9
  refine va_sld hx hb hX hbl hbA hS (i := nI ((4 * k) + 1)) (vp_in_nI (by omega) (by omega)) dLA_law_234 ?_
  refine lv_aload_n hx hb dLA_law_235 rfl (lv_at hl 5 rfl) ?_
  refine lv_iload hx hb dLA_law_236 (lv_at hl 1 rfl) ?_
  refine lv_iconst (v := 2) hx hb dLA_law_238 (by decide) ?_
  refine lv_iadd hx hb dLA_law_239 ?_
  refine lv_topi (fun k10 ek10 => ?_)
  have ek10 : k10 = nI ((4 * k) + 2) := ek10.trans (nI_add (4 * k) 2)
  subst ek10
  refine va_sld hx hb hX hbl hbA hS (i := nI ((4 * k) + 2)) (vp_in_nI (by omega) (by omega)) dLA_law_240 ?_
  refine lv_aload_n hx hb dLA_law_241 rfl (lv_at hl 5 rfl) ?_
  refine lv_iload hx hb dLA_law_242 (lv_at hl 1 rfl) ?_
  refine lv_iconst (v := 3) hx hb dLA_law_244 (by decide) ?_
  refine lv_iadd hx hb dLA_law_245 ?_
  refine lv_topi (fun k11 ek11 => ?_)
  have ek11 : k11 = nI ((4 * k) + 3) := ek11.trans (nI_add (4 * k) 3)
  subst ek11
  refine va_sld hx hb hX hbl hbA hS (i := nI ((4 * k) + 3)) (vp_in_nI (by omega) (by omega)) dLA_law_246 ?_
  have hP := zPC hP
  have hD := zDC hD
  have hPc := zPL hP
  have hDc := zDL hD
  refine zcVL (va_runV (As := [.int (xs (nI ((4 * k) + 1)).toNatClampNeg), .int (xs (nI ((4 * k) + 2)).toNatClampNeg), .int (xs (nI ((4 * k) + 3)).toNatClampNeg)]) (rest := []) ⟨hx, hb, hml, hown, zno⟩ (tMO_owner l dC dI cI cZ cJ cA #[Value.ref sb] s mo mb P' S' H.size (xs (nI ((4 * k) + 1)).toNatClampNeg) (xs (nI ((4 * k) + 2)).toNatClampNeg) (xs (nI ((4 * k) + 3)).toNatClampNeg) gP' gS') (zcw 3 (hB.word (zm5 k5_60) rfl) (hB.word (zm1 k1_9) rfl) (hB.word (zm5 k5_57) rfl) (hB.word (zm5 k5_58) rfl) (hB.word (zm5 k5_59) rfl) rfl rfl (by decide +kernel) ⟨Nat.le_of_ble_eq_true rfl, Nat.le_of_ble_eq_true rfl⟩) ⟨zP_blind, va_recv hK hPc (ci := 7) (q0 := 0) rfl rfl, zP_pre hPc hK hDc hAD (zB_on hB hA0 hS)⟩ rfl rfl hl.1 rfl (lv_room (Nat.le_of_ble_eq_true rfl)) dLA_law_247 ⟨hcs, hss⟩) hP hD hS hA (fun x9 H locs hr12 hP hD hS => ?_)
  obtain ⟨P13, S14⟩ := x9
  have gPr12 := hr12.2.1
  have gSr12 := hr12.2.2
  have hP := zPC hP
  have hD := zDC hD
  have hP : va_P (dC, dI) zCl ((CW cI cZ cA o b P5 S6 ++ [(qo, .inl (cJ, 1, .inr (.inl f7)))]) ++ MW cI cZ cA mo mb P13 S14) H := hP
  have hD : va_D (zN s.heap.size) ((CW cI cZ cA o b P5 S6 ++ [(qo, .inl (cJ, 1, .inr (.inl f7)))]) ++ MW cI cZ cA mo mb P13 S14) := hD
  have hZ := zs_owner hI hr4.1 gPr4 hr12.1 gPr12
  have hJ : zIv P5 P13 := hZ
  have hTr12 : zXr (k + 1) P5 S6 P13 S14 := zk_owner hI hT hr4.1 hr12.1 hJ
  refine lv_goto (tgt := 877) hx hb dLA_law_250 (by decide) ?_
  exact NX H locs ls b P5 S6 P13 S14 f7 ⟨hJ, gSr4, gSr12, hTr12⟩ hP hD hS (lv_sub hl [1, 2, 3, 4, 5] rfl)
set_option maxHeartbeats 4000000 in
set_option maxRecDepth 100000 in
theorem law_3 {p : Program} {e : Env} {s : State} {m : MethodId} {below : List Frame} {meth : Method} {c : Code} (l : Launch) (hfl : l.flags = Jvm.pinnedFlags ++ [Jvm.noTraceFlag]) {sb L : Nat} {xs : Nat → Int32} (C0 : zAt p s m meth c sb L xs) (dC : Nat → ClassId) (dI : Nat → Nat → Nat) (cI cZ cJ cA : ClassId) (hK : va_K (dC, dI) zCl (zTZ cI cZ cJ cA) s) {o mo mb : Nat → Nat} {qo : Nat} {k cs ss : Nat} (hL : L ≤ 2048) (hcs : cs + 1 ≤ 601024) (hss : ss + 6 ≤ 7293034) (hk : 4 * k + 4 ≤ L) (NX : zGo p l e s m below meth c dC dI cI cZ cJ cA sb qo o mo mb (k + 1) (nI (4 * k)) 877 (cs + 1) (ss + 6)) : zGo p l e s m below meth c dC dI cI cZ cJ cA sb qo o mo mb (k) (nI (4 * k)) 253 (cs) (ss) := by
  intro H locs ls b P S P' S' f hR hP hD hS hl
  have C1 := C0
  obtain ⟨hx, hb, hr, hml, hown, hB, hX, hbl, hlocks⟩ := C0
  have hA0 : ∀ q, zN s.heap.size q → s.heap.size ≤ q := fun _ h => h
  have hAD := hA0
  have hA : ∀ q : Nat, s.heap.size ≤ q → zN s.heap.size q := fun _ h => h
  have hbA : ¬ zN s.heap.size sb := Nat.not_le.mpr hbl
  obtain ⟨hI, gS, gS', hT⟩ := hR
  have gP := hI.1
  have gP' := hI.2.1
  refine lv_aload_n hx hb dLA_law_253 rfl (lv_at hl 3 rfl) ?_
  refine lv_aload_n hx hb dLA_law_254 rfl (lv_at hl 1 rfl) ?_
  have hcw : ∀ w ∈ [Cond.codeWith yLA_start bLA_start 3 (some .int) [(0, 8, 11, 13)]], w.before ([.ref sb] : List Value).toArray s = true := fun w h => by rw [List.mem_singleton.mp h]; exact hB.word (zm2 k2_192) rfl
  refine zcIL (tq_runSW (n := 2) (As := [.ref (o 0), .ref qo]) (rest := []) ⟨hx, hb, hml, hown, hcw⟩ (tLA_start l dC dI cI cZ cJ cA #[Value.ref sb] s o b hfl P S f qo H.size  gP gS (fun e9 => hI.2.2.2.2.2.2.elim And.right (fun h9 => absurd e9 h9.1))) zgoodW rfl rfl rfl ⟨Nat.le_of_ble_eq_true rfl, Nat.le_of_ble_eq_true rfl⟩ (hB.word (zm2 k2_191) rfl) (hB.word (zm1 k1_0) rfl) (hB.word (zm2 k2_190) rfl) (by decide +kernel) ⟨zP_blind, zP_pre (zPL hP) hK (zDL hD) hAD (zB_on hB hA0 hS)⟩ rfl rfl hl.1 rfl (lv_room (Nat.le_of_ble_eq_true rfl)) dLA_law_255 ⟨hcs, hss⟩) hP hD hS hA (fun r1 x9 H locs hr1 hP hD hS => ?_)
  obtain ⟨P2, S3, f4⟩ := x9
  have hP : va_P (dC, dI) zCl ((CW cI cZ cA o b P2 S3 ++ [(qo, .inl (cJ, 1, .inr (.inl f4)))]) ++ MW cI cZ cA mo mb P' S') H := hP
  have hD : va_D (zN s.heap.size) ((CW cI cZ cA o b P2 S3 ++ [(qo, .inl (cJ, 1, .inr (.inl f4)))]) ++ MW cI cZ cA mo mb P' S') := hD
  have gPr1 := hr1.2.1
  have gSr1 := hr1.2.2
  refine lv_istore (lv' := [(5, .int r1), (4, .int (nI (4 * k))), (3, .ref qo), (2, .ref (mo 0)), (1, .ref (o 0)), (0, .ref sb)]) hx hb dLA_law_258 hl (by decide) rfl (fun ls hl => ?_)
  refine lv_aload_n hx hb dLA_law_260 rfl (lv_at hl 3 rfl) ?_
  have hP := zPC hP
  have hD := zDC hD
  have hPc := zPL hP
  have hDc := zDL hD
  refine zcIL (va_runV (As := []) (rest := []) ⟨hx, hb, hml, hown, zno⟩ (tMO_start l dC dI cI cZ cJ cA #[Value.ref sb] s mo mb P' S' H.size  gP' gS' hI.M) (zcw 0 (hB.word (zm5 k5_68) rfl) (hB.word (zm1 k1_9) rfl) (hB.word (zm5 k5_65) rfl) (hB.word (zm5 k5_66) rfl) (hB.word (zm5 k5_67) rfl) rfl rfl (by decide +kernel) ⟨Nat.le_of_ble_eq_true rfl, Nat.le_of_ble_eq_true rfl⟩) ⟨zP_blind, va_recv hK hPc (ci := 7) (q0 := 0) rfl rfl, zP_pre hPc hK hDc hAD (zB_on hB hA0 hS)⟩ rfl rfl hl.1 rfl (lv_room (Nat.le_of_ble_eq_true rfl)) dLA_law_261 ⟨hcs, hss⟩) hP hD hS hA (fun r6 x9 H locs hr6 hP hD hS => ?_)
  obtain ⟨P7, S8⟩ := x9
  have gPr6 := hr6.2.1
  have gSr6 := hr6.2.2.1
  have hP := zPC hP
  have hD := zDC hD
  have hP : va_P (dC, dI) zCl ((CW cI cZ cA o b P2 S3 ++ [(qo, .inl (cJ, 1, .inr (.inl f4)))]) ++ MW cI cZ cA mo mb P7 S8) H := hP
  have hD : va_D (zN s.heap.size) ((CW cI cZ cA o b P2 S3 ++ [(qo, .inl (cJ, 1, .inr (.inl f4)))]) ++ MW cI cZ cA mo mb P7 S8) := hD
  have hZ := zs_start hI hr1.1 gPr1 hr6.1 gPr6
  have hJ : zIv P2 P7 := hZ
  have hTr6 : zXr (k + 1) P2 S3 P7 S8 := zk_start hI hT hr1.1 gPr1 hr6.1
  refine lv_istore (lv' := [(6, .int r6), (5, .int r1), (4, .int (nI (4 * k))), (3, .ref qo), (2, .ref (mo 0)), (1, .ref (o 0)), (0, .ref sb)]) hx hb dLA_law_264 hl (by decide) rfl (fun ls hl => ?_)
  refine lv_goto (tgt := 877) hx hb dLA_law_266 (by decide) ?_
  exact NX H locs ls b P2 S3 P7 S8 f4 ⟨hJ, gSr1, gSr6, hTr6⟩ hP hD hS (lv_sub hl [2, 3, 4, 5, 6] rfl)
set_option maxHeartbeats 4000000 in
set_option maxRecDepth 100000 in
theorem law_4 {p : Program} {e : Env} {s : State} {m : MethodId} {below : List Frame} {meth : Method} {c : Code} (l : Launch) (hfl : l.flags = Jvm.pinnedFlags ++ [Jvm.noTraceFlag]) {sb L : Nat} {xs : Nat → Int32} (C0 : zAt p s m meth c sb L xs) (dC : Nat → ClassId) (dI : Nat → Nat → Nat) (cI cZ cJ cA : ClassId) (hK : va_K (dC, dI) zCl (zTZ cI cZ cJ cA) s) {o mo mb : Nat → Nat} {qo : Nat} {k cs ss : Nat} (hL : L ≤ 2048) (hcs : cs + 1 ≤ 601024) (hss : ss + 6 ≤ 7293034) (hk : 4 * k + 4 ≤ L) (NX : zGo p l e s m below meth c dC dI cI cZ cJ cA sb qo o mo mb (k + 1) (nI (4 * k)) 877 (cs + 1) (ss + 6)) : zGo p l e s m below meth c dC dI cI cZ cJ cA sb qo o mo mb (k) (nI (4 * k)) 269 (cs) (ss) := by
  intro H locs ls b P S P' S' f hR hP hD hS hl
  have C1 := C0
  obtain ⟨hx, hb, hr, hml, hown, hB, hX, hbl, hlocks⟩ := C0
  have hA0 : ∀ q, zN s.heap.size q → s.heap.size ≤ q := fun _ h => h
  have hAD := hA0
  have hA : ∀ q : Nat, s.heap.size ≤ q → zN s.heap.size q := fun _ h => h
  have hbA : ¬ zN s.heap.size sb := Nat.not_le.mpr hbl
  obtain ⟨hI, gS, gS', hT⟩ := hR
  have gP := hI.1
  have gP' := hI.2.1
  refine lv_aload_n hx hb dLA_law_269 rfl (lv_at hl 3 rfl) ?_
  refine lv_aload_n hx hb dLA_law_270 rfl (lv_at hl 4 rfl) ?_
  refine lv_iload hx hb dLA_law_271 (lv_at hl 0 rfl) ?_
  refine lv_iconst (v := 1) hx hb dLA_law_273 (by decide) ?_
  refine lv_iadd hx hb dLA_law_274 ?_
  refine lv_topi (fun k1 ek1 => ?_)
  have ek1 : k1 = nI ((4 * k) + 1) := ek1.trans (nI_add (4 * k) 1)
  subst ek1
  refine va_sld hx hb hX hbl hbA hS (i := nI ((4 * k) + 1)) (vp_in_nI (by omega) (by omega)) dLA_law_275 ?_
  refine lv_aload_n hx hb dLA_law_276 rfl (lv_at hl 1 rfl) ?_
  have hcw : ∀ w ∈ [Cond.codeWith yLA_fail bLA_fail 4 (some .int) [(0, 16, 19, 19), (0, 16, 22, 13)]], w.before ([.ref sb] : List Value).toArray s = true := fun w h => by rw [List.mem_singleton.mp h]; exact hB.word (zm3 k3_50) rfl
  refine zcIL (tq_runSW (n := 3) (As := [.ref (o 0), .int (xs (nI ((4 * k) + 1)).toNatClampNeg), .ref qo]) (rest := []) ⟨hx, hb, hml, hown, hcw⟩ (tLA_fail l dC dI cI cZ cJ cA #[Value.ref sb] s o b hfl P S f qo H.size (xs (nI ((4 * k) + 1)).toNatClampNeg) gP gS (hI.2.2.2.2.2.2.imp And.left And.right)) zgoodW rfl rfl rfl ⟨Nat.le_of_ble_eq_true rfl, Nat.le_of_ble_eq_true rfl⟩ (hB.word (zm3 k3_49) rfl) (hB.word (zm1 k1_0) rfl) (hB.word (zm3 k3_48) rfl) (by decide +kernel) ⟨zP_blind, zP_pre (zPL hP) hK (zDL hD) hAD (zB_on hB hA0 hS)⟩ rfl rfl hl.1 rfl (lv_room (Nat.le_of_ble_eq_true rfl)) dLA_law_277 ⟨hcs, hss⟩) hP hD hS hA (fun r2 x9 H locs hr2 hP hD hS => ?_)
  obtain ⟨P3, S4, f5⟩ := x9
  have hP : va_P (dC, dI) zCl ((CW cI cZ cA o b P3 S4 ++ [(qo, .inl (cJ, 1, .inr (.inl f5)))]) ++ MW cI cZ cA mo mb P' S') H := hP
  have hD : va_D (zN s.heap.size) ((CW cI cZ cA o b P3 S4 ++ [(qo, .inl (cJ, 1, .inr (.inl f5)))]) ++ MW cI cZ cA mo mb P' S') := hD
  have gPr2 := hr2.2.1
  have gSr2 := hr2.2.2
  have ePr2 : P3 = P := zH_fail_P hr2.1
  rw [ePr2] at hP hD
  refine lv_istore (lv' := [(5, .int r2), (4, .int (nI (4 * k))), (3, .ref qo), (2, .ref (mo 0)), (1, .ref (o 0)), (0, .ref sb)]) hx hb dLA_law_280 hl (by decide) rfl (fun ls hl => ?_)
  refine lv_aload_n hx hb dLA_law_282 rfl (lv_at hl 3 rfl) ?_
  refine lv_aload_n hx hb dLA_law_283 rfl (lv_at hl 5 rfl) ?_
  refine lv_iload hx hb dLA_law_284 (lv_at hl 1 rfl) ?_
  refine lv_iconst (v := 1) hx hb dLA_law_286 (by decide) ?_
  refine lv_iadd hx hb dLA_law_287 ?_
  refine lv_topi (fun k7 ek7 => ?_)
  have ek7 : k7 = nI ((4 * k) + 1) := ek7.trans (nI_add (4 * k) 1)
  subst ek7
  refine va_sld hx hb hX hbl hbA hS (i := nI ((4 * k) + 1)) (vp_in_nI (by omega) (by omega)) dLA_law_288 ?_
  have hP := zPC hP
  have hD := zDC hD
  have hPc := zPL hP
  have hDc := zDL hD
  refine zcIL (va_runV (As := [.int (xs (nI ((4 * k) + 1)).toNatClampNeg)]) (rest := []) ⟨hx, hb, hml, hown, zno⟩ (tMO_fail l dC dI cI cZ cJ cA #[Value.ref sb] s mo mb P' S' H.size (xs (nI ((4 * k) + 1)).toNatClampNeg) gP' gS') (zcw 1 (hB.word (zm5 k5_139) rfl) (hB.word (zm1 k1_9) rfl) (hB.word (zm5 k5_136) rfl) (hB.word (zm5 k5_137) rfl) (hB.word (zm5 k5_138) rfl) rfl rfl (by decide +kernel) ⟨Nat.le_of_ble_eq_true rfl, Nat.le_of_ble_eq_true rfl⟩) ⟨zP_blind, va_recv hK hPc (ci := 7) (q0 := 0) rfl rfl, zP_pre hPc hK hDc hAD (zB_on hB hA0 hS)⟩ rfl rfl hl.1 rfl (lv_room (Nat.le_of_ble_eq_true rfl)) dLA_law_289 ⟨hcs, hss⟩) hP hD hS hA (fun r8 x9 H locs hr8 hP hD hS => ?_)
  generalize x9 = S10 at hr8 hP hD
  have gSr8 := hr8.2.1
  have hP := zPC hP
  have hD := zDC hD
  have hP : va_P (dC, dI) zCl ((CW cI cZ cA o b P S4 ++ [(qo, .inl (cJ, 1, .inr (.inl f5)))]) ++ MW cI cZ cA mo mb P' S10) H := hP
  have hD : va_D (zN s.heap.size) ((CW cI cZ cA o b P S4 ++ [(qo, .inl (cJ, 1, .inr (.inl f5)))]) ++ MW cI cZ cA mo mb P' S10) := hD
  have hZ := zs_fail hI hT (by omega) hr2.1 hr8.1
  have hTr8 : zXr (k + 1) P S4 P' S10 := hZ.2
  refine lv_istore (lv' := [(6, .int r8), (5, .int r2), (4, .int (nI (4 * k))), (3, .ref qo), (2, .ref (mo 0)), (1, .ref (o 0)), (0, .ref sb)]) hx hb dLA_law_292 hl (by decide) rfl (fun ls hl => ?_)
  refine lv_goto (tgt := 877) hx hb dLA_law_294 (by decide) ?_
  exact NX H locs ls b P S4 P' S10 f5 ⟨hI, gSr2, gSr8, hTr8⟩ hP hD hS (lv_sub hl [2, 3, 4, 5, 6] rfl)
set_option maxHeartbeats 4000000 in
set_option maxRecDepth 100000 in
theorem law_5 {p : Program} {e : Env} {s : State} {m : MethodId} {below : List Frame} {meth : Method} {c : Code} (l : Launch) (hfl : l.flags = Jvm.pinnedFlags ++ [Jvm.noTraceFlag]) {sb L : Nat} {xs : Nat → Int32} (C0 : zAt p s m meth c sb L xs) (dC : Nat → ClassId) (dI : Nat → Nat → Nat) (cI cZ cJ cA : ClassId) (hK : va_K (dC, dI) zCl (zTZ cI cZ cJ cA) s) {o mo mb : Nat → Nat} {qo : Nat} {k cs ss : Nat} (hL : L ≤ 2048) (hcs : cs + 1 ≤ 601024) (hss : ss + 6 ≤ 7293034) (hk : 4 * k + 4 ≤ L) (NX : zGo p l e s m below meth c dC dI cI cZ cJ cA sb qo o mo mb (k + 1) (nI (4 * k)) 877 (cs + 1) (ss + 6)) : zGo p l e s m below meth c dC dI cI cZ cJ cA sb qo o mo mb (k) (nI (4 * k)) 297 (cs) (ss) := by
  intro H locs ls b P S P' S' f hR hP hD hS hl
  have C1 := C0
  obtain ⟨hx, hb, hr, hml, hown, hB, hX, hbl, hlocks⟩ := C0
  have hA0 : ∀ q, zN s.heap.size q → s.heap.size ≤ q := fun _ h => h
  have hAD := hA0
  have hA : ∀ q : Nat, s.heap.size ≤ q → zN s.heap.size q := fun _ h => h
  have hbA : ¬ zN s.heap.size sb := Nat.not_le.mpr hbl
  obtain ⟨hI, gS, gS', hT⟩ := hR
  have gP := hI.1
  have gP' := hI.2.1
  refine lv_aload_n hx hb dLA_law_297 rfl (lv_at hl 3 rfl) ?_
  refine lv_aload_n hx hb dLA_law_298 rfl (lv_at hl 4 rfl) ?_
  refine lv_iload hx hb dLA_law_299 (lv_at hl 0 rfl) ?_
  refine lv_iconst (v := 1) hx hb dLA_law_301 (by decide) ?_
  refine lv_iadd hx hb dLA_law_302 ?_
  refine lv_topi (fun k1 ek1 => ?_)
  have ek1 : k1 = nI ((4 * k) + 1) := ek1.trans (nI_add (4 * k) 1)
  subst ek1
  refine va_sld hx hb hX hbl hbA hS (i := nI ((4 * k) + 1)) (vp_in_nI (by omega) (by omega)) dLA_law_303 ?_
  refine lv_aload_n hx hb dLA_law_304 rfl (lv_at hl 1 rfl) ?_
  have hcw : ∀ w ∈ [Cond.codeWith yLA_heal bLA_heal 4 (some .int) [(0, 16, 19, 19), (0, 16, 22, 13)]], w.before ([.ref sb] : List Value).toArray s = true := fun w h => by rw [List.mem_singleton.mp h]; exact hB.word (zm3 k3_96) rfl
  refine zcIL (tq_runSW (n := 3) (As := [.ref (o 0), .int (xs (nI ((4 * k) + 1)).toNatClampNeg), .ref qo]) (rest := []) ⟨hx, hb, hml, hown, hcw⟩ (tLA_heal l dC dI cI cZ cJ cA #[Value.ref sb] s o b hfl P S f qo H.size (xs (nI ((4 * k) + 1)).toNatClampNeg) gP gS (hI.2.2.2.2.2.2.imp And.left And.right)) zgoodW rfl rfl rfl ⟨Nat.le_of_ble_eq_true rfl, Nat.le_of_ble_eq_true rfl⟩ (hB.word (zm3 k3_95) rfl) (hB.word (zm1 k1_0) rfl) (hB.word (zm3 k3_94) rfl) (by decide +kernel) ⟨zP_blind, zP_pre (zPL hP) hK (zDL hD) hAD (zB_on hB hA0 hS)⟩ rfl rfl hl.1 rfl (lv_room (Nat.le_of_ble_eq_true rfl)) dLA_law_305 ⟨hcs, hss⟩) hP hD hS hA (fun r2 x9 H locs hr2 hP hD hS => ?_)
  obtain ⟨P3, S4, f5⟩ := x9
  have hP : va_P (dC, dI) zCl ((CW cI cZ cA o b P3 S4 ++ [(qo, .inl (cJ, 1, .inr (.inl f5)))]) ++ MW cI cZ cA mo mb P' S') H := hP
  have hD : va_D (zN s.heap.size) ((CW cI cZ cA o b P3 S4 ++ [(qo, .inl (cJ, 1, .inr (.inl f5)))]) ++ MW cI cZ cA mo mb P' S') := hD
  have gPr2 := hr2.2.1
  have gSr2 := hr2.2.2
  have ePr2 : P3 = P := zH_heal_P hr2.1
  rw [ePr2] at hP hD
  refine lv_istore (lv' := [(5, .int r2), (4, .int (nI (4 * k))), (3, .ref qo), (2, .ref (mo 0)), (1, .ref (o 0)), (0, .ref sb)]) hx hb dLA_law_308 hl (by decide) rfl (fun ls hl => ?_)
  refine lv_aload_n hx hb dLA_law_310 rfl (lv_at hl 3 rfl) ?_
  refine lv_aload_n hx hb dLA_law_311 rfl (lv_at hl 5 rfl) ?_
  refine lv_iload hx hb dLA_law_312 (lv_at hl 1 rfl) ?_
  refine lv_iconst (v := 1) hx hb dLA_law_314 (by decide) ?_
  refine lv_iadd hx hb dLA_law_315 ?_
  refine lv_topi (fun k7 ek7 => ?_)
  have ek7 : k7 = nI ((4 * k) + 1) := ek7.trans (nI_add (4 * k) 1)
  subst ek7
  refine va_sld hx hb hX hbl hbA hS (i := nI ((4 * k) + 1)) (vp_in_nI (by omega) (by omega)) dLA_law_316 ?_
  have hP := zPC hP
  have hD := zDC hD
  have hPc := zPL hP
  have hDc := zDL hD
  refine zcIL (va_runV (As := [.int (xs (nI ((4 * k) + 1)).toNatClampNeg)]) (rest := []) ⟨hx, hb, hml, hown, zno⟩ (tMO_heal l dC dI cI cZ cJ cA #[Value.ref sb] s mo mb P' S' H.size (xs (nI ((4 * k) + 1)).toNatClampNeg) gP' gS') (zcw 1 (hB.word (zm5 k5_163) rfl) (hB.word (zm1 k1_9) rfl) (hB.word (zm5 k5_160) rfl) (hB.word (zm5 k5_161) rfl) (hB.word (zm5 k5_162) rfl) rfl rfl (by decide +kernel) ⟨Nat.le_of_ble_eq_true rfl, Nat.le_of_ble_eq_true rfl⟩) ⟨zP_blind, va_recv hK hPc (ci := 7) (q0 := 0) rfl rfl, zP_pre hPc hK hDc hAD (zB_on hB hA0 hS)⟩ rfl rfl hl.1 rfl (lv_room (Nat.le_of_ble_eq_true rfl)) dLA_law_317 ⟨hcs, hss⟩) hP hD hS hA (fun r8 x9 H locs hr8 hP hD hS => ?_)
  generalize x9 = S10 at hr8 hP hD
  have gSr8 := hr8.2.1
  have hP := zPC hP
  have hD := zDC hD
  have hP : va_P (dC, dI) zCl ((CW cI cZ cA o b P S4 ++ [(qo, .inl (cJ, 1, .inr (.inl f5)))]) ++ MW cI cZ cA mo mb P' S10) H := hP
  have hD : va_D (zN s.heap.size) ((CW cI cZ cA o b P S4 ++ [(qo, .inl (cJ, 1, .inr (.inl f5)))]) ++ MW cI cZ cA mo mb P' S10) := hD
  have hZ := zs_heal hI hT (by omega) hr2.1 hr8.1
  have hTr8 : zXr (k + 1) P S4 P' S10 := hZ.2
  refine lv_istore (lv' := [(6, .int r8), (5, .int r2), (4, .int (nI (4 * k))), (3, .ref qo), (2, .ref (mo 0)), (1, .ref (o 0)), (0, .ref sb)]) hx hb dLA_law_320 hl (by decide) rfl (fun ls hl => ?_)
  refine lv_aload_n hx hb dLA_law_322 rfl (lv_at hl 4 rfl) ?_
  have hP := zPC hP
  have hD := zDC hD
  have hPc := zPL hP
  have hDc := zDL hD
  refine zcallp (va_runV (As := []) (rest := []) ⟨hx, hb, hml, hown, zno⟩ (tMO_thrown l dC dI cI cZ cJ cA #[Value.ref sb] s mo mb P' S10 H.size  gP' gSr8) (zcw 0 (hB.word (zm5 k5_37) rfl) (hB.word (zm1 k1_9) rfl) (hB.word (zm5 k5_34) rfl) (hB.word (zm5 k5_35) rfl) (hB.word (zm5 k5_36) rfl) rfl rfl (by decide +kernel) ⟨Nat.le_of_ble_eq_true rfl, Nat.le_of_ble_eq_true rfl⟩) ⟨zP_blind, va_recv hK hPc (ci := 7) (q0 := 0) rfl rfl, zP_pre hPc hK hDc hAD (zB_on hB hA0 hS)⟩ rfl rfl hl.1 rfl (lv_room (Nat.le_of_ble_eq_true rfl)) dLA_law_323 ⟨hcs, hss⟩) hS hA (fun r11 H1 locs hr11 hz1 hk1 hS => ?_)
  have hP := zKeep hP hk1
  generalize H1 = H at hP hS ⊢
  have hP := zPC hP
  have hD := zDC hD
  have hP : va_P (dC, dI) zCl ((CW cI cZ cA o b P S4 ++ [(qo, .inl (cJ, 1, .inr (.inl f5)))]) ++ MW cI cZ cA mo mb P' S10) H := hP
  have hD : va_D (zN s.heap.size) ((CW cI cZ cA o b P S4 ++ [(qo, .inl (cJ, 1, .inr (.inl f5)))]) ++ MW cI cZ cA mo mb P' S10) := hD
  have eT : r11 = r2 := hr11.1.trans hZ.1.1
  refine lv_iload hx hb dLA_law_326 (lv_at hl 1 rfl) ?_
  refine lv_icmp_eq (tgt := 333) hx hb dLA_law_328 (by decide) (fun _ => ?_) (fun c9 => absurd eT c9)
  refine lv_iload hx hb dLA_law_333 (lv_at hl 1 rfl) ?_
  refine lv_if_ne (tgt := 357) hx hb dLA_law_335 (by decide) (fun c_335 => ?_) (fun c_335 => ?_)
  · refine lv_goto (tgt := 877) hx hb dLA_law_357 (by decide) ?_
    exact NX H locs ls b P S4 P' S10 f5 ⟨hI, gSr2, gSr8, hTr8⟩ hP hD hS (lv_sub hl [2, 3, 4, 5, 6] rfl)
  · refine lv_aload_n hx hb dLA_law_338 rfl (lv_at hl 3 rfl) ?_
    refine lv_iconst (v := 0) hx hb dLA_law_339 (by decide) ?_
    refine va_lald hx hb hK (zPL hP) 84 2 (zAtL CW_len) rfl (i := 0) (by unfold vp_in; decide) dLA_law_340 ?_
    refine lv_iload hx hb dLA_law_341 (lv_at hl 0 rfl) ?_
    refine lv_if_eq (tgt := 350) hx hb dLA_law_343 (by decide) (fun c_343 => ?_) (fun c_343 => ?_)
    · refine lv_lconst (v := 0) hx hb dLA_law_350 (by decide) ?_
      refine W.lcmp hx hb dLA_law_351 ?_
      refine lv_topi (fun kc ekc => ?_)
      refine lv_if_eq (tgt := 357) hx hb dLA_law_352 (by decide) (fun _ => ?_) (fun c9 => absurd (ekc.trans ((lg_cmp_eq _ _).mpr ((hZ.1.2 c_335).trans (if_pos c_343)))) c9)
      refine lv_goto (tgt := 877) hx hb dLA_law_357 (by decide) ?_
      exact NX H locs ls b P S4 P' S10 f5 ⟨hI, gSr2, gSr8, hTr8⟩ hP hD hS (lv_sub hl [2, 3, 4, 5, 6] rfl)
    · refine lv_lconst (v := 1) hx hb dLA_law_346 (by decide) ?_
      refine lv_goto (tgt := 351) hx hb dLA_law_347 (by decide) ?_
      refine W.lcmp hx hb dLA_law_351 ?_
      refine lv_topi (fun kc ekc => ?_)
      refine lv_if_eq (tgt := 357) hx hb dLA_law_352 (by decide) (fun _ => ?_) (fun c9 => absurd (ekc.trans ((lg_cmp_eq _ _).mpr ((hZ.1.2 c_335).trans (if_neg c_343)))) c9)
      refine lv_goto (tgt := 877) hx hb dLA_law_357 (by decide) ?_
      exact NX H locs ls b P S4 P' S10 f5 ⟨hI, gSr2, gSr8, hTr8⟩ hP hD hS (lv_sub hl [2, 3, 4, 5, 6] rfl)
set_option maxHeartbeats 4000000 in
set_option maxRecDepth 100000 in
theorem law_6 {p : Program} {e : Env} {s : State} {m : MethodId} {below : List Frame} {meth : Method} {c : Code} (l : Launch) (hfl : l.flags = Jvm.pinnedFlags ++ [Jvm.noTraceFlag]) {sb L : Nat} {xs : Nat → Int32} (C0 : zAt p s m meth c sb L xs) (dC : Nat → ClassId) (dI : Nat → Nat → Nat) (cI cZ cJ cA : ClassId) (hK : va_K (dC, dI) zCl (zTZ cI cZ cJ cA) s) {o mo mb : Nat → Nat} {qo : Nat} {k cs ss : Nat} (hL : L ≤ 2048) (hcs : cs + 1 ≤ 601024) (hss : ss + 6 ≤ 7293034) (hk : 4 * k + 4 ≤ L) (NX : zGo p l e s m below meth c dC dI cI cZ cJ cA sb qo o mo mb (k + 1) (nI (4 * k)) 877 (cs + 1) (ss + 6)) : zGo p l e s m below meth c dC dI cI cZ cJ cA sb qo o mo mb (k) (nI (4 * k)) 360 (cs) (ss) := by
  intro H locs ls b P S P' S' f hR hP hD hS hl
  have C1 := C0
  obtain ⟨hx, hb, hr, hml, hown, hB, hX, hbl, hlocks⟩ := C0
  have hA0 : ∀ q, zN s.heap.size q → s.heap.size ≤ q := fun _ h => h
  have hAD := hA0
  have hA : ∀ q : Nat, s.heap.size ≤ q → zN s.heap.size q := fun _ h => h
  have hbA : ¬ zN s.heap.size sb := Nat.not_le.mpr hbl
  obtain ⟨hI, gS, gS', hT⟩ := hR
  have gP := hI.1
  have gP' := hI.2.1
  refine lv_aload_n hx hb dLA_law_360 rfl (lv_at hl 3 rfl) ?_
  refine lv_aload_n hx hb dLA_law_361 rfl (lv_at hl 4 rfl) ?_
  refine lv_iload hx hb dLA_law_362 (lv_at hl 0 rfl) ?_
  refine lv_iconst (v := 1) hx hb dLA_law_364 (by decide) ?_
  refine lv_iadd hx hb dLA_law_365 ?_
  refine lv_topi (fun k1 ek1 => ?_)
  have ek1 : k1 = nI ((4 * k) + 1) := ek1.trans (nI_add (4 * k) 1)
  subst ek1
  refine va_sld hx hb hX hbl hbA hS (i := nI ((4 * k) + 1)) (vp_in_nI (by omega) (by omega)) dLA_law_366 ?_
  refine lv_aload_n hx hb dLA_law_367 rfl (lv_at hl 4 rfl) ?_
  refine lv_iload hx hb dLA_law_368 (lv_at hl 0 rfl) ?_
  refine lv_iconst (v := 2) hx hb dLA_law_370 (by decide) ?_
  refine lv_iadd hx hb dLA_law_371 ?_
  refine lv_topi (fun k2 ek2 => ?_)
  have ek2 : k2 = nI ((4 * k) + 2) := ek2.trans (nI_add (4 * k) 2)
  subst ek2
  refine va_sld hx hb hX hbl hbA hS (i := nI ((4 * k) + 2)) (vp_in_nI (by omega) (by omega)) dLA_law_372 ?_
  refine lv_aload_n hx hb dLA_law_373 rfl (lv_at hl 1 rfl) ?_
  have hcw : ∀ w ∈ [Cond.codeWith yLA_lose bLA_lose 5 (some .int) [(0, 10, 13, 19), (0, 10, 17, 13)]], w.before ([.ref sb] : List Value).toArray s = true := fun w h => by rw [List.mem_singleton.mp h]; exact hB.word (zm3 k3_111) rfl
  refine zcIL (tq_runSW (n := 4) (As := [.ref (o 0), .int (xs (nI ((4 * k) + 1)).toNatClampNeg), .int (xs (nI ((4 * k) + 2)).toNatClampNeg), .ref qo]) (rest := []) ⟨hx, hb, hml, hown, hcw⟩ (tLA_lose l dC dI cI cZ cJ cA #[Value.ref sb] s o b hfl P S f qo H.size (xs (nI ((4 * k) + 1)).toNatClampNeg) (xs (nI ((4 * k) + 2)).toNatClampNeg) gP gS) zgoodW rfl rfl rfl ⟨Nat.le_of_ble_eq_true rfl, Nat.le_of_ble_eq_true rfl⟩ (hB.word (zm3 k3_110) rfl) (hB.word (zm1 k1_0) rfl) (hB.word (zm3 k3_109) rfl) (by decide +kernel) ⟨zP_blind, zP_pre (zPL hP) hK (zDL hD) hAD (zB_on hB hA0 hS)⟩ rfl rfl hl.1 rfl (lv_room (Nat.le_of_ble_eq_true rfl)) dLA_law_374 ⟨hcs, hss⟩) hP hD hS hA (fun r3 x9 H locs hr3 hP hD hS => ?_)
  obtain ⟨P4, S5, f6⟩ := x9
  have hP : va_P (dC, dI) zCl ((CW cI cZ cA o b P4 S5 ++ [(qo, .inl (cJ, 1, .inr (.inl f6)))]) ++ MW cI cZ cA mo mb P' S') H := hP
  have hD : va_D (zN s.heap.size) ((CW cI cZ cA o b P4 S5 ++ [(qo, .inl (cJ, 1, .inr (.inl f6)))]) ++ MW cI cZ cA mo mb P' S') := hD
  have gPr3 := hr3.2.1
  have gSr3 := hr3.2.2
  have ePr3 : P4 = P := zH_lose_P hr3.1
  rw [ePr3] at hP hD
  refine lv_istore (lv' := [(5, .int r3), (4, .int (nI (4 * k))), (3, .ref qo), (2, .ref (mo 0)), (1, .ref (o 0)), (0, .ref sb)]) hx hb dLA_law_377 hl (by decide) rfl (fun ls hl => ?_)
  refine lv_aload_n hx hb dLA_law_379 rfl (lv_at hl 3 rfl) ?_
  refine lv_aload_n hx hb dLA_law_380 rfl (lv_at hl 5 rfl) ?_
  refine lv_iload hx hb dLA_law_381 (lv_at hl 1 rfl) ?_
  refine lv_iconst (v := 1) hx hb dLA_law_383 (by decide) ?_
  refine lv_iadd hx hb dLA_law_384 ?_
  refine lv_topi (fun k8 ek8 => ?_)
  have ek8 : k8 = nI ((4 * k) + 1) := ek8.trans (nI_add (4 * k) 1)
  subst ek8
  refine va_sld hx hb hX hbl hbA hS (i := nI ((4 * k) + 1)) (vp_in_nI (by omega) (by omega)) dLA_law_385 ?_
  refine lv_aload_n hx hb dLA_law_386 rfl (lv_at hl 5 rfl) ?_
  refine lv_iload hx hb dLA_law_387 (lv_at hl 1 rfl) ?_
  refine lv_iconst (v := 2) hx hb dLA_law_389 (by decide) ?_
  refine lv_iadd hx hb dLA_law_390 ?_
  refine lv_topi (fun k9 ek9 => ?_)
  have ek9 : k9 = nI ((4 * k) + 2) := ek9.trans (nI_add (4 * k) 2)
  subst ek9
  refine va_sld hx hb hX hbl hbA hS (i := nI ((4 * k) + 2)) (vp_in_nI (by omega) (by omega)) dLA_law_391 ?_
  have hP := zPC hP
  have hD := zDC hD
  have hPc := zPL hP
  have hDc := zDL hD
  refine zcIL (va_runV (As := [.int (xs (nI ((4 * k) + 1)).toNatClampNeg), .int (xs (nI ((4 * k) + 2)).toNatClampNeg)]) (rest := []) ⟨hx, hb, hml, hown, zno⟩ (tMO_lose l dC dI cI cZ cJ cA #[Value.ref sb] s mo mb P' S' H.size (xs (nI ((4 * k) + 1)).toNatClampNeg) (xs (nI ((4 * k) + 2)).toNatClampNeg) gP' gS') (zcw 2 (hB.word (zm5 k5_171) rfl) (hB.word (zm1 k1_9) rfl) (hB.word (zm5 k5_168) rfl) (hB.word (zm5 k5_169) rfl) (hB.word (zm5 k5_170) rfl) rfl rfl (by decide +kernel) ⟨Nat.le_of_ble_eq_true rfl, Nat.le_of_ble_eq_true rfl⟩) ⟨zP_blind, va_recv hK hPc (ci := 7) (q0 := 0) rfl rfl, zP_pre hPc hK hDc hAD (zB_on hB hA0 hS)⟩ rfl rfl hl.1 rfl (lv_room (Nat.le_of_ble_eq_true rfl)) dLA_law_392 ⟨hcs, hss⟩) hP hD hS hA (fun r10 x9 H locs hr10 hP hD hS => ?_)
  generalize x9 = S12 at hr10 hP hD
  have gSr10 := hr10.2.1
  have hP := zPC hP
  have hD := zDC hD
  have hP : va_P (dC, dI) zCl ((CW cI cZ cA o b P S5 ++ [(qo, .inl (cJ, 1, .inr (.inl f6)))]) ++ MW cI cZ cA mo mb P' S12) H := hP
  have hD : va_D (zN s.heap.size) ((CW cI cZ cA o b P S5 ++ [(qo, .inl (cJ, 1, .inr (.inl f6)))]) ++ MW cI cZ cA mo mb P' S12) := hD
  have hZ := zs_lose hI hT (by omega) hr3.1 hr10.1
  have hTr10 : zXr (k + 1) P S5 P' S12 := hZ.2
  refine lv_istore (lv' := [(6, .int r10), (5, .int r3), (4, .int (nI (4 * k))), (3, .ref qo), (2, .ref (mo 0)), (1, .ref (o 0)), (0, .ref sb)]) hx hb dLA_law_395 hl (by decide) rfl (fun ls hl => ?_)
  refine lv_goto (tgt := 877) hx hb dLA_law_397 (by decide) ?_
  exact NX H locs ls b P S5 P' S12 f6 ⟨hI, gSr3, gSr10, hTr10⟩ hP hD hS (lv_sub hl [2, 3, 4, 5, 6] rfl)
