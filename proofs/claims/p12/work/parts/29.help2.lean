theorem k3_145 : tables_1_3[145]? = some (Jvm.Cond.methodLink "RingGuardLaw" (43 : Nat) ({ cls := "RingGuard", name := "clear", desc := "(II)Z" } : Jvm.MethodName)) := by decide +kernel
theorem k3_146 : tables_1_3[146]? = some (Jvm.Cond.instanceMethod ({ cls := "RingGuard", name := "clear", desc := "(II)Z" } : Jvm.MethodName)) := by decide +kernel
theorem k3_147 : tables_1_3[147]? = some (Jvm.Cond.selects "RingGuard" ({ cls := "RingGuard", name := "clear", desc := "(II)Z" } : Jvm.MethodName) ({ cls := "RingGuard", name := "clear", desc := "(II)Z" } : Jvm.MethodName)) := by decide +kernel
theorem k3_148 : tables_1_3[148]? = some (Jvm.Cond.code ({ cls := "RingGuard", name := "clear", desc := "(II)Z" } : Jvm.MethodName) prog_1_method_10_code (4 : Nat) (Option.some Jvm.ClassFile.FieldType.boolean)) := rfl
theorem k3_153 : tables_1_3[153]? = some (Jvm.Cond.methodLink "RingGuardLaw" (47 : Nat) ({ cls := "RingGuard", name := "ticks", desc := "(I)I" } : Jvm.MethodName)) := by decide +kernel
theorem k3_154 : tables_1_3[154]? = some (Jvm.Cond.instanceMethod ({ cls := "RingGuard", name := "ticks", desc := "(I)I" } : Jvm.MethodName)) := by decide +kernel
theorem k3_155 : tables_1_3[155]? = some (Jvm.Cond.selects "RingGuard" ({ cls := "RingGuard", name := "ticks", desc := "(I)I" } : Jvm.MethodName) ({ cls := "RingGuard", name := "ticks", desc := "(I)I" } : Jvm.MethodName)) := by decide +kernel
theorem k3_156 : tables_1_3[156]? = some (Jvm.Cond.code ({ cls := "RingGuard", name := "ticks", desc := "(I)I" } : Jvm.MethodName) prog_1_method_11_code (4 : Nat) (Option.some Jvm.ClassFile.FieldType.int)) := rfl
theorem k4_23 : tables_1_4[23]? = some (Jvm.Cond.methodLink "RingGuardLaw" (51 : Nat) ({ cls := "RingGuard", name := "host", desc := "(II)I" } : Jvm.MethodName)) := by decide +kernel
theorem k4_24 : tables_1_4[24]? = some (Jvm.Cond.instanceMethod ({ cls := "RingGuard", name := "host", desc := "(II)I" } : Jvm.MethodName)) := by decide +kernel
theorem k4_25 : tables_1_4[25]? = some (Jvm.Cond.selects "RingGuard" ({ cls := "RingGuard", name := "host", desc := "(II)I" } : Jvm.MethodName) ({ cls := "RingGuard", name := "host", desc := "(II)I" } : Jvm.MethodName)) := by decide +kernel
theorem k4_26 : tables_1_4[26]? = some (Jvm.Cond.code ({ cls := "RingGuard", name := "host", desc := "(II)I" } : Jvm.MethodName) prog_1_method_12_code (4 : Nat) (Option.some Jvm.ClassFile.FieldType.int)) := rfl
theorem k4_39 : tables_1_4[39]? = some (Jvm.Cond.methodLink "RingGuardLaw" (54 : Nat) ({ cls := "RingGuard", name := "send", desc := "(III)I" } : Jvm.MethodName)) := by decide +kernel
theorem k4_40 : tables_1_4[40]? = some (Jvm.Cond.instanceMethod ({ cls := "RingGuard", name := "send", desc := "(III)I" } : Jvm.MethodName)) := by decide +kernel
theorem k4_41 : tables_1_4[41]? = some (Jvm.Cond.selects "RingGuard" ({ cls := "RingGuard", name := "send", desc := "(III)I" } : Jvm.MethodName) ({ cls := "RingGuard", name := "send", desc := "(III)I" } : Jvm.MethodName)) := by decide +kernel
theorem k4_42 : tables_1_4[42]? = some (Jvm.Cond.code ({ cls := "RingGuard", name := "send", desc := "(III)I" } : Jvm.MethodName) prog_1_method_13_code (4 : Nat) (Option.some Jvm.ClassFile.FieldType.int)) := rfl
theorem k4_81 : tables_1_4[81]? = some (Jvm.Cond.methodLink "RingGuardLaw" (57 : Nat) ({ cls := "RingGuard", name := "holds", desc := "(II)I" } : Jvm.MethodName)) := by decide +kernel
theorem k4_82 : tables_1_4[82]? = some (Jvm.Cond.instanceMethod ({ cls := "RingGuard", name := "holds", desc := "(II)I" } : Jvm.MethodName)) := by decide +kernel
theorem k4_83 : tables_1_4[83]? = some (Jvm.Cond.selects "RingGuard" ({ cls := "RingGuard", name := "holds", desc := "(II)I" } : Jvm.MethodName) ({ cls := "RingGuard", name := "holds", desc := "(II)I" } : Jvm.MethodName)) := by decide +kernel
theorem k4_84 : tables_1_4[84]? = some (Jvm.Cond.code ({ cls := "RingGuard", name := "holds", desc := "(II)I" } : Jvm.MethodName) prog_1_method_15_code (3 : Nat) (Option.some Jvm.ClassFile.FieldType.int)) := rfl
theorem k4_88 : tables_1_4[88]? = some (Jvm.Cond.methodLink "RingGuardLaw" (60 : Nat) ({ cls := "RingGuard", name := "told", desc := "(III)I" } : Jvm.MethodName)) := by decide +kernel
theorem k4_89 : tables_1_4[89]? = some (Jvm.Cond.instanceMethod ({ cls := "RingGuard", name := "told", desc := "(III)I" } : Jvm.MethodName)) := by decide +kernel
theorem k4_90 : tables_1_4[90]? = some (Jvm.Cond.selects "RingGuard" ({ cls := "RingGuard", name := "told", desc := "(III)I" } : Jvm.MethodName) ({ cls := "RingGuard", name := "told", desc := "(III)I" } : Jvm.MethodName)) := by decide +kernel
theorem k4_91 : tables_1_4[91]? = some (Jvm.Cond.code ({ cls := "RingGuard", name := "told", desc := "(III)I" } : Jvm.MethodName) prog_1_method_16_code (4 : Nat) (Option.some Jvm.ClassFile.FieldType.int)) := rfl
theorem k4_96 : tables_1_4[96]? = some (Jvm.Cond.methodLink "RingGuardLaw" (63 : Nat) ({ cls := "RingGuard", name := "learned", desc := "(III)I" } : Jvm.MethodName)) := by decide +kernel
theorem k4_97 : tables_1_4[97]? = some (Jvm.Cond.instanceMethod ({ cls := "RingGuard", name := "learned", desc := "(III)I" } : Jvm.MethodName)) := by decide +kernel
theorem k4_98 : tables_1_4[98]? = some (Jvm.Cond.selects "RingGuard" ({ cls := "RingGuard", name := "learned", desc := "(III)I" } : Jvm.MethodName) ({ cls := "RingGuard", name := "learned", desc := "(III)I" } : Jvm.MethodName)) := by decide +kernel
theorem k4_99 : tables_1_4[99]? = some (Jvm.Cond.code ({ cls := "RingGuard", name := "learned", desc := "(III)I" } : Jvm.MethodName) prog_1_method_17_code (4 : Nat) (Option.some Jvm.ClassFile.FieldType.int)) := rfl
theorem k4_104 : tables_1_4[104]? = some (Jvm.Cond.methodLink "RingGuardLaw" (66 : Nat) ({ cls := "RingGuard", name := "joined", desc := "(II)Z" } : Jvm.MethodName)) := by decide +kernel
theorem k4_105 : tables_1_4[105]? = some (Jvm.Cond.instanceMethod ({ cls := "RingGuard", name := "joined", desc := "(II)Z" } : Jvm.MethodName)) := by decide +kernel
theorem k4_106 : tables_1_4[106]? = some (Jvm.Cond.selects "RingGuard" ({ cls := "RingGuard", name := "joined", desc := "(II)Z" } : Jvm.MethodName) ({ cls := "RingGuard", name := "joined", desc := "(II)Z" } : Jvm.MethodName)) := by decide +kernel
theorem k4_107 : tables_1_4[107]? = some (Jvm.Cond.code ({ cls := "RingGuard", name := "joined", desc := "(II)Z" } : Jvm.MethodName) prog_1_method_18_code (3 : Nat) (Option.some Jvm.ClassFile.FieldType.boolean)) := rfl
abbrev yLA_clear : MethodName := ⟨"RingGuardLaw", "clear", "(LRingGuard;II[J)I"⟩
abbrev bLA_clear : ByteArray := method_11_code
abbrev yLA_ticks : MethodName := ⟨"RingGuardLaw", "ticks", "(LRingGuard;I[J)I"⟩
abbrev bLA_ticks : ByteArray := method_12_code
abbrev yLA_host : MethodName := ⟨"RingGuardLaw", "host", "(LRingGuard;II[J)I"⟩
abbrev bLA_host : ByteArray := method_13_code
abbrev yLA_send : MethodName := ⟨"RingGuardLaw", "send", "(LRingGuard;III[J)I"⟩
abbrev bLA_send : ByteArray := method_14_code
abbrev yLA_holds : MethodName := ⟨"RingGuardLaw", "holds", "(LRingGuard;II[J)I"⟩
abbrev bLA_holds : ByteArray := method_15_code
abbrev yLA_told : MethodName := ⟨"RingGuardLaw", "told", "(LRingGuard;III[J)I"⟩
abbrev bLA_told : ByteArray := method_16_code
abbrev yLA_learned : MethodName := ⟨"RingGuardLaw", "learned", "(LRingGuard;III[J)I"⟩
abbrev bLA_learned : ByteArray := method_17_code
abbrev yLA_joined : MethodName := ⟨"RingGuardLaw", "joined", "(LRingGuard;II[J)I"⟩
abbrev bLA_joined : ByteArray := method_18_code
theorem dLA_clear_0 : decode bLA_clear 0 = .ok (.aload_n 3, 1) := by decide +kernel
theorem dLA_clear_1 : decode bLA_clear 1 = .ok (.iconst 0, 1) := by decide +kernel
theorem dLA_clear_2 : decode bLA_clear 2 = .ok (.aload_n 0, 1) := by decide +kernel
theorem dLA_clear_3 : decode bLA_clear 3 = .ok (.iload_n 1, 1) := by decide +kernel
theorem dLA_clear_4 : decode bLA_clear 4 = .ok (.iload_n 2, 1) := by decide +kernel
theorem dLA_clear_5 : decode bLA_clear 5 = .ok (.invokevirtual 43, 3) := by decide +kernel
theorem dLA_clear_8 : decode bLA_clear 8 = .ok (.ifCond .eq 7, 3) := by decide +kernel
theorem dLA_clear_11 : decode bLA_clear 11 = .ok (.lconst 1, 1) := by decide +kernel
theorem dLA_clear_12 : decode bLA_clear 12 = .ok (.goto 4, 3) := by decide +kernel
theorem dLA_clear_15 : decode bLA_clear 15 = .ok (.lconst 0, 1) := by decide +kernel
theorem dLA_clear_16 : decode bLA_clear 16 = .ok (.lastore, 1) := by decide +kernel
theorem dLA_clear_17 : decode bLA_clear 17 = .ok (.goto 11, 3) := by decide +kernel
theorem dLA_clear_20 : decode bLA_clear 20 = .ok (.astore 4, 2) := by decide +kernel
theorem dLA_clear_22 : decode bLA_clear 22 = .ok (.iconst 1, 1) := by decide +kernel
theorem dLA_clear_23 : decode bLA_clear 23 = .ok (.ireturn, 1) := by decide +kernel
theorem dLA_clear_24 : decode bLA_clear 24 = .ok (.astore 4, 2) := by decide +kernel
theorem dLA_clear_26 : decode bLA_clear 26 = .ok (.iconst 2, 1) := by decide +kernel
theorem dLA_clear_27 : decode bLA_clear 27 = .ok (.ireturn, 1) := by decide +kernel
theorem dLA_clear_28 : decode bLA_clear 28 = .ok (.iconst 0, 1) := by decide +kernel
theorem dLA_clear_29 : decode bLA_clear 29 = .ok (.ireturn, 1) := by decide +kernel
theorem dLA_holds_0 : decode bLA_holds 0 = .ok (.aload_n 3, 1) := by decide +kernel
theorem dLA_holds_1 : decode bLA_holds 1 = .ok (.iconst 0, 1) := by decide +kernel
theorem dLA_holds_2 : decode bLA_holds 2 = .ok (.aload_n 0, 1) := by decide +kernel
theorem dLA_holds_3 : decode bLA_holds 3 = .ok (.iload_n 1, 1) := by decide +kernel
theorem dLA_holds_4 : decode bLA_holds 4 = .ok (.iload_n 2, 1) := by decide +kernel
theorem dLA_holds_5 : decode bLA_holds 5 = .ok (.invokevirtual 57, 3) := by decide +kernel
theorem dLA_holds_8 : decode bLA_holds 8 = .ok (.i2l, 1) := by decide +kernel
theorem dLA_holds_9 : decode bLA_holds 9 = .ok (.lastore, 1) := by decide +kernel
theorem dLA_holds_10 : decode bLA_holds 10 = .ok (.goto 7, 3) := by decide +kernel
theorem dLA_holds_13 : decode bLA_holds 13 = .ok (.astore 4, 2) := by decide +kernel
theorem dLA_holds_15 : decode bLA_holds 15 = .ok (.iconst 1, 1) := by decide +kernel
theorem dLA_holds_16 : decode bLA_holds 16 = .ok (.ireturn, 1) := by decide +kernel
theorem dLA_holds_17 : decode bLA_holds 17 = .ok (.iconst 0, 1) := by decide +kernel
theorem dLA_holds_18 : decode bLA_holds 18 = .ok (.ireturn, 1) := by decide +kernel
theorem dLA_host_0 : decode bLA_host 0 = .ok (.aload_n 3, 1) := by decide +kernel
theorem dLA_host_1 : decode bLA_host 1 = .ok (.iconst 0, 1) := by decide +kernel
theorem dLA_host_2 : decode bLA_host 2 = .ok (.aload_n 0, 1) := by decide +kernel
theorem dLA_host_3 : decode bLA_host 3 = .ok (.iload_n 1, 1) := by decide +kernel
theorem dLA_host_4 : decode bLA_host 4 = .ok (.iload_n 2, 1) := by decide +kernel
theorem dLA_host_5 : decode bLA_host 5 = .ok (.invokevirtual 51, 3) := by decide +kernel
theorem dLA_host_8 : decode bLA_host 8 = .ok (.i2l, 1) := by decide +kernel
theorem dLA_host_9 : decode bLA_host 9 = .ok (.lastore, 1) := by decide +kernel
theorem dLA_host_10 : decode bLA_host 10 = .ok (.goto 11, 3) := by decide +kernel
theorem dLA_host_13 : decode bLA_host 13 = .ok (.astore 4, 2) := by decide +kernel
theorem dLA_host_15 : decode bLA_host 15 = .ok (.iconst 1, 1) := by decide +kernel
theorem dLA_host_16 : decode bLA_host 16 = .ok (.ireturn, 1) := by decide +kernel
theorem dLA_host_17 : decode bLA_host 17 = .ok (.astore 4, 2) := by decide +kernel
theorem dLA_host_19 : decode bLA_host 19 = .ok (.iconst 2, 1) := by decide +kernel
theorem dLA_host_20 : decode bLA_host 20 = .ok (.ireturn, 1) := by decide +kernel
theorem dLA_host_21 : decode bLA_host 21 = .ok (.iconst 0, 1) := by decide +kernel
theorem dLA_host_22 : decode bLA_host 22 = .ok (.ireturn, 1) := by decide +kernel
theorem dLA_joined_0 : decode bLA_joined 0 = .ok (.aload_n 3, 1) := by decide +kernel
theorem dLA_joined_1 : decode bLA_joined 1 = .ok (.iconst 0, 1) := by decide +kernel
theorem dLA_joined_2 : decode bLA_joined 2 = .ok (.aload_n 0, 1) := by decide +kernel
theorem dLA_joined_3 : decode bLA_joined 3 = .ok (.iload_n 1, 1) := by decide +kernel
theorem dLA_joined_4 : decode bLA_joined 4 = .ok (.iload_n 2, 1) := by decide +kernel
theorem dLA_joined_5 : decode bLA_joined 5 = .ok (.invokevirtual 66, 3) := by decide +kernel
theorem dLA_joined_8 : decode bLA_joined 8 = .ok (.ifCond .eq 7, 3) := by decide +kernel
theorem dLA_joined_11 : decode bLA_joined 11 = .ok (.lconst 1, 1) := by decide +kernel
theorem dLA_joined_12 : decode bLA_joined 12 = .ok (.goto 4, 3) := by decide +kernel
theorem dLA_joined_15 : decode bLA_joined 15 = .ok (.lconst 0, 1) := by decide +kernel
theorem dLA_joined_16 : decode bLA_joined 16 = .ok (.lastore, 1) := by decide +kernel
theorem dLA_joined_17 : decode bLA_joined 17 = .ok (.goto 7, 3) := by decide +kernel
theorem dLA_joined_20 : decode bLA_joined 20 = .ok (.astore 4, 2) := by decide +kernel
theorem dLA_joined_22 : decode bLA_joined 22 = .ok (.iconst 1, 1) := by decide +kernel
theorem dLA_joined_23 : decode bLA_joined 23 = .ok (.ireturn, 1) := by decide +kernel
theorem dLA_joined_24 : decode bLA_joined 24 = .ok (.iconst 0, 1) := by decide +kernel
theorem dLA_joined_25 : decode bLA_joined 25 = .ok (.ireturn, 1) := by decide +kernel
theorem dLA_learned_0 : decode bLA_learned 0 = .ok (.aload 4, 2) := by decide +kernel
theorem dLA_learned_2 : decode bLA_learned 2 = .ok (.iconst 0, 1) := by decide +kernel
theorem dLA_learned_3 : decode bLA_learned 3 = .ok (.aload_n 0, 1) := by decide +kernel
theorem dLA_learned_4 : decode bLA_learned 4 = .ok (.iload_n 1, 1) := by decide +kernel
theorem dLA_learned_5 : decode bLA_learned 5 = .ok (.iload_n 2, 1) := by decide +kernel
theorem dLA_learned_6 : decode bLA_learned 6 = .ok (.iload_n 3, 1) := by decide +kernel
theorem dLA_learned_7 : decode bLA_learned 7 = .ok (.invokevirtual 63, 3) := by decide +kernel
theorem dLA_learned_10 : decode bLA_learned 10 = .ok (.i2l, 1) := by decide +kernel
theorem dLA_learned_11 : decode bLA_learned 11 = .ok (.lastore, 1) := by decide +kernel
theorem dLA_learned_12 : decode bLA_learned 12 = .ok (.goto 7, 3) := by decide +kernel
theorem dLA_learned_15 : decode bLA_learned 15 = .ok (.astore 5, 2) := by decide +kernel
theorem dLA_learned_17 : decode bLA_learned 17 = .ok (.iconst 1, 1) := by decide +kernel
theorem dLA_learned_18 : decode bLA_learned 18 = .ok (.ireturn, 1) := by decide +kernel
theorem dLA_learned_19 : decode bLA_learned 19 = .ok (.iconst 0, 1) := by decide +kernel
theorem dLA_learned_20 : decode bLA_learned 20 = .ok (.ireturn, 1) := by decide +kernel
theorem dLA_send_0 : decode bLA_send 0 = .ok (.aload 4, 2) := by decide +kernel
theorem dLA_send_2 : decode bLA_send 2 = .ok (.iconst 0, 1) := by decide +kernel
theorem dLA_send_3 : decode bLA_send 3 = .ok (.aload_n 0, 1) := by decide +kernel
theorem dLA_send_4 : decode bLA_send 4 = .ok (.iload_n 1, 1) := by decide +kernel
theorem dLA_send_5 : decode bLA_send 5 = .ok (.iload_n 2, 1) := by decide +kernel
theorem dLA_send_6 : decode bLA_send 6 = .ok (.iload_n 3, 1) := by decide +kernel
theorem dLA_send_7 : decode bLA_send 7 = .ok (.invokevirtual 54, 3) := by decide +kernel
theorem dLA_send_10 : decode bLA_send 10 = .ok (.i2l, 1) := by decide +kernel
theorem dLA_send_11 : decode bLA_send 11 = .ok (.lastore, 1) := by decide +kernel
theorem dLA_send_12 : decode bLA_send 12 = .ok (.goto 11, 3) := by decide +kernel
theorem dLA_send_15 : decode bLA_send 15 = .ok (.astore 5, 2) := by decide +kernel
theorem dLA_send_17 : decode bLA_send 17 = .ok (.iconst 1, 1) := by decide +kernel
theorem dLA_send_18 : decode bLA_send 18 = .ok (.ireturn, 1) := by decide +kernel
theorem dLA_send_19 : decode bLA_send 19 = .ok (.astore 5, 2) := by decide +kernel
theorem dLA_send_21 : decode bLA_send 21 = .ok (.iconst 2, 1) := by decide +kernel
theorem dLA_send_22 : decode bLA_send 22 = .ok (.ireturn, 1) := by decide +kernel
theorem dLA_send_23 : decode bLA_send 23 = .ok (.iconst 0, 1) := by decide +kernel
theorem dLA_send_24 : decode bLA_send 24 = .ok (.ireturn, 1) := by decide +kernel
theorem dLA_ticks_0 : decode bLA_ticks 0 = .ok (.aload_n 2, 1) := by decide +kernel
theorem dLA_ticks_1 : decode bLA_ticks 1 = .ok (.iconst 0, 1) := by decide +kernel
theorem dLA_ticks_2 : decode bLA_ticks 2 = .ok (.aload_n 0, 1) := by decide +kernel
theorem dLA_ticks_3 : decode bLA_ticks 3 = .ok (.iload_n 1, 1) := by decide +kernel
theorem dLA_ticks_4 : decode bLA_ticks 4 = .ok (.invokevirtual 47, 3) := by decide +kernel
theorem dLA_ticks_7 : decode bLA_ticks 7 = .ok (.i2l, 1) := by decide +kernel
theorem dLA_ticks_8 : decode bLA_ticks 8 = .ok (.lastore, 1) := by decide +kernel
theorem dLA_ticks_9 : decode bLA_ticks 9 = .ok (.goto 9, 3) := by decide +kernel
theorem dLA_ticks_12 : decode bLA_ticks 12 = .ok (.astore_n 3, 1) := by decide +kernel
theorem dLA_ticks_13 : decode bLA_ticks 13 = .ok (.iconst 1, 1) := by decide +kernel
theorem dLA_ticks_14 : decode bLA_ticks 14 = .ok (.ireturn, 1) := by decide +kernel
theorem dLA_ticks_15 : decode bLA_ticks 15 = .ok (.astore_n 3, 1) := by decide +kernel
theorem dLA_ticks_16 : decode bLA_ticks 16 = .ok (.iconst 2, 1) := by decide +kernel
theorem dLA_ticks_17 : decode bLA_ticks 17 = .ok (.ireturn, 1) := by decide +kernel
theorem dLA_ticks_18 : decode bLA_ticks 18 = .ok (.iconst 0, 1) := by decide +kernel
theorem dLA_ticks_19 : decode bLA_ticks 19 = .ok (.ireturn, 1) := by decide +kernel
theorem dLA_told_0 : decode bLA_told 0 = .ok (.aload 4, 2) := by decide +kernel
theorem dLA_told_2 : decode bLA_told 2 = .ok (.iconst 0, 1) := by decide +kernel
theorem dLA_told_3 : decode bLA_told 3 = .ok (.aload_n 0, 1) := by decide +kernel
theorem dLA_told_4 : decode bLA_told 4 = .ok (.iload_n 1, 1) := by decide +kernel
theorem dLA_told_5 : decode bLA_told 5 = .ok (.iload_n 2, 1) := by decide +kernel
theorem dLA_told_6 : decode bLA_told 6 = .ok (.iload_n 3, 1) := by decide +kernel
theorem dLA_told_7 : decode bLA_told 7 = .ok (.invokevirtual 60, 3) := by decide +kernel
theorem dLA_told_10 : decode bLA_told 10 = .ok (.i2l, 1) := by decide +kernel
theorem dLA_told_11 : decode bLA_told 11 = .ok (.lastore, 1) := by decide +kernel
theorem dLA_told_12 : decode bLA_told 12 = .ok (.goto 7, 3) := by decide +kernel
theorem dLA_told_15 : decode bLA_told 15 = .ok (.astore 5, 2) := by decide +kernel
theorem dLA_told_17 : decode bLA_told 17 = .ok (.iconst 1, 1) := by decide +kernel
theorem dLA_told_18 : decode bLA_told 18 = .ok (.ireturn, 1) := by decide +kernel
theorem dLA_told_19 : decode bLA_told 19 = .ok (.iconst 0, 1) := by decide +kernel
theorem dLA_told_20 : decode bLA_told 20 = .ok (.ireturn, 1) := by decide +kernel
/-- what the helper leaves and answers -/
def zH_clear (P S : ZS) (f : Nat → Int64) (x0 : Int32) (x1 : Int32) (r : Int32) (w : ZS × ZS × (Nat → Int64)) : Prop := match fRG_clear P S x0 x1 with
  | .error k => r = (if k = 1 then 1 else 2) ∧ w = (P, S, f)
  | .ok z => r = 0 ∧ w = (P, z.1, vp_updL f (0 : Int32).toNatClampNeg ((if z.2 = 0 then (0 : Int64) else 1)))
theorem fRG_clear_cs {P S : ZS} {x0 x1 : Int32} {k : Nat} (h : fRG_clear P S x0 x1 = .error k) : k = 1 ∨ k = 2 := by
  simp only [fRG_clear, zbind] at h
  repeat' split at h
  all_goals first | (cases h; exact Or.inl rfl) | (cases h; exact Or.inr rfl) | (cases h; first | exact Or.inl (fRG_requireBridge_c (by assumption)) | exact Or.inl (fRG_requireRing_c (by assumption)) | exact Or.inr (fRG_requireStarted_c (by assumption))) | cases h
theorem fRG_clear_st {P S : ZS} {x0 x1 : Int32} {y : ZS × Int32} (h : fRG_clear P S x0 x1 = .ok y) : ¬ P.I 2 = 0 := by
  simp only [fRG_clear, zbind, zl] at h
  repeat' split at h
  all_goals first | exact zk_rS (by assumption) | cases h
set_option maxHeartbeats 4000000 in
set_option maxRecDepth 100000 in
theorem tLA_clear (l : Launch) (dC : Nat → ClassId) (dI : Nat → Nat → Nat) (cI cZ cJ cA : ClassId) (a0 : Array Value) (s0 : State) (o b : Nat → Nat) (hfl : l.flags = Jvm.pinnedFlags ++ [Jvm.noTraceFlag]) (P S : ZS) (f : Nat → Int64) (qo sz : Nat) (x0 : Int32) (x1 : Int32) (gP : cok P) (gS : cok S) (hQ : P.I 2 = 0 ∨ zQ P) : Met l yLA_clear [Cond.codeWith yLA_clear bLA_clear 5 (some .int) [(0, 17, 20, 19), (0, 17, 24, 13)]] ({ frames := 8, cells := 1, slots := 6, locals := 134 } : Room) (zP zCl dC dI (zTZ cI cZ cJ cA) a0 s0 [.ref (o 0), .int x0, .int x1, .ref qo] sz (CW cI cZ cA o b P S ++ [(qo, .inl (cJ, 1, .inr (.inl f)))])) (zQH zCl dC dI (fun (r : Int32) (x9 : ZS × ZS × (Nat → Int64)) => zH_clear P S f x0 x1 r x9 ∧ cok x9.1 ∧ cok x9.2.1) (fun x9 : ZS × ZS × (Nat → Int64) => (CW cI cZ cA o b x9.1 x9.2.1 ++ [(qo, .inl (cJ, 1, .inr (.inl x9.2.2)))])) (va_A (CW cI cZ cA o b P S ++ [(qo, .inl (cJ, 1, .inr (.inl f)))]) sz)) 1 6 (va_A (CW cI cZ cA o b P S ++ [(qo, .inl (cJ, 1, .inr (.inl f)))]) sz) := by
  refine tq_ofWith (cc := bLA_clear) (maxL := 5) (ret := (some .int)) (hs := [(0, 17, 20, 19), (0, 17, 24, 13)]) (by decide) rfl ?_
  intro p e s m args below meth c s₁ B hml htab hv
  obtain ⟨rfl, hsz, hP, hK, hD0, hB⟩ := hv
  have hx := B.exec
  have hb := B.bytes
  have hr := B.returns
  have hown : s.vm.findClass "RingGuardLaw" = some m.cls := findClass_of_methodNamed B.named
  have hlocks := B.notSynchronized
  subst hsz
  have hD := hD0.self (sz := s.heap.size)
  have hA0 := zA0 hD0 hB
  generalize hAe : va_A (CW cI cZ cA o b P S ++ [(qo, .inl (cJ, 1, .inr (.inl f)))]) s.heap.size = A at hD hA0 ⊢
  have hAD := hA0
  have hA : ∀ q : Nat, s.heap.size ≤ q → A q := fun q h => by rw [← hAe]; exact Or.inr h
  have hS : va_S A s.heap s.heap [] := va_S.rf
  have hl := lv_entry ([.ref (o 0), .int x0, .int x1, .ref qo]) (n := 5) (Nat.le_of_ble_eq_true rfl)
  rw [lg_entry_eq]
  generalize (lg_sl ([.ref (o 0), .int x0, .int x1, .ref qo]) ++ List.replicate (5 - (lg_sl ([.ref (o 0), .int x0, .int x1, .ref qo])).length) Slot.unset).toArray = ls at hl ⊢
  have hl : lv_has ls 5 [(0, .ref (o 0)), (1, .int x0), (2, .int x1), (3, .ref qo)] := hl
  refine lv_aload_n hx hb dLA_clear_0 rfl (lv_at hl 3 rfl) ?_
  refine lv_iconst (v := 0) hx hb dLA_clear_1 (by decide) ?_
  refine lv_aload_n hx hb dLA_clear_2 rfl (lv_at hl 0 rfl) ?_
  refine lv_iload_n hx hb dLA_clear_3 rfl (lv_at hl 1 rfl) ?_
  refine lv_iload_n hx hb dLA_clear_4 rfl (lv_at hl 2 rfl) ?_
  have hPc := zPL hP
  have hDc := zDL hD
  rcases hc : fRG_clear P S x0 x1 with k | y
  · rcases fRG_clear_cs hc with rfl | rfl
    · skip
      refine tq_catch (hp := 20) (tq_runV (As := [.int x0, .int x1]) (rest := [.int 0, .ref qo]) ⟨hx, hb, hml, hown, zno⟩ (tRG_clear_T1 l dC dI cI cZ cJ cA a0 s0 o b hfl P S s.heap.size x0 x1 gP gS hc) (zcw 2 (hB.word (zm3 k3_148) rfl) (hB.word (zm1 k1_1) rfl) (hB.word (zm3 k3_145) rfl) (hB.word (zm3 k3_146) rfl) (hB.word (zm3 k3_147) rfl) rfl rfl (by decide +kernel) ⟨Nat.le_of_ble_eq_true rfl, Nat.le_of_ble_eq_true rfl⟩) ⟨zP_blind, va_recv hK hPc (ci := 0) (q0 := 0) rfl rfl, zP_pre hPc hK hDc hAD (zB_on hB hA0 hS)⟩ rfl rfl hl.1 rfl (lv_room (Nat.le_of_ble_eq_true rfl)) dLA_clear_5 ⟨Nat.le_of_ble_eq_true rfl, Nat.le_of_ble_eq_true rfl⟩) hown htab (zsel1 (by decide) (by decide) (hB.word (zm2 k2_142) rfl) (zfit (args := #[]) (hB.word (zm2 k2_153) rfl))) hS (fun q h => hA q (Nat.le_trans hS.1 h)) (fun xq H1 locs hz1 hk1 hS => ?_)
      have hP := zKeep hP hk1
      refine lv_astore (lv' := [(4, .ref xq), (0, .ref (o 0)), (1, .int x0), (2, .int x1), (3, .ref qo)]) hx hb dLA_clear_20 hl (by decide) rfl (fun ls hl => ?_)
      refine lv_iconst (v := 1) hx hb dLA_clear_22 (by decide) ?_
      exact W.iret (v := 1) hx hb hr (fun t ht hW => ⟨⟨1, (P, S, f), rfl, ⟨by unfold zH_clear; rw [hc]; exact ⟨by decide, rfl⟩, gP, gS⟩, by rw [ht]; exact hP, hD⟩, hS.F ht⟩) hS.2.2 dLA_clear_23
    · skip
      refine tq_catch (hp := 24) (tq_runV (As := [.int x0, .int x1]) (rest := [.int 0, .ref qo]) ⟨hx, hb, hml, hown, zno⟩ (tRG_clear_T2 l dC dI cI cZ cJ cA a0 s0 o b hfl P S s.heap.size x0 x1 gP gS hc) (zcw 2 (hB.word (zm3 k3_148) rfl) (hB.word (zm1 k1_1) rfl) (hB.word (zm3 k3_145) rfl) (hB.word (zm3 k3_146) rfl) (hB.word (zm3 k3_147) rfl) rfl rfl (by decide +kernel) ⟨Nat.le_of_ble_eq_true rfl, Nat.le_of_ble_eq_true rfl⟩) ⟨zP_blind, va_recv hK hPc (ci := 0) (q0 := 0) rfl rfl, zP_pre hPc hK hDc hAD (zB_on hB hA0 hS)⟩ rfl rfl hl.1 rfl (lv_room (Nat.le_of_ble_eq_true rfl)) dLA_clear_5 ⟨Nat.le_of_ble_eq_true rfl, Nat.le_of_ble_eq_true rfl⟩) hown htab (zsel2 (by decide) (by decide) (hB.word (zm2 k2_142) rfl) (znofit hB zno_ISE) (zsel1 (by decide) (by decide) (hB.word (zm2 k2_62) rfl) (zfit (args := #[]) (hB.word (zm2 k2_73) rfl)))) hS (fun q h => hA q (Nat.le_trans hS.1 h)) (fun xq H1 locs hz1 hk1 hS => ?_)
      have hP := zKeep hP hk1
      refine lv_astore (lv' := [(4, .ref xq), (0, .ref (o 0)), (1, .int x0), (2, .int x1), (3, .ref qo)]) hx hb dLA_clear_24 hl (by decide) rfl (fun ls hl => ?_)
      refine lv_iconst (v := 2) hx hb dLA_clear_26 (by decide) ?_
      exact W.iret (v := 2) hx hb hr (fun t ht hW => ⟨⟨2, (P, S, f), rfl, ⟨by unfold zH_clear; rw [hc]; exact ⟨by decide, rfl⟩, gP, gS⟩, by rw [ht]; exact hP, hD⟩, hS.F ht⟩) hS.2.2 dLA_clear_27
  · skip
    have gQ : zQ P := hQ.resolve_left (fRG_clear_st hc)
    refine zcIL (va_runV (As := [.int x0, .int x1]) (rest := [.int 0, .ref qo]) ⟨hx, hb, hml, hown, zno⟩ (tRG_clear l dC dI cI cZ cJ cA a0 s0 o b P S s.heap.size x0 x1 gP gS gQ y hc) (zcw 2 (hB.word (zm3 k3_148) rfl) (hB.word (zm1 k1_1) rfl) (hB.word (zm3 k3_145) rfl) (hB.word (zm3 k3_146) rfl) (hB.word (zm3 k3_147) rfl) rfl rfl (by decide +kernel) ⟨Nat.le_of_ble_eq_true rfl, Nat.le_of_ble_eq_true rfl⟩) ⟨zP_blind, va_recv hK hPc (ci := 0) (q0 := 0) rfl rfl, zP_pre hPc hK hDc hAD (zB_on hB hA0 hS)⟩ rfl rfl hl.1 rfl (lv_room (Nat.le_of_ble_eq_true rfl)) dLA_clear_5 ⟨Nat.le_of_ble_eq_true rfl, Nat.le_of_ble_eq_true rfl⟩) hP hD hS hA (fun k9 x9 H1 locs hq hP hD hS => ?_)
    generalize x9 = S1 at hq hP hD
    have gS1 := hq.2.1
    have ey := hq.1
    subst ey
    have hP : va_P (dC, dI) zCl (CW cI cZ cA o b P S1 ++ [(qo, .inl (cJ, 1, .inr (.inl f)))]) H1 := hP
    have hD : va_D A (CW cI cZ cA o b P S1 ++ [(qo, .inl (cJ, 1, .inr (.inl f)))]) := hD
    refine lv_if_eq (tgt := 15) hx hb dLA_clear_8 (by decide) (fun cz => ?_) (fun cz => ?_)
    · skip
      refine lv_lconst (v := 0) hx hb dLA_clear_15 (by decide) ?_
      refine va_last hx hb hK hP hD hS 84 2 (zAtL CW_len) rfl (i := 0) (by unfold vp_in; decide) dLA_clear_16 (fun H locs hP hD hS => ?_)
      rw [zSetL CW_len] at hP hD
      refine lv_goto (tgt := 28) hx hb dLA_clear_17 (by decide) ?_
      refine lv_iconst (v := 0) hx hb dLA_clear_28 (by decide) ?_
      refine W.widen (k := 1) (n := 6) (Nat.le_of_ble_eq_true rfl) (Nat.le_of_ble_eq_true rfl) ?_
      exact W.iret (v := 0) hx hb hr (fun t ht hW => ⟨⟨0, (P, S1, (vp_updL f (0 : Int32).toNatClampNeg 0)), rfl, ⟨by unfold zH_clear; rw [hc]; exact ⟨rfl, by show (P, S1, _) = (P, S1, vp_updL f _ (if k9 = 0 then (0 : Int64) else 1)); rw [if_pos cz]⟩, gP, gS1⟩, by rw [ht]; exact hP, hD⟩, hS.F ht⟩) hS.2.2 dLA_clear_29
    · skip
      refine lv_lconst (v := 1) hx hb dLA_clear_11 (by decide) ?_
      refine lv_goto (tgt := 16) hx hb dLA_clear_12 (by decide) ?_
      refine va_last hx hb hK hP hD hS 84 2 (zAtL CW_len) rfl (i := 0) (by unfold vp_in; decide) dLA_clear_16 (fun H locs hP hD hS => ?_)
      rw [zSetL CW_len] at hP hD
      refine lv_goto (tgt := 28) hx hb dLA_clear_17 (by decide) ?_
      refine lv_iconst (v := 0) hx hb dLA_clear_28 (by decide) ?_
      refine W.widen (k := 1) (n := 6) (Nat.le_of_ble_eq_true rfl) (Nat.le_of_ble_eq_true rfl) ?_
      exact W.iret (v := 0) hx hb hr (fun t ht hW => ⟨⟨0, (P, S1, (vp_updL f (0 : Int32).toNatClampNeg 1)), rfl, ⟨by unfold zH_clear; rw [hc]; exact ⟨rfl, by show (P, S1, _) = (P, S1, vp_updL f _ (if k9 = 0 then (0 : Int64) else 1)); rw [if_neg cz]⟩, gP, gS1⟩, by rw [ht]; exact hP, hD⟩, hS.F ht⟩) hS.2.2 dLA_clear_29
/-- what the helper leaves and answers -/
def zH_ticks (P S : ZS) (f : Nat → Int64) (x0 : Int32) (r : Int32) (w : ZS × ZS × (Nat → Int64)) : Prop := match fRG_ticks P S x0 with
  | .error k => r = (if k = 1 then 1 else 2) ∧ w = (P, S, f)
  | .ok z => r = 0 ∧ w = (P, z.1, vp_updL f (0 : Int32).toNatClampNeg (z.2.toInt64))
theorem fRG_ticks_cs {P S : ZS} {x0 : Int32} {k : Nat} (h : fRG_ticks P S x0 = .error k) : k = 1 ∨ k = 2 := by
  simp only [fRG_ticks, fRG_ticks_12, zbind, zl] at h
  repeat' split at h
  all_goals first | (cases h; exact Or.inl rfl) | (cases h; exact Or.inr rfl) | (cases h; first | exact Or.inr (fRG_requireStarted_c (by assumption))) | cases h
theorem fRG_ticks_st {P S : ZS} {x0 : Int32} {y : ZS × Int32} (h : fRG_ticks P S x0 = .ok y) : ¬ P.I 2 = 0 := by
  simp only [fRG_ticks, fRG_ticks_12, zbind, zl] at h
  repeat' split at h
  all_goals first | exact zk_rS (by assumption) | cases h
set_option maxHeartbeats 4000000 in
set_option maxRecDepth 100000 in
theorem tLA_ticks (l : Launch) (dC : Nat → ClassId) (dI : Nat → Nat → Nat) (cI cZ cJ cA : ClassId) (a0 : Array Value) (s0 : State) (o b : Nat → Nat) (hfl : l.flags = Jvm.pinnedFlags ++ [Jvm.noTraceFlag]) (P S : ZS) (f : Nat → Int64) (qo sz : Nat) (x0 : Int32) (gP : cok P) (gS : cok S) (hQ : P.I 2 = 0 ∨ zQ P) : Met l yLA_ticks [Cond.codeWith yLA_ticks bLA_ticks 4 (some .int) [(0, 9, 12, 19), (0, 9, 15, 13)]] ({ frames := 8, cells := 1, slots := 6, locals := 167 } : Room) (zP zCl dC dI (zTZ cI cZ cJ cA) a0 s0 [.ref (o 0), .int x0, .ref qo] sz (CW cI cZ cA o b P S ++ [(qo, .inl (cJ, 1, .inr (.inl f)))])) (zQH zCl dC dI (fun (r : Int32) (x9 : (Nat → Nat) × (ZS × ZS × (Nat → Int64))) => zH_ticks P S f x0 r x9.2 ∧ cok x9.2.1 ∧ cok x9.2.2.1) (fun x9 : (Nat → Nat) × (ZS × ZS × (Nat → Int64)) => (CW cI cZ cA o x9.1 x9.2.1 x9.2.2.1 ++ [(qo, .inl (cJ, 1, .inr (.inl x9.2.2.2)))])) (va_A (CW cI cZ cA o b P S ++ [(qo, .inl (cJ, 1, .inr (.inl f)))]) sz)) 1 6 (va_A (CW cI cZ cA o b P S ++ [(qo, .inl (cJ, 1, .inr (.inl f)))]) sz) := by
  refine tq_ofWith (cc := bLA_ticks) (maxL := 4) (ret := (some .int)) (hs := [(0, 9, 12, 19), (0, 9, 15, 13)]) (by decide) rfl ?_
  intro p e s m args below meth c s₁ B hml htab hv
  obtain ⟨rfl, hsz, hP, hK, hD0, hB⟩ := hv
  have hx := B.exec
  have hb := B.bytes
  have hr := B.returns
  have hown : s.vm.findClass "RingGuardLaw" = some m.cls := findClass_of_methodNamed B.named
  have hlocks := B.notSynchronized
  subst hsz
  have hD := hD0.self (sz := s.heap.size)
  have hA0 := zA0 hD0 hB
  generalize hAe : va_A (CW cI cZ cA o b P S ++ [(qo, .inl (cJ, 1, .inr (.inl f)))]) s.heap.size = A at hD hA0 ⊢
  have hAD := hA0
  have hA : ∀ q : Nat, s.heap.size ≤ q → A q := fun q h => by rw [← hAe]; exact Or.inr h
  have hS : va_S A s.heap s.heap [] := va_S.rf
  have hl := lv_entry ([.ref (o 0), .int x0, .ref qo]) (n := 4) (Nat.le_of_ble_eq_true rfl)
  rw [lg_entry_eq]
  generalize (lg_sl ([.ref (o 0), .int x0, .ref qo]) ++ List.replicate (4 - (lg_sl ([.ref (o 0), .int x0, .ref qo])).length) Slot.unset).toArray = ls at hl ⊢
  have hl : lv_has ls 4 [(0, .ref (o 0)), (1, .int x0), (2, .ref qo)] := hl
  refine lv_aload_n hx hb dLA_ticks_0 rfl (lv_at hl 2 rfl) ?_
  refine lv_iconst (v := 0) hx hb dLA_ticks_1 (by decide) ?_
  refine lv_aload_n hx hb dLA_ticks_2 rfl (lv_at hl 0 rfl) ?_
  refine lv_iload_n hx hb dLA_ticks_3 rfl (lv_at hl 1 rfl) ?_
  have hPc := zPL hP
  have hDc := zDL hD
  rcases hc : fRG_ticks P S x0 with k | y
  · rcases fRG_ticks_cs hc with rfl | rfl
    · skip
      refine tq_catch (hp := 12) (tq_runV (As := [.int x0]) (rest := [.int 0, .ref qo]) ⟨hx, hb, hml, hown, zno⟩ (tRG_ticks_T1 l dC dI cI cZ cJ cA a0 s0 o b hfl P S s.heap.size x0 gP gS hc) (zcw 1 (hB.word (zm3 k3_156) rfl) (hB.word (zm1 k1_1) rfl) (hB.word (zm3 k3_153) rfl) (hB.word (zm3 k3_154) rfl) (hB.word (zm3 k3_155) rfl) rfl rfl (by decide +kernel) ⟨Nat.le_of_ble_eq_true rfl, Nat.le_of_ble_eq_true rfl⟩) ⟨zP_blind, va_recv hK hPc (ci := 0) (q0 := 0) rfl rfl, zP_pre hPc hK hDc hAD (zB_on hB hA0 hS)⟩ rfl rfl hl.1 rfl (lv_room (Nat.le_of_ble_eq_true rfl)) dLA_ticks_4 ⟨Nat.le_of_ble_eq_true rfl, Nat.le_of_ble_eq_true rfl⟩) hown htab (zsel1 (by decide) (by decide) (hB.word (zm2 k2_142) rfl) (zfit (args := #[]) (hB.word (zm2 k2_153) rfl))) hS (fun q h => hA q (Nat.le_trans hS.1 h)) (fun xq H1 locs hz1 hk1 hS => ?_)
      have hP := zKeep hP hk1
      refine lv_astore_n (lv' := [(3, .ref xq), (0, .ref (o 0)), (1, .int x0), (2, .ref qo)]) hx hb dLA_ticks_12 rfl hl (by decide) rfl (fun ls hl => ?_)
      refine lv_iconst (v := 1) hx hb dLA_ticks_13 (by decide) ?_
      exact W.iret (v := 1) hx hb hr (fun t ht hW => ⟨⟨1, (b, (P, S, f)), rfl, ⟨by unfold zH_ticks; rw [hc]; exact ⟨by decide, rfl⟩, gP, gS⟩, by rw [ht]; exact hP, hD⟩, hS.F ht⟩) hS.2.2 dLA_ticks_14
    · skip
      refine tq_catch (hp := 15) (tq_runV (As := [.int x0]) (rest := [.int 0, .ref qo]) ⟨hx, hb, hml, hown, zno⟩ (tRG_ticks_T2 l dC dI cI cZ cJ cA a0 s0 o b hfl P S s.heap.size x0 gP gS hc) (zcw 1 (hB.word (zm3 k3_156) rfl) (hB.word (zm1 k1_1) rfl) (hB.word (zm3 k3_153) rfl) (hB.word (zm3 k3_154) rfl) (hB.word (zm3 k3_155) rfl) rfl rfl (by decide +kernel) ⟨Nat.le_of_ble_eq_true rfl, Nat.le_of_ble_eq_true rfl⟩) ⟨zP_blind, va_recv hK hPc (ci := 0) (q0 := 0) rfl rfl, zP_pre hPc hK hDc hAD (zB_on hB hA0 hS)⟩ rfl rfl hl.1 rfl (lv_room (Nat.le_of_ble_eq_true rfl)) dLA_ticks_4 ⟨Nat.le_of_ble_eq_true rfl, Nat.le_of_ble_eq_true rfl⟩) hown htab (zsel2 (by decide) (by decide) (hB.word (zm2 k2_142) rfl) (znofit hB zno_ISE) (zsel1 (by decide) (by decide) (hB.word (zm2 k2_62) rfl) (zfit (args := #[]) (hB.word (zm2 k2_73) rfl)))) hS (fun q h => hA q (Nat.le_trans hS.1 h)) (fun xq H1 locs hz1 hk1 hS => ?_)
      have hP := zKeep hP hk1
      refine lv_astore_n (lv' := [(3, .ref xq), (0, .ref (o 0)), (1, .int x0), (2, .ref qo)]) hx hb dLA_ticks_15 rfl hl (by decide) rfl (fun ls hl => ?_)
      refine lv_iconst (v := 2) hx hb dLA_ticks_16 (by decide) ?_
      exact W.iret (v := 2) hx hb hr (fun t ht hW => ⟨⟨2, (b, (P, S, f)), rfl, ⟨by unfold zH_ticks; rw [hc]; exact ⟨by decide, rfl⟩, gP, gS⟩, by rw [ht]; exact hP, hD⟩, hS.F ht⟩) hS.2.2 dLA_ticks_17
  · skip
    have gQ : zQ P := hQ.resolve_left (fRG_ticks_st hc)
    refine zcIL (va_runV (As := [.int x0]) (rest := [.int 0, .ref qo]) ⟨hx, hb, hml, hown, zno⟩ (tRG_ticks l dC dI cI cZ cJ cA a0 s0 o b P S s.heap.size x0 gP gS gQ y hc) (zcw 1 (hB.word (zm3 k3_156) rfl) (hB.word (zm1 k1_1) rfl) (hB.word (zm3 k3_153) rfl) (hB.word (zm3 k3_154) rfl) (hB.word (zm3 k3_155) rfl) rfl rfl (by decide +kernel) ⟨Nat.le_of_ble_eq_true rfl, Nat.le_of_ble_eq_true rfl⟩) ⟨zP_blind, va_recv hK hPc (ci := 0) (q0 := 0) rfl rfl, zP_pre hPc hK hDc hAD (zB_on hB hA0 hS)⟩ rfl rfl hl.1 rfl (lv_room (Nat.le_of_ble_eq_true rfl)) dLA_ticks_4 ⟨Nat.le_of_ble_eq_true rfl, Nat.le_of_ble_eq_true rfl⟩) hP hD hS hA (fun k9 x9 H1 locs hq hP hD hS => ?_)
    obtain ⟨b1, S1⟩ := x9
    have gS1 := hq.2.1
    have ey := hq.1
    subst ey
    have hP : va_P (dC, dI) zCl (CW cI cZ cA o b1 P S1 ++ [(qo, .inl (cJ, 1, .inr (.inl f)))]) H1 := hP
    have hD : va_D A (CW cI cZ cA o b1 P S1 ++ [(qo, .inl (cJ, 1, .inr (.inl f)))]) := hD
    refine lv_i2l (v := k9.toInt64) hx hb dLA_ticks_7 rfl ?_
    refine va_last hx hb hK hP hD hS 84 2 (zAtL CW_len) rfl (i := 0) (by unfold vp_in; decide) dLA_ticks_8 (fun H locs hP hD hS => ?_)
    rw [zSetL CW_len] at hP hD
    refine lv_goto (tgt := 18) hx hb dLA_ticks_9 (by decide) ?_
    refine lv_iconst (v := 0) hx hb dLA_ticks_18 (by decide) ?_
    refine W.widen (k := 1) (n := 6) (Nat.le_of_ble_eq_true rfl) (Nat.le_of_ble_eq_true rfl) ?_
    exact W.iret (v := 0) hx hb hr (fun t ht hW => ⟨⟨0, (b1, (P, S1, (vp_updL f (0 : Int32).toNatClampNeg k9.toInt64))), rfl, ⟨by unfold zH_ticks; rw [hc]; exact ⟨rfl, rfl⟩, gP, gS1⟩, by rw [ht]; exact hP, hD⟩, hS.F ht⟩) hS.2.2 dLA_ticks_19
/-- what the helper leaves and answers -/
def zH_host (P S : ZS) (f : Nat → Int64) (x0 : Int32) (x1 : Int32) (r : Int32) (w : ZS × ZS × (Nat → Int64)) : Prop := match fRG_host P S x0 x1 with
  | .error k => r = (if k = 1 then 1 else 2) ∧ w = (P, S, f)
  | .ok z => r = 0 ∧ w = (P, z.1, vp_updL f (0 : Int32).toNatClampNeg (z.2.toInt64))
theorem fRG_host_cs {P S : ZS} {x0 x1 : Int32} {k : Nat} (h : fRG_host P S x0 x1 = .error k) : k = 1 ∨ k = 2 := by
  simp only [fRG_host, zbind] at h
  repeat' split at h
  all_goals first | (cases h; exact Or.inl rfl) | (cases h; exact Or.inr rfl) | (cases h; first | exact Or.inl (fRG_requireBridge_c (by assumption)) | exact Or.inl (fRG_requireHost_c (by assumption)) | exact Or.inr (fRG_requireStarted_c (by assumption))) | cases h
set_option maxHeartbeats 4000000 in
set_option maxRecDepth 100000 in
theorem tLA_host (l : Launch) (dC : Nat → ClassId) (dI : Nat → Nat → Nat) (cI cZ cJ cA : ClassId) (a0 : Array Value) (s0 : State) (o b : Nat → Nat) (hfl : l.flags = Jvm.pinnedFlags ++ [Jvm.noTraceFlag]) (P S : ZS) (f : Nat → Int64) (qo sz : Nat) (x0 : Int32) (x1 : Int32) (gP : cok P) (gS : cok S) : Met l yLA_host [Cond.codeWith yLA_host bLA_host 5 (some .int) [(0, 10, 13, 19), (0, 10, 17, 13)]] ({ frames := 8, cells := 1, slots := 6, locals := 134 } : Room) (zP zCl dC dI (zTZ cI cZ cJ cA) a0 s0 [.ref (o 0), .int x0, .int x1, .ref qo] sz (CW cI cZ cA o b P S ++ [(qo, .inl (cJ, 1, .inr (.inl f)))])) (zQH zCl dC dI (fun (r : Int32) (x9 : ZS × ZS × (Nat → Int64)) => zH_host P S f x0 x1 r x9 ∧ cok x9.1 ∧ cok x9.2.1) (fun x9 : ZS × ZS × (Nat → Int64) => (CW cI cZ cA o b x9.1 x9.2.1 ++ [(qo, .inl (cJ, 1, .inr (.inl x9.2.2)))])) (va_A (CW cI cZ cA o b P S ++ [(qo, .inl (cJ, 1, .inr (.inl f)))]) sz)) 1 6 (va_A (CW cI cZ cA o b P S ++ [(qo, .inl (cJ, 1, .inr (.inl f)))]) sz) := by
  refine tq_ofWith (cc := bLA_host) (maxL := 5) (ret := (some .int)) (hs := [(0, 10, 13, 19), (0, 10, 17, 13)]) (by decide) rfl ?_
  intro p e s m args below meth c s₁ B hml htab hv
  obtain ⟨rfl, hsz, hP, hK, hD0, hB⟩ := hv
  have hx := B.exec
  have hb := B.bytes
  have hr := B.returns
  have hown : s.vm.findClass "RingGuardLaw" = some m.cls := findClass_of_methodNamed B.named
  have hlocks := B.notSynchronized
  subst hsz
  have hD := hD0.self (sz := s.heap.size)
  have hA0 := zA0 hD0 hB
  generalize hAe : va_A (CW cI cZ cA o b P S ++ [(qo, .inl (cJ, 1, .inr (.inl f)))]) s.heap.size = A at hD hA0 ⊢
  have hAD := hA0
  have hA : ∀ q : Nat, s.heap.size ≤ q → A q := fun q h => by rw [← hAe]; exact Or.inr h
  have hS : va_S A s.heap s.heap [] := va_S.rf
  have hl := lv_entry ([.ref (o 0), .int x0, .int x1, .ref qo]) (n := 5) (Nat.le_of_ble_eq_true rfl)
  rw [lg_entry_eq]
  generalize (lg_sl ([.ref (o 0), .int x0, .int x1, .ref qo]) ++ List.replicate (5 - (lg_sl ([.ref (o 0), .int x0, .int x1, .ref qo])).length) Slot.unset).toArray = ls at hl ⊢
  have hl : lv_has ls 5 [(0, .ref (o 0)), (1, .int x0), (2, .int x1), (3, .ref qo)] := hl
  refine lv_aload_n hx hb dLA_host_0 rfl (lv_at hl 3 rfl) ?_
  refine lv_iconst (v := 0) hx hb dLA_host_1 (by decide) ?_
  refine lv_aload_n hx hb dLA_host_2 rfl (lv_at hl 0 rfl) ?_
  refine lv_iload_n hx hb dLA_host_3 rfl (lv_at hl 1 rfl) ?_
  refine lv_iload_n hx hb dLA_host_4 rfl (lv_at hl 2 rfl) ?_
  have hPc := zPL hP
  have hDc := zDL hD
  rcases hc : fRG_host P S x0 x1 with k | y
  · rcases fRG_host_cs hc with rfl | rfl
    · skip
      refine tq_catch (hp := 13) (tq_runV (As := [.int x0, .int x1]) (rest := [.int 0, .ref qo]) ⟨hx, hb, hml, hown, zno⟩ (tRG_host_T1 l dC dI cI cZ cJ cA a0 s0 o b hfl P S s.heap.size x0 x1 gP gS hc) (zcw 2 (hB.word (zm4 k4_26) rfl) (hB.word (zm1 k1_1) rfl) (hB.word (zm4 k4_23) rfl) (hB.word (zm4 k4_24) rfl) (hB.word (zm4 k4_25) rfl) rfl rfl (by decide +kernel) ⟨Nat.le_of_ble_eq_true rfl, Nat.le_of_ble_eq_true rfl⟩) ⟨zP_blind, va_recv hK hPc (ci := 0) (q0 := 0) rfl rfl, zP_pre hPc hK hDc hAD (zB_on hB hA0 hS)⟩ rfl rfl hl.1 rfl (lv_room (Nat.le_of_ble_eq_true rfl)) dLA_host_5 ⟨Nat.le_of_ble_eq_true rfl, Nat.le_of_ble_eq_true rfl⟩) hown htab (zsel1 (by decide) (by decide) (hB.word (zm2 k2_142) rfl) (zfit (args := #[]) (hB.word (zm2 k2_153) rfl))) hS (fun q h => hA q (Nat.le_trans hS.1 h)) (fun xq H1 locs hz1 hk1 hS => ?_)
      have hP := zKeep hP hk1
      refine lv_astore (lv' := [(4, .ref xq), (0, .ref (o 0)), (1, .int x0), (2, .int x1), (3, .ref qo)]) hx hb dLA_host_13 hl (by decide) rfl (fun ls hl => ?_)
      refine lv_iconst (v := 1) hx hb dLA_host_15 (by decide) ?_
      exact W.iret (v := 1) hx hb hr (fun t ht hW => ⟨⟨1, (P, S, f), rfl, ⟨by unfold zH_host; rw [hc]; exact ⟨by decide, rfl⟩, gP, gS⟩, by rw [ht]; exact hP, hD⟩, hS.F ht⟩) hS.2.2 dLA_host_16
    · skip
      refine tq_catch (hp := 17) (tq_runV (As := [.int x0, .int x1]) (rest := [.int 0, .ref qo]) ⟨hx, hb, hml, hown, zno⟩ (tRG_host_T2 l dC dI cI cZ cJ cA a0 s0 o b hfl P S s.heap.size x0 x1 gP gS hc) (zcw 2 (hB.word (zm4 k4_26) rfl) (hB.word (zm1 k1_1) rfl) (hB.word (zm4 k4_23) rfl) (hB.word (zm4 k4_24) rfl) (hB.word (zm4 k4_25) rfl) rfl rfl (by decide +kernel) ⟨Nat.le_of_ble_eq_true rfl, Nat.le_of_ble_eq_true rfl⟩) ⟨zP_blind, va_recv hK hPc (ci := 0) (q0 := 0) rfl rfl, zP_pre hPc hK hDc hAD (zB_on hB hA0 hS)⟩ rfl rfl hl.1 rfl (lv_room (Nat.le_of_ble_eq_true rfl)) dLA_host_5 ⟨Nat.le_of_ble_eq_true rfl, Nat.le_of_ble_eq_true rfl⟩) hown htab (zsel2 (by decide) (by decide) (hB.word (zm2 k2_142) rfl) (znofit hB zno_ISE) (zsel1 (by decide) (by decide) (hB.word (zm2 k2_62) rfl) (zfit (args := #[]) (hB.word (zm2 k2_73) rfl)))) hS (fun q h => hA q (Nat.le_trans hS.1 h)) (fun xq H1 locs hz1 hk1 hS => ?_)
      have hP := zKeep hP hk1
      refine lv_astore (lv' := [(4, .ref xq), (0, .ref (o 0)), (1, .int x0), (2, .int x1), (3, .ref qo)]) hx hb dLA_host_17 hl (by decide) rfl (fun ls hl => ?_)
      refine lv_iconst (v := 2) hx hb dLA_host_19 (by decide) ?_
      exact W.iret (v := 2) hx hb hr (fun t ht hW => ⟨⟨2, (P, S, f), rfl, ⟨by unfold zH_host; rw [hc]; exact ⟨by decide, rfl⟩, gP, gS⟩, by rw [ht]; exact hP, hD⟩, hS.F ht⟩) hS.2.2 dLA_host_20
  · skip
    refine zcIL (va_runV (As := [.int x0, .int x1]) (rest := [.int 0, .ref qo]) ⟨hx, hb, hml, hown, zno⟩ (tRG_host l dC dI cI cZ cJ cA a0 s0 o b P S s.heap.size x0 x1 gP gS y hc) (zcw 2 (hB.word (zm4 k4_26) rfl) (hB.word (zm1 k1_1) rfl) (hB.word (zm4 k4_23) rfl) (hB.word (zm4 k4_24) rfl) (hB.word (zm4 k4_25) rfl) rfl rfl (by decide +kernel) ⟨Nat.le_of_ble_eq_true rfl, Nat.le_of_ble_eq_true rfl⟩) ⟨zP_blind, va_recv hK hPc (ci := 0) (q0 := 0) rfl rfl, zP_pre hPc hK hDc hAD (zB_on hB hA0 hS)⟩ rfl rfl hl.1 rfl (lv_room (Nat.le_of_ble_eq_true rfl)) dLA_host_5 ⟨Nat.le_of_ble_eq_true rfl, Nat.le_of_ble_eq_true rfl⟩) hP hD hS hA (fun k9 x9 H1 locs hq hP hD hS => ?_)
    generalize x9 = S1 at hq hP hD
    have gS1 := hq.2.1
    have ey := hq.1
    subst ey
    have hP : va_P (dC, dI) zCl (CW cI cZ cA o b P S1 ++ [(qo, .inl (cJ, 1, .inr (.inl f)))]) H1 := hP
    have hD : va_D A (CW cI cZ cA o b P S1 ++ [(qo, .inl (cJ, 1, .inr (.inl f)))]) := hD
    refine lv_i2l (v := k9.toInt64) hx hb dLA_host_8 rfl ?_
    refine va_last hx hb hK hP hD hS 84 2 (zAtL CW_len) rfl (i := 0) (by unfold vp_in; decide) dLA_host_9 (fun H locs hP hD hS => ?_)
    rw [zSetL CW_len] at hP hD
    refine lv_goto (tgt := 21) hx hb dLA_host_10 (by decide) ?_
    refine lv_iconst (v := 0) hx hb dLA_host_21 (by decide) ?_
    refine W.widen (k := 1) (n := 6) (Nat.le_of_ble_eq_true rfl) (Nat.le_of_ble_eq_true rfl) ?_
    exact W.iret (v := 0) hx hb hr (fun t ht hW => ⟨⟨0, (P, S1, (vp_updL f (0 : Int32).toNatClampNeg k9.toInt64)), rfl, ⟨by unfold zH_host; rw [hc]; exact ⟨rfl, rfl⟩, gP, gS1⟩, by rw [ht]; exact hP, hD⟩, hS.F ht⟩) hS.2.2 dLA_host_22
/-- what the helper leaves and answers -/
def zH_send (P S : ZS) (f : Nat → Int64) (x0 : Int32) (x1 : Int32) (x2 : Int32) (r : Int32) (w : ZS × ZS × (Nat → Int64)) : Prop := match fRG_send P S x0 x1 x2 with
  | .error k => r = (if k = 1 then 1 else 2) ∧ w = (P, S, f)
  | .ok z => r = 0 ∧ w = (P, z.1, vp_updL f (0 : Int32).toNatClampNeg (z.2.toInt64))
theorem fRG_send_cs {P S : ZS} {x0 x1 x2 : Int32} {k : Nat} (h : fRG_send P S x0 x1 x2 = .error k) : k = 1 ∨ k = 2 := by
  simp only [fRG_send, fRG_send_46, zbind, zl] at h
  repeat' split at h
  all_goals first | (cases h; exact Or.inl rfl) | (cases h; exact Or.inr rfl) | (cases h; first | exact Or.inl (fRG_requireHost_c (by assumption)) | exact Or.inr (fRG_requireStarted_c (by assumption)) | exact Or.inl (fRG_requireTag_c (by assumption))) | cases h
set_option maxHeartbeats 4000000 in
set_option maxRecDepth 100000 in
theorem tLA_send (l : Launch) (dC : Nat → ClassId) (dI : Nat → Nat → Nat) (cI cZ cJ cA : ClassId) (a0 : Array Value) (s0 : State) (o b : Nat → Nat) (hfl : l.flags = Jvm.pinnedFlags ++ [Jvm.noTraceFlag]) (P S : ZS) (f : Nat → Int64) (qo sz : Nat) (x0 : Int32) (x1 : Int32) (x2 : Int32) (gP : cok P) (gS : cok S) : Met l yLA_send [Cond.codeWith yLA_send bLA_send 6 (some .int) [(0, 12, 15, 19), (0, 12, 19, 13)]] ({ frames := 8, cells := 1, slots := 6, locals := 134 } : Room) (zP zCl dC dI (zTZ cI cZ cJ cA) a0 s0 [.ref (o 0), .int x0, .int x1, .int x2, .ref qo] sz (CW cI cZ cA o b P S ++ [(qo, .inl (cJ, 1, .inr (.inl f)))])) (zQH zCl dC dI (fun (r : Int32) (x9 : ZS × ZS × (Nat → Int64)) => zH_send P S f x0 x1 x2 r x9 ∧ cok x9.1 ∧ cok x9.2.1) (fun x9 : ZS × ZS × (Nat → Int64) => (CW cI cZ cA o b x9.1 x9.2.1 ++ [(qo, .inl (cJ, 1, .inr (.inl x9.2.2)))])) (va_A (CW cI cZ cA o b P S ++ [(qo, .inl (cJ, 1, .inr (.inl f)))]) sz)) 1 6 (va_A (CW cI cZ cA o b P S ++ [(qo, .inl (cJ, 1, .inr (.inl f)))]) sz) := by
  refine tq_ofWith (cc := bLA_send) (maxL := 6) (ret := (some .int)) (hs := [(0, 12, 15, 19), (0, 12, 19, 13)]) (by decide) rfl ?_
  intro p e s m args below meth c s₁ B hml htab hv
  obtain ⟨rfl, hsz, hP, hK, hD0, hB⟩ := hv
  have hx := B.exec
  have hb := B.bytes
  have hr := B.returns
  have hown : s.vm.findClass "RingGuardLaw" = some m.cls := findClass_of_methodNamed B.named
  have hlocks := B.notSynchronized
  subst hsz
  have hD := hD0.self (sz := s.heap.size)
  have hA0 := zA0 hD0 hB
  generalize hAe : va_A (CW cI cZ cA o b P S ++ [(qo, .inl (cJ, 1, .inr (.inl f)))]) s.heap.size = A at hD hA0 ⊢
  have hAD := hA0
  have hA : ∀ q : Nat, s.heap.size ≤ q → A q := fun q h => by rw [← hAe]; exact Or.inr h
  have hS : va_S A s.heap s.heap [] := va_S.rf
  have hl := lv_entry ([.ref (o 0), .int x0, .int x1, .int x2, .ref qo]) (n := 6) (Nat.le_of_ble_eq_true rfl)
  rw [lg_entry_eq]
  generalize (lg_sl ([.ref (o 0), .int x0, .int x1, .int x2, .ref qo]) ++ List.replicate (6 - (lg_sl ([.ref (o 0), .int x0, .int x1, .int x2, .ref qo])).length) Slot.unset).toArray = ls at hl ⊢
  have hl : lv_has ls 6 [(0, .ref (o 0)), (1, .int x0), (2, .int x1), (3, .int x2), (4, .ref qo)] := hl
  refine lv_aload hx hb dLA_send_0 (lv_at hl 4 rfl) ?_
  refine lv_iconst (v := 0) hx hb dLA_send_2 (by decide) ?_
  refine lv_aload_n hx hb dLA_send_3 rfl (lv_at hl 0 rfl) ?_
  refine lv_iload_n hx hb dLA_send_4 rfl (lv_at hl 1 rfl) ?_
  refine lv_iload_n hx hb dLA_send_5 rfl (lv_at hl 2 rfl) ?_
  refine lv_iload_n hx hb dLA_send_6 rfl (lv_at hl 3 rfl) ?_
  have hPc := zPL hP
  have hDc := zDL hD
  rcases hc : fRG_send P S x0 x1 x2 with k | y
  · rcases fRG_send_cs hc with rfl | rfl
    · skip
      refine tq_catch (hp := 15) (tq_runV (As := [.int x0, .int x1, .int x2]) (rest := [.int 0, .ref qo]) ⟨hx, hb, hml, hown, zno⟩ (tRG_send_T1 l dC dI cI cZ cJ cA a0 s0 o b hfl P S s.heap.size x0 x1 x2 gP gS hc) (zcw 3 (hB.word (zm4 k4_42) rfl) (hB.word (zm1 k1_1) rfl) (hB.word (zm4 k4_39) rfl) (hB.word (zm4 k4_40) rfl) (hB.word (zm4 k4_41) rfl) rfl rfl (by decide +kernel) ⟨Nat.le_of_ble_eq_true rfl, Nat.le_of_ble_eq_true rfl⟩) ⟨zP_blind, va_recv hK hPc (ci := 0) (q0 := 0) rfl rfl, zP_pre hPc hK hDc hAD (zB_on hB hA0 hS)⟩ rfl rfl hl.1 rfl (lv_room (Nat.le_of_ble_eq_true rfl)) dLA_send_7 ⟨Nat.le_of_ble_eq_true rfl, Nat.le_of_ble_eq_true rfl⟩) hown htab (zsel1 (by decide) (by decide) (hB.word (zm2 k2_142) rfl) (zfit (args := #[]) (hB.word (zm2 k2_153) rfl))) hS (fun q h => hA q (Nat.le_trans hS.1 h)) (fun xq H1 locs hz1 hk1 hS => ?_)
      have hP := zKeep hP hk1
      refine lv_astore (lv' := [(5, .ref xq), (0, .ref (o 0)), (1, .int x0), (2, .int x1), (3, .int x2), (4, .ref qo)]) hx hb dLA_send_15 hl (by decide) rfl (fun ls hl => ?_)
      refine lv_iconst (v := 1) hx hb dLA_send_17 (by decide) ?_
      exact W.iret (v := 1) hx hb hr (fun t ht hW => ⟨⟨1, (P, S, f), rfl, ⟨by unfold zH_send; rw [hc]; exact ⟨by decide, rfl⟩, gP, gS⟩, by rw [ht]; exact hP, hD⟩, hS.F ht⟩) hS.2.2 dLA_send_18
    · skip
      refine tq_catch (hp := 19) (tq_runV (As := [.int x0, .int x1, .int x2]) (rest := [.int 0, .ref qo]) ⟨hx, hb, hml, hown, zno⟩ (tRG_send_T2 l dC dI cI cZ cJ cA a0 s0 o b hfl P S s.heap.size x0 x1 x2 gP gS hc) (zcw 3 (hB.word (zm4 k4_42) rfl) (hB.word (zm1 k1_1) rfl) (hB.word (zm4 k4_39) rfl) (hB.word (zm4 k4_40) rfl) (hB.word (zm4 k4_41) rfl) rfl rfl (by decide +kernel) ⟨Nat.le_of_ble_eq_true rfl, Nat.le_of_ble_eq_true rfl⟩) ⟨zP_blind, va_recv hK hPc (ci := 0) (q0 := 0) rfl rfl, zP_pre hPc hK hDc hAD (zB_on hB hA0 hS)⟩ rfl rfl hl.1 rfl (lv_room (Nat.le_of_ble_eq_true rfl)) dLA_send_7 ⟨Nat.le_of_ble_eq_true rfl, Nat.le_of_ble_eq_true rfl⟩) hown htab (zsel2 (by decide) (by decide) (hB.word (zm2 k2_142) rfl) (znofit hB zno_ISE) (zsel1 (by decide) (by decide) (hB.word (zm2 k2_62) rfl) (zfit (args := #[]) (hB.word (zm2 k2_73) rfl)))) hS (fun q h => hA q (Nat.le_trans hS.1 h)) (fun xq H1 locs hz1 hk1 hS => ?_)
      have hP := zKeep hP hk1
      refine lv_astore (lv' := [(5, .ref xq), (0, .ref (o 0)), (1, .int x0), (2, .int x1), (3, .int x2), (4, .ref qo)]) hx hb dLA_send_19 hl (by decide) rfl (fun ls hl => ?_)
      refine lv_iconst (v := 2) hx hb dLA_send_21 (by decide) ?_
      exact W.iret (v := 2) hx hb hr (fun t ht hW => ⟨⟨2, (P, S, f), rfl, ⟨by unfold zH_send; rw [hc]; exact ⟨by decide, rfl⟩, gP, gS⟩, by rw [ht]; exact hP, hD⟩, hS.F ht⟩) hS.2.2 dLA_send_22
  · skip
    refine zcIL (va_runV (As := [.int x0, .int x1, .int x2]) (rest := [.int 0, .ref qo]) ⟨hx, hb, hml, hown, zno⟩ (tRG_send l dC dI cI cZ cJ cA a0 s0 o b P S s.heap.size x0 x1 x2 gP gS y hc) (zcw 3 (hB.word (zm4 k4_42) rfl) (hB.word (zm1 k1_1) rfl) (hB.word (zm4 k4_39) rfl) (hB.word (zm4 k4_40) rfl) (hB.word (zm4 k4_41) rfl) rfl rfl (by decide +kernel) ⟨Nat.le_of_ble_eq_true rfl, Nat.le_of_ble_eq_true rfl⟩) ⟨zP_blind, va_recv hK hPc (ci := 0) (q0 := 0) rfl rfl, zP_pre hPc hK hDc hAD (zB_on hB hA0 hS)⟩ rfl rfl hl.1 rfl (lv_room (Nat.le_of_ble_eq_true rfl)) dLA_send_7 ⟨Nat.le_of_ble_eq_true rfl, Nat.le_of_ble_eq_true rfl⟩) hP hD hS hA (fun k9 x9 H1 locs hq hP hD hS => ?_)
    generalize x9 = S1 at hq hP hD
    have gS1 := hq.2.1
    have ey := hq.1
    subst ey
    have hP : va_P (dC, dI) zCl (CW cI cZ cA o b P S1 ++ [(qo, .inl (cJ, 1, .inr (.inl f)))]) H1 := hP
    have hD : va_D A (CW cI cZ cA o b P S1 ++ [(qo, .inl (cJ, 1, .inr (.inl f)))]) := hD
    refine lv_i2l (v := k9.toInt64) hx hb dLA_send_10 rfl ?_
    refine va_last hx hb hK hP hD hS 84 2 (zAtL CW_len) rfl (i := 0) (by unfold vp_in; decide) dLA_send_11 (fun H locs hP hD hS => ?_)
    rw [zSetL CW_len] at hP hD
    refine lv_goto (tgt := 23) hx hb dLA_send_12 (by decide) ?_
    refine lv_iconst (v := 0) hx hb dLA_send_23 (by decide) ?_
    refine W.widen (k := 1) (n := 6) (Nat.le_of_ble_eq_true rfl) (Nat.le_of_ble_eq_true rfl) ?_
    exact W.iret (v := 0) hx hb hr (fun t ht hW => ⟨⟨0, (P, S1, (vp_updL f (0 : Int32).toNatClampNeg k9.toInt64)), rfl, ⟨by unfold zH_send; rw [hc]; exact ⟨rfl, rfl⟩, gP, gS1⟩, by rw [ht]; exact hP, hD⟩, hS.F ht⟩) hS.2.2 dLA_send_24
/-- what the helper leaves and answers -/
def zH_holds (P S : ZS) (f : Nat → Int64) (x0 : Int32) (x1 : Int32) (r : Int32) (w : ZS × ZS × (Nat → Int64)) : Prop := match fRG_holds P S x0 x1 with
  | .error k => r = (1) ∧ w = (P, S, f)
  | .ok z => r = 0 ∧ w = (P, S, vp_updL f (0 : Int32).toNatClampNeg (z.toInt64))
theorem fRG_holds_cs {P S : ZS} {x0 x1 : Int32} {k : Nat} (h : fRG_holds P S x0 x1 = .error k) : k = 1 := by
  simp only [fRG_holds, zbind] at h
  repeat' split at h
  all_goals first | (cases h; rfl) | (cases h; first | exact fRG_requirePort_c (by assumption)) | cases h
set_option maxHeartbeats 4000000 in
set_option maxRecDepth 100000 in
theorem tLA_holds (l : Launch) (dC : Nat → ClassId) (dI : Nat → Nat → Nat) (cI cZ cJ cA : ClassId) (a0 : Array Value) (s0 : State) (o b : Nat → Nat) (hfl : l.flags = Jvm.pinnedFlags ++ [Jvm.noTraceFlag]) (P S : ZS) (f : Nat → Int64) (qo sz : Nat) (x0 : Int32) (x1 : Int32) (gP : cok P) (gS : cok S) : Met l yLA_holds [Cond.codeWith yLA_holds bLA_holds 5 (some .int) [(0, 10, 13, 19)]] ({ frames := 9, cells := 1, slots := 6, locals := 155 } : Room) (zP zCl dC dI (zTZ cI cZ cJ cA) a0 s0 [.ref (o 0), .int x0, .int x1, .ref qo] sz (CW cI cZ cA o b P S ++ [(qo, .inl (cJ, 1, .inr (.inl f)))])) (zQH zCl dC dI (fun (r : Int32) (x9 : ZS × ZS × (Nat → Int64)) => zH_holds P S f x0 x1 r x9 ∧ cok x9.1 ∧ cok x9.2.1) (fun x9 : ZS × ZS × (Nat → Int64) => (CW cI cZ cA o b x9.1 x9.2.1 ++ [(qo, .inl (cJ, 1, .inr (.inl x9.2.2)))])) (va_A (CW cI cZ cA o b P S ++ [(qo, .inl (cJ, 1, .inr (.inl f)))]) sz)) 1 6 (va_A (CW cI cZ cA o b P S ++ [(qo, .inl (cJ, 1, .inr (.inl f)))]) sz) := by
  refine tq_ofWith (cc := bLA_holds) (maxL := 5) (ret := (some .int)) (hs := [(0, 10, 13, 19)]) (by decide) rfl ?_
  intro p e s m args below meth c s₁ B hml htab hv
  obtain ⟨rfl, hsz, hP, hK, hD0, hB⟩ := hv
  have hx := B.exec
  have hb := B.bytes
  have hr := B.returns
  have hown : s.vm.findClass "RingGuardLaw" = some m.cls := findClass_of_methodNamed B.named
  have hlocks := B.notSynchronized
  subst hsz
  have hD := hD0.self (sz := s.heap.size)
  have hA0 := zA0 hD0 hB
  generalize hAe : va_A (CW cI cZ cA o b P S ++ [(qo, .inl (cJ, 1, .inr (.inl f)))]) s.heap.size = A at hD hA0 ⊢
  have hAD := hA0
  have hA : ∀ q : Nat, s.heap.size ≤ q → A q := fun q h => by rw [← hAe]; exact Or.inr h
  have hS : va_S A s.heap s.heap [] := va_S.rf
  have hl := lv_entry ([.ref (o 0), .int x0, .int x1, .ref qo]) (n := 5) (Nat.le_of_ble_eq_true rfl)
  rw [lg_entry_eq]
  generalize (lg_sl ([.ref (o 0), .int x0, .int x1, .ref qo]) ++ List.replicate (5 - (lg_sl ([.ref (o 0), .int x0, .int x1, .ref qo])).length) Slot.unset).toArray = ls at hl ⊢
  have hl : lv_has ls 5 [(0, .ref (o 0)), (1, .int x0), (2, .int x1), (3, .ref qo)] := hl
  refine lv_aload_n hx hb dLA_holds_0 rfl (lv_at hl 3 rfl) ?_
  refine lv_iconst (v := 0) hx hb dLA_holds_1 (by decide) ?_
  refine lv_aload_n hx hb dLA_holds_2 rfl (lv_at hl 0 rfl) ?_
  refine lv_iload_n hx hb dLA_holds_3 rfl (lv_at hl 1 rfl) ?_
  refine lv_iload_n hx hb dLA_holds_4 rfl (lv_at hl 2 rfl) ?_
  have hPc := zPL hP
  have hDc := zDL hD
  rcases hc : fRG_holds P S x0 x1 with k | y
  · have x9 := fRG_holds_cs hc
    subst x9
    refine tq_catch (hp := 13) (tq_runV (As := [.int x0, .int x1]) (rest := [.int 0, .ref qo]) ⟨hx, hb, hml, hown, zno⟩ (tRG_holds_T1 l dC dI cI cZ cJ cA a0 s0 o b hfl P S s.heap.size x0 x1 gP gS hc) (zcw 2 (hB.word (zm4 k4_84) rfl) (hB.word (zm1 k1_1) rfl) (hB.word (zm4 k4_81) rfl) (hB.word (zm4 k4_82) rfl) (hB.word (zm4 k4_83) rfl) rfl rfl (by decide +kernel) ⟨Nat.le_of_ble_eq_true rfl, Nat.le_of_ble_eq_true rfl⟩) ⟨zP_blind, va_recv hK hPc (ci := 0) (q0 := 0) rfl rfl, zP_pre hPc hK hDc hAD (zB_on hB hA0 hS)⟩ rfl rfl hl.1 rfl (lv_room (Nat.le_of_ble_eq_true rfl)) dLA_holds_5 ⟨Nat.le_of_ble_eq_true rfl, Nat.le_of_ble_eq_true rfl⟩) hown htab (zsel1 (by decide) (by decide) (hB.word (zm2 k2_142) rfl) (zfit (args := #[]) (hB.word (zm2 k2_153) rfl))) hS (fun q h => hA q (Nat.le_trans hS.1 h)) (fun xq H1 locs hz1 hk1 hS => ?_)
    have hP := zKeep hP hk1
    refine lv_astore (lv' := [(4, .ref xq), (0, .ref (o 0)), (1, .int x0), (2, .int x1), (3, .ref qo)]) hx hb dLA_holds_13 hl (by decide) rfl (fun ls hl => ?_)
    refine lv_iconst (v := 1) hx hb dLA_holds_15 (by decide) ?_
    exact W.iret (v := 1) hx hb hr (fun t ht hW => ⟨⟨1, (P, S, f), rfl, ⟨by unfold zH_holds; rw [hc]; exact ⟨by decide, rfl⟩, gP, gS⟩, by rw [ht]; exact hP, hD⟩, hS.F ht⟩) hS.2.2 dLA_holds_16
  · skip
    refine zcallp (va_runV (As := [.int x0, .int x1]) (rest := [.int 0, .ref qo]) ⟨hx, hb, hml, hown, zno⟩ (tRG_holds l dC dI cI cZ cJ cA a0 s0 o b P S s.heap.size x0 x1 gP gS y hc) (zcw 2 (hB.word (zm4 k4_84) rfl) (hB.word (zm1 k1_1) rfl) (hB.word (zm4 k4_81) rfl) (hB.word (zm4 k4_82) rfl) (hB.word (zm4 k4_83) rfl) rfl rfl (by decide +kernel) ⟨Nat.le_of_ble_eq_true rfl, Nat.le_of_ble_eq_true rfl⟩) ⟨zP_blind, va_recv hK hPc (ci := 0) (q0 := 0) rfl rfl, zP_pre hPc hK hDc hAD (zB_on hB hA0 hS)⟩ rfl rfl hl.1 rfl (lv_room (Nat.le_of_ble_eq_true rfl)) dLA_holds_5 ⟨Nat.le_of_ble_eq_true rfl, Nat.le_of_ble_eq_true rfl⟩) hS hA (fun k9 H1 locs hq hz1 hk1 hS => ?_)
    have hP := zKeep hP hk1
    have ey := hq.1
    subst ey
    refine lv_i2l (v := k9.toInt64) hx hb dLA_holds_8 rfl ?_
    refine va_last hx hb hK hP hD hS 84 2 (zAtL CW_len) rfl (i := 0) (by unfold vp_in; decide) dLA_holds_9 (fun H locs hP hD hS => ?_)
    rw [zSetL CW_len] at hP hD
    refine lv_goto (tgt := 17) hx hb dLA_holds_10 (by decide) ?_
    refine lv_iconst (v := 0) hx hb dLA_holds_17 (by decide) ?_
    refine W.widen (k := 1) (n := 6) (Nat.le_of_ble_eq_true rfl) (Nat.le_of_ble_eq_true rfl) ?_
    exact W.iret (v := 0) hx hb hr (fun t ht hW => ⟨⟨0, (P, S, (vp_updL f (0 : Int32).toNatClampNeg k9.toInt64)), rfl, ⟨by unfold zH_holds; rw [hc]; exact ⟨rfl, rfl⟩, gP, gS⟩, by rw [ht]; exact hP, hD⟩, hS.F ht⟩) hS.2.2 dLA_holds_18
/-- what the helper leaves and answers -/
def zH_told (P S : ZS) (f : Nat → Int64) (x0 : Int32) (x1 : Int32) (x2 : Int32) (r : Int32) (w : ZS × ZS × (Nat → Int64)) : Prop := match fRG_told P S x0 x1 x2 with
  | .error k => r = (1) ∧ w = (P, S, f)
  | .ok z => r = 0 ∧ w = (P, S, vp_updL f (0 : Int32).toNatClampNeg (z.toInt64))
theorem fRG_told_cs {P S : ZS} {x0 x1 x2 : Int32} {k : Nat} (h : fRG_told P S x0 x1 x2 = .error k) : k = 1 := by
  simp only [fRG_told, zbind] at h
  repeat' split at h
  all_goals first | (cases h; rfl) | (cases h; first | exact fRG_requireBridge_c (by assumption) | exact fRG_requireRing_c (by assumption)) | cases h
set_option maxHeartbeats 4000000 in
set_option maxRecDepth 100000 in
theorem tLA_told (l : Launch) (dC : Nat → ClassId) (dI : Nat → Nat → Nat) (cI cZ cJ cA : ClassId) (a0 : Array Value) (s0 : State) (o b : Nat → Nat) (hfl : l.flags = Jvm.pinnedFlags ++ [Jvm.noTraceFlag]) (P S : ZS) (f : Nat → Int64) (qo sz : Nat) (x0 : Int32) (x1 : Int32) (x2 : Int32) (gP : cok P) (gS : cok S) : Met l yLA_told [Cond.codeWith yLA_told bLA_told 6 (some .int) [(0, 12, 15, 19)]] ({ frames := 8, cells := 1, slots := 6, locals := 134 } : Room) (zP zCl dC dI (zTZ cI cZ cJ cA) a0 s0 [.ref (o 0), .int x0, .int x1, .int x2, .ref qo] sz (CW cI cZ cA o b P S ++ [(qo, .inl (cJ, 1, .inr (.inl f)))])) (zQH zCl dC dI (fun (r : Int32) (x9 : ZS × ZS × (Nat → Int64)) => zH_told P S f x0 x1 x2 r x9 ∧ cok x9.1 ∧ cok x9.2.1) (fun x9 : ZS × ZS × (Nat → Int64) => (CW cI cZ cA o b x9.1 x9.2.1 ++ [(qo, .inl (cJ, 1, .inr (.inl x9.2.2)))])) (va_A (CW cI cZ cA o b P S ++ [(qo, .inl (cJ, 1, .inr (.inl f)))]) sz)) 1 6 (va_A (CW cI cZ cA o b P S ++ [(qo, .inl (cJ, 1, .inr (.inl f)))]) sz) := by
  refine tq_ofWith (cc := bLA_told) (maxL := 6) (ret := (some .int)) (hs := [(0, 12, 15, 19)]) (by decide) rfl ?_
  intro p e s m args below meth c s₁ B hml htab hv
  obtain ⟨rfl, hsz, hP, hK, hD0, hB⟩ := hv
  have hx := B.exec
  have hb := B.bytes
  have hr := B.returns
  have hown : s.vm.findClass "RingGuardLaw" = some m.cls := findClass_of_methodNamed B.named
  have hlocks := B.notSynchronized
  subst hsz
  have hD := hD0.self (sz := s.heap.size)
  have hA0 := zA0 hD0 hB
  generalize hAe : va_A (CW cI cZ cA o b P S ++ [(qo, .inl (cJ, 1, .inr (.inl f)))]) s.heap.size = A at hD hA0 ⊢
  have hAD := hA0
  have hA : ∀ q : Nat, s.heap.size ≤ q → A q := fun q h => by rw [← hAe]; exact Or.inr h
  have hS : va_S A s.heap s.heap [] := va_S.rf
  have hl := lv_entry ([.ref (o 0), .int x0, .int x1, .int x2, .ref qo]) (n := 6) (Nat.le_of_ble_eq_true rfl)
  rw [lg_entry_eq]
  generalize (lg_sl ([.ref (o 0), .int x0, .int x1, .int x2, .ref qo]) ++ List.replicate (6 - (lg_sl ([.ref (o 0), .int x0, .int x1, .int x2, .ref qo])).length) Slot.unset).toArray = ls at hl ⊢
  have hl : lv_has ls 6 [(0, .ref (o 0)), (1, .int x0), (2, .int x1), (3, .int x2), (4, .ref qo)] := hl
  refine lv_aload hx hb dLA_told_0 (lv_at hl 4 rfl) ?_
  refine lv_iconst (v := 0) hx hb dLA_told_2 (by decide) ?_
  refine lv_aload_n hx hb dLA_told_3 rfl (lv_at hl 0 rfl) ?_
  refine lv_iload_n hx hb dLA_told_4 rfl (lv_at hl 1 rfl) ?_
  refine lv_iload_n hx hb dLA_told_5 rfl (lv_at hl 2 rfl) ?_
  refine lv_iload_n hx hb dLA_told_6 rfl (lv_at hl 3 rfl) ?_
  have hPc := zPL hP
  have hDc := zDL hD
  rcases hc : fRG_told P S x0 x1 x2 with k | y
  · have x9 := fRG_told_cs hc
    subst x9
    refine tq_catch (hp := 15) (tq_runV (As := [.int x0, .int x1, .int x2]) (rest := [.int 0, .ref qo]) ⟨hx, hb, hml, hown, zno⟩ (tRG_told_T1 l dC dI cI cZ cJ cA a0 s0 o b hfl P S s.heap.size x0 x1 x2 gP gS hc) (zcw 3 (hB.word (zm4 k4_91) rfl) (hB.word (zm1 k1_1) rfl) (hB.word (zm4 k4_88) rfl) (hB.word (zm4 k4_89) rfl) (hB.word (zm4 k4_90) rfl) rfl rfl (by decide +kernel) ⟨Nat.le_of_ble_eq_true rfl, Nat.le_of_ble_eq_true rfl⟩) ⟨zP_blind, va_recv hK hPc (ci := 0) (q0 := 0) rfl rfl, zP_pre hPc hK hDc hAD (zB_on hB hA0 hS)⟩ rfl rfl hl.1 rfl (lv_room (Nat.le_of_ble_eq_true rfl)) dLA_told_7 ⟨Nat.le_of_ble_eq_true rfl, Nat.le_of_ble_eq_true rfl⟩) hown htab (zsel1 (by decide) (by decide) (hB.word (zm2 k2_142) rfl) (zfit (args := #[]) (hB.word (zm2 k2_153) rfl))) hS (fun q h => hA q (Nat.le_trans hS.1 h)) (fun xq H1 locs hz1 hk1 hS => ?_)
    have hP := zKeep hP hk1
    refine lv_astore (lv' := [(5, .ref xq), (0, .ref (o 0)), (1, .int x0), (2, .int x1), (3, .int x2), (4, .ref qo)]) hx hb dLA_told_15 hl (by decide) rfl (fun ls hl => ?_)
    refine lv_iconst (v := 1) hx hb dLA_told_17 (by decide) ?_
    exact W.iret (v := 1) hx hb hr (fun t ht hW => ⟨⟨1, (P, S, f), rfl, ⟨by unfold zH_told; rw [hc]; exact ⟨by decide, rfl⟩, gP, gS⟩, by rw [ht]; exact hP, hD⟩, hS.F ht⟩) hS.2.2 dLA_told_18
  · skip
    refine zcallp (va_runV (As := [.int x0, .int x1, .int x2]) (rest := [.int 0, .ref qo]) ⟨hx, hb, hml, hown, zno⟩ (tRG_told l dC dI cI cZ cJ cA a0 s0 o b P S s.heap.size x0 x1 x2 gP gS y hc) (zcw 3 (hB.word (zm4 k4_91) rfl) (hB.word (zm1 k1_1) rfl) (hB.word (zm4 k4_88) rfl) (hB.word (zm4 k4_89) rfl) (hB.word (zm4 k4_90) rfl) rfl rfl (by decide +kernel) ⟨Nat.le_of_ble_eq_true rfl, Nat.le_of_ble_eq_true rfl⟩) ⟨zP_blind, va_recv hK hPc (ci := 0) (q0 := 0) rfl rfl, zP_pre hPc hK hDc hAD (zB_on hB hA0 hS)⟩ rfl rfl hl.1 rfl (lv_room (Nat.le_of_ble_eq_true rfl)) dLA_told_7 ⟨Nat.le_of_ble_eq_true rfl, Nat.le_of_ble_eq_true rfl⟩) hS hA (fun k9 H1 locs hq hz1 hk1 hS => ?_)
    have hP := zKeep hP hk1
    have ey := hq.1
    subst ey
    refine lv_i2l (v := k9.toInt64) hx hb dLA_told_10 rfl ?_
    refine va_last hx hb hK hP hD hS 84 2 (zAtL CW_len) rfl (i := 0) (by unfold vp_in; decide) dLA_told_11 (fun H locs hP hD hS => ?_)
    rw [zSetL CW_len] at hP hD
    refine lv_goto (tgt := 19) hx hb dLA_told_12 (by decide) ?_
    refine lv_iconst (v := 0) hx hb dLA_told_19 (by decide) ?_
    refine W.widen (k := 1) (n := 6) (Nat.le_of_ble_eq_true rfl) (Nat.le_of_ble_eq_true rfl) ?_
    exact W.iret (v := 0) hx hb hr (fun t ht hW => ⟨⟨0, (P, S, (vp_updL f (0 : Int32).toNatClampNeg k9.toInt64)), rfl, ⟨by unfold zH_told; rw [hc]; exact ⟨rfl, rfl⟩, gP, gS⟩, by rw [ht]; exact hP, hD⟩, hS.F ht⟩) hS.2.2 dLA_told_20
/-- what the helper leaves and answers -/
def zH_learned (P S : ZS) (f : Nat → Int64) (x0 : Int32) (x1 : Int32) (x2 : Int32) (r : Int32) (w : ZS × ZS × (Nat → Int64)) : Prop := match fRG_learned P S x0 x1 x2 with
  | .error k => r = (1) ∧ w = (P, S, f)
  | .ok z => r = 0 ∧ w = (P, S, vp_updL f (0 : Int32).toNatClampNeg (z.toInt64))
theorem fRG_learned_cs {P S : ZS} {x0 x1 x2 : Int32} {k : Nat} (h : fRG_learned P S x0 x1 x2 = .error k) : k = 1 := by
  simp only [fRG_learned, zbind] at h
  repeat' split at h
  all_goals first | (cases h; rfl) | (cases h; first | exact fRG_requireBridge_c (by assumption) | exact fRG_requireHost_c (by assumption) | exact fRG_requireTag_c (by assumption)) | cases h
set_option maxHeartbeats 4000000 in
set_option maxRecDepth 100000 in
theorem tLA_learned (l : Launch) (dC : Nat → ClassId) (dI : Nat → Nat → Nat) (cI cZ cJ cA : ClassId) (a0 : Array Value) (s0 : State) (o b : Nat → Nat) (hfl : l.flags = Jvm.pinnedFlags ++ [Jvm.noTraceFlag]) (P S : ZS) (f : Nat → Int64) (qo sz : Nat) (x0 : Int32) (x1 : Int32) (x2 : Int32) (gP : cok P) (gS : cok S) : Met l yLA_learned [Cond.codeWith yLA_learned bLA_learned 6 (some .int) [(0, 12, 15, 19)]] ({ frames := 8, cells := 1, slots := 6, locals := 134 } : Room) (zP zCl dC dI (zTZ cI cZ cJ cA) a0 s0 [.ref (o 0), .int x0, .int x1, .int x2, .ref qo] sz (CW cI cZ cA o b P S ++ [(qo, .inl (cJ, 1, .inr (.inl f)))])) (zQH zCl dC dI (fun (r : Int32) (x9 : ZS × ZS × (Nat → Int64)) => zH_learned P S f x0 x1 x2 r x9 ∧ cok x9.1 ∧ cok x9.2.1) (fun x9 : ZS × ZS × (Nat → Int64) => (CW cI cZ cA o b x9.1 x9.2.1 ++ [(qo, .inl (cJ, 1, .inr (.inl x9.2.2)))])) (va_A (CW cI cZ cA o b P S ++ [(qo, .inl (cJ, 1, .inr (.inl f)))]) sz)) 1 6 (va_A (CW cI cZ cA o b P S ++ [(qo, .inl (cJ, 1, .inr (.inl f)))]) sz) := by
  refine tq_ofWith (cc := bLA_learned) (maxL := 6) (ret := (some .int)) (hs := [(0, 12, 15, 19)]) (by decide) rfl ?_
  intro p e s m args below meth c s₁ B hml htab hv
  obtain ⟨rfl, hsz, hP, hK, hD0, hB⟩ := hv
  have hx := B.exec
  have hb := B.bytes
  have hr := B.returns
  have hown : s.vm.findClass "RingGuardLaw" = some m.cls := findClass_of_methodNamed B.named
  have hlocks := B.notSynchronized
  subst hsz
  have hD := hD0.self (sz := s.heap.size)
  have hA0 := zA0 hD0 hB
  generalize hAe : va_A (CW cI cZ cA o b P S ++ [(qo, .inl (cJ, 1, .inr (.inl f)))]) s.heap.size = A at hD hA0 ⊢
  have hAD := hA0
  have hA : ∀ q : Nat, s.heap.size ≤ q → A q := fun q h => by rw [← hAe]; exact Or.inr h
  have hS : va_S A s.heap s.heap [] := va_S.rf
  have hl := lv_entry ([.ref (o 0), .int x0, .int x1, .int x2, .ref qo]) (n := 6) (Nat.le_of_ble_eq_true rfl)
  rw [lg_entry_eq]
  generalize (lg_sl ([.ref (o 0), .int x0, .int x1, .int x2, .ref qo]) ++ List.replicate (6 - (lg_sl ([.ref (o 0), .int x0, .int x1, .int x2, .ref qo])).length) Slot.unset).toArray = ls at hl ⊢
  have hl : lv_has ls 6 [(0, .ref (o 0)), (1, .int x0), (2, .int x1), (3, .int x2), (4, .ref qo)] := hl
  refine lv_aload hx hb dLA_learned_0 (lv_at hl 4 rfl) ?_
  refine lv_iconst (v := 0) hx hb dLA_learned_2 (by decide) ?_
  refine lv_aload_n hx hb dLA_learned_3 rfl (lv_at hl 0 rfl) ?_
  refine lv_iload_n hx hb dLA_learned_4 rfl (lv_at hl 1 rfl) ?_
  refine lv_iload_n hx hb dLA_learned_5 rfl (lv_at hl 2 rfl) ?_
  refine lv_iload_n hx hb dLA_learned_6 rfl (lv_at hl 3 rfl) ?_
  have hPc := zPL hP
  have hDc := zDL hD
  rcases hc : fRG_learned P S x0 x1 x2 with k | y
  · have x9 := fRG_learned_cs hc
    subst x9
    refine tq_catch (hp := 15) (tq_runV (As := [.int x0, .int x1, .int x2]) (rest := [.int 0, .ref qo]) ⟨hx, hb, hml, hown, zno⟩ (tRG_learned_T1 l dC dI cI cZ cJ cA a0 s0 o b hfl P S s.heap.size x0 x1 x2 gP gS hc) (zcw 3 (hB.word (zm4 k4_99) rfl) (hB.word (zm1 k1_1) rfl) (hB.word (zm4 k4_96) rfl) (hB.word (zm4 k4_97) rfl) (hB.word (zm4 k4_98) rfl) rfl rfl (by decide +kernel) ⟨Nat.le_of_ble_eq_true rfl, Nat.le_of_ble_eq_true rfl⟩) ⟨zP_blind, va_recv hK hPc (ci := 0) (q0 := 0) rfl rfl, zP_pre hPc hK hDc hAD (zB_on hB hA0 hS)⟩ rfl rfl hl.1 rfl (lv_room (Nat.le_of_ble_eq_true rfl)) dLA_learned_7 ⟨Nat.le_of_ble_eq_true rfl, Nat.le_of_ble_eq_true rfl⟩) hown htab (zsel1 (by decide) (by decide) (hB.word (zm2 k2_142) rfl) (zfit (args := #[]) (hB.word (zm2 k2_153) rfl))) hS (fun q h => hA q (Nat.le_trans hS.1 h)) (fun xq H1 locs hz1 hk1 hS => ?_)
    have hP := zKeep hP hk1
    refine lv_astore (lv' := [(5, .ref xq), (0, .ref (o 0)), (1, .int x0), (2, .int x1), (3, .int x2), (4, .ref qo)]) hx hb dLA_learned_15 hl (by decide) rfl (fun ls hl => ?_)
    refine lv_iconst (v := 1) hx hb dLA_learned_17 (by decide) ?_
    exact W.iret (v := 1) hx hb hr (fun t ht hW => ⟨⟨1, (P, S, f), rfl, ⟨by unfold zH_learned; rw [hc]; exact ⟨by decide, rfl⟩, gP, gS⟩, by rw [ht]; exact hP, hD⟩, hS.F ht⟩) hS.2.2 dLA_learned_18
  · skip
    refine zcallp (va_runV (As := [.int x0, .int x1, .int x2]) (rest := [.int 0, .ref qo]) ⟨hx, hb, hml, hown, zno⟩ (tRG_learned l dC dI cI cZ cJ cA a0 s0 o b P S s.heap.size x0 x1 x2 gP gS y hc) (zcw 3 (hB.word (zm4 k4_99) rfl) (hB.word (zm1 k1_1) rfl) (hB.word (zm4 k4_96) rfl) (hB.word (zm4 k4_97) rfl) (hB.word (zm4 k4_98) rfl) rfl rfl (by decide +kernel) ⟨Nat.le_of_ble_eq_true rfl, Nat.le_of_ble_eq_true rfl⟩) ⟨zP_blind, va_recv hK hPc (ci := 0) (q0 := 0) rfl rfl, zP_pre hPc hK hDc hAD (zB_on hB hA0 hS)⟩ rfl rfl hl.1 rfl (lv_room (Nat.le_of_ble_eq_true rfl)) dLA_learned_7 ⟨Nat.le_of_ble_eq_true rfl, Nat.le_of_ble_eq_true rfl⟩) hS hA (fun k9 H1 locs hq hz1 hk1 hS => ?_)
    have hP := zKeep hP hk1
    have ey := hq.1
    subst ey
    refine lv_i2l (v := k9.toInt64) hx hb dLA_learned_10 rfl ?_
    refine va_last hx hb hK hP hD hS 84 2 (zAtL CW_len) rfl (i := 0) (by unfold vp_in; decide) dLA_learned_11 (fun H locs hP hD hS => ?_)
    rw [zSetL CW_len] at hP hD
    refine lv_goto (tgt := 19) hx hb dLA_learned_12 (by decide) ?_
    refine lv_iconst (v := 0) hx hb dLA_learned_19 (by decide) ?_
    refine W.widen (k := 1) (n := 6) (Nat.le_of_ble_eq_true rfl) (Nat.le_of_ble_eq_true rfl) ?_
    exact W.iret (v := 0) hx hb hr (fun t ht hW => ⟨⟨0, (P, S, (vp_updL f (0 : Int32).toNatClampNeg k9.toInt64)), rfl, ⟨by unfold zH_learned; rw [hc]; exact ⟨rfl, rfl⟩, gP, gS⟩, by rw [ht]; exact hP, hD⟩, hS.F ht⟩) hS.2.2 dLA_learned_20
/-- what the helper leaves and answers -/
def zH_joined (P S : ZS) (f : Nat → Int64) (x0 : Int32) (x1 : Int32) (r : Int32) (w : ZS × ZS × (Nat → Int64)) : Prop := match fRG_joined P S x0 x1 with
  | .error k => r = (1) ∧ w = (P, S, f)
  | .ok z => r = 0 ∧ w = (P, z.1, vp_updL f (0 : Int32).toNatClampNeg ((if z.2 = 0 then (0 : Int64) else 1)))
theorem fRG_joined_cs {P S : ZS} {x0 x1 : Int32} {k : Nat} (h : fRG_joined P S x0 x1 = .error k) : k = 1 := by
  simp only [fRG_joined, zbind] at h
  repeat' split at h
  all_goals first | (cases h; rfl) | (cases h; first | exact fRG_requireBridge_c (by assumption)) | cases h
set_option maxHeartbeats 4000000 in
set_option maxRecDepth 100000 in
theorem tLA_joined (l : Launch) (dC : Nat → ClassId) (dI : Nat → Nat → Nat) (cI cZ cJ cA : ClassId) (a0 : Array Value) (s0 : State) (o b : Nat → Nat) (hfl : l.flags = Jvm.pinnedFlags ++ [Jvm.noTraceFlag]) (P S : ZS) (f : Nat → Int64) (qo sz : Nat) (x0 : Int32) (x1 : Int32) (gP : cok P) (gS : cok S) : Met l yLA_joined [Cond.codeWith yLA_joined bLA_joined 5 (some .int) [(0, 17, 20, 19)]] ({ frames := 8, cells := 1, slots := 6, locals := 133 } : Room) (zP zCl dC dI (zTZ cI cZ cJ cA) a0 s0 [.ref (o 0), .int x0, .int x1, .ref qo] sz (CW cI cZ cA o b P S ++ [(qo, .inl (cJ, 1, .inr (.inl f)))])) (zQH zCl dC dI (fun (r : Int32) (x9 : ZS × ZS × (Nat → Int64)) => zH_joined P S f x0 x1 r x9 ∧ cok x9.1 ∧ cok x9.2.1) (fun x9 : ZS × ZS × (Nat → Int64) => (CW cI cZ cA o b x9.1 x9.2.1 ++ [(qo, .inl (cJ, 1, .inr (.inl x9.2.2)))])) (va_A (CW cI cZ cA o b P S ++ [(qo, .inl (cJ, 1, .inr (.inl f)))]) sz)) 1 6 (va_A (CW cI cZ cA o b P S ++ [(qo, .inl (cJ, 1, .inr (.inl f)))]) sz) := by
  refine tq_ofWith (cc := bLA_joined) (maxL := 5) (ret := (some .int)) (hs := [(0, 17, 20, 19)]) (by decide) rfl ?_
  intro p e s m args below meth c s₁ B hml htab hv
  obtain ⟨rfl, hsz, hP, hK, hD0, hB⟩ := hv
  have hx := B.exec
  have hb := B.bytes
  have hr := B.returns
  have hown : s.vm.findClass "RingGuardLaw" = some m.cls := findClass_of_methodNamed B.named
  have hlocks := B.notSynchronized
  subst hsz
  have hD := hD0.self (sz := s.heap.size)
  have hA0 := zA0 hD0 hB
  generalize hAe : va_A (CW cI cZ cA o b P S ++ [(qo, .inl (cJ, 1, .inr (.inl f)))]) s.heap.size = A at hD hA0 ⊢
  have hAD := hA0
  have hA : ∀ q : Nat, s.heap.size ≤ q → A q := fun q h => by rw [← hAe]; exact Or.inr h
  have hS : va_S A s.heap s.heap [] := va_S.rf
  have hl := lv_entry ([.ref (o 0), .int x0, .int x1, .ref qo]) (n := 5) (Nat.le_of_ble_eq_true rfl)
  rw [lg_entry_eq]
  generalize (lg_sl ([.ref (o 0), .int x0, .int x1, .ref qo]) ++ List.replicate (5 - (lg_sl ([.ref (o 0), .int x0, .int x1, .ref qo])).length) Slot.unset).toArray = ls at hl ⊢
  have hl : lv_has ls 5 [(0, .ref (o 0)), (1, .int x0), (2, .int x1), (3, .ref qo)] := hl
  refine lv_aload_n hx hb dLA_joined_0 rfl (lv_at hl 3 rfl) ?_
  refine lv_iconst (v := 0) hx hb dLA_joined_1 (by decide) ?_
  refine lv_aload_n hx hb dLA_joined_2 rfl (lv_at hl 0 rfl) ?_
  refine lv_iload_n hx hb dLA_joined_3 rfl (lv_at hl 1 rfl) ?_
  refine lv_iload_n hx hb dLA_joined_4 rfl (lv_at hl 2 rfl) ?_
  have hPc := zPL hP
  have hDc := zDL hD
  rcases hc : fRG_joined P S x0 x1 with k | y
  · have x9 := fRG_joined_cs hc
    subst x9
    refine tq_catch (hp := 20) (tq_runV (As := [.int x0, .int x1]) (rest := [.int 0, .ref qo]) ⟨hx, hb, hml, hown, zno⟩ (tRG_joined_T1 l dC dI cI cZ cJ cA a0 s0 o b hfl P S s.heap.size x0 x1 gP gS hc) (zcw 2 (hB.word (zm4 k4_107) rfl) (hB.word (zm1 k1_1) rfl) (hB.word (zm4 k4_104) rfl) (hB.word (zm4 k4_105) rfl) (hB.word (zm4 k4_106) rfl) rfl rfl (by decide +kernel) ⟨Nat.le_of_ble_eq_true rfl, Nat.le_of_ble_eq_true rfl⟩) ⟨zP_blind, va_recv hK hPc (ci := 0) (q0 := 0) rfl rfl, zP_pre hPc hK hDc hAD (zB_on hB hA0 hS)⟩ rfl rfl hl.1 rfl (lv_room (Nat.le_of_ble_eq_true rfl)) dLA_joined_5 ⟨Nat.le_of_ble_eq_true rfl, Nat.le_of_ble_eq_true rfl⟩) hown htab (zsel1 (by decide) (by decide) (hB.word (zm2 k2_142) rfl) (zfit (args := #[]) (hB.word (zm2 k2_153) rfl))) hS (fun q h => hA q (Nat.le_trans hS.1 h)) (fun xq H1 locs hz1 hk1 hS => ?_)
    have hP := zKeep hP hk1
    refine lv_astore (lv' := [(4, .ref xq), (0, .ref (o 0)), (1, .int x0), (2, .int x1), (3, .ref qo)]) hx hb dLA_joined_20 hl (by decide) rfl (fun ls hl => ?_)
    refine lv_iconst (v := 1) hx hb dLA_joined_22 (by decide) ?_
    exact W.iret (v := 1) hx hb hr (fun t ht hW => ⟨⟨1, (P, S, f), rfl, ⟨by unfold zH_joined; rw [hc]; exact ⟨by decide, rfl⟩, gP, gS⟩, by rw [ht]; exact hP, hD⟩, hS.F ht⟩) hS.2.2 dLA_joined_23
  · skip
    refine zcIL (va_runV (As := [.int x0, .int x1]) (rest := [.int 0, .ref qo]) ⟨hx, hb, hml, hown, zno⟩ (tRG_joined l dC dI cI cZ cJ cA a0 s0 o b P S s.heap.size x0 x1 gP gS y hc) (zcw 2 (hB.word (zm4 k4_107) rfl) (hB.word (zm1 k1_1) rfl) (hB.word (zm4 k4_104) rfl) (hB.word (zm4 k4_105) rfl) (hB.word (zm4 k4_106) rfl) rfl rfl (by decide +kernel) ⟨Nat.le_of_ble_eq_true rfl, Nat.le_of_ble_eq_true rfl⟩) ⟨zP_blind, va_recv hK hPc (ci := 0) (q0 := 0) rfl rfl, zP_pre hPc hK hDc hAD (zB_on hB hA0 hS)⟩ rfl rfl hl.1 rfl (lv_room (Nat.le_of_ble_eq_true rfl)) dLA_joined_5 ⟨Nat.le_of_ble_eq_true rfl, Nat.le_of_ble_eq_true rfl⟩) hP hD hS hA (fun k9 x9 H1 locs hq hP hD hS => ?_)
    generalize x9 = S1 at hq hP hD
    have gS1 := hq.2.1
    have ey := hq.1
    subst ey
    have hP : va_P (dC, dI) zCl (CW cI cZ cA o b P S1 ++ [(qo, .inl (cJ, 1, .inr (.inl f)))]) H1 := hP
    have hD : va_D A (CW cI cZ cA o b P S1 ++ [(qo, .inl (cJ, 1, .inr (.inl f)))]) := hD
    refine lv_if_eq (tgt := 15) hx hb dLA_joined_8 (by decide) (fun cz => ?_) (fun cz => ?_)
    · skip
      refine lv_lconst (v := 0) hx hb dLA_joined_15 (by decide) ?_
      refine va_last hx hb hK hP hD hS 84 2 (zAtL CW_len) rfl (i := 0) (by unfold vp_in; decide) dLA_joined_16 (fun H locs hP hD hS => ?_)
      rw [zSetL CW_len] at hP hD
      refine lv_goto (tgt := 24) hx hb dLA_joined_17 (by decide) ?_
      refine lv_iconst (v := 0) hx hb dLA_joined_24 (by decide) ?_
      refine W.widen (k := 1) (n := 6) (Nat.le_of_ble_eq_true rfl) (Nat.le_of_ble_eq_true rfl) ?_
      exact W.iret (v := 0) hx hb hr (fun t ht hW => ⟨⟨0, (P, S1, (vp_updL f (0 : Int32).toNatClampNeg 0)), rfl, ⟨by unfold zH_joined; rw [hc]; exact ⟨rfl, by show (P, S1, _) = (P, S1, vp_updL f _ (if k9 = 0 then (0 : Int64) else 1)); rw [if_pos cz]⟩, gP, gS1⟩, by rw [ht]; exact hP, hD⟩, hS.F ht⟩) hS.2.2 dLA_joined_25
    · skip
      refine lv_lconst (v := 1) hx hb dLA_joined_11 (by decide) ?_
      refine lv_goto (tgt := 16) hx hb dLA_joined_12 (by decide) ?_
      refine va_last hx hb hK hP hD hS 84 2 (zAtL CW_len) rfl (i := 0) (by unfold vp_in; decide) dLA_joined_16 (fun H locs hP hD hS => ?_)
      rw [zSetL CW_len] at hP hD
      refine lv_goto (tgt := 24) hx hb dLA_joined_17 (by decide) ?_
      refine lv_iconst (v := 0) hx hb dLA_joined_24 (by decide) ?_
      refine W.widen (k := 1) (n := 6) (Nat.le_of_ble_eq_true rfl) (Nat.le_of_ble_eq_true rfl) ?_
      exact W.iret (v := 0) hx hb hr (fun t ht hW => ⟨⟨0, (P, S1, (vp_updL f (0 : Int32).toNatClampNeg 1)), rfl, ⟨by unfold zH_joined; rw [hc]; exact ⟨rfl, by show (P, S1, _) = (P, S1, vp_updL f _ (if k9 = 0 then (0 : Int64) else 1)); rw [if_neg cz]⟩, gP, gS1⟩, by rw [ht]; exact hP, hD⟩, hS.F ht⟩) hS.2.2 dLA_joined_25
