theorem k1_23 : tables_1_1[23]? = some (Jvm.Cond.instanceMethod ({ cls := "java/lang/Object", name := "<init>", desc := "()V" } : Jvm.MethodName)) := by decide +kernel
theorem k1_24 : tables_1_1[24]? = some (Jvm.Cond.code ({ cls := "java/lang/Object", name := "<init>", desc := "()V" } : Jvm.MethodName) object_method_1_code (1 : Nat) (Option.none : Option Jvm.ClassFile.FieldType)) := rfl
theorem k1_30 : tables_1_1[30]? = some (Jvm.Cond.methodLink "RingGuard$Plan" (3 : Nat) ({ cls := "java/lang/Object", name := "<init>", desc := "()V" } : Jvm.MethodName)) := by decide +kernel
theorem k1_31 : tables_1_1[31]? = some (Jvm.Cond.methodLink "RingGuard$Plan" (40 : Nat) ({ cls := "java/util/Arrays", name := "fill", desc := "([II)V" } : Jvm.MethodName)) := by decide +kernel
theorem k1_89 : tables_1_1[89]? = some (Jvm.Cond.methodLink "RingGuard$Wires" (3 : Nat) ({ cls := "java/lang/Object", name := "<init>", desc := "()V" } : Jvm.MethodName)) := by decide +kernel
theorem k1_129 : tables_1_1[129]? = some (Jvm.Cond.methodLink "RingGuard$Protocol" (3 : Nat) ({ cls := "java/lang/Object", name := "<init>", desc := "()V" } : Jvm.MethodName)) := by decide +kernel
theorem k1_184 : tables_1_1[184]? = some (Jvm.Cond.methodLink "RingGuard$Frames" (3 : Nat) ({ cls := "java/lang/Object", name := "<init>", desc := "()V" } : Jvm.MethodName)) := by decide +kernel
theorem k1_221 : tables_1_1[221]? = some (Jvm.Cond.methodLink "RingGuard$Groups" (3 : Nat) ({ cls := "java/lang/Object", name := "<init>", desc := "()V" } : Jvm.MethodName)) := by decide +kernel
abbrev yGR_init : MethodName := ⟨"RingGuard$Groups", "<init>", "()V"⟩
abbrev bGR_init : ByteArray := prog_4_method_1_code
abbrev yPL_init : MethodName := ⟨"RingGuard$Plan", "<init>", "()V"⟩
abbrev bPL_init : ByteArray := prog_5_method_1_code
abbrev yWI_init : MethodName := ⟨"RingGuard$Wires", "<init>", "()V"⟩
abbrev bWI_init : ByteArray := prog_8_method_1_code
abbrev yPR_init : MethodName := ⟨"RingGuard$Protocol", "<init>", "(LRingGuard$Plan;LRingGuard$Wires;LRingGuard$Tables;)V"⟩
abbrev bPR_init : ByteArray := prog_6_method_1_code
abbrev yFR_init : MethodName := ⟨"RingGuard$Frames", "<init>", "(LRingGuard$Plan;LRingGuard$Protocol;LRingGuard$Tables;)V"⟩
abbrev bFR_init : ByteArray := prog_3_method_1_code
theorem dFR_init_0 : decode bFR_init 0 = .ok (.aload_n 0, 1) := by decide +kernel
theorem dFR_init_1 : decode bFR_init 1 = .ok (.invokespecial 3, 3) := by decide +kernel
theorem dFR_init_4 : decode bFR_init 4 = .ok (.aload_n 0, 1) := by decide +kernel
theorem dFR_init_5 : decode bFR_init 5 = .ok (.bipush 64, 2) := by decide +kernel
theorem dFR_init_7 : decode bFR_init 7 = .ok (.newarray .int, 2) := by decide +kernel
theorem dFR_init_9 : decode bFR_init 9 = .ok (.putfield 9, 3) := by decide +kernel
theorem dFR_init_12 : decode bFR_init 12 = .ok (.aload_n 0, 1) := by decide +kernel
theorem dFR_init_13 : decode bFR_init 13 = .ok (.sipush 400, 3) := by decide +kernel
theorem dFR_init_16 : decode bFR_init 16 = .ok (.newarray .int, 2) := by decide +kernel
theorem dFR_init_18 : decode bFR_init 18 = .ok (.putfield 15, 3) := by decide +kernel
theorem dFR_init_21 : decode bFR_init 21 = .ok (.aload_n 0, 1) := by decide +kernel
theorem dFR_init_22 : decode bFR_init 22 = .ok (.sipush 400, 3) := by decide +kernel
theorem dFR_init_25 : decode bFR_init 25 = .ok (.newarray .int, 2) := by decide +kernel
theorem dFR_init_27 : decode bFR_init 27 = .ok (.putfield 18, 3) := by decide +kernel
theorem dFR_init_30 : decode bFR_init 30 = .ok (.aload_n 0, 1) := by decide +kernel
theorem dFR_init_31 : decode bFR_init 31 = .ok (.bipush 120, 2) := by decide +kernel
theorem dFR_init_33 : decode bFR_init 33 = .ok (.newarray .int, 2) := by decide +kernel
theorem dFR_init_35 : decode bFR_init 35 = .ok (.putfield 21, 3) := by decide +kernel
theorem dFR_init_38 : decode bFR_init 38 = .ok (.aload_n 0, 1) := by decide +kernel
theorem dFR_init_39 : decode bFR_init 39 = .ok (.aload_n 1, 1) := by decide +kernel
theorem dFR_init_40 : decode bFR_init 40 = .ok (.putfield 24, 3) := by decide +kernel
theorem dFR_init_43 : decode bFR_init 43 = .ok (.aload_n 0, 1) := by decide +kernel
theorem dFR_init_44 : decode bFR_init 44 = .ok (.aload_n 2, 1) := by decide +kernel
theorem dFR_init_45 : decode bFR_init 45 = .ok (.putfield 28, 3) := by decide +kernel
theorem dFR_init_48 : decode bFR_init 48 = .ok (.aload_n 0, 1) := by decide +kernel
theorem dFR_init_49 : decode bFR_init 49 = .ok (.aload_n 3, 1) := by decide +kernel
theorem dFR_init_50 : decode bFR_init 50 = .ok (.putfield 32, 3) := by decide +kernel
theorem dFR_init_53 : decode bFR_init 53 = .ok (.aload_n 0, 1) := by decide +kernel
theorem dFR_init_54 : decode bFR_init 54 = .ok (.getfield 9, 3) := by decide +kernel
theorem dFR_init_57 : decode bFR_init 57 = .ok (.iconst (-1), 1) := by decide +kernel
theorem dFR_init_58 : decode bFR_init 58 = .ok (.invokestatic 36, 3) := by decide +kernel
theorem dFR_init_61 : decode bFR_init 61 = .ok (.return_, 1) := by decide +kernel
theorem dGR_init_0 : decode bGR_init 0 = .ok (.aload_n 0, 1) := by decide +kernel
theorem dGR_init_1 : decode bGR_init 1 = .ok (.invokespecial 3, 3) := by decide +kernel
theorem dGR_init_4 : decode bGR_init 4 = .ok (.aload_n 0, 1) := by decide +kernel
theorem dGR_init_5 : decode bGR_init 5 = .ok (.bipush 48, 2) := by decide +kernel
theorem dGR_init_7 : decode bGR_init 7 = .ok (.newarray .int, 2) := by decide +kernel
theorem dGR_init_9 : decode bGR_init 9 = .ok (.putfield 9, 3) := by decide +kernel
theorem dGR_init_12 : decode bGR_init 12 = .ok (.return_, 1) := by decide +kernel
theorem dPL_init_0 : decode bPL_init 0 = .ok (.aload_n 0, 1) := by decide +kernel
theorem dPL_init_1 : decode bPL_init 1 = .ok (.invokespecial 3, 3) := by decide +kernel
theorem dPL_init_4 : decode bPL_init 4 = .ok (.aload_n 0, 1) := by decide +kernel
theorem dPL_init_5 : decode bPL_init 5 = .ok (.bipush 60, 2) := by decide +kernel
theorem dPL_init_7 : decode bPL_init 7 = .ok (.newarray .int, 2) := by decide +kernel
theorem dPL_init_9 : decode bPL_init 9 = .ok (.putfield 9, 3) := by decide +kernel
theorem dPL_init_12 : decode bPL_init 12 = .ok (.aload_n 0, 1) := by decide +kernel
theorem dPL_init_13 : decode bPL_init 13 = .ok (.bipush 60, 2) := by decide +kernel
theorem dPL_init_15 : decode bPL_init 15 = .ok (.newarray .int, 2) := by decide +kernel
theorem dPL_init_17 : decode bPL_init 17 = .ok (.putfield 15, 3) := by decide +kernel
theorem dPL_init_20 : decode bPL_init 20 = .ok (.aload_n 0, 1) := by decide +kernel
theorem dPL_init_21 : decode bPL_init 21 = .ok (.bipush 60, 2) := by decide +kernel
theorem dPL_init_23 : decode bPL_init 23 = .ok (.newarray .int, 2) := by decide +kernel
theorem dPL_init_25 : decode bPL_init 25 = .ok (.putfield 18, 3) := by decide +kernel
theorem dPL_init_28 : decode bPL_init 28 = .ok (.aload_n 0, 1) := by decide +kernel
theorem dPL_init_29 : decode bPL_init 29 = .ok (.bipush 6, 2) := by decide +kernel
theorem dPL_init_31 : decode bPL_init 31 = .ok (.newarray .int, 2) := by decide +kernel
theorem dPL_init_33 : decode bPL_init 33 = .ok (.putfield 21, 3) := by decide +kernel
theorem dPL_init_36 : decode bPL_init 36 = .ok (.aload_n 0, 1) := by decide +kernel
theorem dPL_init_37 : decode bPL_init 37 = .ok (.bipush 6, 2) := by decide +kernel
theorem dPL_init_39 : decode bPL_init 39 = .ok (.newarray .int, 2) := by decide +kernel
theorem dPL_init_41 : decode bPL_init 41 = .ok (.putfield 24, 3) := by decide +kernel
theorem dPL_init_44 : decode bPL_init 44 = .ok (.aload_n 0, 1) := by decide +kernel
theorem dPL_init_45 : decode bPL_init 45 = .ok (.bipush 120, 2) := by decide +kernel
theorem dPL_init_47 : decode bPL_init 47 = .ok (.newarray .int, 2) := by decide +kernel
theorem dPL_init_49 : decode bPL_init 49 = .ok (.putfield 27, 3) := by decide +kernel
theorem dPL_init_52 : decode bPL_init 52 = .ok (.aload_n 0, 1) := by decide +kernel
theorem dPL_init_53 : decode bPL_init 53 = .ok (.bipush 6, 2) := by decide +kernel
theorem dPL_init_55 : decode bPL_init 55 = .ok (.newarray .int, 2) := by decide +kernel
theorem dPL_init_57 : decode bPL_init 57 = .ok (.putfield 30, 3) := by decide +kernel
theorem dPL_init_60 : decode bPL_init 60 = .ok (.aload_n 0, 1) := by decide +kernel
theorem dPL_init_61 : decode bPL_init 61 = .ok (.sipush 576, 3) := by decide +kernel
theorem dPL_init_64 : decode bPL_init 64 = .ok (.newarray .int, 2) := by decide +kernel
theorem dPL_init_66 : decode bPL_init 66 = .ok (.putfield 33, 3) := by decide +kernel
theorem dPL_init_69 : decode bPL_init 69 = .ok (.aload_n 0, 1) := by decide +kernel
theorem dPL_init_70 : decode bPL_init 70 = .ok (.bipush 6, 2) := by decide +kernel
theorem dPL_init_72 : decode bPL_init 72 = .ok (.newarray .boolean, 2) := by decide +kernel
theorem dPL_init_74 : decode bPL_init 74 = .ok (.putfield 36, 3) := by decide +kernel
theorem dPL_init_77 : decode bPL_init 77 = .ok (.aload_n 0, 1) := by decide +kernel
theorem dPL_init_78 : decode bPL_init 78 = .ok (.getfield 21, 3) := by decide +kernel
theorem dPL_init_81 : decode bPL_init 81 = .ok (.iconst (-1), 1) := by decide +kernel
theorem dPL_init_82 : decode bPL_init 82 = .ok (.invokestatic 40, 3) := by decide +kernel
theorem dPL_init_85 : decode bPL_init 85 = .ok (.aload_n 0, 1) := by decide +kernel
theorem dPL_init_86 : decode bPL_init 86 = .ok (.getfield 24, 3) := by decide +kernel
theorem dPL_init_89 : decode bPL_init 89 = .ok (.iconst (-1), 1) := by decide +kernel
theorem dPL_init_90 : decode bPL_init 90 = .ok (.invokestatic 40, 3) := by decide +kernel
theorem dPL_init_93 : decode bPL_init 93 = .ok (.aload_n 0, 1) := by decide +kernel
theorem dPL_init_94 : decode bPL_init 94 = .ok (.getfield 30, 3) := by decide +kernel
theorem dPL_init_97 : decode bPL_init 97 = .ok (.iconst (-1), 1) := by decide +kernel
theorem dPL_init_98 : decode bPL_init 98 = .ok (.invokestatic 40, 3) := by decide +kernel
theorem dPL_init_101 : decode bPL_init 101 = .ok (.aload_n 0, 1) := by decide +kernel
theorem dPL_init_102 : decode bPL_init 102 = .ok (.getfield 33, 3) := by decide +kernel
theorem dPL_init_105 : decode bPL_init 105 = .ok (.iconst (-1), 1) := by decide +kernel
theorem dPL_init_106 : decode bPL_init 106 = .ok (.invokestatic 40, 3) := by decide +kernel
theorem dPL_init_109 : decode bPL_init 109 = .ok (.return_, 1) := by decide +kernel
theorem dPR_init_0 : decode bPR_init 0 = .ok (.aload_n 0, 1) := by decide +kernel
theorem dPR_init_1 : decode bPR_init 1 = .ok (.invokespecial 3, 3) := by decide +kernel
theorem dPR_init_4 : decode bPR_init 4 = .ok (.aload_n 0, 1) := by decide +kernel
theorem dPR_init_5 : decode bPR_init 5 = .ok (.bipush 120, 2) := by decide +kernel
theorem dPR_init_7 : decode bPR_init 7 = .ok (.newarray .int, 2) := by decide +kernel
theorem dPR_init_9 : decode bPR_init 9 = .ok (.putfield 9, 3) := by decide +kernel
theorem dPR_init_12 : decode bPR_init 12 = .ok (.aload_n 0, 1) := by decide +kernel
theorem dPR_init_13 : decode bPR_init 13 = .ok (.sipush 288, 3) := by decide +kernel
theorem dPR_init_16 : decode bPR_init 16 = .ok (.newarray .int, 2) := by decide +kernel
theorem dPR_init_18 : decode bPR_init 18 = .ok (.putfield 15, 3) := by decide +kernel
theorem dPR_init_21 : decode bPR_init 21 = .ok (.aload_n 0, 1) := by decide +kernel
theorem dPR_init_22 : decode bPR_init 22 = .ok (.sipush 288, 3) := by decide +kernel
theorem dPR_init_25 : decode bPR_init 25 = .ok (.newarray .int, 2) := by decide +kernel
theorem dPR_init_27 : decode bPR_init 27 = .ok (.putfield 18, 3) := by decide +kernel
theorem dPR_init_30 : decode bPR_init 30 = .ok (.aload_n 0, 1) := by decide +kernel
theorem dPR_init_31 : decode bPR_init 31 = .ok (.bipush 6, 2) := by decide +kernel
theorem dPR_init_33 : decode bPR_init 33 = .ok (.newarray .int, 2) := by decide +kernel
theorem dPR_init_35 : decode bPR_init 35 = .ok (.putfield 21, 3) := by decide +kernel
theorem dPR_init_38 : decode bPR_init 38 = .ok (.aload_n 0, 1) := by decide +kernel
theorem dPR_init_39 : decode bPR_init 39 = .ok (.bipush 6, 2) := by decide +kernel
theorem dPR_init_41 : decode bPR_init 41 = .ok (.newarray .int, 2) := by decide +kernel
theorem dPR_init_43 : decode bPR_init 43 = .ok (.putfield 24, 3) := by decide +kernel
theorem dPR_init_46 : decode bPR_init 46 = .ok (.aload_n 0, 1) := by decide +kernel
theorem dPR_init_47 : decode bPR_init 47 = .ok (.bipush 60, 2) := by decide +kernel
theorem dPR_init_49 : decode bPR_init 49 = .ok (.newarray .int, 2) := by decide +kernel
theorem dPR_init_51 : decode bPR_init 51 = .ok (.putfield 27, 3) := by decide +kernel
theorem dPR_init_54 : decode bPR_init 54 = .ok (.aload_n 0, 1) := by decide +kernel
theorem dPR_init_55 : decode bPR_init 55 = .ok (.bipush 48, 2) := by decide +kernel
theorem dPR_init_57 : decode bPR_init 57 = .ok (.newarray .int, 2) := by decide +kernel
theorem dPR_init_59 : decode bPR_init 59 = .ok (.putfield 30, 3) := by decide +kernel
theorem dPR_init_62 : decode bPR_init 62 = .ok (.aload_n 0, 1) := by decide +kernel
theorem dPR_init_63 : decode bPR_init 63 = .ok (.sipush 5472, 3) := by decide +kernel
theorem dPR_init_66 : decode bPR_init 66 = .ok (.newarray .int, 2) := by decide +kernel
theorem dPR_init_68 : decode bPR_init 68 = .ok (.putfield 35, 3) := by decide +kernel
theorem dPR_init_71 : decode bPR_init 71 = .ok (.aload_n 0, 1) := by decide +kernel
theorem dPR_init_72 : decode bPR_init 72 = .ok (.bipush 48, 2) := by decide +kernel
theorem dPR_init_74 : decode bPR_init 74 = .ok (.newarray .int, 2) := by decide +kernel
theorem dPR_init_76 : decode bPR_init 76 = .ok (.putfield 38, 3) := by decide +kernel
theorem dPR_init_79 : decode bPR_init 79 = .ok (.aload_n 0, 1) := by decide +kernel
theorem dPR_init_80 : decode bPR_init 80 = .ok (.iconst 1, 1) := by decide +kernel
theorem dPR_init_81 : decode bPR_init 81 = .ok (.putfield 41, 3) := by decide +kernel
theorem dPR_init_84 : decode bPR_init 84 = .ok (.aload_n 0, 1) := by decide +kernel
theorem dPR_init_85 : decode bPR_init 85 = .ok (.aload_n 1, 1) := by decide +kernel
theorem dPR_init_86 : decode bPR_init 86 = .ok (.putfield 45, 3) := by decide +kernel
theorem dPR_init_89 : decode bPR_init 89 = .ok (.aload_n 0, 1) := by decide +kernel
theorem dPR_init_90 : decode bPR_init 90 = .ok (.aload_n 2, 1) := by decide +kernel
theorem dPR_init_91 : decode bPR_init 91 = .ok (.putfield 49, 3) := by decide +kernel
theorem dPR_init_94 : decode bPR_init 94 = .ok (.aload_n 0, 1) := by decide +kernel
theorem dPR_init_95 : decode bPR_init 95 = .ok (.aload_n 3, 1) := by decide +kernel
theorem dPR_init_96 : decode bPR_init 96 = .ok (.putfield 53, 3) := by decide +kernel
theorem dPR_init_99 : decode bPR_init 99 = .ok (.return_, 1) := by decide +kernel
theorem dWI_init_0 : decode bWI_init 0 = .ok (.aload_n 0, 1) := by decide +kernel
theorem dWI_init_1 : decode bWI_init 1 = .ok (.invokespecial 3, 3) := by decide +kernel
theorem dWI_init_4 : decode bWI_init 4 = .ok (.aload_n 0, 1) := by decide +kernel
theorem dWI_init_5 : decode bWI_init 5 = .ok (.sipush 7680, 3) := by decide +kernel
theorem dWI_init_8 : decode bWI_init 8 = .ok (.newarray .int, 2) := by decide +kernel
theorem dWI_init_10 : decode bWI_init 10 = .ok (.putfield 11, 3) := by decide +kernel
theorem dWI_init_13 : decode bWI_init 13 = .ok (.aload_n 0, 1) := by decide +kernel
theorem dWI_init_14 : decode bWI_init 14 = .ok (.bipush 120, 2) := by decide +kernel
theorem dWI_init_16 : decode bWI_init 16 = .ok (.newarray .int, 2) := by decide +kernel
theorem dWI_init_18 : decode bWI_init 18 = .ok (.putfield 15, 3) := by decide +kernel
theorem dWI_init_21 : decode bWI_init 21 = .ok (.aload_n 0, 1) := by decide +kernel
theorem dWI_init_22 : decode bWI_init 22 = .ok (.sipush 7680, 3) := by decide +kernel
theorem dWI_init_25 : decode bWI_init 25 = .ok (.newarray .int, 2) := by decide +kernel
theorem dWI_init_27 : decode bWI_init 27 = .ok (.putfield 18, 3) := by decide +kernel
theorem dWI_init_30 : decode bWI_init 30 = .ok (.aload_n 0, 1) := by decide +kernel
theorem dWI_init_31 : decode bWI_init 31 = .ok (.bipush 120, 2) := by decide +kernel
theorem dWI_init_33 : decode bWI_init 33 = .ok (.newarray .int, 2) := by decide +kernel
theorem dWI_init_35 : decode bWI_init 35 = .ok (.putfield 21, 3) := by decide +kernel
theorem dWI_init_38 : decode bWI_init 38 = .ok (.aload_n 0, 1) := by decide +kernel
theorem dWI_init_39 : decode bWI_init 39 = .ok (.bipush 60, 2) := by decide +kernel
theorem dWI_init_41 : decode bWI_init 41 = .ok (.newarray .int, 2) := by decide +kernel
theorem dWI_init_43 : decode bWI_init 43 = .ok (.putfield 24, 3) := by decide +kernel
theorem dWI_init_46 : decode bWI_init 46 = .ok (.return_, 1) := by decide +kernel
set_option maxHeartbeats 4000000 in
set_option maxRecDepth 100000 in
theorem zc_Groups (l : Launch) (dC : Nat → ClassId) (dI : Nat → Nat → Nat) (cI cZ cJ cA : ClassId) (a0 : Array Value) (s0 : State) (h sz : Nat) : Met l yGR_init [Cond.code yGR_init bGR_init 1 none] ({ frames := 1, cells := 1, slots := 48, locals := 12 } : Room) (zP zCl dC dI (zTZ cI cZ cJ cA) a0 s0 [.ref h] sz [(h, .inr (6, [.null, .int 0, .int 0]))]) (zQw zCl dC dI (fun wo => ∃ (c : Nat → Nat), wo = [(h, .inr (6, [.ref (c 0), .int 0, .int 0])), ((c 0), .inl (cI, 48, .inl (fun _ => 0)))]) (va_A [(h, .inr (6, [.null, .int 0, .int 0]))] sz)) 1 48 (va_A [(h, .inr (6, [.null, .int 0, .int 0]))] sz) := by
  refine Met.ofW (cc := bGR_init) (maxL := 1) (ret := none) (by decide) rfl ?_
  intro p e s m args below meth c s₁ B hml hv
  obtain ⟨rfl, hsz, hP, hK, hD0, hB⟩ := hv
  have hx := B.exec
  have hb := B.bytes
  have hr := B.returns
  have hown : s.vm.findClass "RingGuard$Groups" = some m.cls := findClass_of_methodNamed B.named
  have hlocks := B.notSynchronized
  have hin : meth.name = "<init>" := (name_of_methodNamed B.named B.method).1
  subst hsz
  have hD := hD0.self (sz := s.heap.size)
  have hA0 := zA0 hD0 hB
  generalize hAe : va_A [(h, .inr (6, [.null, .int 0, .int 0]))] s.heap.size = A at hD hA0 ⊢
  have hAD := hA0
  have hA : ∀ q : Nat, s.heap.size ≤ q → A q := fun q h => by rw [← hAe]; exact Or.inr h
  have hS : va_S A s.heap s.heap [] := va_S.rf
  have hP : va_P (dC, dI) zCl [(h, .inr (6, [.null, .int 0, .int 0]))] s.heap := hP
  have hl := lv_entry ([.ref h]) (n := 1) (Nat.le_of_ble_eq_true rfl)
  rw [lg_entry_eq]
  generalize (lg_sl ([.ref h]) ++ List.replicate (1 - (lg_sl ([.ref h])).length) Slot.unset).toArray = ls at hl ⊢
  have hl : lv_has ls 1 [(0, .ref h)] := hl
  refine lv_aload_n hx hb dGR_init_0 rfl (lv_at hl 0 rfl) ?_
  refine W.objInit hx hb hown (hB.word (zm1 k1_221) rfl) (hB.word (zm1 k1_23) rfl) (hB.word (zm1 k1_24) rfl) rfl (by rw [hml]; exact hl.1) rfl dGR_init_1 (Nat.le_of_ble_eq_true rfl) (Nat.le_of_ble_eq_true rfl) ?_
  refine W.eq (g2 := F0 m 4 ls []) rfl ?_
  refine lv_aload_n hx hb dGR_init_4 rfl (lv_at hl 0 rfl) ?_
  refine lv_bipush (v := 48) hx hb dGR_init_5 (by decide) ?_
  refine znew (a0 := (48, .inl (fun _ => 0))) hx hb (zac_int hB) rfl (fun _ h9 => by cases h9) hK 0 rfl hP hD hS hA (fun _ => rfl) (by decide) (by decide) (by decide) (Nat.le_of_ble_eq_true rfl) (Nat.le_of_ble_eq_true rfl) dGR_init_7 (fun q7 H hP hD hS => ?_)
  have hP : va_P (dC, dI) zCl [(h, .inr (6, [.null, .int 0, .int 0])), (q7, .inl (cI, 48, .inl (fun _ => 0)))] H := hP
  have hD : va_D A [(h, .inr (6, [.null, .int 0, .int 0])), (q7, .inl (cI, 48, .inl (fun _ => 0)))] := hD
  have hu6 : ∀ w ∈ u_ws "RingGuard$Groups" T_GR 3, w.before ([.ref h] : List Value).toArray s = true := hB.words zU_GR
  refine va_putF (D := (dC, dI)) (ci := 6) (v := .ref q7) (ty := .array .int) (C := "RingGuard$Groups") (T := T_GR) (N := 3) hx hb hu6 zid ty_GR ok_GR nm_GR hown hK hP hD hS 0 rfl rfl 0 (by decide) (hB.word (zm1 k1_222) rfl) (fun _ h9 => h9) rfl hin rfl (by decide +kernel) rfl rfl (Nat.le_of_ble_eq_true rfl) dGR_init_9 (fun H locs hP hD hS => ?_)
  have hP : va_P (dC, dI) zCl [(h, .inr (6, [.ref q7, .int 0, .int 0])), (q7, .inl (cI, 48, .inl (fun _ => 0)))] H := hP
  have hD : va_D A [(h, .inr (6, [.ref q7, .int 0, .int 0])), (q7, .inl (cI, 48, .inl (fun _ => 0)))] := hD
  refine W.widen (k := 1) (n := 48) (Nat.le_of_ble_eq_true rfl) (Nat.le_of_ble_eq_true rfl) ?_
  have hP9 : va_P (dC, dI) zCl [(h, .inr (6, [.ref q7, .int 0, .int 0])), (q7, .inl (cI, 48, .inl (fun _ => 0)))] H := hP.sub [0, 1] rfl
  have hD9 : va_D A [(h, .inr (6, [.ref q7, .int 0, .int 0])), (q7, .inl (cI, 48, .inl (fun _ => 0)))] := hD.sub [0, 1] (by decide) rfl
  exact W.vret hx hb hr (fun t ht hW => ⟨⟨[(h, .inr (6, [.ref q7, .int 0, .int 0])), (q7, .inl (cI, 48, .inl (fun _ => 0)))], rfl, ⟨(fun k => match k with | 0 => q7 | _ => 0), rfl⟩, by rw [ht]; exact hP9, hD9⟩, hS.F ht⟩) hS.2.2 dGR_init_12
set_option maxHeartbeats 4000000 in
set_option maxRecDepth 100000 in
theorem zc_Plan (l : Launch) (dC : Nat → ClassId) (dI : Nat → Nat → Nat) (cI cZ cJ cA : ClassId) (a0 : Array Value) (s0 : State) (h sz : Nat) : Met l yPL_init [Cond.code yPL_init bPL_init 1 none] ({ frames := 1, cells := 9, slots := 900, locals := 23 } : Room) (zP zCl dC dI (zTZ cI cZ cJ cA) a0 s0 [.ref h] sz [(h, .inr (1, [.int 0, .int 0, .null, .null, .null, .null, .null, .null, .null, .null, .null]))]) (zQw zCl dC dI (fun wo => ∃ (c : Nat → Nat) (f0 : Nat → Int32) (f1 : Nat → Int32) (f2 : Nat → Int32) (f3 : Nat → Int32), (∀ j, j < 6 → f0 j = -1) ∧ (∀ j, j < 6 → f1 j = -1) ∧ (∀ j, j < 6 → f2 j = -1) ∧ (∀ j, j < 576 → f3 j = -1) ∧ wo = [(h, .inr (1, [.int 0, .int 0, .ref (c 0), .ref (c 1), .ref (c 2), .ref (c 3), .ref (c 4), .ref (c 5), .ref (c 6), .ref (c 7), .ref (c 8)])), ((c 0), .inl (cI, 60, .inl (fun _ => 0))), ((c 1), .inl (cI, 60, .inl (fun _ => 0))), ((c 2), .inl (cI, 60, .inl (fun _ => 0))), ((c 3), .inl (cI, 6, .inl f0)), ((c 4), .inl (cI, 6, .inl f1)), ((c 5), .inl (cI, 120, .inl (fun _ => 0))), ((c 6), .inl (cI, 6, .inl f2)), ((c 7), .inl (cI, 576, .inl f3)), ((c 8), .inl (cZ, 6, .inl (fun _ => 0)))]) (va_A [(h, .inr (1, [.int 0, .int 0, .null, .null, .null, .null, .null, .null, .null, .null, .null]))] sz)) 9 900 (va_A [(h, .inr (1, [.int 0, .int 0, .null, .null, .null, .null, .null, .null, .null, .null, .null]))] sz) := by
  refine Met.ofW (cc := bPL_init) (maxL := 1) (ret := none) (by decide) rfl ?_
  intro p e s m args below meth c s₁ B hml hv
  obtain ⟨rfl, hsz, hP, hK, hD0, hB⟩ := hv
  have hx := B.exec
  have hb := B.bytes
  have hr := B.returns
  have hown : s.vm.findClass "RingGuard$Plan" = some m.cls := findClass_of_methodNamed B.named
  have hlocks := B.notSynchronized
  have hin : meth.name = "<init>" := (name_of_methodNamed B.named B.method).1
  subst hsz
  have hD := hD0.self (sz := s.heap.size)
  have hA0 := zA0 hD0 hB
  generalize hAe : va_A [(h, .inr (1, [.int 0, .int 0, .null, .null, .null, .null, .null, .null, .null, .null, .null]))] s.heap.size = A at hD hA0 ⊢
  have hAD := hA0
  have hA : ∀ q : Nat, s.heap.size ≤ q → A q := fun q h => by rw [← hAe]; exact Or.inr h
  have hS : va_S A s.heap s.heap [] := va_S.rf
  have hP : va_P (dC, dI) zCl [(h, .inr (1, [.int 0, .int 0, .null, .null, .null, .null, .null, .null, .null, .null, .null]))] s.heap := hP
  have hl := lv_entry ([.ref h]) (n := 1) (Nat.le_of_ble_eq_true rfl)
  rw [lg_entry_eq]
  generalize (lg_sl ([.ref h]) ++ List.replicate (1 - (lg_sl ([.ref h])).length) Slot.unset).toArray = ls at hl ⊢
  have hl : lv_has ls 1 [(0, .ref h)] := hl
  refine lv_aload_n hx hb dPL_init_0 rfl (lv_at hl 0 rfl) ?_
  refine W.objInit hx hb hown (hB.word (zm1 k1_30) rfl) (hB.word (zm1 k1_23) rfl) (hB.word (zm1 k1_24) rfl) rfl (by rw [hml]; exact hl.1) rfl dPL_init_1 (Nat.le_of_ble_eq_true rfl) (Nat.le_of_ble_eq_true rfl) ?_
  refine W.eq (g2 := F0 m 4 ls []) rfl ?_
  refine lv_aload_n hx hb dPL_init_4 rfl (lv_at hl 0 rfl) ?_
  refine lv_bipush (v := 60) hx hb dPL_init_5 (by decide) ?_
  refine znew (a0 := (60, .inl (fun _ => 0))) hx hb (zac_int hB) rfl (fun _ h9 => by cases h9) hK 0 rfl hP hD hS hA (fun _ => rfl) (by decide) (by decide) (by decide) (Nat.le_of_ble_eq_true rfl) (Nat.le_of_ble_eq_true rfl) dPL_init_7 (fun q7 H hP hD hS => ?_)
  have hP : va_P (dC, dI) zCl [(h, .inr (1, [.int 0, .int 0, .null, .null, .null, .null, .null, .null, .null, .null, .null])), (q7, .inl (cI, 60, .inl (fun _ => 0)))] H := hP
  have hD : va_D A [(h, .inr (1, [.int 0, .int 0, .null, .null, .null, .null, .null, .null, .null, .null, .null])), (q7, .inl (cI, 60, .inl (fun _ => 0)))] := hD
  have hu1 : ∀ w ∈ u_ws "RingGuard$Plan" T_PL 11, w.before ([.ref h] : List Value).toArray s = true := hB.words zU_PL
  refine va_putF (D := (dC, dI)) (ci := 1) (v := .ref q7) (ty := .array .int) (C := "RingGuard$Plan") (T := T_PL) (N := 11) hx hb hu1 zid ty_PL ok_PL nm_PL hown hK hP hD hS 0 rfl rfl 2 (by decide) (hB.word (zm1 k1_41) rfl) (fun _ h9 => h9) rfl hin rfl (by decide +kernel) rfl rfl (Nat.le_of_ble_eq_true rfl) dPL_init_9 (fun H locs hP hD hS => ?_)
  have hP : va_P (dC, dI) zCl [(h, .inr (1, [.int 0, .int 0, .ref q7, .null, .null, .null, .null, .null, .null, .null, .null])), (q7, .inl (cI, 60, .inl (fun _ => 0)))] H := hP
  have hD : va_D A [(h, .inr (1, [.int 0, .int 0, .ref q7, .null, .null, .null, .null, .null, .null, .null, .null])), (q7, .inl (cI, 60, .inl (fun _ => 0)))] := hD
  refine lv_aload_n hx hb dPL_init_12 rfl (lv_at hl 0 rfl) ?_
  refine lv_bipush (v := 60) hx hb dPL_init_13 (by decide) ?_
  refine znew (a0 := (60, .inl (fun _ => 0))) hx hb (zac_int hB) rfl (fun _ h9 => by cases h9) hK 0 rfl hP hD hS hA (fun _ => rfl) (by decide) (by decide) (by decide) (Nat.le_of_ble_eq_true rfl) (Nat.le_of_ble_eq_true rfl) dPL_init_15 (fun q15 H hP hD hS => ?_)
  have hP : va_P (dC, dI) zCl [(h, .inr (1, [.int 0, .int 0, .ref q7, .null, .null, .null, .null, .null, .null, .null, .null])), (q7, .inl (cI, 60, .inl (fun _ => 0))), (q15, .inl (cI, 60, .inl (fun _ => 0)))] H := hP
  have hD : va_D A [(h, .inr (1, [.int 0, .int 0, .ref q7, .null, .null, .null, .null, .null, .null, .null, .null])), (q7, .inl (cI, 60, .inl (fun _ => 0))), (q15, .inl (cI, 60, .inl (fun _ => 0)))] := hD
  refine va_putF (D := (dC, dI)) (ci := 1) (v := .ref q15) (ty := .array .int) (C := "RingGuard$Plan") (T := T_PL) (N := 11) hx hb hu1 zid ty_PL ok_PL nm_PL hown hK hP hD hS 0 rfl rfl 3 (by decide) (hB.word (zm1 k1_43) rfl) (fun _ h9 => h9) rfl hin rfl (by decide +kernel) rfl rfl (Nat.le_of_ble_eq_true rfl) dPL_init_17 (fun H locs hP hD hS => ?_)
  have hP : va_P (dC, dI) zCl [(h, .inr (1, [.int 0, .int 0, .ref q7, .ref q15, .null, .null, .null, .null, .null, .null, .null])), (q7, .inl (cI, 60, .inl (fun _ => 0))), (q15, .inl (cI, 60, .inl (fun _ => 0)))] H := hP
  have hD : va_D A [(h, .inr (1, [.int 0, .int 0, .ref q7, .ref q15, .null, .null, .null, .null, .null, .null, .null])), (q7, .inl (cI, 60, .inl (fun _ => 0))), (q15, .inl (cI, 60, .inl (fun _ => 0)))] := hD
  refine lv_aload_n hx hb dPL_init_20 rfl (lv_at hl 0 rfl) ?_
  refine lv_bipush (v := 60) hx hb dPL_init_21 (by decide) ?_
  refine znew (a0 := (60, .inl (fun _ => 0))) hx hb (zac_int hB) rfl (fun _ h9 => by cases h9) hK 0 rfl hP hD hS hA (fun _ => rfl) (by decide) (by decide) (by decide) (Nat.le_of_ble_eq_true rfl) (Nat.le_of_ble_eq_true rfl) dPL_init_23 (fun q23 H hP hD hS => ?_)
  have hP : va_P (dC, dI) zCl [(h, .inr (1, [.int 0, .int 0, .ref q7, .ref q15, .null, .null, .null, .null, .null, .null, .null])), (q7, .inl (cI, 60, .inl (fun _ => 0))), (q15, .inl (cI, 60, .inl (fun _ => 0))), (q23, .inl (cI, 60, .inl (fun _ => 0)))] H := hP
  have hD : va_D A [(h, .inr (1, [.int 0, .int 0, .ref q7, .ref q15, .null, .null, .null, .null, .null, .null, .null])), (q7, .inl (cI, 60, .inl (fun _ => 0))), (q15, .inl (cI, 60, .inl (fun _ => 0))), (q23, .inl (cI, 60, .inl (fun _ => 0)))] := hD
  refine va_putF (D := (dC, dI)) (ci := 1) (v := .ref q23) (ty := .array .int) (C := "RingGuard$Plan") (T := T_PL) (N := 11) hx hb hu1 zid ty_PL ok_PL nm_PL hown hK hP hD hS 0 rfl rfl 4 (by decide) (hB.word (zm1 k1_45) rfl) (fun _ h9 => h9) rfl hin rfl (by decide +kernel) rfl rfl (Nat.le_of_ble_eq_true rfl) dPL_init_25 (fun H locs hP hD hS => ?_)
  have hP : va_P (dC, dI) zCl [(h, .inr (1, [.int 0, .int 0, .ref q7, .ref q15, .ref q23, .null, .null, .null, .null, .null, .null])), (q7, .inl (cI, 60, .inl (fun _ => 0))), (q15, .inl (cI, 60, .inl (fun _ => 0))), (q23, .inl (cI, 60, .inl (fun _ => 0)))] H := hP
  have hD : va_D A [(h, .inr (1, [.int 0, .int 0, .ref q7, .ref q15, .ref q23, .null, .null, .null, .null, .null, .null])), (q7, .inl (cI, 60, .inl (fun _ => 0))), (q15, .inl (cI, 60, .inl (fun _ => 0))), (q23, .inl (cI, 60, .inl (fun _ => 0)))] := hD
  refine lv_aload_n hx hb dPL_init_28 rfl (lv_at hl 0 rfl) ?_
  refine lv_bipush (v := 6) hx hb dPL_init_29 (by decide) ?_
  refine znew (a0 := (6, .inl (fun _ => 0))) hx hb (zac_int hB) rfl (fun _ h9 => by cases h9) hK 0 rfl hP hD hS hA (fun _ => rfl) (by decide) (by decide) (by decide) (Nat.le_of_ble_eq_true rfl) (Nat.le_of_ble_eq_true rfl) dPL_init_31 (fun q31 H hP hD hS => ?_)
  have hP : va_P (dC, dI) zCl [(h, .inr (1, [.int 0, .int 0, .ref q7, .ref q15, .ref q23, .null, .null, .null, .null, .null, .null])), (q7, .inl (cI, 60, .inl (fun _ => 0))), (q15, .inl (cI, 60, .inl (fun _ => 0))), (q23, .inl (cI, 60, .inl (fun _ => 0))), (q31, .inl (cI, 6, .inl (fun _ => 0)))] H := hP
  have hD : va_D A [(h, .inr (1, [.int 0, .int 0, .ref q7, .ref q15, .ref q23, .null, .null, .null, .null, .null, .null])), (q7, .inl (cI, 60, .inl (fun _ => 0))), (q15, .inl (cI, 60, .inl (fun _ => 0))), (q23, .inl (cI, 60, .inl (fun _ => 0))), (q31, .inl (cI, 6, .inl (fun _ => 0)))] := hD
  refine va_putF (D := (dC, dI)) (ci := 1) (v := .ref q31) (ty := .array .int) (C := "RingGuard$Plan") (T := T_PL) (N := 11) hx hb hu1 zid ty_PL ok_PL nm_PL hown hK hP hD hS 0 rfl rfl 5 (by decide) (hB.word (zm1 k1_47) rfl) (fun _ h9 => h9) rfl hin rfl (by decide +kernel) rfl rfl (Nat.le_of_ble_eq_true rfl) dPL_init_33 (fun H locs hP hD hS => ?_)
  have hP : va_P (dC, dI) zCl [(h, .inr (1, [.int 0, .int 0, .ref q7, .ref q15, .ref q23, .ref q31, .null, .null, .null, .null, .null])), (q7, .inl (cI, 60, .inl (fun _ => 0))), (q15, .inl (cI, 60, .inl (fun _ => 0))), (q23, .inl (cI, 60, .inl (fun _ => 0))), (q31, .inl (cI, 6, .inl (fun _ => 0)))] H := hP
  have hD : va_D A [(h, .inr (1, [.int 0, .int 0, .ref q7, .ref q15, .ref q23, .ref q31, .null, .null, .null, .null, .null])), (q7, .inl (cI, 60, .inl (fun _ => 0))), (q15, .inl (cI, 60, .inl (fun _ => 0))), (q23, .inl (cI, 60, .inl (fun _ => 0))), (q31, .inl (cI, 6, .inl (fun _ => 0)))] := hD
  refine lv_aload_n hx hb dPL_init_36 rfl (lv_at hl 0 rfl) ?_
  refine lv_bipush (v := 6) hx hb dPL_init_37 (by decide) ?_
  refine znew (a0 := (6, .inl (fun _ => 0))) hx hb (zac_int hB) rfl (fun _ h9 => by cases h9) hK 0 rfl hP hD hS hA (fun _ => rfl) (by decide) (by decide) (by decide) (Nat.le_of_ble_eq_true rfl) (Nat.le_of_ble_eq_true rfl) dPL_init_39 (fun q39 H hP hD hS => ?_)
  have hP : va_P (dC, dI) zCl [(h, .inr (1, [.int 0, .int 0, .ref q7, .ref q15, .ref q23, .ref q31, .null, .null, .null, .null, .null])), (q7, .inl (cI, 60, .inl (fun _ => 0))), (q15, .inl (cI, 60, .inl (fun _ => 0))), (q23, .inl (cI, 60, .inl (fun _ => 0))), (q31, .inl (cI, 6, .inl (fun _ => 0))), (q39, .inl (cI, 6, .inl (fun _ => 0)))] H := hP
  have hD : va_D A [(h, .inr (1, [.int 0, .int 0, .ref q7, .ref q15, .ref q23, .ref q31, .null, .null, .null, .null, .null])), (q7, .inl (cI, 60, .inl (fun _ => 0))), (q15, .inl (cI, 60, .inl (fun _ => 0))), (q23, .inl (cI, 60, .inl (fun _ => 0))), (q31, .inl (cI, 6, .inl (fun _ => 0))), (q39, .inl (cI, 6, .inl (fun _ => 0)))] := hD
  refine va_putF (D := (dC, dI)) (ci := 1) (v := .ref q39) (ty := .array .int) (C := "RingGuard$Plan") (T := T_PL) (N := 11) hx hb hu1 zid ty_PL ok_PL nm_PL hown hK hP hD hS 0 rfl rfl 6 (by decide) (hB.word (zm1 k1_49) rfl) (fun _ h9 => h9) rfl hin rfl (by decide +kernel) rfl rfl (Nat.le_of_ble_eq_true rfl) dPL_init_41 (fun H locs hP hD hS => ?_)
  have hP : va_P (dC, dI) zCl [(h, .inr (1, [.int 0, .int 0, .ref q7, .ref q15, .ref q23, .ref q31, .ref q39, .null, .null, .null, .null])), (q7, .inl (cI, 60, .inl (fun _ => 0))), (q15, .inl (cI, 60, .inl (fun _ => 0))), (q23, .inl (cI, 60, .inl (fun _ => 0))), (q31, .inl (cI, 6, .inl (fun _ => 0))), (q39, .inl (cI, 6, .inl (fun _ => 0)))] H := hP
  have hD : va_D A [(h, .inr (1, [.int 0, .int 0, .ref q7, .ref q15, .ref q23, .ref q31, .ref q39, .null, .null, .null, .null])), (q7, .inl (cI, 60, .inl (fun _ => 0))), (q15, .inl (cI, 60, .inl (fun _ => 0))), (q23, .inl (cI, 60, .inl (fun _ => 0))), (q31, .inl (cI, 6, .inl (fun _ => 0))), (q39, .inl (cI, 6, .inl (fun _ => 0)))] := hD
  refine lv_aload_n hx hb dPL_init_44 rfl (lv_at hl 0 rfl) ?_
  refine lv_bipush (v := 120) hx hb dPL_init_45 (by decide) ?_
  refine znew (a0 := (120, .inl (fun _ => 0))) hx hb (zac_int hB) rfl (fun _ h9 => by cases h9) hK 0 rfl hP hD hS hA (fun _ => rfl) (by decide) (by decide) (by decide) (Nat.le_of_ble_eq_true rfl) (Nat.le_of_ble_eq_true rfl) dPL_init_47 (fun q47 H hP hD hS => ?_)
  have hP : va_P (dC, dI) zCl [(h, .inr (1, [.int 0, .int 0, .ref q7, .ref q15, .ref q23, .ref q31, .ref q39, .null, .null, .null, .null])), (q7, .inl (cI, 60, .inl (fun _ => 0))), (q15, .inl (cI, 60, .inl (fun _ => 0))), (q23, .inl (cI, 60, .inl (fun _ => 0))), (q31, .inl (cI, 6, .inl (fun _ => 0))), (q39, .inl (cI, 6, .inl (fun _ => 0))), (q47, .inl (cI, 120, .inl (fun _ => 0)))] H := hP
  have hD : va_D A [(h, .inr (1, [.int 0, .int 0, .ref q7, .ref q15, .ref q23, .ref q31, .ref q39, .null, .null, .null, .null])), (q7, .inl (cI, 60, .inl (fun _ => 0))), (q15, .inl (cI, 60, .inl (fun _ => 0))), (q23, .inl (cI, 60, .inl (fun _ => 0))), (q31, .inl (cI, 6, .inl (fun _ => 0))), (q39, .inl (cI, 6, .inl (fun _ => 0))), (q47, .inl (cI, 120, .inl (fun _ => 0)))] := hD
  refine va_putF (D := (dC, dI)) (ci := 1) (v := .ref q47) (ty := .array .int) (C := "RingGuard$Plan") (T := T_PL) (N := 11) hx hb hu1 zid ty_PL ok_PL nm_PL hown hK hP hD hS 0 rfl rfl 7 (by decide) (hB.word (zm1 k1_51) rfl) (fun _ h9 => h9) rfl hin rfl (by decide +kernel) rfl rfl (Nat.le_of_ble_eq_true rfl) dPL_init_49 (fun H locs hP hD hS => ?_)
  have hP : va_P (dC, dI) zCl [(h, .inr (1, [.int 0, .int 0, .ref q7, .ref q15, .ref q23, .ref q31, .ref q39, .ref q47, .null, .null, .null])), (q7, .inl (cI, 60, .inl (fun _ => 0))), (q15, .inl (cI, 60, .inl (fun _ => 0))), (q23, .inl (cI, 60, .inl (fun _ => 0))), (q31, .inl (cI, 6, .inl (fun _ => 0))), (q39, .inl (cI, 6, .inl (fun _ => 0))), (q47, .inl (cI, 120, .inl (fun _ => 0)))] H := hP
  have hD : va_D A [(h, .inr (1, [.int 0, .int 0, .ref q7, .ref q15, .ref q23, .ref q31, .ref q39, .ref q47, .null, .null, .null])), (q7, .inl (cI, 60, .inl (fun _ => 0))), (q15, .inl (cI, 60, .inl (fun _ => 0))), (q23, .inl (cI, 60, .inl (fun _ => 0))), (q31, .inl (cI, 6, .inl (fun _ => 0))), (q39, .inl (cI, 6, .inl (fun _ => 0))), (q47, .inl (cI, 120, .inl (fun _ => 0)))] := hD
  refine lv_aload_n hx hb dPL_init_52 rfl (lv_at hl 0 rfl) ?_
  refine lv_bipush (v := 6) hx hb dPL_init_53 (by decide) ?_
  refine znew (a0 := (6, .inl (fun _ => 0))) hx hb (zac_int hB) rfl (fun _ h9 => by cases h9) hK 0 rfl hP hD hS hA (fun _ => rfl) (by decide) (by decide) (by decide) (Nat.le_of_ble_eq_true rfl) (Nat.le_of_ble_eq_true rfl) dPL_init_55 (fun q55 H hP hD hS => ?_)
  have hP : va_P (dC, dI) zCl [(h, .inr (1, [.int 0, .int 0, .ref q7, .ref q15, .ref q23, .ref q31, .ref q39, .ref q47, .null, .null, .null])), (q7, .inl (cI, 60, .inl (fun _ => 0))), (q15, .inl (cI, 60, .inl (fun _ => 0))), (q23, .inl (cI, 60, .inl (fun _ => 0))), (q31, .inl (cI, 6, .inl (fun _ => 0))), (q39, .inl (cI, 6, .inl (fun _ => 0))), (q47, .inl (cI, 120, .inl (fun _ => 0))), (q55, .inl (cI, 6, .inl (fun _ => 0)))] H := hP
  have hD : va_D A [(h, .inr (1, [.int 0, .int 0, .ref q7, .ref q15, .ref q23, .ref q31, .ref q39, .ref q47, .null, .null, .null])), (q7, .inl (cI, 60, .inl (fun _ => 0))), (q15, .inl (cI, 60, .inl (fun _ => 0))), (q23, .inl (cI, 60, .inl (fun _ => 0))), (q31, .inl (cI, 6, .inl (fun _ => 0))), (q39, .inl (cI, 6, .inl (fun _ => 0))), (q47, .inl (cI, 120, .inl (fun _ => 0))), (q55, .inl (cI, 6, .inl (fun _ => 0)))] := hD
  refine va_putF (D := (dC, dI)) (ci := 1) (v := .ref q55) (ty := .array .int) (C := "RingGuard$Plan") (T := T_PL) (N := 11) hx hb hu1 zid ty_PL ok_PL nm_PL hown hK hP hD hS 0 rfl rfl 8 (by decide) (hB.word (zm1 k1_54) rfl) (fun _ h9 => h9) rfl hin rfl (by decide +kernel) rfl rfl (Nat.le_of_ble_eq_true rfl) dPL_init_57 (fun H locs hP hD hS => ?_)
  have hP : va_P (dC, dI) zCl [(h, .inr (1, [.int 0, .int 0, .ref q7, .ref q15, .ref q23, .ref q31, .ref q39, .ref q47, .ref q55, .null, .null])), (q7, .inl (cI, 60, .inl (fun _ => 0))), (q15, .inl (cI, 60, .inl (fun _ => 0))), (q23, .inl (cI, 60, .inl (fun _ => 0))), (q31, .inl (cI, 6, .inl (fun _ => 0))), (q39, .inl (cI, 6, .inl (fun _ => 0))), (q47, .inl (cI, 120, .inl (fun _ => 0))), (q55, .inl (cI, 6, .inl (fun _ => 0)))] H := hP
  have hD : va_D A [(h, .inr (1, [.int 0, .int 0, .ref q7, .ref q15, .ref q23, .ref q31, .ref q39, .ref q47, .ref q55, .null, .null])), (q7, .inl (cI, 60, .inl (fun _ => 0))), (q15, .inl (cI, 60, .inl (fun _ => 0))), (q23, .inl (cI, 60, .inl (fun _ => 0))), (q31, .inl (cI, 6, .inl (fun _ => 0))), (q39, .inl (cI, 6, .inl (fun _ => 0))), (q47, .inl (cI, 120, .inl (fun _ => 0))), (q55, .inl (cI, 6, .inl (fun _ => 0)))] := hD
  refine lv_aload_n hx hb dPL_init_60 rfl (lv_at hl 0 rfl) ?_
  refine lv_sipush (v := 576) hx hb dPL_init_61 (by decide) ?_
  refine znew (a0 := (576, .inl (fun _ => 0))) hx hb (zac_int hB) rfl (fun _ h9 => by cases h9) hK 0 rfl hP hD hS hA (fun _ => rfl) (by decide) (by decide) (by decide) (Nat.le_of_ble_eq_true rfl) (Nat.le_of_ble_eq_true rfl) dPL_init_64 (fun q64 H hP hD hS => ?_)
  have hP : va_P (dC, dI) zCl [(h, .inr (1, [.int 0, .int 0, .ref q7, .ref q15, .ref q23, .ref q31, .ref q39, .ref q47, .ref q55, .null, .null])), (q7, .inl (cI, 60, .inl (fun _ => 0))), (q15, .inl (cI, 60, .inl (fun _ => 0))), (q23, .inl (cI, 60, .inl (fun _ => 0))), (q31, .inl (cI, 6, .inl (fun _ => 0))), (q39, .inl (cI, 6, .inl (fun _ => 0))), (q47, .inl (cI, 120, .inl (fun _ => 0))), (q55, .inl (cI, 6, .inl (fun _ => 0))), (q64, .inl (cI, 576, .inl (fun _ => 0)))] H := hP
  have hD : va_D A [(h, .inr (1, [.int 0, .int 0, .ref q7, .ref q15, .ref q23, .ref q31, .ref q39, .ref q47, .ref q55, .null, .null])), (q7, .inl (cI, 60, .inl (fun _ => 0))), (q15, .inl (cI, 60, .inl (fun _ => 0))), (q23, .inl (cI, 60, .inl (fun _ => 0))), (q31, .inl (cI, 6, .inl (fun _ => 0))), (q39, .inl (cI, 6, .inl (fun _ => 0))), (q47, .inl (cI, 120, .inl (fun _ => 0))), (q55, .inl (cI, 6, .inl (fun _ => 0))), (q64, .inl (cI, 576, .inl (fun _ => 0)))] := hD
  refine va_putF (D := (dC, dI)) (ci := 1) (v := .ref q64) (ty := .array .int) (C := "RingGuard$Plan") (T := T_PL) (N := 11) hx hb hu1 zid ty_PL ok_PL nm_PL hown hK hP hD hS 0 rfl rfl 9 (by decide) (hB.word (zm1 k1_56) rfl) (fun _ h9 => h9) rfl hin rfl (by decide +kernel) rfl rfl (Nat.le_of_ble_eq_true rfl) dPL_init_66 (fun H locs hP hD hS => ?_)
  have hP : va_P (dC, dI) zCl [(h, .inr (1, [.int 0, .int 0, .ref q7, .ref q15, .ref q23, .ref q31, .ref q39, .ref q47, .ref q55, .ref q64, .null])), (q7, .inl (cI, 60, .inl (fun _ => 0))), (q15, .inl (cI, 60, .inl (fun _ => 0))), (q23, .inl (cI, 60, .inl (fun _ => 0))), (q31, .inl (cI, 6, .inl (fun _ => 0))), (q39, .inl (cI, 6, .inl (fun _ => 0))), (q47, .inl (cI, 120, .inl (fun _ => 0))), (q55, .inl (cI, 6, .inl (fun _ => 0))), (q64, .inl (cI, 576, .inl (fun _ => 0)))] H := hP
  have hD : va_D A [(h, .inr (1, [.int 0, .int 0, .ref q7, .ref q15, .ref q23, .ref q31, .ref q39, .ref q47, .ref q55, .ref q64, .null])), (q7, .inl (cI, 60, .inl (fun _ => 0))), (q15, .inl (cI, 60, .inl (fun _ => 0))), (q23, .inl (cI, 60, .inl (fun _ => 0))), (q31, .inl (cI, 6, .inl (fun _ => 0))), (q39, .inl (cI, 6, .inl (fun _ => 0))), (q47, .inl (cI, 120, .inl (fun _ => 0))), (q55, .inl (cI, 6, .inl (fun _ => 0))), (q64, .inl (cI, 576, .inl (fun _ => 0)))] := hD
  refine lv_aload_n hx hb dPL_init_69 rfl (lv_at hl 0 rfl) ?_
  refine lv_bipush (v := 6) hx hb dPL_init_70 (by decide) ?_
  refine znew (a0 := (6, .inl (fun _ => 0))) hx hb (zac_boolean hB) rfl (fun _ h9 => by cases h9) hK 1 rfl hP hD hS hA (fun _ => rfl) (by decide) (by decide) (by decide) (Nat.le_of_ble_eq_true rfl) (Nat.le_of_ble_eq_true rfl) dPL_init_72 (fun q72 H hP hD hS => ?_)
  have hP : va_P (dC, dI) zCl [(h, .inr (1, [.int 0, .int 0, .ref q7, .ref q15, .ref q23, .ref q31, .ref q39, .ref q47, .ref q55, .ref q64, .null])), (q7, .inl (cI, 60, .inl (fun _ => 0))), (q15, .inl (cI, 60, .inl (fun _ => 0))), (q23, .inl (cI, 60, .inl (fun _ => 0))), (q31, .inl (cI, 6, .inl (fun _ => 0))), (q39, .inl (cI, 6, .inl (fun _ => 0))), (q47, .inl (cI, 120, .inl (fun _ => 0))), (q55, .inl (cI, 6, .inl (fun _ => 0))), (q64, .inl (cI, 576, .inl (fun _ => 0))), (q72, .inl (cZ, 6, .inl (fun _ => 0)))] H := hP
  have hD : va_D A [(h, .inr (1, [.int 0, .int 0, .ref q7, .ref q15, .ref q23, .ref q31, .ref q39, .ref q47, .ref q55, .ref q64, .null])), (q7, .inl (cI, 60, .inl (fun _ => 0))), (q15, .inl (cI, 60, .inl (fun _ => 0))), (q23, .inl (cI, 60, .inl (fun _ => 0))), (q31, .inl (cI, 6, .inl (fun _ => 0))), (q39, .inl (cI, 6, .inl (fun _ => 0))), (q47, .inl (cI, 120, .inl (fun _ => 0))), (q55, .inl (cI, 6, .inl (fun _ => 0))), (q64, .inl (cI, 576, .inl (fun _ => 0))), (q72, .inl (cZ, 6, .inl (fun _ => 0)))] := hD
  refine va_putF (D := (dC, dI)) (ci := 1) (v := .ref q72) (ty := .array .boolean) (C := "RingGuard$Plan") (T := T_PL) (N := 11) hx hb hu1 zid ty_PL ok_PL nm_PL hown hK hP hD hS 0 rfl rfl 10 (by decide) (hB.word (zm1 k1_58) rfl) (fun _ h9 => h9) rfl hin rfl (by decide +kernel) rfl rfl (Nat.le_of_ble_eq_true rfl) dPL_init_74 (fun H locs hP hD hS => ?_)
  have hP : va_P (dC, dI) zCl [(h, .inr (1, [.int 0, .int 0, .ref q7, .ref q15, .ref q23, .ref q31, .ref q39, .ref q47, .ref q55, .ref q64, .ref q72])), (q7, .inl (cI, 60, .inl (fun _ => 0))), (q15, .inl (cI, 60, .inl (fun _ => 0))), (q23, .inl (cI, 60, .inl (fun _ => 0))), (q31, .inl (cI, 6, .inl (fun _ => 0))), (q39, .inl (cI, 6, .inl (fun _ => 0))), (q47, .inl (cI, 120, .inl (fun _ => 0))), (q55, .inl (cI, 6, .inl (fun _ => 0))), (q64, .inl (cI, 576, .inl (fun _ => 0))), (q72, .inl (cZ, 6, .inl (fun _ => 0)))] H := hP
  have hD : va_D A [(h, .inr (1, [.int 0, .int 0, .ref q7, .ref q15, .ref q23, .ref q31, .ref q39, .ref q47, .ref q55, .ref q64, .ref q72])), (q7, .inl (cI, 60, .inl (fun _ => 0))), (q15, .inl (cI, 60, .inl (fun _ => 0))), (q23, .inl (cI, 60, .inl (fun _ => 0))), (q31, .inl (cI, 6, .inl (fun _ => 0))), (q39, .inl (cI, 6, .inl (fun _ => 0))), (q47, .inl (cI, 120, .inl (fun _ => 0))), (q55, .inl (cI, 6, .inl (fun _ => 0))), (q64, .inl (cI, 576, .inl (fun _ => 0))), (q72, .inl (cZ, 6, .inl (fun _ => 0)))] := hD
  refine lv_aload_n hx hb dPL_init_77 rfl (lv_at hl 0 rfl) ?_
  refine va_get (D := (dC, dI)) (ci := 1) (v := .ref q31) (C := "RingGuard$Plan") (T := T_PL) (N := 11) hx hb hu1 zid hown hK hP 0 rfl rfl 5 (by decide) (hB.word (zm1 k1_47) rfl) (fun _ h9 => h9) rfl dPL_init_78 ?_
  refine lv_iconst (v := (-1)) hx hb dPL_init_81 (by decide) ?_
  have hPc : va_P (dC, dI) zCl [(q31, .inl (cI, 6, .inl (fun _ => 0)))] H := hP.sub [4] rfl
  have hDc : va_D A [(q31, .inl (cI, 6, .inl (fun _ => 0)))] := hD.sub [4] (by decide) rfl
  refine zcallw (wr := [(h, .inr (1, [.int 0, .int 0, .ref q7, .ref q15, .ref q23, .ref q31, .ref q39, .ref q47, .ref q55, .ref q64, .ref q72])), (q7, .inl (cI, 60, .inl (fun _ => 0))), (q15, .inl (cI, 60, .inl (fun _ => 0))), (q23, .inl (cI, 60, .inl (fun _ => 0))), (q39, .inl (cI, 6, .inl (fun _ => 0))), (q47, .inl (cI, 120, .inl (fun _ => 0))), (q55, .inl (cI, 6, .inl (fun _ => 0))), (q64, .inl (cI, 576, .inl (fun _ => 0))), (q72, .inl (cZ, 6, .inl (fun _ => 0)))]) (va_runS (As := [.ref q31, .int (-1)]) (rest := []) ⟨hx, hb, hml, hown, zno⟩ (zw_fill l dC dI cI cZ cJ cA a0 s0 q31 6 H.size (fun _ => 0) (-1) (by decide)) ⟨zcb 2 (hB.word (zm1 k1_33) rfl) (hB.word (zm1 k1_3) rfl) (hB.word (zm1 k1_31) rfl) rfl rfl (by decide +kernel) ⟨Nat.le_of_ble_eq_true rfl, Nat.le_of_ble_eq_true rfl⟩, hB.word (zm1 k1_32) rfl⟩ ⟨zP_blind, zP_pre hPc hK hDc hAD (zB_on hB hA0 hS)⟩ rfl rfl hl.1 rfl (lv_room (Nat.le_of_ble_eq_true rfl)) dPL_init_82 ⟨Nat.le_of_ble_eq_true rfl, Nat.le_of_ble_eq_true rfl⟩) hP hD hS hA [4] [0, 1, 2, 3, 5, 6, 7, 8, 9] rfl rfl (by decide) (by decide) (fun wo H1 locs hwo hP hD hS => ?_)
  obtain ⟨f1, hf1, rfl⟩ := hwo
  generalize H1 = H at hP hS ⊢
  have hP : va_P (dC, dI) zCl [(h, .inr (1, [.int 0, .int 0, .ref q7, .ref q15, .ref q23, .ref q31, .ref q39, .ref q47, .ref q55, .ref q64, .ref q72])), (q7, .inl (cI, 60, .inl (fun _ => 0))), (q15, .inl (cI, 60, .inl (fun _ => 0))), (q23, .inl (cI, 60, .inl (fun _ => 0))), (q39, .inl (cI, 6, .inl (fun _ => 0))), (q47, .inl (cI, 120, .inl (fun _ => 0))), (q55, .inl (cI, 6, .inl (fun _ => 0))), (q64, .inl (cI, 576, .inl (fun _ => 0))), (q72, .inl (cZ, 6, .inl (fun _ => 0))), (q31, .inl (cI, 6, .inl f1))] H := hP
  have hD : va_D A [(h, .inr (1, [.int 0, .int 0, .ref q7, .ref q15, .ref q23, .ref q31, .ref q39, .ref q47, .ref q55, .ref q64, .ref q72])), (q7, .inl (cI, 60, .inl (fun _ => 0))), (q15, .inl (cI, 60, .inl (fun _ => 0))), (q23, .inl (cI, 60, .inl (fun _ => 0))), (q39, .inl (cI, 6, .inl (fun _ => 0))), (q47, .inl (cI, 120, .inl (fun _ => 0))), (q55, .inl (cI, 6, .inl (fun _ => 0))), (q64, .inl (cI, 576, .inl (fun _ => 0))), (q72, .inl (cZ, 6, .inl (fun _ => 0))), (q31, .inl (cI, 6, .inl f1))] := hD
  refine lv_aload_n hx hb dPL_init_85 rfl (lv_at hl 0 rfl) ?_
  refine va_get (D := (dC, dI)) (ci := 1) (v := .ref q39) (C := "RingGuard$Plan") (T := T_PL) (N := 11) hx hb hu1 zid hown hK hP 0 rfl rfl 6 (by decide) (hB.word (zm1 k1_49) rfl) (fun _ h9 => h9) rfl dPL_init_86 ?_
  refine lv_iconst (v := (-1)) hx hb dPL_init_89 (by decide) ?_
  have hPc : va_P (dC, dI) zCl [(q39, .inl (cI, 6, .inl (fun _ => 0)))] H := hP.sub [4] rfl
  have hDc : va_D A [(q39, .inl (cI, 6, .inl (fun _ => 0)))] := hD.sub [4] (by decide) rfl
  refine zcallw (wr := [(h, .inr (1, [.int 0, .int 0, .ref q7, .ref q15, .ref q23, .ref q31, .ref q39, .ref q47, .ref q55, .ref q64, .ref q72])), (q7, .inl (cI, 60, .inl (fun _ => 0))), (q15, .inl (cI, 60, .inl (fun _ => 0))), (q23, .inl (cI, 60, .inl (fun _ => 0))), (q47, .inl (cI, 120, .inl (fun _ => 0))), (q55, .inl (cI, 6, .inl (fun _ => 0))), (q64, .inl (cI, 576, .inl (fun _ => 0))), (q72, .inl (cZ, 6, .inl (fun _ => 0))), (q31, .inl (cI, 6, .inl f1))]) (va_runS (As := [.ref q39, .int (-1)]) (rest := []) ⟨hx, hb, hml, hown, zno⟩ (zw_fill l dC dI cI cZ cJ cA a0 s0 q39 6 H.size (fun _ => 0) (-1) (by decide)) ⟨zcb 2 (hB.word (zm1 k1_33) rfl) (hB.word (zm1 k1_3) rfl) (hB.word (zm1 k1_31) rfl) rfl rfl (by decide +kernel) ⟨Nat.le_of_ble_eq_true rfl, Nat.le_of_ble_eq_true rfl⟩, hB.word (zm1 k1_32) rfl⟩ ⟨zP_blind, zP_pre hPc hK hDc hAD (zB_on hB hA0 hS)⟩ rfl rfl hl.1 rfl (lv_room (Nat.le_of_ble_eq_true rfl)) dPL_init_90 ⟨Nat.le_of_ble_eq_true rfl, Nat.le_of_ble_eq_true rfl⟩) hP hD hS hA [4] [0, 1, 2, 3, 5, 6, 7, 8, 9] rfl rfl (by decide) (by decide) (fun wo H1 locs hwo hP hD hS => ?_)
  obtain ⟨f2, hf2, rfl⟩ := hwo
  generalize H1 = H at hP hS ⊢
  have hP : va_P (dC, dI) zCl [(h, .inr (1, [.int 0, .int 0, .ref q7, .ref q15, .ref q23, .ref q31, .ref q39, .ref q47, .ref q55, .ref q64, .ref q72])), (q7, .inl (cI, 60, .inl (fun _ => 0))), (q15, .inl (cI, 60, .inl (fun _ => 0))), (q23, .inl (cI, 60, .inl (fun _ => 0))), (q47, .inl (cI, 120, .inl (fun _ => 0))), (q55, .inl (cI, 6, .inl (fun _ => 0))), (q64, .inl (cI, 576, .inl (fun _ => 0))), (q72, .inl (cZ, 6, .inl (fun _ => 0))), (q31, .inl (cI, 6, .inl f1)), (q39, .inl (cI, 6, .inl f2))] H := hP
  have hD : va_D A [(h, .inr (1, [.int 0, .int 0, .ref q7, .ref q15, .ref q23, .ref q31, .ref q39, .ref q47, .ref q55, .ref q64, .ref q72])), (q7, .inl (cI, 60, .inl (fun _ => 0))), (q15, .inl (cI, 60, .inl (fun _ => 0))), (q23, .inl (cI, 60, .inl (fun _ => 0))), (q47, .inl (cI, 120, .inl (fun _ => 0))), (q55, .inl (cI, 6, .inl (fun _ => 0))), (q64, .inl (cI, 576, .inl (fun _ => 0))), (q72, .inl (cZ, 6, .inl (fun _ => 0))), (q31, .inl (cI, 6, .inl f1)), (q39, .inl (cI, 6, .inl f2))] := hD
  refine lv_aload_n hx hb dPL_init_93 rfl (lv_at hl 0 rfl) ?_
  refine va_get (D := (dC, dI)) (ci := 1) (v := .ref q55) (C := "RingGuard$Plan") (T := T_PL) (N := 11) hx hb hu1 zid hown hK hP 0 rfl rfl 8 (by decide) (hB.word (zm1 k1_54) rfl) (fun _ h9 => h9) rfl dPL_init_94 ?_
  refine lv_iconst (v := (-1)) hx hb dPL_init_97 (by decide) ?_
  have hPc : va_P (dC, dI) zCl [(q55, .inl (cI, 6, .inl (fun _ => 0)))] H := hP.sub [5] rfl
  have hDc : va_D A [(q55, .inl (cI, 6, .inl (fun _ => 0)))] := hD.sub [5] (by decide) rfl
  refine zcallw (wr := [(h, .inr (1, [.int 0, .int 0, .ref q7, .ref q15, .ref q23, .ref q31, .ref q39, .ref q47, .ref q55, .ref q64, .ref q72])), (q7, .inl (cI, 60, .inl (fun _ => 0))), (q15, .inl (cI, 60, .inl (fun _ => 0))), (q23, .inl (cI, 60, .inl (fun _ => 0))), (q47, .inl (cI, 120, .inl (fun _ => 0))), (q64, .inl (cI, 576, .inl (fun _ => 0))), (q72, .inl (cZ, 6, .inl (fun _ => 0))), (q31, .inl (cI, 6, .inl f1)), (q39, .inl (cI, 6, .inl f2))]) (va_runS (As := [.ref q55, .int (-1)]) (rest := []) ⟨hx, hb, hml, hown, zno⟩ (zw_fill l dC dI cI cZ cJ cA a0 s0 q55 6 H.size (fun _ => 0) (-1) (by decide)) ⟨zcb 2 (hB.word (zm1 k1_33) rfl) (hB.word (zm1 k1_3) rfl) (hB.word (zm1 k1_31) rfl) rfl rfl (by decide +kernel) ⟨Nat.le_of_ble_eq_true rfl, Nat.le_of_ble_eq_true rfl⟩, hB.word (zm1 k1_32) rfl⟩ ⟨zP_blind, zP_pre hPc hK hDc hAD (zB_on hB hA0 hS)⟩ rfl rfl hl.1 rfl (lv_room (Nat.le_of_ble_eq_true rfl)) dPL_init_98 ⟨Nat.le_of_ble_eq_true rfl, Nat.le_of_ble_eq_true rfl⟩) hP hD hS hA [5] [0, 1, 2, 3, 4, 6, 7, 8, 9] rfl rfl (by decide) (by decide) (fun wo H1 locs hwo hP hD hS => ?_)
  obtain ⟨f3, hf3, rfl⟩ := hwo
  generalize H1 = H at hP hS ⊢
  have hP : va_P (dC, dI) zCl [(h, .inr (1, [.int 0, .int 0, .ref q7, .ref q15, .ref q23, .ref q31, .ref q39, .ref q47, .ref q55, .ref q64, .ref q72])), (q7, .inl (cI, 60, .inl (fun _ => 0))), (q15, .inl (cI, 60, .inl (fun _ => 0))), (q23, .inl (cI, 60, .inl (fun _ => 0))), (q47, .inl (cI, 120, .inl (fun _ => 0))), (q64, .inl (cI, 576, .inl (fun _ => 0))), (q72, .inl (cZ, 6, .inl (fun _ => 0))), (q31, .inl (cI, 6, .inl f1)), (q39, .inl (cI, 6, .inl f2)), (q55, .inl (cI, 6, .inl f3))] H := hP
  have hD : va_D A [(h, .inr (1, [.int 0, .int 0, .ref q7, .ref q15, .ref q23, .ref q31, .ref q39, .ref q47, .ref q55, .ref q64, .ref q72])), (q7, .inl (cI, 60, .inl (fun _ => 0))), (q15, .inl (cI, 60, .inl (fun _ => 0))), (q23, .inl (cI, 60, .inl (fun _ => 0))), (q47, .inl (cI, 120, .inl (fun _ => 0))), (q64, .inl (cI, 576, .inl (fun _ => 0))), (q72, .inl (cZ, 6, .inl (fun _ => 0))), (q31, .inl (cI, 6, .inl f1)), (q39, .inl (cI, 6, .inl f2)), (q55, .inl (cI, 6, .inl f3))] := hD
  refine lv_aload_n hx hb dPL_init_101 rfl (lv_at hl 0 rfl) ?_
  refine va_get (D := (dC, dI)) (ci := 1) (v := .ref q64) (C := "RingGuard$Plan") (T := T_PL) (N := 11) hx hb hu1 zid hown hK hP 0 rfl rfl 9 (by decide) (hB.word (zm1 k1_56) rfl) (fun _ h9 => h9) rfl dPL_init_102 ?_
  refine lv_iconst (v := (-1)) hx hb dPL_init_105 (by decide) ?_
  have hPc : va_P (dC, dI) zCl [(q64, .inl (cI, 576, .inl (fun _ => 0)))] H := hP.sub [5] rfl
  have hDc : va_D A [(q64, .inl (cI, 576, .inl (fun _ => 0)))] := hD.sub [5] (by decide) rfl
  refine zcallw (wr := [(h, .inr (1, [.int 0, .int 0, .ref q7, .ref q15, .ref q23, .ref q31, .ref q39, .ref q47, .ref q55, .ref q64, .ref q72])), (q7, .inl (cI, 60, .inl (fun _ => 0))), (q15, .inl (cI, 60, .inl (fun _ => 0))), (q23, .inl (cI, 60, .inl (fun _ => 0))), (q47, .inl (cI, 120, .inl (fun _ => 0))), (q72, .inl (cZ, 6, .inl (fun _ => 0))), (q31, .inl (cI, 6, .inl f1)), (q39, .inl (cI, 6, .inl f2)), (q55, .inl (cI, 6, .inl f3))]) (va_runS (As := [.ref q64, .int (-1)]) (rest := []) ⟨hx, hb, hml, hown, zno⟩ (zw_fill l dC dI cI cZ cJ cA a0 s0 q64 576 H.size (fun _ => 0) (-1) (by decide)) ⟨zcb 2 (hB.word (zm1 k1_33) rfl) (hB.word (zm1 k1_3) rfl) (hB.word (zm1 k1_31) rfl) rfl rfl (by decide +kernel) ⟨Nat.le_of_ble_eq_true rfl, Nat.le_of_ble_eq_true rfl⟩, hB.word (zm1 k1_32) rfl⟩ ⟨zP_blind, zP_pre hPc hK hDc hAD (zB_on hB hA0 hS)⟩ rfl rfl hl.1 rfl (lv_room (Nat.le_of_ble_eq_true rfl)) dPL_init_106 ⟨Nat.le_of_ble_eq_true rfl, Nat.le_of_ble_eq_true rfl⟩) hP hD hS hA [5] [0, 1, 2, 3, 4, 6, 7, 8, 9] rfl rfl (by decide) (by decide) (fun wo H1 locs hwo hP hD hS => ?_)
  obtain ⟨f4, hf4, rfl⟩ := hwo
  generalize H1 = H at hP hS ⊢
  have hP : va_P (dC, dI) zCl [(h, .inr (1, [.int 0, .int 0, .ref q7, .ref q15, .ref q23, .ref q31, .ref q39, .ref q47, .ref q55, .ref q64, .ref q72])), (q7, .inl (cI, 60, .inl (fun _ => 0))), (q15, .inl (cI, 60, .inl (fun _ => 0))), (q23, .inl (cI, 60, .inl (fun _ => 0))), (q47, .inl (cI, 120, .inl (fun _ => 0))), (q72, .inl (cZ, 6, .inl (fun _ => 0))), (q31, .inl (cI, 6, .inl f1)), (q39, .inl (cI, 6, .inl f2)), (q55, .inl (cI, 6, .inl f3)), (q64, .inl (cI, 576, .inl f4))] H := hP
  have hD : va_D A [(h, .inr (1, [.int 0, .int 0, .ref q7, .ref q15, .ref q23, .ref q31, .ref q39, .ref q47, .ref q55, .ref q64, .ref q72])), (q7, .inl (cI, 60, .inl (fun _ => 0))), (q15, .inl (cI, 60, .inl (fun _ => 0))), (q23, .inl (cI, 60, .inl (fun _ => 0))), (q47, .inl (cI, 120, .inl (fun _ => 0))), (q72, .inl (cZ, 6, .inl (fun _ => 0))), (q31, .inl (cI, 6, .inl f1)), (q39, .inl (cI, 6, .inl f2)), (q55, .inl (cI, 6, .inl f3)), (q64, .inl (cI, 576, .inl f4))] := hD
  refine W.widen (k := 9) (n := 900) (Nat.le_of_ble_eq_true rfl) (Nat.le_of_ble_eq_true rfl) ?_
  have hP9 : va_P (dC, dI) zCl [(h, .inr (1, [.int 0, .int 0, .ref q7, .ref q15, .ref q23, .ref q31, .ref q39, .ref q47, .ref q55, .ref q64, .ref q72])), (q7, .inl (cI, 60, .inl (fun _ => 0))), (q15, .inl (cI, 60, .inl (fun _ => 0))), (q23, .inl (cI, 60, .inl (fun _ => 0))), (q31, .inl (cI, 6, .inl f1)), (q39, .inl (cI, 6, .inl f2)), (q47, .inl (cI, 120, .inl (fun _ => 0))), (q55, .inl (cI, 6, .inl f3)), (q64, .inl (cI, 576, .inl f4)), (q72, .inl (cZ, 6, .inl (fun _ => 0)))] H := hP.sub [0, 1, 2, 3, 6, 7, 4, 8, 9, 5] rfl
  have hD9 : va_D A [(h, .inr (1, [.int 0, .int 0, .ref q7, .ref q15, .ref q23, .ref q31, .ref q39, .ref q47, .ref q55, .ref q64, .ref q72])), (q7, .inl (cI, 60, .inl (fun _ => 0))), (q15, .inl (cI, 60, .inl (fun _ => 0))), (q23, .inl (cI, 60, .inl (fun _ => 0))), (q31, .inl (cI, 6, .inl f1)), (q39, .inl (cI, 6, .inl f2)), (q47, .inl (cI, 120, .inl (fun _ => 0))), (q55, .inl (cI, 6, .inl f3)), (q64, .inl (cI, 576, .inl f4)), (q72, .inl (cZ, 6, .inl (fun _ => 0)))] := hD.sub [0, 1, 2, 3, 6, 7, 4, 8, 9, 5] (by decide) rfl
  exact W.vret hx hb hr (fun t ht hW => ⟨⟨[(h, .inr (1, [.int 0, .int 0, .ref q7, .ref q15, .ref q23, .ref q31, .ref q39, .ref q47, .ref q55, .ref q64, .ref q72])), (q7, .inl (cI, 60, .inl (fun _ => 0))), (q15, .inl (cI, 60, .inl (fun _ => 0))), (q23, .inl (cI, 60, .inl (fun _ => 0))), (q31, .inl (cI, 6, .inl f1)), (q39, .inl (cI, 6, .inl f2)), (q47, .inl (cI, 120, .inl (fun _ => 0))), (q55, .inl (cI, 6, .inl f3)), (q64, .inl (cI, 576, .inl f4)), (q72, .inl (cZ, 6, .inl (fun _ => 0)))], rfl, ⟨(fun k => match k with | 0 => q7 | 1 => q15 | 2 => q23 | 3 => q31 | 4 => q39 | 5 => q47 | 6 => q55 | 7 => q64 | 8 => q72 | _ => 0), f1, f2, f3, f4, hf1, hf2, hf3, hf4, rfl⟩, by rw [ht]; exact hP9, hD9⟩, hS.F ht⟩) hS.2.2 dPL_init_109
set_option maxHeartbeats 4000000 in
set_option maxRecDepth 100000 in
theorem zc_Wires (l : Launch) (dC : Nat → ClassId) (dI : Nat → Nat → Nat) (cI cZ cJ cA : ClassId) (a0 : Array Value) (s0 : State) (h sz : Nat) : Met l yWI_init [Cond.code yWI_init bWI_init 1 none] ({ frames := 1, cells := 5, slots := 15660, locals := 12 } : Room) (zP zCl dC dI (zTZ cI cZ cJ cA) a0 s0 [.ref h] sz [(h, .inr (2, [.null, .null, .null, .null, .null, .int 0]))]) (zQw zCl dC dI (fun wo => ∃ (c : Nat → Nat), wo = [(h, .inr (2, [.ref (c 0), .ref (c 1), .ref (c 2), .ref (c 3), .ref (c 4), .int 0])), ((c 0), .inl (cI, 7680, .inl (fun _ => 0))), ((c 1), .inl (cI, 120, .inl (fun _ => 0))), ((c 2), .inl (cI, 7680, .inl (fun _ => 0))), ((c 3), .inl (cI, 120, .inl (fun _ => 0))), ((c 4), .inl (cI, 60, .inl (fun _ => 0)))]) (va_A [(h, .inr (2, [.null, .null, .null, .null, .null, .int 0]))] sz)) 5 15660 (va_A [(h, .inr (2, [.null, .null, .null, .null, .null, .int 0]))] sz) := by
  refine Met.ofW (cc := bWI_init) (maxL := 1) (ret := none) (by decide) rfl ?_
  intro p e s m args below meth c s₁ B hml hv
  obtain ⟨rfl, hsz, hP, hK, hD0, hB⟩ := hv
  have hx := B.exec
  have hb := B.bytes
  have hr := B.returns
  have hown : s.vm.findClass "RingGuard$Wires" = some m.cls := findClass_of_methodNamed B.named
  have hlocks := B.notSynchronized
  have hin : meth.name = "<init>" := (name_of_methodNamed B.named B.method).1
  subst hsz
  have hD := hD0.self (sz := s.heap.size)
  have hA0 := zA0 hD0 hB
  generalize hAe : va_A [(h, .inr (2, [.null, .null, .null, .null, .null, .int 0]))] s.heap.size = A at hD hA0 ⊢
  have hAD := hA0
  have hA : ∀ q : Nat, s.heap.size ≤ q → A q := fun q h => by rw [← hAe]; exact Or.inr h
  have hS : va_S A s.heap s.heap [] := va_S.rf
  have hP : va_P (dC, dI) zCl [(h, .inr (2, [.null, .null, .null, .null, .null, .int 0]))] s.heap := hP
  have hl := lv_entry ([.ref h]) (n := 1) (Nat.le_of_ble_eq_true rfl)
  rw [lg_entry_eq]
  generalize (lg_sl ([.ref h]) ++ List.replicate (1 - (lg_sl ([.ref h])).length) Slot.unset).toArray = ls at hl ⊢
  have hl : lv_has ls 1 [(0, .ref h)] := hl
  refine lv_aload_n hx hb dWI_init_0 rfl (lv_at hl 0 rfl) ?_
  refine W.objInit hx hb hown (hB.word (zm1 k1_89) rfl) (hB.word (zm1 k1_23) rfl) (hB.word (zm1 k1_24) rfl) rfl (by rw [hml]; exact hl.1) rfl dWI_init_1 (Nat.le_of_ble_eq_true rfl) (Nat.le_of_ble_eq_true rfl) ?_
  refine W.eq (g2 := F0 m 4 ls []) rfl ?_
  refine lv_aload_n hx hb dWI_init_4 rfl (lv_at hl 0 rfl) ?_
  refine lv_sipush (v := 7680) hx hb dWI_init_5 (by decide) ?_
  refine znew (a0 := (7680, .inl (fun _ => 0))) hx hb (zac_int hB) rfl (fun _ h9 => by cases h9) hK 0 rfl hP hD hS hA (fun _ => rfl) (by decide) (by decide) (by decide) (Nat.le_of_ble_eq_true rfl) (Nat.le_of_ble_eq_true rfl) dWI_init_8 (fun q8 H hP hD hS => ?_)
  have hP : va_P (dC, dI) zCl [(h, .inr (2, [.null, .null, .null, .null, .null, .int 0])), (q8, .inl (cI, 7680, .inl (fun _ => 0)))] H := hP
  have hD : va_D A [(h, .inr (2, [.null, .null, .null, .null, .null, .int 0])), (q8, .inl (cI, 7680, .inl (fun _ => 0)))] := hD
  have hu2 : ∀ w ∈ u_ws "RingGuard$Wires" T_WI 6, w.before ([.ref h] : List Value).toArray s = true := hB.words zU_WI
  refine va_put (D := (dC, dI)) (ci := 2) (v := .ref q8) (ty := .array .int) (C := "RingGuard$Wires") (T := T_WI) (N := 6) hx hb hu2 zid ty_WI ok_WI nm_WI hown hK hP hD hS 0 rfl rfl 0 (by decide) (hB.word (zm1 k1_90) rfl) (fun _ h9 => h9) rfl (by decide +kernel) rfl rfl (Nat.le_of_ble_eq_true rfl) dWI_init_10 (fun H locs hP hD hS => ?_)
  have hP : va_P (dC, dI) zCl [(h, .inr (2, [.ref q8, .null, .null, .null, .null, .int 0])), (q8, .inl (cI, 7680, .inl (fun _ => 0)))] H := hP
  have hD : va_D A [(h, .inr (2, [.ref q8, .null, .null, .null, .null, .int 0])), (q8, .inl (cI, 7680, .inl (fun _ => 0)))] := hD
  refine lv_aload_n hx hb dWI_init_13 rfl (lv_at hl 0 rfl) ?_
  refine lv_bipush (v := 120) hx hb dWI_init_14 (by decide) ?_
  refine znew (a0 := (120, .inl (fun _ => 0))) hx hb (zac_int hB) rfl (fun _ h9 => by cases h9) hK 0 rfl hP hD hS hA (fun _ => rfl) (by decide) (by decide) (by decide) (Nat.le_of_ble_eq_true rfl) (Nat.le_of_ble_eq_true rfl) dWI_init_16 (fun q16 H hP hD hS => ?_)
  have hP : va_P (dC, dI) zCl [(h, .inr (2, [.ref q8, .null, .null, .null, .null, .int 0])), (q8, .inl (cI, 7680, .inl (fun _ => 0))), (q16, .inl (cI, 120, .inl (fun _ => 0)))] H := hP
  have hD : va_D A [(h, .inr (2, [.ref q8, .null, .null, .null, .null, .int 0])), (q8, .inl (cI, 7680, .inl (fun _ => 0))), (q16, .inl (cI, 120, .inl (fun _ => 0)))] := hD
  refine va_put (D := (dC, dI)) (ci := 2) (v := .ref q16) (ty := .array .int) (C := "RingGuard$Wires") (T := T_WI) (N := 6) hx hb hu2 zid ty_WI ok_WI nm_WI hown hK hP hD hS 0 rfl rfl 1 (by decide) (hB.word (zm1 k1_91) rfl) (fun _ h9 => h9) rfl (by decide +kernel) rfl rfl (Nat.le_of_ble_eq_true rfl) dWI_init_18 (fun H locs hP hD hS => ?_)
  have hP : va_P (dC, dI) zCl [(h, .inr (2, [.ref q8, .ref q16, .null, .null, .null, .int 0])), (q8, .inl (cI, 7680, .inl (fun _ => 0))), (q16, .inl (cI, 120, .inl (fun _ => 0)))] H := hP
  have hD : va_D A [(h, .inr (2, [.ref q8, .ref q16, .null, .null, .null, .int 0])), (q8, .inl (cI, 7680, .inl (fun _ => 0))), (q16, .inl (cI, 120, .inl (fun _ => 0)))] := hD
  refine lv_aload_n hx hb dWI_init_21 rfl (lv_at hl 0 rfl) ?_
  refine lv_sipush (v := 7680) hx hb dWI_init_22 (by decide) ?_
  refine znew (a0 := (7680, .inl (fun _ => 0))) hx hb (zac_int hB) rfl (fun _ h9 => by cases h9) hK 0 rfl hP hD hS hA (fun _ => rfl) (by decide) (by decide) (by decide) (Nat.le_of_ble_eq_true rfl) (Nat.le_of_ble_eq_true rfl) dWI_init_25 (fun q25 H hP hD hS => ?_)
  have hP : va_P (dC, dI) zCl [(h, .inr (2, [.ref q8, .ref q16, .null, .null, .null, .int 0])), (q8, .inl (cI, 7680, .inl (fun _ => 0))), (q16, .inl (cI, 120, .inl (fun _ => 0))), (q25, .inl (cI, 7680, .inl (fun _ => 0)))] H := hP
  have hD : va_D A [(h, .inr (2, [.ref q8, .ref q16, .null, .null, .null, .int 0])), (q8, .inl (cI, 7680, .inl (fun _ => 0))), (q16, .inl (cI, 120, .inl (fun _ => 0))), (q25, .inl (cI, 7680, .inl (fun _ => 0)))] := hD
  refine va_put (D := (dC, dI)) (ci := 2) (v := .ref q25) (ty := .array .int) (C := "RingGuard$Wires") (T := T_WI) (N := 6) hx hb hu2 zid ty_WI ok_WI nm_WI hown hK hP hD hS 0 rfl rfl 2 (by decide) (hB.word (zm1 k1_92) rfl) (fun _ h9 => h9) rfl (by decide +kernel) rfl rfl (Nat.le_of_ble_eq_true rfl) dWI_init_27 (fun H locs hP hD hS => ?_)
  have hP : va_P (dC, dI) zCl [(h, .inr (2, [.ref q8, .ref q16, .ref q25, .null, .null, .int 0])), (q8, .inl (cI, 7680, .inl (fun _ => 0))), (q16, .inl (cI, 120, .inl (fun _ => 0))), (q25, .inl (cI, 7680, .inl (fun _ => 0)))] H := hP
  have hD : va_D A [(h, .inr (2, [.ref q8, .ref q16, .ref q25, .null, .null, .int 0])), (q8, .inl (cI, 7680, .inl (fun _ => 0))), (q16, .inl (cI, 120, .inl (fun _ => 0))), (q25, .inl (cI, 7680, .inl (fun _ => 0)))] := hD
  refine lv_aload_n hx hb dWI_init_30 rfl (lv_at hl 0 rfl) ?_
  refine lv_bipush (v := 120) hx hb dWI_init_31 (by decide) ?_
  refine znew (a0 := (120, .inl (fun _ => 0))) hx hb (zac_int hB) rfl (fun _ h9 => by cases h9) hK 0 rfl hP hD hS hA (fun _ => rfl) (by decide) (by decide) (by decide) (Nat.le_of_ble_eq_true rfl) (Nat.le_of_ble_eq_true rfl) dWI_init_33 (fun q33 H hP hD hS => ?_)
  have hP : va_P (dC, dI) zCl [(h, .inr (2, [.ref q8, .ref q16, .ref q25, .null, .null, .int 0])), (q8, .inl (cI, 7680, .inl (fun _ => 0))), (q16, .inl (cI, 120, .inl (fun _ => 0))), (q25, .inl (cI, 7680, .inl (fun _ => 0))), (q33, .inl (cI, 120, .inl (fun _ => 0)))] H := hP
  have hD : va_D A [(h, .inr (2, [.ref q8, .ref q16, .ref q25, .null, .null, .int 0])), (q8, .inl (cI, 7680, .inl (fun _ => 0))), (q16, .inl (cI, 120, .inl (fun _ => 0))), (q25, .inl (cI, 7680, .inl (fun _ => 0))), (q33, .inl (cI, 120, .inl (fun _ => 0)))] := hD
  refine va_put (D := (dC, dI)) (ci := 2) (v := .ref q33) (ty := .array .int) (C := "RingGuard$Wires") (T := T_WI) (N := 6) hx hb hu2 zid ty_WI ok_WI nm_WI hown hK hP hD hS 0 rfl rfl 3 (by decide) (hB.word (zm1 k1_93) rfl) (fun _ h9 => h9) rfl (by decide +kernel) rfl rfl (Nat.le_of_ble_eq_true rfl) dWI_init_35 (fun H locs hP hD hS => ?_)
  have hP : va_P (dC, dI) zCl [(h, .inr (2, [.ref q8, .ref q16, .ref q25, .ref q33, .null, .int 0])), (q8, .inl (cI, 7680, .inl (fun _ => 0))), (q16, .inl (cI, 120, .inl (fun _ => 0))), (q25, .inl (cI, 7680, .inl (fun _ => 0))), (q33, .inl (cI, 120, .inl (fun _ => 0)))] H := hP
  have hD : va_D A [(h, .inr (2, [.ref q8, .ref q16, .ref q25, .ref q33, .null, .int 0])), (q8, .inl (cI, 7680, .inl (fun _ => 0))), (q16, .inl (cI, 120, .inl (fun _ => 0))), (q25, .inl (cI, 7680, .inl (fun _ => 0))), (q33, .inl (cI, 120, .inl (fun _ => 0)))] := hD
  refine lv_aload_n hx hb dWI_init_38 rfl (lv_at hl 0 rfl) ?_
  refine lv_bipush (v := 60) hx hb dWI_init_39 (by decide) ?_
  refine znew (a0 := (60, .inl (fun _ => 0))) hx hb (zac_int hB) rfl (fun _ h9 => by cases h9) hK 0 rfl hP hD hS hA (fun _ => rfl) (by decide) (by decide) (by decide) (Nat.le_of_ble_eq_true rfl) (Nat.le_of_ble_eq_true rfl) dWI_init_41 (fun q41 H hP hD hS => ?_)
  have hP : va_P (dC, dI) zCl [(h, .inr (2, [.ref q8, .ref q16, .ref q25, .ref q33, .null, .int 0])), (q8, .inl (cI, 7680, .inl (fun _ => 0))), (q16, .inl (cI, 120, .inl (fun _ => 0))), (q25, .inl (cI, 7680, .inl (fun _ => 0))), (q33, .inl (cI, 120, .inl (fun _ => 0))), (q41, .inl (cI, 60, .inl (fun _ => 0)))] H := hP
  have hD : va_D A [(h, .inr (2, [.ref q8, .ref q16, .ref q25, .ref q33, .null, .int 0])), (q8, .inl (cI, 7680, .inl (fun _ => 0))), (q16, .inl (cI, 120, .inl (fun _ => 0))), (q25, .inl (cI, 7680, .inl (fun _ => 0))), (q33, .inl (cI, 120, .inl (fun _ => 0))), (q41, .inl (cI, 60, .inl (fun _ => 0)))] := hD
  refine va_putF (D := (dC, dI)) (ci := 2) (v := .ref q41) (ty := .array .int) (C := "RingGuard$Wires") (T := T_WI) (N := 6) hx hb hu2 zid ty_WI ok_WI nm_WI hown hK hP hD hS 0 rfl rfl 4 (by decide) (hB.word (zm1 k1_94) rfl) (fun _ h9 => h9) rfl hin rfl (by decide +kernel) rfl rfl (Nat.le_of_ble_eq_true rfl) dWI_init_43 (fun H locs hP hD hS => ?_)
  have hP : va_P (dC, dI) zCl [(h, .inr (2, [.ref q8, .ref q16, .ref q25, .ref q33, .ref q41, .int 0])), (q8, .inl (cI, 7680, .inl (fun _ => 0))), (q16, .inl (cI, 120, .inl (fun _ => 0))), (q25, .inl (cI, 7680, .inl (fun _ => 0))), (q33, .inl (cI, 120, .inl (fun _ => 0))), (q41, .inl (cI, 60, .inl (fun _ => 0)))] H := hP
  have hD : va_D A [(h, .inr (2, [.ref q8, .ref q16, .ref q25, .ref q33, .ref q41, .int 0])), (q8, .inl (cI, 7680, .inl (fun _ => 0))), (q16, .inl (cI, 120, .inl (fun _ => 0))), (q25, .inl (cI, 7680, .inl (fun _ => 0))), (q33, .inl (cI, 120, .inl (fun _ => 0))), (q41, .inl (cI, 60, .inl (fun _ => 0)))] := hD
  refine W.widen (k := 5) (n := 15660) (Nat.le_of_ble_eq_true rfl) (Nat.le_of_ble_eq_true rfl) ?_
  have hP9 : va_P (dC, dI) zCl [(h, .inr (2, [.ref q8, .ref q16, .ref q25, .ref q33, .ref q41, .int 0])), (q8, .inl (cI, 7680, .inl (fun _ => 0))), (q16, .inl (cI, 120, .inl (fun _ => 0))), (q25, .inl (cI, 7680, .inl (fun _ => 0))), (q33, .inl (cI, 120, .inl (fun _ => 0))), (q41, .inl (cI, 60, .inl (fun _ => 0)))] H := hP.sub [0, 1, 2, 3, 4, 5] rfl
  have hD9 : va_D A [(h, .inr (2, [.ref q8, .ref q16, .ref q25, .ref q33, .ref q41, .int 0])), (q8, .inl (cI, 7680, .inl (fun _ => 0))), (q16, .inl (cI, 120, .inl (fun _ => 0))), (q25, .inl (cI, 7680, .inl (fun _ => 0))), (q33, .inl (cI, 120, .inl (fun _ => 0))), (q41, .inl (cI, 60, .inl (fun _ => 0)))] := hD.sub [0, 1, 2, 3, 4, 5] (by decide) rfl
  exact W.vret hx hb hr (fun t ht hW => ⟨⟨[(h, .inr (2, [.ref q8, .ref q16, .ref q25, .ref q33, .ref q41, .int 0])), (q8, .inl (cI, 7680, .inl (fun _ => 0))), (q16, .inl (cI, 120, .inl (fun _ => 0))), (q25, .inl (cI, 7680, .inl (fun _ => 0))), (q33, .inl (cI, 120, .inl (fun _ => 0))), (q41, .inl (cI, 60, .inl (fun _ => 0)))], rfl, ⟨(fun k => match k with | 0 => q8 | 1 => q16 | 2 => q25 | 3 => q33 | 4 => q41 | _ => 0), rfl⟩, by rw [ht]; exact hP9, hD9⟩, hS.F ht⟩) hS.2.2 dWI_init_46
set_option maxHeartbeats 4000000 in
set_option maxRecDepth 100000 in
theorem zc_Protocol (l : Launch) (dC : Nat → ClassId) (dI : Nat → Nat → Nat) (cI cZ cJ cA : ClassId) (a0 : Array Value) (s0 : State) (h g1 g2 g3 sz : Nat) : Met l yPR_init [Cond.code yPR_init bPR_init 4 none] ({ frames := 1, cells := 9, slots := 6336, locals := 12 } : Room) (zP zCl dC dI (zTZ cI cZ cJ cA) a0 s0 [.ref h, .ref g1, .ref g2, .ref g3] sz [(h, .inr (4, [.null, .null, .null, .null, .null, .null, .null, .null, .null, .null, .null, .null, .int 0, .int 0]))]) (zQw zCl dC dI (fun wo => ∃ (c : Nat → Nat), wo = [(h, .inr (4, [.ref g1, .ref g2, .ref g3, .ref (c 0), .ref (c 1), .ref (c 2), .ref (c 3), .ref (c 4), .ref (c 5), .ref (c 6), .ref (c 7), .ref (c 8), .int 0, .int 1])), ((c 0), .inl (cI, 120, .inl (fun _ => 0))), ((c 1), .inl (cI, 288, .inl (fun _ => 0))), ((c 2), .inl (cI, 288, .inl (fun _ => 0))), ((c 3), .inl (cI, 6, .inl (fun _ => 0))), ((c 4), .inl (cI, 6, .inl (fun _ => 0))), ((c 5), .inl (cI, 60, .inl (fun _ => 0))), ((c 6), .inl (cI, 48, .inl (fun _ => 0))), ((c 7), .inl (cI, 5472, .inl (fun _ => 0))), ((c 8), .inl (cI, 48, .inl (fun _ => 0)))]) (va_A [(h, .inr (4, [.null, .null, .null, .null, .null, .null, .null, .null, .null, .null, .null, .null, .int 0, .int 0]))] sz)) 9 6336 (va_A [(h, .inr (4, [.null, .null, .null, .null, .null, .null, .null, .null, .null, .null, .null, .null, .int 0, .int 0]))] sz) := by
  refine Met.ofW (cc := bPR_init) (maxL := 4) (ret := none) (by decide) rfl ?_
  intro p e s m args below meth c s₁ B hml hv
  obtain ⟨rfl, hsz, hP, hK, hD0, hB⟩ := hv
  have hx := B.exec
  have hb := B.bytes
  have hr := B.returns
  have hown : s.vm.findClass "RingGuard$Protocol" = some m.cls := findClass_of_methodNamed B.named
  have hlocks := B.notSynchronized
  have hin : meth.name = "<init>" := (name_of_methodNamed B.named B.method).1
  subst hsz
  have hD := hD0.self (sz := s.heap.size)
  have hA0 := zA0 hD0 hB
  generalize hAe : va_A [(h, .inr (4, [.null, .null, .null, .null, .null, .null, .null, .null, .null, .null, .null, .null, .int 0, .int 0]))] s.heap.size = A at hD hA0 ⊢
  have hAD := hA0
  have hA : ∀ q : Nat, s.heap.size ≤ q → A q := fun q h => by rw [← hAe]; exact Or.inr h
  have hS : va_S A s.heap s.heap [] := va_S.rf
  have hP : va_P (dC, dI) zCl [(h, .inr (4, [.null, .null, .null, .null, .null, .null, .null, .null, .null, .null, .null, .null, .int 0, .int 0]))] s.heap := hP
  have hl := lv_entry ([.ref h, .ref g1, .ref g2, .ref g3]) (n := 4) (Nat.le_of_ble_eq_true rfl)
  rw [lg_entry_eq]
  generalize (lg_sl ([.ref h, .ref g1, .ref g2, .ref g3]) ++ List.replicate (4 - (lg_sl ([.ref h, .ref g1, .ref g2, .ref g3])).length) Slot.unset).toArray = ls at hl ⊢
  have hl : lv_has ls 4 [(0, .ref h), (1, .ref g1), (2, .ref g2), (3, .ref g3)] := hl
  refine lv_aload_n hx hb dPR_init_0 rfl (lv_at hl 0 rfl) ?_
  refine W.objInit hx hb hown (hB.word (zm1 k1_129) rfl) (hB.word (zm1 k1_23) rfl) (hB.word (zm1 k1_24) rfl) rfl (by rw [hml]; exact hl.1) rfl dPR_init_1 (Nat.le_of_ble_eq_true rfl) (Nat.le_of_ble_eq_true rfl) ?_
  refine W.eq (g2 := F0 m 4 ls []) rfl ?_
  refine lv_aload_n hx hb dPR_init_4 rfl (lv_at hl 0 rfl) ?_
  refine lv_bipush (v := 120) hx hb dPR_init_5 (by decide) ?_
  refine znew (a0 := (120, .inl (fun _ => 0))) hx hb (zac_int hB) rfl (fun _ h9 => by cases h9) hK 0 rfl hP hD hS hA (fun _ => rfl) (by decide) (by decide) (by decide) (Nat.le_of_ble_eq_true rfl) (Nat.le_of_ble_eq_true rfl) dPR_init_7 (fun q7 H hP hD hS => ?_)
  have hP : va_P (dC, dI) zCl [(h, .inr (4, [.null, .null, .null, .null, .null, .null, .null, .null, .null, .null, .null, .null, .int 0, .int 0])), (q7, .inl (cI, 120, .inl (fun _ => 0)))] H := hP
  have hD : va_D A [(h, .inr (4, [.null, .null, .null, .null, .null, .null, .null, .null, .null, .null, .null, .null, .int 0, .int 0])), (q7, .inl (cI, 120, .inl (fun _ => 0)))] := hD
  have hu4 : ∀ w ∈ u_ws "RingGuard$Protocol" T_PR 14, w.before ([.ref h, .ref g1, .ref g2, .ref g3] : List Value).toArray s = true := hB.words zU_PR
  refine va_putF (D := (dC, dI)) (ci := 4) (v := .ref q7) (ty := .array .int) (C := "RingGuard$Protocol") (T := T_PR) (N := 14) hx hb hu4 zid ty_PR ok_PR nm_PR hown hK hP hD hS 0 rfl rfl 3 (by decide) (hB.word (zm1 k1_133) rfl) (fun _ h9 => h9) rfl hin rfl (by decide +kernel) rfl rfl (Nat.le_of_ble_eq_true rfl) dPR_init_9 (fun H locs hP hD hS => ?_)
  have hP : va_P (dC, dI) zCl [(h, .inr (4, [.null, .null, .null, .ref q7, .null, .null, .null, .null, .null, .null, .null, .null, .int 0, .int 0])), (q7, .inl (cI, 120, .inl (fun _ => 0)))] H := hP
  have hD : va_D A [(h, .inr (4, [.null, .null, .null, .ref q7, .null, .null, .null, .null, .null, .null, .null, .null, .int 0, .int 0])), (q7, .inl (cI, 120, .inl (fun _ => 0)))] := hD
  refine lv_aload_n hx hb dPR_init_12 rfl (lv_at hl 0 rfl) ?_
  refine lv_sipush (v := 288) hx hb dPR_init_13 (by decide) ?_
  refine znew (a0 := (288, .inl (fun _ => 0))) hx hb (zac_int hB) rfl (fun _ h9 => by cases h9) hK 0 rfl hP hD hS hA (fun _ => rfl) (by decide) (by decide) (by decide) (Nat.le_of_ble_eq_true rfl) (Nat.le_of_ble_eq_true rfl) dPR_init_16 (fun q16 H hP hD hS => ?_)
  have hP : va_P (dC, dI) zCl [(h, .inr (4, [.null, .null, .null, .ref q7, .null, .null, .null, .null, .null, .null, .null, .null, .int 0, .int 0])), (q7, .inl (cI, 120, .inl (fun _ => 0))), (q16, .inl (cI, 288, .inl (fun _ => 0)))] H := hP
  have hD : va_D A [(h, .inr (4, [.null, .null, .null, .ref q7, .null, .null, .null, .null, .null, .null, .null, .null, .int 0, .int 0])), (q7, .inl (cI, 120, .inl (fun _ => 0))), (q16, .inl (cI, 288, .inl (fun _ => 0)))] := hD
  refine va_putF (D := (dC, dI)) (ci := 4) (v := .ref q16) (ty := .array .int) (C := "RingGuard$Protocol") (T := T_PR) (N := 14) hx hb hu4 zid ty_PR ok_PR nm_PR hown hK hP hD hS 0 rfl rfl 4 (by decide) (hB.word (zm1 k1_135) rfl) (fun _ h9 => h9) rfl hin rfl (by decide +kernel) rfl rfl (Nat.le_of_ble_eq_true rfl) dPR_init_18 (fun H locs hP hD hS => ?_)
  have hP : va_P (dC, dI) zCl [(h, .inr (4, [.null, .null, .null, .ref q7, .ref q16, .null, .null, .null, .null, .null, .null, .null, .int 0, .int 0])), (q7, .inl (cI, 120, .inl (fun _ => 0))), (q16, .inl (cI, 288, .inl (fun _ => 0)))] H := hP
  have hD : va_D A [(h, .inr (4, [.null, .null, .null, .ref q7, .ref q16, .null, .null, .null, .null, .null, .null, .null, .int 0, .int 0])), (q7, .inl (cI, 120, .inl (fun _ => 0))), (q16, .inl (cI, 288, .inl (fun _ => 0)))] := hD
  refine lv_aload_n hx hb dPR_init_21 rfl (lv_at hl 0 rfl) ?_
  refine lv_sipush (v := 288) hx hb dPR_init_22 (by decide) ?_
  refine znew (a0 := (288, .inl (fun _ => 0))) hx hb (zac_int hB) rfl (fun _ h9 => by cases h9) hK 0 rfl hP hD hS hA (fun _ => rfl) (by decide) (by decide) (by decide) (Nat.le_of_ble_eq_true rfl) (Nat.le_of_ble_eq_true rfl) dPR_init_25 (fun q25 H hP hD hS => ?_)
  have hP : va_P (dC, dI) zCl [(h, .inr (4, [.null, .null, .null, .ref q7, .ref q16, .null, .null, .null, .null, .null, .null, .null, .int 0, .int 0])), (q7, .inl (cI, 120, .inl (fun _ => 0))), (q16, .inl (cI, 288, .inl (fun _ => 0))), (q25, .inl (cI, 288, .inl (fun _ => 0)))] H := hP
  have hD : va_D A [(h, .inr (4, [.null, .null, .null, .ref q7, .ref q16, .null, .null, .null, .null, .null, .null, .null, .int 0, .int 0])), (q7, .inl (cI, 120, .inl (fun _ => 0))), (q16, .inl (cI, 288, .inl (fun _ => 0))), (q25, .inl (cI, 288, .inl (fun _ => 0)))] := hD
  refine va_putF (D := (dC, dI)) (ci := 4) (v := .ref q25) (ty := .array .int) (C := "RingGuard$Protocol") (T := T_PR) (N := 14) hx hb hu4 zid ty_PR ok_PR nm_PR hown hK hP hD hS 0 rfl rfl 5 (by decide) (hB.word (zm1 k1_137) rfl) (fun _ h9 => h9) rfl hin rfl (by decide +kernel) rfl rfl (Nat.le_of_ble_eq_true rfl) dPR_init_27 (fun H locs hP hD hS => ?_)
  have hP : va_P (dC, dI) zCl [(h, .inr (4, [.null, .null, .null, .ref q7, .ref q16, .ref q25, .null, .null, .null, .null, .null, .null, .int 0, .int 0])), (q7, .inl (cI, 120, .inl (fun _ => 0))), (q16, .inl (cI, 288, .inl (fun _ => 0))), (q25, .inl (cI, 288, .inl (fun _ => 0)))] H := hP
  have hD : va_D A [(h, .inr (4, [.null, .null, .null, .ref q7, .ref q16, .ref q25, .null, .null, .null, .null, .null, .null, .int 0, .int 0])), (q7, .inl (cI, 120, .inl (fun _ => 0))), (q16, .inl (cI, 288, .inl (fun _ => 0))), (q25, .inl (cI, 288, .inl (fun _ => 0)))] := hD
  refine lv_aload_n hx hb dPR_init_30 rfl (lv_at hl 0 rfl) ?_
  refine lv_bipush (v := 6) hx hb dPR_init_31 (by decide) ?_
  refine znew (a0 := (6, .inl (fun _ => 0))) hx hb (zac_int hB) rfl (fun _ h9 => by cases h9) hK 0 rfl hP hD hS hA (fun _ => rfl) (by decide) (by decide) (by decide) (Nat.le_of_ble_eq_true rfl) (Nat.le_of_ble_eq_true rfl) dPR_init_33 (fun q33 H hP hD hS => ?_)
  have hP : va_P (dC, dI) zCl [(h, .inr (4, [.null, .null, .null, .ref q7, .ref q16, .ref q25, .null, .null, .null, .null, .null, .null, .int 0, .int 0])), (q7, .inl (cI, 120, .inl (fun _ => 0))), (q16, .inl (cI, 288, .inl (fun _ => 0))), (q25, .inl (cI, 288, .inl (fun _ => 0))), (q33, .inl (cI, 6, .inl (fun _ => 0)))] H := hP
  have hD : va_D A [(h, .inr (4, [.null, .null, .null, .ref q7, .ref q16, .ref q25, .null, .null, .null, .null, .null, .null, .int 0, .int 0])), (q7, .inl (cI, 120, .inl (fun _ => 0))), (q16, .inl (cI, 288, .inl (fun _ => 0))), (q25, .inl (cI, 288, .inl (fun _ => 0))), (q33, .inl (cI, 6, .inl (fun _ => 0)))] := hD
  refine va_putF (D := (dC, dI)) (ci := 4) (v := .ref q33) (ty := .array .int) (C := "RingGuard$Protocol") (T := T_PR) (N := 14) hx hb hu4 zid ty_PR ok_PR nm_PR hown hK hP hD hS 0 rfl rfl 6 (by decide) (hB.word (zm1 k1_138) rfl) (fun _ h9 => h9) rfl hin rfl (by decide +kernel) rfl rfl (Nat.le_of_ble_eq_true rfl) dPR_init_35 (fun H locs hP hD hS => ?_)
  have hP : va_P (dC, dI) zCl [(h, .inr (4, [.null, .null, .null, .ref q7, .ref q16, .ref q25, .ref q33, .null, .null, .null, .null, .null, .int 0, .int 0])), (q7, .inl (cI, 120, .inl (fun _ => 0))), (q16, .inl (cI, 288, .inl (fun _ => 0))), (q25, .inl (cI, 288, .inl (fun _ => 0))), (q33, .inl (cI, 6, .inl (fun _ => 0)))] H := hP
  have hD : va_D A [(h, .inr (4, [.null, .null, .null, .ref q7, .ref q16, .ref q25, .ref q33, .null, .null, .null, .null, .null, .int 0, .int 0])), (q7, .inl (cI, 120, .inl (fun _ => 0))), (q16, .inl (cI, 288, .inl (fun _ => 0))), (q25, .inl (cI, 288, .inl (fun _ => 0))), (q33, .inl (cI, 6, .inl (fun _ => 0)))] := hD
  refine lv_aload_n hx hb dPR_init_38 rfl (lv_at hl 0 rfl) ?_
  refine lv_bipush (v := 6) hx hb dPR_init_39 (by decide) ?_
  refine znew (a0 := (6, .inl (fun _ => 0))) hx hb (zac_int hB) rfl (fun _ h9 => by cases h9) hK 0 rfl hP hD hS hA (fun _ => rfl) (by decide) (by decide) (by decide) (Nat.le_of_ble_eq_true rfl) (Nat.le_of_ble_eq_true rfl) dPR_init_41 (fun q41 H hP hD hS => ?_)
  have hP : va_P (dC, dI) zCl [(h, .inr (4, [.null, .null, .null, .ref q7, .ref q16, .ref q25, .ref q33, .null, .null, .null, .null, .null, .int 0, .int 0])), (q7, .inl (cI, 120, .inl (fun _ => 0))), (q16, .inl (cI, 288, .inl (fun _ => 0))), (q25, .inl (cI, 288, .inl (fun _ => 0))), (q33, .inl (cI, 6, .inl (fun _ => 0))), (q41, .inl (cI, 6, .inl (fun _ => 0)))] H := hP
  have hD : va_D A [(h, .inr (4, [.null, .null, .null, .ref q7, .ref q16, .ref q25, .ref q33, .null, .null, .null, .null, .null, .int 0, .int 0])), (q7, .inl (cI, 120, .inl (fun _ => 0))), (q16, .inl (cI, 288, .inl (fun _ => 0))), (q25, .inl (cI, 288, .inl (fun _ => 0))), (q33, .inl (cI, 6, .inl (fun _ => 0))), (q41, .inl (cI, 6, .inl (fun _ => 0)))] := hD
  refine va_putF (D := (dC, dI)) (ci := 4) (v := .ref q41) (ty := .array .int) (C := "RingGuard$Protocol") (T := T_PR) (N := 14) hx hb hu4 zid ty_PR ok_PR nm_PR hown hK hP hD hS 0 rfl rfl 7 (by decide) (hB.word (zm1 k1_140) rfl) (fun _ h9 => h9) rfl hin rfl (by decide +kernel) rfl rfl (Nat.le_of_ble_eq_true rfl) dPR_init_43 (fun H locs hP hD hS => ?_)
  have hP : va_P (dC, dI) zCl [(h, .inr (4, [.null, .null, .null, .ref q7, .ref q16, .ref q25, .ref q33, .ref q41, .null, .null, .null, .null, .int 0, .int 0])), (q7, .inl (cI, 120, .inl (fun _ => 0))), (q16, .inl (cI, 288, .inl (fun _ => 0))), (q25, .inl (cI, 288, .inl (fun _ => 0))), (q33, .inl (cI, 6, .inl (fun _ => 0))), (q41, .inl (cI, 6, .inl (fun _ => 0)))] H := hP
  have hD : va_D A [(h, .inr (4, [.null, .null, .null, .ref q7, .ref q16, .ref q25, .ref q33, .ref q41, .null, .null, .null, .null, .int 0, .int 0])), (q7, .inl (cI, 120, .inl (fun _ => 0))), (q16, .inl (cI, 288, .inl (fun _ => 0))), (q25, .inl (cI, 288, .inl (fun _ => 0))), (q33, .inl (cI, 6, .inl (fun _ => 0))), (q41, .inl (cI, 6, .inl (fun _ => 0)))] := hD
  refine lv_aload_n hx hb dPR_init_46 rfl (lv_at hl 0 rfl) ?_
  refine lv_bipush (v := 60) hx hb dPR_init_47 (by decide) ?_
  refine znew (a0 := (60, .inl (fun _ => 0))) hx hb (zac_int hB) rfl (fun _ h9 => by cases h9) hK 0 rfl hP hD hS hA (fun _ => rfl) (by decide) (by decide) (by decide) (Nat.le_of_ble_eq_true rfl) (Nat.le_of_ble_eq_true rfl) dPR_init_49 (fun q49 H hP hD hS => ?_)
  have hP : va_P (dC, dI) zCl [(h, .inr (4, [.null, .null, .null, .ref q7, .ref q16, .ref q25, .ref q33, .ref q41, .null, .null, .null, .null, .int 0, .int 0])), (q7, .inl (cI, 120, .inl (fun _ => 0))), (q16, .inl (cI, 288, .inl (fun _ => 0))), (q25, .inl (cI, 288, .inl (fun _ => 0))), (q33, .inl (cI, 6, .inl (fun _ => 0))), (q41, .inl (cI, 6, .inl (fun _ => 0))), (q49, .inl (cI, 60, .inl (fun _ => 0)))] H := hP
  have hD : va_D A [(h, .inr (4, [.null, .null, .null, .ref q7, .ref q16, .ref q25, .ref q33, .ref q41, .null, .null, .null, .null, .int 0, .int 0])), (q7, .inl (cI, 120, .inl (fun _ => 0))), (q16, .inl (cI, 288, .inl (fun _ => 0))), (q25, .inl (cI, 288, .inl (fun _ => 0))), (q33, .inl (cI, 6, .inl (fun _ => 0))), (q41, .inl (cI, 6, .inl (fun _ => 0))), (q49, .inl (cI, 60, .inl (fun _ => 0)))] := hD
  refine va_putF (D := (dC, dI)) (ci := 4) (v := .ref q49) (ty := .array .int) (C := "RingGuard$Protocol") (T := T_PR) (N := 14) hx hb hu4 zid ty_PR ok_PR nm_PR hown hK hP hD hS 0 rfl rfl 8 (by decide) (hB.word (zm1 k1_141) rfl) (fun _ h9 => h9) rfl hin rfl (by decide +kernel) rfl rfl (Nat.le_of_ble_eq_true rfl) dPR_init_51 (fun H locs hP hD hS => ?_)
  have hP : va_P (dC, dI) zCl [(h, .inr (4, [.null, .null, .null, .ref q7, .ref q16, .ref q25, .ref q33, .ref q41, .ref q49, .null, .null, .null, .int 0, .int 0])), (q7, .inl (cI, 120, .inl (fun _ => 0))), (q16, .inl (cI, 288, .inl (fun _ => 0))), (q25, .inl (cI, 288, .inl (fun _ => 0))), (q33, .inl (cI, 6, .inl (fun _ => 0))), (q41, .inl (cI, 6, .inl (fun _ => 0))), (q49, .inl (cI, 60, .inl (fun _ => 0)))] H := hP
  have hD : va_D A [(h, .inr (4, [.null, .null, .null, .ref q7, .ref q16, .ref q25, .ref q33, .ref q41, .ref q49, .null, .null, .null, .int 0, .int 0])), (q7, .inl (cI, 120, .inl (fun _ => 0))), (q16, .inl (cI, 288, .inl (fun _ => 0))), (q25, .inl (cI, 288, .inl (fun _ => 0))), (q33, .inl (cI, 6, .inl (fun _ => 0))), (q41, .inl (cI, 6, .inl (fun _ => 0))), (q49, .inl (cI, 60, .inl (fun _ => 0)))] := hD
  refine lv_aload_n hx hb dPR_init_54 rfl (lv_at hl 0 rfl) ?_
  refine lv_bipush (v := 48) hx hb dPR_init_55 (by decide) ?_
  refine znew (a0 := (48, .inl (fun _ => 0))) hx hb (zac_int hB) rfl (fun _ h9 => by cases h9) hK 0 rfl hP hD hS hA (fun _ => rfl) (by decide) (by decide) (by decide) (Nat.le_of_ble_eq_true rfl) (Nat.le_of_ble_eq_true rfl) dPR_init_57 (fun q57 H hP hD hS => ?_)
  have hP : va_P (dC, dI) zCl [(h, .inr (4, [.null, .null, .null, .ref q7, .ref q16, .ref q25, .ref q33, .ref q41, .ref q49, .null, .null, .null, .int 0, .int 0])), (q7, .inl (cI, 120, .inl (fun _ => 0))), (q16, .inl (cI, 288, .inl (fun _ => 0))), (q25, .inl (cI, 288, .inl (fun _ => 0))), (q33, .inl (cI, 6, .inl (fun _ => 0))), (q41, .inl (cI, 6, .inl (fun _ => 0))), (q49, .inl (cI, 60, .inl (fun _ => 0))), (q57, .inl (cI, 48, .inl (fun _ => 0)))] H := hP
  have hD : va_D A [(h, .inr (4, [.null, .null, .null, .ref q7, .ref q16, .ref q25, .ref q33, .ref q41, .ref q49, .null, .null, .null, .int 0, .int 0])), (q7, .inl (cI, 120, .inl (fun _ => 0))), (q16, .inl (cI, 288, .inl (fun _ => 0))), (q25, .inl (cI, 288, .inl (fun _ => 0))), (q33, .inl (cI, 6, .inl (fun _ => 0))), (q41, .inl (cI, 6, .inl (fun _ => 0))), (q49, .inl (cI, 60, .inl (fun _ => 0))), (q57, .inl (cI, 48, .inl (fun _ => 0)))] := hD
  refine va_putF (D := (dC, dI)) (ci := 4) (v := .ref q57) (ty := .array .int) (C := "RingGuard$Protocol") (T := T_PR) (N := 14) hx hb hu4 zid ty_PR ok_PR nm_PR hown hK hP hD hS 0 rfl rfl 9 (by decide) (hB.word (zm1 k1_142) rfl) (fun _ h9 => h9) rfl hin rfl (by decide +kernel) rfl rfl (Nat.le_of_ble_eq_true rfl) dPR_init_59 (fun H locs hP hD hS => ?_)
  have hP : va_P (dC, dI) zCl [(h, .inr (4, [.null, .null, .null, .ref q7, .ref q16, .ref q25, .ref q33, .ref q41, .ref q49, .ref q57, .null, .null, .int 0, .int 0])), (q7, .inl (cI, 120, .inl (fun _ => 0))), (q16, .inl (cI, 288, .inl (fun _ => 0))), (q25, .inl (cI, 288, .inl (fun _ => 0))), (q33, .inl (cI, 6, .inl (fun _ => 0))), (q41, .inl (cI, 6, .inl (fun _ => 0))), (q49, .inl (cI, 60, .inl (fun _ => 0))), (q57, .inl (cI, 48, .inl (fun _ => 0)))] H := hP
  have hD : va_D A [(h, .inr (4, [.null, .null, .null, .ref q7, .ref q16, .ref q25, .ref q33, .ref q41, .ref q49, .ref q57, .null, .null, .int 0, .int 0])), (q7, .inl (cI, 120, .inl (fun _ => 0))), (q16, .inl (cI, 288, .inl (fun _ => 0))), (q25, .inl (cI, 288, .inl (fun _ => 0))), (q33, .inl (cI, 6, .inl (fun _ => 0))), (q41, .inl (cI, 6, .inl (fun _ => 0))), (q49, .inl (cI, 60, .inl (fun _ => 0))), (q57, .inl (cI, 48, .inl (fun _ => 0)))] := hD
  refine lv_aload_n hx hb dPR_init_62 rfl (lv_at hl 0 rfl) ?_
  refine lv_sipush (v := 5472) hx hb dPR_init_63 (by decide) ?_
  refine znew (a0 := (5472, .inl (fun _ => 0))) hx hb (zac_int hB) rfl (fun _ h9 => by cases h9) hK 0 rfl hP hD hS hA (fun _ => rfl) (by decide) (by decide) (by decide) (Nat.le_of_ble_eq_true rfl) (Nat.le_of_ble_eq_true rfl) dPR_init_66 (fun q66 H hP hD hS => ?_)
  have hP : va_P (dC, dI) zCl [(h, .inr (4, [.null, .null, .null, .ref q7, .ref q16, .ref q25, .ref q33, .ref q41, .ref q49, .ref q57, .null, .null, .int 0, .int 0])), (q7, .inl (cI, 120, .inl (fun _ => 0))), (q16, .inl (cI, 288, .inl (fun _ => 0))), (q25, .inl (cI, 288, .inl (fun _ => 0))), (q33, .inl (cI, 6, .inl (fun _ => 0))), (q41, .inl (cI, 6, .inl (fun _ => 0))), (q49, .inl (cI, 60, .inl (fun _ => 0))), (q57, .inl (cI, 48, .inl (fun _ => 0))), (q66, .inl (cI, 5472, .inl (fun _ => 0)))] H := hP
  have hD : va_D A [(h, .inr (4, [.null, .null, .null, .ref q7, .ref q16, .ref q25, .ref q33, .ref q41, .ref q49, .ref q57, .null, .null, .int 0, .int 0])), (q7, .inl (cI, 120, .inl (fun _ => 0))), (q16, .inl (cI, 288, .inl (fun _ => 0))), (q25, .inl (cI, 288, .inl (fun _ => 0))), (q33, .inl (cI, 6, .inl (fun _ => 0))), (q41, .inl (cI, 6, .inl (fun _ => 0))), (q49, .inl (cI, 60, .inl (fun _ => 0))), (q57, .inl (cI, 48, .inl (fun _ => 0))), (q66, .inl (cI, 5472, .inl (fun _ => 0)))] := hD
  refine va_putF (D := (dC, dI)) (ci := 4) (v := .ref q66) (ty := .array .int) (C := "RingGuard$Protocol") (T := T_PR) (N := 14) hx hb hu4 zid ty_PR ok_PR nm_PR hown hK hP hD hS 0 rfl rfl 10 (by decide) (hB.word (zm1 k1_143) rfl) (fun _ h9 => h9) rfl hin rfl (by decide +kernel) rfl rfl (Nat.le_of_ble_eq_true rfl) dPR_init_68 (fun H locs hP hD hS => ?_)
  have hP : va_P (dC, dI) zCl [(h, .inr (4, [.null, .null, .null, .ref q7, .ref q16, .ref q25, .ref q33, .ref q41, .ref q49, .ref q57, .ref q66, .null, .int 0, .int 0])), (q7, .inl (cI, 120, .inl (fun _ => 0))), (q16, .inl (cI, 288, .inl (fun _ => 0))), (q25, .inl (cI, 288, .inl (fun _ => 0))), (q33, .inl (cI, 6, .inl (fun _ => 0))), (q41, .inl (cI, 6, .inl (fun _ => 0))), (q49, .inl (cI, 60, .inl (fun _ => 0))), (q57, .inl (cI, 48, .inl (fun _ => 0))), (q66, .inl (cI, 5472, .inl (fun _ => 0)))] H := hP
  have hD : va_D A [(h, .inr (4, [.null, .null, .null, .ref q7, .ref q16, .ref q25, .ref q33, .ref q41, .ref q49, .ref q57, .ref q66, .null, .int 0, .int 0])), (q7, .inl (cI, 120, .inl (fun _ => 0))), (q16, .inl (cI, 288, .inl (fun _ => 0))), (q25, .inl (cI, 288, .inl (fun _ => 0))), (q33, .inl (cI, 6, .inl (fun _ => 0))), (q41, .inl (cI, 6, .inl (fun _ => 0))), (q49, .inl (cI, 60, .inl (fun _ => 0))), (q57, .inl (cI, 48, .inl (fun _ => 0))), (q66, .inl (cI, 5472, .inl (fun _ => 0)))] := hD
  refine lv_aload_n hx hb dPR_init_71 rfl (lv_at hl 0 rfl) ?_
  refine lv_bipush (v := 48) hx hb dPR_init_72 (by decide) ?_
  refine znew (a0 := (48, .inl (fun _ => 0))) hx hb (zac_int hB) rfl (fun _ h9 => by cases h9) hK 0 rfl hP hD hS hA (fun _ => rfl) (by decide) (by decide) (by decide) (Nat.le_of_ble_eq_true rfl) (Nat.le_of_ble_eq_true rfl) dPR_init_74 (fun q74 H hP hD hS => ?_)
  have hP : va_P (dC, dI) zCl [(h, .inr (4, [.null, .null, .null, .ref q7, .ref q16, .ref q25, .ref q33, .ref q41, .ref q49, .ref q57, .ref q66, .null, .int 0, .int 0])), (q7, .inl (cI, 120, .inl (fun _ => 0))), (q16, .inl (cI, 288, .inl (fun _ => 0))), (q25, .inl (cI, 288, .inl (fun _ => 0))), (q33, .inl (cI, 6, .inl (fun _ => 0))), (q41, .inl (cI, 6, .inl (fun _ => 0))), (q49, .inl (cI, 60, .inl (fun _ => 0))), (q57, .inl (cI, 48, .inl (fun _ => 0))), (q66, .inl (cI, 5472, .inl (fun _ => 0))), (q74, .inl (cI, 48, .inl (fun _ => 0)))] H := hP
  have hD : va_D A [(h, .inr (4, [.null, .null, .null, .ref q7, .ref q16, .ref q25, .ref q33, .ref q41, .ref q49, .ref q57, .ref q66, .null, .int 0, .int 0])), (q7, .inl (cI, 120, .inl (fun _ => 0))), (q16, .inl (cI, 288, .inl (fun _ => 0))), (q25, .inl (cI, 288, .inl (fun _ => 0))), (q33, .inl (cI, 6, .inl (fun _ => 0))), (q41, .inl (cI, 6, .inl (fun _ => 0))), (q49, .inl (cI, 60, .inl (fun _ => 0))), (q57, .inl (cI, 48, .inl (fun _ => 0))), (q66, .inl (cI, 5472, .inl (fun _ => 0))), (q74, .inl (cI, 48, .inl (fun _ => 0)))] := hD
  refine va_putF (D := (dC, dI)) (ci := 4) (v := .ref q74) (ty := .array .int) (C := "RingGuard$Protocol") (T := T_PR) (N := 14) hx hb hu4 zid ty_PR ok_PR nm_PR hown hK hP hD hS 0 rfl rfl 11 (by decide) (hB.word (zm1 k1_144) rfl) (fun _ h9 => h9) rfl hin rfl (by decide +kernel) rfl rfl (Nat.le_of_ble_eq_true rfl) dPR_init_76 (fun H locs hP hD hS => ?_)
  have hP : va_P (dC, dI) zCl [(h, .inr (4, [.null, .null, .null, .ref q7, .ref q16, .ref q25, .ref q33, .ref q41, .ref q49, .ref q57, .ref q66, .ref q74, .int 0, .int 0])), (q7, .inl (cI, 120, .inl (fun _ => 0))), (q16, .inl (cI, 288, .inl (fun _ => 0))), (q25, .inl (cI, 288, .inl (fun _ => 0))), (q33, .inl (cI, 6, .inl (fun _ => 0))), (q41, .inl (cI, 6, .inl (fun _ => 0))), (q49, .inl (cI, 60, .inl (fun _ => 0))), (q57, .inl (cI, 48, .inl (fun _ => 0))), (q66, .inl (cI, 5472, .inl (fun _ => 0))), (q74, .inl (cI, 48, .inl (fun _ => 0)))] H := hP
  have hD : va_D A [(h, .inr (4, [.null, .null, .null, .ref q7, .ref q16, .ref q25, .ref q33, .ref q41, .ref q49, .ref q57, .ref q66, .ref q74, .int 0, .int 0])), (q7, .inl (cI, 120, .inl (fun _ => 0))), (q16, .inl (cI, 288, .inl (fun _ => 0))), (q25, .inl (cI, 288, .inl (fun _ => 0))), (q33, .inl (cI, 6, .inl (fun _ => 0))), (q41, .inl (cI, 6, .inl (fun _ => 0))), (q49, .inl (cI, 60, .inl (fun _ => 0))), (q57, .inl (cI, 48, .inl (fun _ => 0))), (q66, .inl (cI, 5472, .inl (fun _ => 0))), (q74, .inl (cI, 48, .inl (fun _ => 0)))] := hD
  refine lv_aload_n hx hb dPR_init_79 rfl (lv_at hl 0 rfl) ?_
  refine lv_iconst (v := 1) hx hb dPR_init_80 (by decide) ?_
  refine va_put (D := (dC, dI)) (ci := 4) (v := .int 1) (ty := .boolean) (C := "RingGuard$Protocol") (T := T_PR) (N := 14) hx hb hu4 zid ty_PR ok_PR nm_PR hown hK hP hD hS 0 rfl rfl 13 (by decide) (hB.word (zm1 k1_148) rfl) (fun _ h9 => h9) rfl (by decide +kernel) rfl rfl (Nat.le_of_ble_eq_true rfl) dPR_init_81 (fun H locs hP hD hS => ?_)
  have hP : va_P (dC, dI) zCl [(h, .inr (4, [.null, .null, .null, .ref q7, .ref q16, .ref q25, .ref q33, .ref q41, .ref q49, .ref q57, .ref q66, .ref q74, .int 0, .int 1])), (q7, .inl (cI, 120, .inl (fun _ => 0))), (q16, .inl (cI, 288, .inl (fun _ => 0))), (q25, .inl (cI, 288, .inl (fun _ => 0))), (q33, .inl (cI, 6, .inl (fun _ => 0))), (q41, .inl (cI, 6, .inl (fun _ => 0))), (q49, .inl (cI, 60, .inl (fun _ => 0))), (q57, .inl (cI, 48, .inl (fun _ => 0))), (q66, .inl (cI, 5472, .inl (fun _ => 0))), (q74, .inl (cI, 48, .inl (fun _ => 0)))] H := hP
  have hD : va_D A [(h, .inr (4, [.null, .null, .null, .ref q7, .ref q16, .ref q25, .ref q33, .ref q41, .ref q49, .ref q57, .ref q66, .ref q74, .int 0, .int 1])), (q7, .inl (cI, 120, .inl (fun _ => 0))), (q16, .inl (cI, 288, .inl (fun _ => 0))), (q25, .inl (cI, 288, .inl (fun _ => 0))), (q33, .inl (cI, 6, .inl (fun _ => 0))), (q41, .inl (cI, 6, .inl (fun _ => 0))), (q49, .inl (cI, 60, .inl (fun _ => 0))), (q57, .inl (cI, 48, .inl (fun _ => 0))), (q66, .inl (cI, 5472, .inl (fun _ => 0))), (q74, .inl (cI, 48, .inl (fun _ => 0)))] := hD
  refine lv_aload_n hx hb dPR_init_84 rfl (lv_at hl 0 rfl) ?_
  refine lv_aload_n hx hb dPR_init_85 rfl (lv_at hl 1 rfl) ?_
  refine va_putF (D := (dC, dI)) (ci := 4) (v := .ref g1) (ty := .object "RingGuard$Plan") (C := "RingGuard$Protocol") (T := T_PR) (N := 14) hx hb hu4 zid ty_PR ok_PR nm_PR hown hK hP hD hS 0 rfl rfl 0 (by decide) (hB.word (zm1 k1_130) rfl) (fun _ h9 => h9) rfl hin rfl (by decide +kernel) rfl rfl (Nat.le_of_ble_eq_true rfl) dPR_init_86 (fun H locs hP hD hS => ?_)
  have hP : va_P (dC, dI) zCl [(h, .inr (4, [.ref g1, .null, .null, .ref q7, .ref q16, .ref q25, .ref q33, .ref q41, .ref q49, .ref q57, .ref q66, .ref q74, .int 0, .int 1])), (q7, .inl (cI, 120, .inl (fun _ => 0))), (q16, .inl (cI, 288, .inl (fun _ => 0))), (q25, .inl (cI, 288, .inl (fun _ => 0))), (q33, .inl (cI, 6, .inl (fun _ => 0))), (q41, .inl (cI, 6, .inl (fun _ => 0))), (q49, .inl (cI, 60, .inl (fun _ => 0))), (q57, .inl (cI, 48, .inl (fun _ => 0))), (q66, .inl (cI, 5472, .inl (fun _ => 0))), (q74, .inl (cI, 48, .inl (fun _ => 0)))] H := hP
  have hD : va_D A [(h, .inr (4, [.ref g1, .null, .null, .ref q7, .ref q16, .ref q25, .ref q33, .ref q41, .ref q49, .ref q57, .ref q66, .ref q74, .int 0, .int 1])), (q7, .inl (cI, 120, .inl (fun _ => 0))), (q16, .inl (cI, 288, .inl (fun _ => 0))), (q25, .inl (cI, 288, .inl (fun _ => 0))), (q33, .inl (cI, 6, .inl (fun _ => 0))), (q41, .inl (cI, 6, .inl (fun _ => 0))), (q49, .inl (cI, 60, .inl (fun _ => 0))), (q57, .inl (cI, 48, .inl (fun _ => 0))), (q66, .inl (cI, 5472, .inl (fun _ => 0))), (q74, .inl (cI, 48, .inl (fun _ => 0)))] := hD
  refine lv_aload_n hx hb dPR_init_89 rfl (lv_at hl 0 rfl) ?_
  refine lv_aload_n hx hb dPR_init_90 rfl (lv_at hl 2 rfl) ?_
  refine va_putF (D := (dC, dI)) (ci := 4) (v := .ref g2) (ty := .object "RingGuard$Wires") (C := "RingGuard$Protocol") (T := T_PR) (N := 14) hx hb hu4 zid ty_PR ok_PR nm_PR hown hK hP hD hS 0 rfl rfl 1 (by decide) (hB.word (zm1 k1_131) rfl) (fun _ h9 => h9) rfl hin rfl (by decide +kernel) rfl rfl (Nat.le_of_ble_eq_true rfl) dPR_init_91 (fun H locs hP hD hS => ?_)
  have hP : va_P (dC, dI) zCl [(h, .inr (4, [.ref g1, .ref g2, .null, .ref q7, .ref q16, .ref q25, .ref q33, .ref q41, .ref q49, .ref q57, .ref q66, .ref q74, .int 0, .int 1])), (q7, .inl (cI, 120, .inl (fun _ => 0))), (q16, .inl (cI, 288, .inl (fun _ => 0))), (q25, .inl (cI, 288, .inl (fun _ => 0))), (q33, .inl (cI, 6, .inl (fun _ => 0))), (q41, .inl (cI, 6, .inl (fun _ => 0))), (q49, .inl (cI, 60, .inl (fun _ => 0))), (q57, .inl (cI, 48, .inl (fun _ => 0))), (q66, .inl (cI, 5472, .inl (fun _ => 0))), (q74, .inl (cI, 48, .inl (fun _ => 0)))] H := hP
  have hD : va_D A [(h, .inr (4, [.ref g1, .ref g2, .null, .ref q7, .ref q16, .ref q25, .ref q33, .ref q41, .ref q49, .ref q57, .ref q66, .ref q74, .int 0, .int 1])), (q7, .inl (cI, 120, .inl (fun _ => 0))), (q16, .inl (cI, 288, .inl (fun _ => 0))), (q25, .inl (cI, 288, .inl (fun _ => 0))), (q33, .inl (cI, 6, .inl (fun _ => 0))), (q41, .inl (cI, 6, .inl (fun _ => 0))), (q49, .inl (cI, 60, .inl (fun _ => 0))), (q57, .inl (cI, 48, .inl (fun _ => 0))), (q66, .inl (cI, 5472, .inl (fun _ => 0))), (q74, .inl (cI, 48, .inl (fun _ => 0)))] := hD
  refine lv_aload_n hx hb dPR_init_94 rfl (lv_at hl 0 rfl) ?_
  refine lv_aload_n hx hb dPR_init_95 rfl (lv_at hl 3 rfl) ?_
  refine va_putF (D := (dC, dI)) (ci := 4) (v := .ref g3) (ty := .object "RingGuard$Tables") (C := "RingGuard$Protocol") (T := T_PR) (N := 14) hx hb hu4 zid ty_PR ok_PR nm_PR hown hK hP hD hS 0 rfl rfl 2 (by decide) (hB.word (zm1 k1_132) rfl) (fun _ h9 => h9) rfl hin rfl (by decide +kernel) rfl rfl (Nat.le_of_ble_eq_true rfl) dPR_init_96 (fun H locs hP hD hS => ?_)
  have hP : va_P (dC, dI) zCl [(h, .inr (4, [.ref g1, .ref g2, .ref g3, .ref q7, .ref q16, .ref q25, .ref q33, .ref q41, .ref q49, .ref q57, .ref q66, .ref q74, .int 0, .int 1])), (q7, .inl (cI, 120, .inl (fun _ => 0))), (q16, .inl (cI, 288, .inl (fun _ => 0))), (q25, .inl (cI, 288, .inl (fun _ => 0))), (q33, .inl (cI, 6, .inl (fun _ => 0))), (q41, .inl (cI, 6, .inl (fun _ => 0))), (q49, .inl (cI, 60, .inl (fun _ => 0))), (q57, .inl (cI, 48, .inl (fun _ => 0))), (q66, .inl (cI, 5472, .inl (fun _ => 0))), (q74, .inl (cI, 48, .inl (fun _ => 0)))] H := hP
  have hD : va_D A [(h, .inr (4, [.ref g1, .ref g2, .ref g3, .ref q7, .ref q16, .ref q25, .ref q33, .ref q41, .ref q49, .ref q57, .ref q66, .ref q74, .int 0, .int 1])), (q7, .inl (cI, 120, .inl (fun _ => 0))), (q16, .inl (cI, 288, .inl (fun _ => 0))), (q25, .inl (cI, 288, .inl (fun _ => 0))), (q33, .inl (cI, 6, .inl (fun _ => 0))), (q41, .inl (cI, 6, .inl (fun _ => 0))), (q49, .inl (cI, 60, .inl (fun _ => 0))), (q57, .inl (cI, 48, .inl (fun _ => 0))), (q66, .inl (cI, 5472, .inl (fun _ => 0))), (q74, .inl (cI, 48, .inl (fun _ => 0)))] := hD
  refine W.widen (k := 9) (n := 6336) (Nat.le_of_ble_eq_true rfl) (Nat.le_of_ble_eq_true rfl) ?_
  have hP9 : va_P (dC, dI) zCl [(h, .inr (4, [.ref g1, .ref g2, .ref g3, .ref q7, .ref q16, .ref q25, .ref q33, .ref q41, .ref q49, .ref q57, .ref q66, .ref q74, .int 0, .int 1])), (q7, .inl (cI, 120, .inl (fun _ => 0))), (q16, .inl (cI, 288, .inl (fun _ => 0))), (q25, .inl (cI, 288, .inl (fun _ => 0))), (q33, .inl (cI, 6, .inl (fun _ => 0))), (q41, .inl (cI, 6, .inl (fun _ => 0))), (q49, .inl (cI, 60, .inl (fun _ => 0))), (q57, .inl (cI, 48, .inl (fun _ => 0))), (q66, .inl (cI, 5472, .inl (fun _ => 0))), (q74, .inl (cI, 48, .inl (fun _ => 0)))] H := hP.sub [0, 1, 2, 3, 4, 5, 6, 7, 8, 9] rfl
  have hD9 : va_D A [(h, .inr (4, [.ref g1, .ref g2, .ref g3, .ref q7, .ref q16, .ref q25, .ref q33, .ref q41, .ref q49, .ref q57, .ref q66, .ref q74, .int 0, .int 1])), (q7, .inl (cI, 120, .inl (fun _ => 0))), (q16, .inl (cI, 288, .inl (fun _ => 0))), (q25, .inl (cI, 288, .inl (fun _ => 0))), (q33, .inl (cI, 6, .inl (fun _ => 0))), (q41, .inl (cI, 6, .inl (fun _ => 0))), (q49, .inl (cI, 60, .inl (fun _ => 0))), (q57, .inl (cI, 48, .inl (fun _ => 0))), (q66, .inl (cI, 5472, .inl (fun _ => 0))), (q74, .inl (cI, 48, .inl (fun _ => 0)))] := hD.sub [0, 1, 2, 3, 4, 5, 6, 7, 8, 9] (by decide) rfl
  exact W.vret hx hb hr (fun t ht hW => ⟨⟨[(h, .inr (4, [.ref g1, .ref g2, .ref g3, .ref q7, .ref q16, .ref q25, .ref q33, .ref q41, .ref q49, .ref q57, .ref q66, .ref q74, .int 0, .int 1])), (q7, .inl (cI, 120, .inl (fun _ => 0))), (q16, .inl (cI, 288, .inl (fun _ => 0))), (q25, .inl (cI, 288, .inl (fun _ => 0))), (q33, .inl (cI, 6, .inl (fun _ => 0))), (q41, .inl (cI, 6, .inl (fun _ => 0))), (q49, .inl (cI, 60, .inl (fun _ => 0))), (q57, .inl (cI, 48, .inl (fun _ => 0))), (q66, .inl (cI, 5472, .inl (fun _ => 0))), (q74, .inl (cI, 48, .inl (fun _ => 0)))], rfl, ⟨(fun k => match k with | 0 => q7 | 1 => q16 | 2 => q25 | 3 => q33 | 4 => q41 | 5 => q49 | 6 => q57 | 7 => q66 | 8 => q74 | _ => 0), rfl⟩, by rw [ht]; exact hP9, hD9⟩, hS.F ht⟩) hS.2.2 dPR_init_99
set_option maxHeartbeats 4000000 in
set_option maxRecDepth 100000 in
theorem zc_Frames (l : Launch) (dC : Nat → ClassId) (dI : Nat → Nat → Nat) (cI cZ cJ cA : ClassId) (a0 : Array Value) (s0 : State) (h g1 g2 g3 sz : Nat) : Met l yFR_init [Cond.code yFR_init bFR_init 4 none] ({ frames := 1, cells := 4, slots := 984, locals := 23 } : Room) (zP zCl dC dI (zTZ cI cZ cJ cA) a0 s0 [.ref h, .ref g1, .ref g2, .ref g3] sz [(h, .inr (5, [.null, .null, .null, .null, .null, .null, .int 0, .null, .int 0]))]) (zQw zCl dC dI (fun wo => ∃ (c : Nat → Nat) (f0 : Nat → Int32), (∀ j, j < 64 → f0 j = -1) ∧ wo = [(h, .inr (5, [.ref g1, .ref g2, .ref g3, .ref (c 0), .ref (c 1), .ref (c 2), .int 0, .ref (c 3), .int 0])), ((c 0), .inl (cI, 64, .inl f0)), ((c 1), .inl (cI, 400, .inl (fun _ => 0))), ((c 2), .inl (cI, 400, .inl (fun _ => 0))), ((c 3), .inl (cI, 120, .inl (fun _ => 0)))]) (va_A [(h, .inr (5, [.null, .null, .null, .null, .null, .null, .int 0, .null, .int 0]))] sz)) 4 984 (va_A [(h, .inr (5, [.null, .null, .null, .null, .null, .null, .int 0, .null, .int 0]))] sz) := by
  refine Met.ofW (cc := bFR_init) (maxL := 4) (ret := none) (by decide) rfl ?_
  intro p e s m args below meth c s₁ B hml hv
  obtain ⟨rfl, hsz, hP, hK, hD0, hB⟩ := hv
  have hx := B.exec
  have hb := B.bytes
  have hr := B.returns
  have hown : s.vm.findClass "RingGuard$Frames" = some m.cls := findClass_of_methodNamed B.named
  have hlocks := B.notSynchronized
  have hin : meth.name = "<init>" := (name_of_methodNamed B.named B.method).1
  subst hsz
  have hD := hD0.self (sz := s.heap.size)
  have hA0 := zA0 hD0 hB
  generalize hAe : va_A [(h, .inr (5, [.null, .null, .null, .null, .null, .null, .int 0, .null, .int 0]))] s.heap.size = A at hD hA0 ⊢
  have hAD := hA0
  have hA : ∀ q : Nat, s.heap.size ≤ q → A q := fun q h => by rw [← hAe]; exact Or.inr h
  have hS : va_S A s.heap s.heap [] := va_S.rf
  have hP : va_P (dC, dI) zCl [(h, .inr (5, [.null, .null, .null, .null, .null, .null, .int 0, .null, .int 0]))] s.heap := hP
  have hl := lv_entry ([.ref h, .ref g1, .ref g2, .ref g3]) (n := 4) (Nat.le_of_ble_eq_true rfl)
  rw [lg_entry_eq]
  generalize (lg_sl ([.ref h, .ref g1, .ref g2, .ref g3]) ++ List.replicate (4 - (lg_sl ([.ref h, .ref g1, .ref g2, .ref g3])).length) Slot.unset).toArray = ls at hl ⊢
  have hl : lv_has ls 4 [(0, .ref h), (1, .ref g1), (2, .ref g2), (3, .ref g3)] := hl
  refine lv_aload_n hx hb dFR_init_0 rfl (lv_at hl 0 rfl) ?_
  refine W.objInit hx hb hown (hB.word (zm1 k1_184) rfl) (hB.word (zm1 k1_23) rfl) (hB.word (zm1 k1_24) rfl) rfl (by rw [hml]; exact hl.1) rfl dFR_init_1 (Nat.le_of_ble_eq_true rfl) (Nat.le_of_ble_eq_true rfl) ?_
  refine W.eq (g2 := F0 m 4 ls []) rfl ?_
  refine lv_aload_n hx hb dFR_init_4 rfl (lv_at hl 0 rfl) ?_
  refine lv_bipush (v := 64) hx hb dFR_init_5 (by decide) ?_
  refine znew (a0 := (64, .inl (fun _ => 0))) hx hb (zac_int hB) rfl (fun _ h9 => by cases h9) hK 0 rfl hP hD hS hA (fun _ => rfl) (by decide) (by decide) (by decide) (Nat.le_of_ble_eq_true rfl) (Nat.le_of_ble_eq_true rfl) dFR_init_7 (fun q7 H hP hD hS => ?_)
  have hP : va_P (dC, dI) zCl [(h, .inr (5, [.null, .null, .null, .null, .null, .null, .int 0, .null, .int 0])), (q7, .inl (cI, 64, .inl (fun _ => 0)))] H := hP
  have hD : va_D A [(h, .inr (5, [.null, .null, .null, .null, .null, .null, .int 0, .null, .int 0])), (q7, .inl (cI, 64, .inl (fun _ => 0)))] := hD
  have hu5 : ∀ w ∈ u_ws "RingGuard$Frames" T_FR 9, w.before ([.ref h, .ref g1, .ref g2, .ref g3] : List Value).toArray s = true := hB.words zU_FR
  refine va_putF (D := (dC, dI)) (ci := 5) (v := .ref q7) (ty := .array .int) (C := "RingGuard$Frames") (T := T_FR) (N := 9) hx hb hu5 zid ty_FR ok_FR nm_FR hown hK hP hD hS 0 rfl rfl 3 (by decide) (hB.word (zm1 k1_189) rfl) (fun _ h9 => h9) rfl hin rfl (by decide +kernel) rfl rfl (Nat.le_of_ble_eq_true rfl) dFR_init_9 (fun H locs hP hD hS => ?_)
  have hP : va_P (dC, dI) zCl [(h, .inr (5, [.null, .null, .null, .ref q7, .null, .null, .int 0, .null, .int 0])), (q7, .inl (cI, 64, .inl (fun _ => 0)))] H := hP
  have hD : va_D A [(h, .inr (5, [.null, .null, .null, .ref q7, .null, .null, .int 0, .null, .int 0])), (q7, .inl (cI, 64, .inl (fun _ => 0)))] := hD
  refine lv_aload_n hx hb dFR_init_12 rfl (lv_at hl 0 rfl) ?_
  refine lv_sipush (v := 400) hx hb dFR_init_13 (by decide) ?_
  refine znew (a0 := (400, .inl (fun _ => 0))) hx hb (zac_int hB) rfl (fun _ h9 => by cases h9) hK 0 rfl hP hD hS hA (fun _ => rfl) (by decide) (by decide) (by decide) (Nat.le_of_ble_eq_true rfl) (Nat.le_of_ble_eq_true rfl) dFR_init_16 (fun q16 H hP hD hS => ?_)
  have hP : va_P (dC, dI) zCl [(h, .inr (5, [.null, .null, .null, .ref q7, .null, .null, .int 0, .null, .int 0])), (q7, .inl (cI, 64, .inl (fun _ => 0))), (q16, .inl (cI, 400, .inl (fun _ => 0)))] H := hP
  have hD : va_D A [(h, .inr (5, [.null, .null, .null, .ref q7, .null, .null, .int 0, .null, .int 0])), (q7, .inl (cI, 64, .inl (fun _ => 0))), (q16, .inl (cI, 400, .inl (fun _ => 0)))] := hD
  refine va_putF (D := (dC, dI)) (ci := 5) (v := .ref q16) (ty := .array .int) (C := "RingGuard$Frames") (T := T_FR) (N := 9) hx hb hu5 zid ty_FR ok_FR nm_FR hown hK hP hD hS 0 rfl rfl 4 (by decide) (hB.word (zm1 k1_191) rfl) (fun _ h9 => h9) rfl hin rfl (by decide +kernel) rfl rfl (Nat.le_of_ble_eq_true rfl) dFR_init_18 (fun H locs hP hD hS => ?_)
  have hP : va_P (dC, dI) zCl [(h, .inr (5, [.null, .null, .null, .ref q7, .ref q16, .null, .int 0, .null, .int 0])), (q7, .inl (cI, 64, .inl (fun _ => 0))), (q16, .inl (cI, 400, .inl (fun _ => 0)))] H := hP
  have hD : va_D A [(h, .inr (5, [.null, .null, .null, .ref q7, .ref q16, .null, .int 0, .null, .int 0])), (q7, .inl (cI, 64, .inl (fun _ => 0))), (q16, .inl (cI, 400, .inl (fun _ => 0)))] := hD
  refine lv_aload_n hx hb dFR_init_21 rfl (lv_at hl 0 rfl) ?_
  refine lv_sipush (v := 400) hx hb dFR_init_22 (by decide) ?_
  refine znew (a0 := (400, .inl (fun _ => 0))) hx hb (zac_int hB) rfl (fun _ h9 => by cases h9) hK 0 rfl hP hD hS hA (fun _ => rfl) (by decide) (by decide) (by decide) (Nat.le_of_ble_eq_true rfl) (Nat.le_of_ble_eq_true rfl) dFR_init_25 (fun q25 H hP hD hS => ?_)
  have hP : va_P (dC, dI) zCl [(h, .inr (5, [.null, .null, .null, .ref q7, .ref q16, .null, .int 0, .null, .int 0])), (q7, .inl (cI, 64, .inl (fun _ => 0))), (q16, .inl (cI, 400, .inl (fun _ => 0))), (q25, .inl (cI, 400, .inl (fun _ => 0)))] H := hP
  have hD : va_D A [(h, .inr (5, [.null, .null, .null, .ref q7, .ref q16, .null, .int 0, .null, .int 0])), (q7, .inl (cI, 64, .inl (fun _ => 0))), (q16, .inl (cI, 400, .inl (fun _ => 0))), (q25, .inl (cI, 400, .inl (fun _ => 0)))] := hD
  refine va_putF (D := (dC, dI)) (ci := 5) (v := .ref q25) (ty := .array .int) (C := "RingGuard$Frames") (T := T_FR) (N := 9) hx hb hu5 zid ty_FR ok_FR nm_FR hown hK hP hD hS 0 rfl rfl 5 (by decide) (hB.word (zm1 k1_192) rfl) (fun _ h9 => h9) rfl hin rfl (by decide +kernel) rfl rfl (Nat.le_of_ble_eq_true rfl) dFR_init_27 (fun H locs hP hD hS => ?_)
  have hP : va_P (dC, dI) zCl [(h, .inr (5, [.null, .null, .null, .ref q7, .ref q16, .ref q25, .int 0, .null, .int 0])), (q7, .inl (cI, 64, .inl (fun _ => 0))), (q16, .inl (cI, 400, .inl (fun _ => 0))), (q25, .inl (cI, 400, .inl (fun _ => 0)))] H := hP
  have hD : va_D A [(h, .inr (5, [.null, .null, .null, .ref q7, .ref q16, .ref q25, .int 0, .null, .int 0])), (q7, .inl (cI, 64, .inl (fun _ => 0))), (q16, .inl (cI, 400, .inl (fun _ => 0))), (q25, .inl (cI, 400, .inl (fun _ => 0)))] := hD
  refine lv_aload_n hx hb dFR_init_30 rfl (lv_at hl 0 rfl) ?_
  refine lv_bipush (v := 120) hx hb dFR_init_31 (by decide) ?_
  refine znew (a0 := (120, .inl (fun _ => 0))) hx hb (zac_int hB) rfl (fun _ h9 => by cases h9) hK 0 rfl hP hD hS hA (fun _ => rfl) (by decide) (by decide) (by decide) (Nat.le_of_ble_eq_true rfl) (Nat.le_of_ble_eq_true rfl) dFR_init_33 (fun q33 H hP hD hS => ?_)
  have hP : va_P (dC, dI) zCl [(h, .inr (5, [.null, .null, .null, .ref q7, .ref q16, .ref q25, .int 0, .null, .int 0])), (q7, .inl (cI, 64, .inl (fun _ => 0))), (q16, .inl (cI, 400, .inl (fun _ => 0))), (q25, .inl (cI, 400, .inl (fun _ => 0))), (q33, .inl (cI, 120, .inl (fun _ => 0)))] H := hP
  have hD : va_D A [(h, .inr (5, [.null, .null, .null, .ref q7, .ref q16, .ref q25, .int 0, .null, .int 0])), (q7, .inl (cI, 64, .inl (fun _ => 0))), (q16, .inl (cI, 400, .inl (fun _ => 0))), (q25, .inl (cI, 400, .inl (fun _ => 0))), (q33, .inl (cI, 120, .inl (fun _ => 0)))] := hD
  refine va_putF (D := (dC, dI)) (ci := 5) (v := .ref q33) (ty := .array .int) (C := "RingGuard$Frames") (T := T_FR) (N := 9) hx hb hu5 zid ty_FR ok_FR nm_FR hown hK hP hD hS 0 rfl rfl 7 (by decide) (hB.word (zm1 k1_194) rfl) (fun _ h9 => h9) rfl hin rfl (by decide +kernel) rfl rfl (Nat.le_of_ble_eq_true rfl) dFR_init_35 (fun H locs hP hD hS => ?_)
  have hP : va_P (dC, dI) zCl [(h, .inr (5, [.null, .null, .null, .ref q7, .ref q16, .ref q25, .int 0, .ref q33, .int 0])), (q7, .inl (cI, 64, .inl (fun _ => 0))), (q16, .inl (cI, 400, .inl (fun _ => 0))), (q25, .inl (cI, 400, .inl (fun _ => 0))), (q33, .inl (cI, 120, .inl (fun _ => 0)))] H := hP
  have hD : va_D A [(h, .inr (5, [.null, .null, .null, .ref q7, .ref q16, .ref q25, .int 0, .ref q33, .int 0])), (q7, .inl (cI, 64, .inl (fun _ => 0))), (q16, .inl (cI, 400, .inl (fun _ => 0))), (q25, .inl (cI, 400, .inl (fun _ => 0))), (q33, .inl (cI, 120, .inl (fun _ => 0)))] := hD
  refine lv_aload_n hx hb dFR_init_38 rfl (lv_at hl 0 rfl) ?_
  refine lv_aload_n hx hb dFR_init_39 rfl (lv_at hl 1 rfl) ?_
  refine va_putF (D := (dC, dI)) (ci := 5) (v := .ref g1) (ty := .object "RingGuard$Plan") (C := "RingGuard$Frames") (T := T_FR) (N := 9) hx hb hu5 zid ty_FR ok_FR nm_FR hown hK hP hD hS 0 rfl rfl 0 (by decide) (hB.word (zm1 k1_186) rfl) (fun _ h9 => h9) rfl hin rfl (by decide +kernel) rfl rfl (Nat.le_of_ble_eq_true rfl) dFR_init_40 (fun H locs hP hD hS => ?_)
  have hP : va_P (dC, dI) zCl [(h, .inr (5, [.ref g1, .null, .null, .ref q7, .ref q16, .ref q25, .int 0, .ref q33, .int 0])), (q7, .inl (cI, 64, .inl (fun _ => 0))), (q16, .inl (cI, 400, .inl (fun _ => 0))), (q25, .inl (cI, 400, .inl (fun _ => 0))), (q33, .inl (cI, 120, .inl (fun _ => 0)))] H := hP
  have hD : va_D A [(h, .inr (5, [.ref g1, .null, .null, .ref q7, .ref q16, .ref q25, .int 0, .ref q33, .int 0])), (q7, .inl (cI, 64, .inl (fun _ => 0))), (q16, .inl (cI, 400, .inl (fun _ => 0))), (q25, .inl (cI, 400, .inl (fun _ => 0))), (q33, .inl (cI, 120, .inl (fun _ => 0)))] := hD
  refine lv_aload_n hx hb dFR_init_43 rfl (lv_at hl 0 rfl) ?_
  refine lv_aload_n hx hb dFR_init_44 rfl (lv_at hl 2 rfl) ?_
  refine va_putF (D := (dC, dI)) (ci := 5) (v := .ref g2) (ty := .object "RingGuard$Protocol") (C := "RingGuard$Frames") (T := T_FR) (N := 9) hx hb hu5 zid ty_FR ok_FR nm_FR hown hK hP hD hS 0 rfl rfl 1 (by decide) (hB.word (zm1 k1_187) rfl) (fun _ h9 => h9) rfl hin rfl (by decide +kernel) rfl rfl (Nat.le_of_ble_eq_true rfl) dFR_init_45 (fun H locs hP hD hS => ?_)
  have hP : va_P (dC, dI) zCl [(h, .inr (5, [.ref g1, .ref g2, .null, .ref q7, .ref q16, .ref q25, .int 0, .ref q33, .int 0])), (q7, .inl (cI, 64, .inl (fun _ => 0))), (q16, .inl (cI, 400, .inl (fun _ => 0))), (q25, .inl (cI, 400, .inl (fun _ => 0))), (q33, .inl (cI, 120, .inl (fun _ => 0)))] H := hP
  have hD : va_D A [(h, .inr (5, [.ref g1, .ref g2, .null, .ref q7, .ref q16, .ref q25, .int 0, .ref q33, .int 0])), (q7, .inl (cI, 64, .inl (fun _ => 0))), (q16, .inl (cI, 400, .inl (fun _ => 0))), (q25, .inl (cI, 400, .inl (fun _ => 0))), (q33, .inl (cI, 120, .inl (fun _ => 0)))] := hD
  refine lv_aload_n hx hb dFR_init_48 rfl (lv_at hl 0 rfl) ?_
  refine lv_aload_n hx hb dFR_init_49 rfl (lv_at hl 3 rfl) ?_
  refine va_putF (D := (dC, dI)) (ci := 5) (v := .ref g3) (ty := .object "RingGuard$Tables") (C := "RingGuard$Frames") (T := T_FR) (N := 9) hx hb hu5 zid ty_FR ok_FR nm_FR hown hK hP hD hS 0 rfl rfl 2 (by decide) (hB.word (zm1 k1_188) rfl) (fun _ h9 => h9) rfl hin rfl (by decide +kernel) rfl rfl (Nat.le_of_ble_eq_true rfl) dFR_init_50 (fun H locs hP hD hS => ?_)
  have hP : va_P (dC, dI) zCl [(h, .inr (5, [.ref g1, .ref g2, .ref g3, .ref q7, .ref q16, .ref q25, .int 0, .ref q33, .int 0])), (q7, .inl (cI, 64, .inl (fun _ => 0))), (q16, .inl (cI, 400, .inl (fun _ => 0))), (q25, .inl (cI, 400, .inl (fun _ => 0))), (q33, .inl (cI, 120, .inl (fun _ => 0)))] H := hP
  have hD : va_D A [(h, .inr (5, [.ref g1, .ref g2, .ref g3, .ref q7, .ref q16, .ref q25, .int 0, .ref q33, .int 0])), (q7, .inl (cI, 64, .inl (fun _ => 0))), (q16, .inl (cI, 400, .inl (fun _ => 0))), (q25, .inl (cI, 400, .inl (fun _ => 0))), (q33, .inl (cI, 120, .inl (fun _ => 0)))] := hD
  refine lv_aload_n hx hb dFR_init_53 rfl (lv_at hl 0 rfl) ?_
  refine va_get (D := (dC, dI)) (ci := 5) (v := .ref q7) (C := "RingGuard$Frames") (T := T_FR) (N := 9) hx hb hu5 zid hown hK hP 0 rfl rfl 3 (by decide) (hB.word (zm1 k1_189) rfl) (fun _ h9 => h9) rfl dFR_init_54 ?_
  refine lv_iconst (v := (-1)) hx hb dFR_init_57 (by decide) ?_
  have hPc : va_P (dC, dI) zCl [(q7, .inl (cI, 64, .inl (fun _ => 0)))] H := hP.sub [1] rfl
  have hDc : va_D A [(q7, .inl (cI, 64, .inl (fun _ => 0)))] := hD.sub [1] (by decide) rfl
  refine zcallw (wr := [(h, .inr (5, [.ref g1, .ref g2, .ref g3, .ref q7, .ref q16, .ref q25, .int 0, .ref q33, .int 0])), (q16, .inl (cI, 400, .inl (fun _ => 0))), (q25, .inl (cI, 400, .inl (fun _ => 0))), (q33, .inl (cI, 120, .inl (fun _ => 0)))]) (va_runS (As := [.ref q7, .int (-1)]) (rest := []) ⟨hx, hb, hml, hown, zno⟩ (zw_fill l dC dI cI cZ cJ cA a0 s0 q7 64 H.size (fun _ => 0) (-1) (by decide)) ⟨zcb 2 (hB.word (zm1 k1_33) rfl) (hB.word (zm1 k1_3) rfl) (hB.word (zm1 k1_185) rfl) rfl rfl (by decide +kernel) ⟨Nat.le_of_ble_eq_true rfl, Nat.le_of_ble_eq_true rfl⟩, hB.word (zm1 k1_32) rfl⟩ ⟨zP_blind, zP_pre hPc hK hDc hAD (zB_on hB hA0 hS)⟩ rfl rfl hl.1 rfl (lv_room (Nat.le_of_ble_eq_true rfl)) dFR_init_58 ⟨Nat.le_of_ble_eq_true rfl, Nat.le_of_ble_eq_true rfl⟩) hP hD hS hA [1] [0, 2, 3, 4] rfl rfl (by decide) (by decide) (fun wo H1 locs hwo hP hD hS => ?_)
  obtain ⟨f1, hf1, rfl⟩ := hwo
  generalize H1 = H at hP hS ⊢
  have hP : va_P (dC, dI) zCl [(h, .inr (5, [.ref g1, .ref g2, .ref g3, .ref q7, .ref q16, .ref q25, .int 0, .ref q33, .int 0])), (q16, .inl (cI, 400, .inl (fun _ => 0))), (q25, .inl (cI, 400, .inl (fun _ => 0))), (q33, .inl (cI, 120, .inl (fun _ => 0))), (q7, .inl (cI, 64, .inl f1))] H := hP
  have hD : va_D A [(h, .inr (5, [.ref g1, .ref g2, .ref g3, .ref q7, .ref q16, .ref q25, .int 0, .ref q33, .int 0])), (q16, .inl (cI, 400, .inl (fun _ => 0))), (q25, .inl (cI, 400, .inl (fun _ => 0))), (q33, .inl (cI, 120, .inl (fun _ => 0))), (q7, .inl (cI, 64, .inl f1))] := hD
  refine W.widen (k := 4) (n := 984) (Nat.le_of_ble_eq_true rfl) (Nat.le_of_ble_eq_true rfl) ?_
  have hP9 : va_P (dC, dI) zCl [(h, .inr (5, [.ref g1, .ref g2, .ref g3, .ref q7, .ref q16, .ref q25, .int 0, .ref q33, .int 0])), (q7, .inl (cI, 64, .inl f1)), (q16, .inl (cI, 400, .inl (fun _ => 0))), (q25, .inl (cI, 400, .inl (fun _ => 0))), (q33, .inl (cI, 120, .inl (fun _ => 0)))] H := hP.sub [0, 4, 1, 2, 3] rfl
  have hD9 : va_D A [(h, .inr (5, [.ref g1, .ref g2, .ref g3, .ref q7, .ref q16, .ref q25, .int 0, .ref q33, .int 0])), (q7, .inl (cI, 64, .inl f1)), (q16, .inl (cI, 400, .inl (fun _ => 0))), (q25, .inl (cI, 400, .inl (fun _ => 0))), (q33, .inl (cI, 120, .inl (fun _ => 0)))] := hD.sub [0, 4, 1, 2, 3] (by decide) rfl
  exact W.vret hx hb hr (fun t ht hW => ⟨⟨[(h, .inr (5, [.ref g1, .ref g2, .ref g3, .ref q7, .ref q16, .ref q25, .int 0, .ref q33, .int 0])), (q7, .inl (cI, 64, .inl f1)), (q16, .inl (cI, 400, .inl (fun _ => 0))), (q25, .inl (cI, 400, .inl (fun _ => 0))), (q33, .inl (cI, 120, .inl (fun _ => 0)))], rfl, ⟨(fun k => match k with | 0 => q7 | 1 => q16 | 2 => q25 | 3 => q33 | _ => 0), f1, hf1, rfl⟩, by rw [ht]; exact hP9, hD9⟩, hS.F ht⟩) hS.2.2 dFR_init_61
