theorem k1_13 : tables_1_1[13]? = some (Jvm.Cond.initialized "java/lang/IllegalStateException") := by decide +kernel
theorem k1_14 : tables_1_1[14]? = some (Jvm.Cond.initialized "java/lang/IllegalArgumentException") := by decide +kernel
theorem k2_1 : tables_1_2[1]? = some (Jvm.Cond.fieldLink "RingGuard" (104 : Nat) "RingGuard" "started" "Z") := by decide +kernel
theorem k2_71 : tables_1_2[71]? = some (Jvm.Cond.classLink "RingGuard" (62 : Nat) "java/lang/IllegalStateException") := by decide +kernel
theorem k2_111 : tables_1_2[111]? = some (Jvm.Cond.stringRef "RingGuard" (232 : Nat) "started already") := by decide +kernel
theorem k2_147 : tables_1_2[147]? = some (Jvm.Cond.methodLink "RingGuard" (69 : Nat) ({ cls := "RingGuard", name := "requireBridge", desc := "(I)V" } : Jvm.MethodName)) := by decide +kernel
theorem k2_148 : tables_1_2[148]? = some (Jvm.Cond.privateMethod ({ cls := "RingGuard", name := "requireBridge", desc := "(I)V" } : Jvm.MethodName)) := by decide +kernel
theorem k2_149 : tables_1_2[149]? = some (Jvm.Cond.instanceMethod ({ cls := "RingGuard", name := "requireBridge", desc := "(I)V" } : Jvm.MethodName)) := by decide +kernel
theorem k2_150 : tables_1_2[150]? = some (Jvm.Cond.code ({ cls := "RingGuard", name := "requireBridge", desc := "(I)V" } : Jvm.MethodName) prog_1_method_25_code (2 : Nat) (Option.none : Option Jvm.ClassFile.FieldType)) := rfl
theorem k2_151 : tables_1_2[151]? = some (Jvm.Cond.classLink "RingGuard" (76 : Nat) "java/lang/IllegalArgumentException") := by decide +kernel
theorem k2_160 : tables_1_2[160]? = some (Jvm.Cond.stringRef "RingGuard" (236 : Nat) "no such bridge") := by decide +kernel
theorem k2_171 : tables_1_2[171]? = some (Jvm.Cond.stringRef "RingGuard" (242 : Nat) "no such ring") := by decide +kernel
theorem k2_185 : tables_1_2[185]? = some (Jvm.Cond.methodLink "RingGuard" (90 : Nat) ({ cls := "RingGuard", name := "requireLink", desc := "(I)V" } : Jvm.MethodName)) := by decide +kernel
theorem k2_186 : tables_1_2[186]? = some (Jvm.Cond.privateMethod ({ cls := "RingGuard", name := "requireLink", desc := "(I)V" } : Jvm.MethodName)) := by decide +kernel
theorem k2_187 : tables_1_2[187]? = some (Jvm.Cond.instanceMethod ({ cls := "RingGuard", name := "requireLink", desc := "(I)V" } : Jvm.MethodName)) := by decide +kernel
theorem k2_188 : tables_1_2[188]? = some (Jvm.Cond.code ({ cls := "RingGuard", name := "requireLink", desc := "(I)V" } : Jvm.MethodName) prog_1_method_26_code (2 : Nat) (Option.none : Option Jvm.ClassFile.FieldType)) := rfl
theorem k2_189 : tables_1_2[189]? = some (Jvm.Cond.stringRef "RingGuard" (238 : Nat) "no such link") := by decide +kernel
theorem k3_59 : tables_1_3[59]? = some (Jvm.Cond.stringRef "RingGuard" (234 : Nat) "not started yet") := by decide +kernel
theorem k3_128 : tables_1_3[128]? = some (Jvm.Cond.methodLink "RingGuard" (139 : Nat) ({ cls := "RingGuard$Plan", name := "portOf", desc := "(II)I" } : Jvm.MethodName)) := by decide +kernel
theorem k3_129 : tables_1_3[129]? = some (Jvm.Cond.stringRef "RingGuard" (240 : Nat) "the bridge is at no end of the link") := by decide +kernel
theorem k4_31 : tables_1_4[31]? = some (Jvm.Cond.stringRef "RingGuard" (244 : Nat) "no such host") := by decide +kernel
theorem k4_47 : tables_1_4[47]? = some (Jvm.Cond.stringRef "RingGuard" (246 : Nat) "no such tag") := by decide +kernel
theorem zO_66 : (Bundle.ownAtoms "RingGuard" 66 "java/lang/IllegalStateException" ["java/lang/RuntimeException", "java/lang/Exception"]).all (fun w => decide (w ∈ zT) && tq_ok w) = true := by decide +kernel
theorem zO_80 : (Bundle.ownAtoms "RingGuard" 80 "java/lang/IllegalArgumentException" ["java/lang/RuntimeException", "java/lang/Exception"]).all (fun w => decide (w ∈ zT) && tq_ok w) = true := by decide +kernel
abbrev yRG_requireBridge : MethodName := ⟨"RingGuard", "requireBridge", "(I)V"⟩
abbrev bRG_requireBridge : ByteArray := prog_1_method_25_code
abbrev yRG_requireLink : MethodName := ⟨"RingGuard", "requireLink", "(I)V"⟩
abbrev bRG_requireLink : ByteArray := prog_1_method_26_code
abbrev yRG_requireRing : MethodName := ⟨"RingGuard", "requireRing", "(I)V"⟩
abbrev bRG_requireRing : ByteArray := prog_1_method_28_code
abbrev yRG_requireHost : MethodName := ⟨"RingGuard", "requireHost", "(I)V"⟩
abbrev bRG_requireHost : ByteArray := prog_1_method_29_code
abbrev yRG_requireTag : MethodName := ⟨"RingGuard", "requireTag", "(I)V"⟩
abbrev bRG_requireTag : ByteArray := prog_1_method_30_code
abbrev yRG_requireNotStarted : MethodName := ⟨"RingGuard", "requireNotStarted", "()V"⟩
abbrev bRG_requireNotStarted : ByteArray := prog_1_method_23_code
abbrev yRG_requireStarted : MethodName := ⟨"RingGuard", "requireStarted", "()V"⟩
abbrev bRG_requireStarted : ByteArray := prog_1_method_24_code
abbrev yRG_requirePort : MethodName := ⟨"RingGuard", "requirePort", "(II)V"⟩
abbrev bRG_requirePort : ByteArray := prog_1_method_27_code
theorem dRG_requireBridge_0 : decode bRG_requireBridge 0 = .ok (.iload_n 1, 1) := by decide +kernel
theorem dRG_requireBridge_1 : decode bRG_requireBridge 1 = .ok (.ifCond .lt 14, 3) := by decide +kernel
theorem dRG_requireBridge_4 : decode bRG_requireBridge 4 = .ok (.iload_n 1, 1) := by decide +kernel
theorem dRG_requireBridge_5 : decode bRG_requireBridge 5 = .ok (.aload_n 0, 1) := by decide +kernel
theorem dRG_requireBridge_6 : decode bRG_requireBridge 6 = .ok (.getfield 12, 3) := by decide +kernel
theorem dRG_requireBridge_9 : decode bRG_requireBridge 9 = .ok (.getfield 58, 3) := by decide +kernel
theorem dRG_requireBridge_12 : decode bRG_requireBridge 12 = .ok (.if_icmp .lt 13, 3) := by decide +kernel
theorem dRG_requireBridge_15 : decode bRG_requireBridge 15 = .ok (.new 76, 3) := by decide +kernel
theorem dRG_requireBridge_18 : decode bRG_requireBridge 18 = .ok (.dup, 1) := by decide +kernel
theorem dRG_requireBridge_19 : decode bRG_requireBridge 19 = .ok (.ldc 236, 2) := by decide +kernel
theorem dRG_requireBridge_21 : decode bRG_requireBridge 21 = .ok (.invokespecial 80, 3) := by decide +kernel
theorem dRG_requireBridge_24 : decode bRG_requireBridge 24 = .ok (.athrow, 1) := by decide +kernel
theorem dRG_requireBridge_25 : decode bRG_requireBridge 25 = .ok (.return_, 1) := by decide +kernel
theorem dRG_requireHost_0 : decode bRG_requireHost 0 = .ok (.iload_n 1, 1) := by decide +kernel
theorem dRG_requireHost_1 : decode bRG_requireHost 1 = .ok (.ifCond .lt 9, 3) := by decide +kernel
theorem dRG_requireHost_4 : decode bRG_requireHost 4 = .ok (.iload_n 1, 1) := by decide +kernel
theorem dRG_requireHost_5 : decode bRG_requireHost 5 = .ok (.bipush 64, 2) := by decide +kernel
theorem dRG_requireHost_7 : decode bRG_requireHost 7 = .ok (.if_icmp .lt 13, 3) := by decide +kernel
theorem dRG_requireHost_10 : decode bRG_requireHost 10 = .ok (.new 76, 3) := by decide +kernel
theorem dRG_requireHost_13 : decode bRG_requireHost 13 = .ok (.dup, 1) := by decide +kernel
theorem dRG_requireHost_14 : decode bRG_requireHost 14 = .ok (.ldc 244, 2) := by decide +kernel
theorem dRG_requireHost_16 : decode bRG_requireHost 16 = .ok (.invokespecial 80, 3) := by decide +kernel
theorem dRG_requireHost_19 : decode bRG_requireHost 19 = .ok (.athrow, 1) := by decide +kernel
theorem dRG_requireHost_20 : decode bRG_requireHost 20 = .ok (.return_, 1) := by decide +kernel
theorem dRG_requireLink_0 : decode bRG_requireLink 0 = .ok (.iload_n 1, 1) := by decide +kernel
theorem dRG_requireLink_1 : decode bRG_requireLink 1 = .ok (.ifCond .lt 14, 3) := by decide +kernel
theorem dRG_requireLink_4 : decode bRG_requireLink 4 = .ok (.iload_n 1, 1) := by decide +kernel
theorem dRG_requireLink_5 : decode bRG_requireLink 5 = .ok (.aload_n 0, 1) := by decide +kernel
theorem dRG_requireLink_6 : decode bRG_requireLink 6 = .ok (.getfield 12, 3) := by decide +kernel
theorem dRG_requireLink_9 : decode bRG_requireLink 9 = .ok (.getfield 81, 3) := by decide +kernel
theorem dRG_requireLink_12 : decode bRG_requireLink 12 = .ok (.if_icmp .lt 13, 3) := by decide +kernel
theorem dRG_requireLink_15 : decode bRG_requireLink 15 = .ok (.new 76, 3) := by decide +kernel
theorem dRG_requireLink_18 : decode bRG_requireLink 18 = .ok (.dup, 1) := by decide +kernel
theorem dRG_requireLink_19 : decode bRG_requireLink 19 = .ok (.ldc 238, 2) := by decide +kernel
theorem dRG_requireLink_21 : decode bRG_requireLink 21 = .ok (.invokespecial 80, 3) := by decide +kernel
theorem dRG_requireLink_24 : decode bRG_requireLink 24 = .ok (.athrow, 1) := by decide +kernel
theorem dRG_requireLink_25 : decode bRG_requireLink 25 = .ok (.return_, 1) := by decide +kernel
theorem dRG_requireNotStarted_0 : decode bRG_requireNotStarted 0 = .ok (.aload_n 0, 1) := by decide +kernel
theorem dRG_requireNotStarted_1 : decode bRG_requireNotStarted 1 = .ok (.getfield 104, 3) := by decide +kernel
theorem dRG_requireNotStarted_4 : decode bRG_requireNotStarted 4 = .ok (.ifCond .eq 13, 3) := by decide +kernel
theorem dRG_requireNotStarted_7 : decode bRG_requireNotStarted 7 = .ok (.new 62, 3) := by decide +kernel
theorem dRG_requireNotStarted_10 : decode bRG_requireNotStarted 10 = .ok (.dup, 1) := by decide +kernel
theorem dRG_requireNotStarted_11 : decode bRG_requireNotStarted 11 = .ok (.ldc 232, 2) := by decide +kernel
theorem dRG_requireNotStarted_13 : decode bRG_requireNotStarted 13 = .ok (.invokespecial 66, 3) := by decide +kernel
theorem dRG_requireNotStarted_16 : decode bRG_requireNotStarted 16 = .ok (.athrow, 1) := by decide +kernel
theorem dRG_requireNotStarted_17 : decode bRG_requireNotStarted 17 = .ok (.return_, 1) := by decide +kernel
theorem dRG_requirePort_0 : decode bRG_requirePort 0 = .ok (.aload_n 0, 1) := by decide +kernel
theorem dRG_requirePort_1 : decode bRG_requirePort 1 = .ok (.iload_n 1, 1) := by decide +kernel
theorem dRG_requirePort_2 : decode bRG_requirePort 2 = .ok (.invokevirtual 69, 3) := by decide +kernel
theorem dRG_requirePort_5 : decode bRG_requirePort 5 = .ok (.aload_n 0, 1) := by decide +kernel
theorem dRG_requirePort_6 : decode bRG_requirePort 6 = .ok (.iload_n 2, 1) := by decide +kernel
theorem dRG_requirePort_7 : decode bRG_requirePort 7 = .ok (.invokevirtual 90, 3) := by decide +kernel
theorem dRG_requirePort_10 : decode bRG_requirePort 10 = .ok (.aload_n 0, 1) := by decide +kernel
theorem dRG_requirePort_11 : decode bRG_requirePort 11 = .ok (.getfield 12, 3) := by decide +kernel
theorem dRG_requirePort_14 : decode bRG_requirePort 14 = .ok (.iload_n 1, 1) := by decide +kernel
theorem dRG_requirePort_15 : decode bRG_requirePort 15 = .ok (.iload_n 2, 1) := by decide +kernel
theorem dRG_requirePort_16 : decode bRG_requirePort 16 = .ok (.invokevirtual 139, 3) := by decide +kernel
theorem dRG_requirePort_19 : decode bRG_requirePort 19 = .ok (.iconst (-1), 1) := by decide +kernel
theorem dRG_requirePort_20 : decode bRG_requirePort 20 = .ok (.if_icmp .ne 13, 3) := by decide +kernel
theorem dRG_requirePort_23 : decode bRG_requirePort 23 = .ok (.new 76, 3) := by decide +kernel
theorem dRG_requirePort_26 : decode bRG_requirePort 26 = .ok (.dup, 1) := by decide +kernel
theorem dRG_requirePort_27 : decode bRG_requirePort 27 = .ok (.ldc 240, 2) := by decide +kernel
theorem dRG_requirePort_29 : decode bRG_requirePort 29 = .ok (.invokespecial 80, 3) := by decide +kernel
theorem dRG_requirePort_32 : decode bRG_requirePort 32 = .ok (.athrow, 1) := by decide +kernel
theorem dRG_requirePort_33 : decode bRG_requirePort 33 = .ok (.return_, 1) := by decide +kernel
theorem dRG_requireRing_0 : decode bRG_requireRing 0 = .ok (.iload_n 1, 1) := by decide +kernel
theorem dRG_requireRing_1 : decode bRG_requireRing 1 = .ok (.ifCond .lt 9, 3) := by decide +kernel
theorem dRG_requireRing_4 : decode bRG_requireRing 4 = .ok (.iload_n 1, 1) := by decide +kernel
theorem dRG_requireRing_5 : decode bRG_requireRing 5 = .ok (.bipush 6, 2) := by decide +kernel
theorem dRG_requireRing_7 : decode bRG_requireRing 7 = .ok (.if_icmp .lt 13, 3) := by decide +kernel
theorem dRG_requireRing_10 : decode bRG_requireRing 10 = .ok (.new 76, 3) := by decide +kernel
theorem dRG_requireRing_13 : decode bRG_requireRing 13 = .ok (.dup, 1) := by decide +kernel
theorem dRG_requireRing_14 : decode bRG_requireRing 14 = .ok (.ldc 242, 2) := by decide +kernel
theorem dRG_requireRing_16 : decode bRG_requireRing 16 = .ok (.invokespecial 80, 3) := by decide +kernel
theorem dRG_requireRing_19 : decode bRG_requireRing 19 = .ok (.athrow, 1) := by decide +kernel
theorem dRG_requireRing_20 : decode bRG_requireRing 20 = .ok (.return_, 1) := by decide +kernel
theorem dRG_requireStarted_0 : decode bRG_requireStarted 0 = .ok (.aload_n 0, 1) := by decide +kernel
theorem dRG_requireStarted_1 : decode bRG_requireStarted 1 = .ok (.getfield 104, 3) := by decide +kernel
theorem dRG_requireStarted_4 : decode bRG_requireStarted 4 = .ok (.ifCond .ne 13, 3) := by decide +kernel
theorem dRG_requireStarted_7 : decode bRG_requireStarted 7 = .ok (.new 62, 3) := by decide +kernel
theorem dRG_requireStarted_10 : decode bRG_requireStarted 10 = .ok (.dup, 1) := by decide +kernel
theorem dRG_requireStarted_11 : decode bRG_requireStarted 11 = .ok (.ldc 234, 2) := by decide +kernel
theorem dRG_requireStarted_13 : decode bRG_requireStarted 13 = .ok (.invokespecial 66, 3) := by decide +kernel
theorem dRG_requireStarted_16 : decode bRG_requireStarted 16 = .ok (.athrow, 1) := by decide +kernel
theorem dRG_requireStarted_17 : decode bRG_requireStarted 17 = .ok (.return_, 1) := by decide +kernel
theorem dRG_requireTag_0 : decode bRG_requireTag 0 = .ok (.iload_n 1, 1) := by decide +kernel
theorem dRG_requireTag_1 : decode bRG_requireTag 1 = .ok (.ifCond .lt 8, 3) := by decide +kernel
theorem dRG_requireTag_4 : decode bRG_requireTag 4 = .ok (.iload_n 1, 1) := by decide +kernel
theorem dRG_requireTag_5 : decode bRG_requireTag 5 = .ok (.iconst 4, 1) := by decide +kernel
theorem dRG_requireTag_6 : decode bRG_requireTag 6 = .ok (.if_icmp .lt 13, 3) := by decide +kernel
theorem dRG_requireTag_9 : decode bRG_requireTag 9 = .ok (.new 76, 3) := by decide +kernel
theorem dRG_requireTag_12 : decode bRG_requireTag 12 = .ok (.dup, 1) := by decide +kernel
theorem dRG_requireTag_13 : decode bRG_requireTag 13 = .ok (.ldc 246, 2) := by decide +kernel
theorem dRG_requireTag_15 : decode bRG_requireTag 15 = .ok (.invokespecial 80, 3) := by decide +kernel
theorem dRG_requireTag_18 : decode bRG_requireTag 18 = .ok (.athrow, 1) := by decide +kernel
theorem dRG_requireTag_19 : decode bRG_requireTag 19 = .ok (.return_, 1) := by decide +kernel
noncomputable def fRG_requireBridge_15 (P : ZS) (S : ZS) : Except Nat (Unit) := .error 1
noncomputable def fRG_requireBridge (P S : ZS) (x0 : Int32) : Except Nat (Unit) := (if x0 < 0 then fRG_requireBridge_15 P S else zl (P.I 0) (fun k1 => (if x0 < k1 then .ok (()) else fRG_requireBridge_15 P S)))
set_option maxHeartbeats 4000000 in
set_option maxRecDepth 100000 in
theorem tRG_requireBridge (l : Launch) (dC : Nat → ClassId) (dI : Nat → Nat → Nat) (cI cZ cJ cA : ClassId) (a0 : Array Value) (s0 : State) (o b : Nat → Nat) (P S : ZS) (sz : Nat) (x0 : Int32) (gP : cok P) (gS : cok S) (y : Unit) (hc : fRG_requireBridge P S x0 = .ok y) : Met l yRG_requireBridge [Cond.code yRG_requireBridge bRG_requireBridge 2 none] ({ frames := 0, cells := 0, slots := 0, locals := 0 } : Room) (zP zCl dC dI (zTZ cI cZ cJ cA) a0 s0 [.ref (o 0), .int x0] sz (CW cI cZ cA o b P S)) (zQo sz) 0 0 (zN sz) := by
  refine Met.ofW (cc := bRG_requireBridge) (maxL := 2) (ret := none) (by decide) rfl ?_
  intro p e s m args below meth c s₁ B hml hv
  obtain ⟨rfl, hsz, hP, hK, hD0, hB⟩ := hv
  have hx := B.exec
  have hb := B.bytes
  have hr := B.returns
  have hown : s.vm.findClass "RingGuard" = some m.cls := findClass_of_methodNamed B.named
  have hlocks := B.notSynchronized
  subst hsz
  have hD := hD0
  have hA0 : ∀ q, zN s.heap.size q → s0.heap.size ≤ q := zA1 hB
  have hAD : ∀ q, zN s0.heap.size q → s0.heap.size ≤ q := fun _ h => h
  have hA : ∀ q : Nat, s.heap.size ≤ q → zN s.heap.size q := fun _ h => h
  have hS : va_S (zN s.heap.size) s.heap s.heap [] := va_S.rf
  have hl := lv_entry ([.ref (o 0), .int x0]) (n := 2) (Nat.le_of_ble_eq_true rfl)
  rw [lg_entry_eq]
  generalize (lg_sl ([.ref (o 0), .int x0]) ++ List.replicate (2 - (lg_sl ([.ref (o 0), .int x0])).length) Slot.unset).toArray = ls at hl ⊢
  have hl : lv_has ls 2 [(0, .ref (o 0)), (1, .int x0)] := hl
  refine zgenQ (fun Q hQe => ?_)
  obtain ⟨tg, etg⟩ : ∃ z, z = fRG_requireBridge P S x0 := ⟨_, rfl⟩
  have E := etg
  unfold fRG_requireBridge at E
  have hJ15 : ∀ (H : Heap) (locs : List Loc) (ls : Array Slot), tg = fRG_requireBridge_15 P S  → va_P (dC, dI) zCl (CW cI cZ cA o b P S) H → va_S (zN s.heap.size) s.heap H locs → lv_has ls 2 [] → W p l e ({ frames := 0, cells := 0, slots := 0, locals := 0 } : Room) s m ([.ref (o 0), .int x0] : List Value).toArray below meth c H locs 0 0 Q (F0 m 15 ls []) := by
    intro H locs ls E hP hS hl
    unfold fRG_requireBridge_15 at E
    cases E.symm.trans (etg.trans hc)
  refine lv_iload_n hx hb dRG_requireBridge_0 rfl (lv_at hl 1 rfl) ?_
  refine z_if_lt (tgt := 15) hx hb dRG_requireBridge_1 (by decide) E (fun c_1 E => ?_) (fun c_1 E => ?_)
  · have r_x0 : zr (-2147483648) (-1) x0 := zlt_x (zr_any x0) (show zr 0 0 0 from by decide) c_1 (by decide)
    exact hJ15 s.heap [] ls  E hP hS (lv_sub hl [] rfl)
  · have r_x0 : zr 0 2147483647 x0 := zle_y (show zr 0 0 0 from by decide) (zr_any x0) (znlt c_1) (by decide)
    refine lv_iload_n hx hb dRG_requireBridge_4 rfl (lv_at hl 1 rfl) ?_
    refine lv_aload_n hx hb dRG_requireBridge_5 rfl (lv_at hl 0 rfl) ?_
    refine c_getO_RG_plan hx hb (hB.words zU_RG) hown hK hP (hB.word (zm1 k1_235) rfl) dRG_requireBridge_6 ?_
    refine c_get_0 hx hb (hB.words zU_PL) hown hK hP (hB.word (zm1 k1_34) rfl) dRG_requireBridge_9 E (fun k1 ek1 E => ?_)
    have r_k1 : zr 0 48 k1 := by rw [ek1]; exact gP.2.1 0
    refine z_icmp_lt (tgt := 25) hx hb dRG_requireBridge_12 (by decide) E (fun c_12 E => ?_) (fun c_12 E => ?_)
    · have r_x0 : zr 0 47 x0 := zlt_x r_x0 r_k1 c_12 (by decide)
      have r_k1 : zr 1 48 k1 := zlt_y r_x0 r_k1 c_12 (by decide)
      have E := zokE E (etg.trans hc)
      rw [hQe]
      exact W.vret hx hb hr (fun t ht hW => ⟨⟨(), rfl, trivial, trivial⟩, hS.F ht⟩) hS.2.2 dRG_requireBridge_25
    · exact hJ15 s.heap [] ls  E hP hS (lv_sub hl [] rfl)
set_option maxHeartbeats 4000000 in
set_option maxRecDepth 100000 in
theorem tRG_requireBridge_T1 (l : Launch) (dC : Nat → ClassId) (dI : Nat → Nat → Nat) (cI cZ cJ cA : ClassId) (a0 : Array Value) (s0 : State) (o b : Nat → Nat) (hfl : l.flags = Jvm.pinnedFlags ++ [Jvm.noTraceFlag]) (P S : ZS) (sz : Nat) (x0 : Int32) (gP : cok P) (gS : cok S) (hc : fRG_requireBridge P S x0 = .error 1) : tq_Met l yRG_requireBridge [Cond.code yRG_requireBridge bRG_requireBridge 2 none] ({ frames := 6, cells := 1, slots := 6, locals := 90 } : Room) (zP zCl dC dI (zTZ cI cZ cJ cA) a0 s0 [.ref (o 0), .int x0] sz (CW cI cZ cA o b P S)) (tq_Q "java/lang/IllegalArgumentException") 1 6 (zN sz) := by
  refine tq_ofW (cc := bRG_requireBridge) (maxL := 2) (ret := none) (by decide) rfl ?_
  intro p e s m args below meth c s₁ B hml htab hv
  obtain ⟨rfl, hsz, hP, hK, hD0, hB⟩ := hv
  have hx := B.exec
  have hb := B.bytes
  have hr := B.returns
  have hown : s.vm.findClass "RingGuard" = some m.cls := findClass_of_methodNamed B.named
  have hlocks := B.notSynchronized
  subst hsz
  have hD := hD0
  have hA0 : ∀ q, zN s.heap.size q → s0.heap.size ≤ q := zA1 hB
  have hAD : ∀ q, zN s0.heap.size q → s0.heap.size ≤ q := fun _ h => h
  have hA : ∀ q : Nat, s.heap.size ≤ q → zN s.heap.size q := fun _ h => h
  have hS : va_S (zN s.heap.size) s.heap s.heap [] := va_S.rf
  have hl := lv_entry ([.ref (o 0), .int x0]) (n := 2) (Nat.le_of_ble_eq_true rfl)
  rw [lg_entry_eq]
  generalize (lg_sl ([.ref (o 0), .int x0]) ++ List.replicate (2 - (lg_sl ([.ref (o 0), .int x0])).length) Slot.unset).toArray = ls at hl ⊢
  have hfl := hfl
  have hl : lv_has ls 2 [(0, .ref (o 0)), (1, .int x0)] := hl
  refine zgenQ (fun Q hQe => ?_)
  obtain ⟨tg, etg⟩ : ∃ z, z = fRG_requireBridge P S x0 := ⟨_, rfl⟩
  have E := etg
  unfold fRG_requireBridge at E
  have hJ15 : ∀ (H : Heap) (locs : List Loc) (ls : Array Slot), tg = fRG_requireBridge_15 P S  → va_P (dC, dI) zCl (CW cI cZ cA o b P S) H → va_S (zN s.heap.size) s.heap H locs → lv_has ls 2 [] → W p l e ({ frames := 6, cells := 1, slots := 6, locals := 90 } : Room) s m ([.ref (o 0), .int x0] : List Value).toArray below meth c H locs 0 0 Q (F0 m 15 ls []) := by
    intro H locs ls E hP hS hl
    unfold fRG_requireBridge_15 at E
    obtain ⟨qs, hZ⟩ := hB.str (zm2 k2_160)
    rw [hQe]
    exact zthrow hfl hx hb hown (hB.word (zm2 k2_151) rfl) (hB.word (zm1 k1_14) rfl) hZ (by decide) (hB.words zO_80) (by rw [hml]; exact hl.1) htab hlocks dRG_requireBridge_15 dRG_requireBridge_18 dRG_requireBridge_19 dRG_requireBridge_21 dRG_requireBridge_24 (Nat.le_of_ble_eq_true rfl) (Nat.le_of_ble_eq_true rfl) (Nat.le_of_ble_eq_true rfl) (Nat.le_of_ble_eq_true rfl) hS rfl rfl
  refine lv_iload_n hx hb dRG_requireBridge_0 rfl (lv_at hl 1 rfl) ?_
  refine z_if_lt (tgt := 15) hx hb dRG_requireBridge_1 (by decide) E (fun c_1 E => ?_) (fun c_1 E => ?_)
  · have r_x0 : zr (-2147483648) (-1) x0 := zlt_x (zr_any x0) (show zr 0 0 0 from by decide) c_1 (by decide)
    exact hJ15 s.heap [] ls  E hP hS (lv_sub hl [] rfl)
  · have r_x0 : zr 0 2147483647 x0 := zle_y (show zr 0 0 0 from by decide) (zr_any x0) (znlt c_1) (by decide)
    refine lv_iload_n hx hb dRG_requireBridge_4 rfl (lv_at hl 1 rfl) ?_
    refine lv_aload_n hx hb dRG_requireBridge_5 rfl (lv_at hl 0 rfl) ?_
    refine c_getO_RG_plan hx hb (hB.words zU_RG) hown hK hP (hB.word (zm1 k1_235) rfl) dRG_requireBridge_6 ?_
    refine c_get_0 hx hb (hB.words zU_PL) hown hK hP (hB.word (zm1 k1_34) rfl) dRG_requireBridge_9 E (fun k1 ek1 E => ?_)
    have r_k1 : zr 0 48 k1 := by rw [ek1]; exact gP.2.1 0
    refine z_icmp_lt (tgt := 25) hx hb dRG_requireBridge_12 (by decide) E (fun c_12 E => ?_) (fun c_12 E => ?_)
    · have r_x0 : zr 0 47 x0 := zlt_x r_x0 r_k1 c_12 (by decide)
      have r_k1 : zr 1 48 k1 := zlt_y r_x0 r_k1 c_12 (by decide)
      cases E.symm.trans (etg.trans hc)
    · exact hJ15 s.heap [] ls  E hP hS (lv_sub hl [] rfl)
theorem fRG_requireBridge_c {P S : ZS} {x0 : Int32} {k : Nat} (h : fRG_requireBridge P S x0 = .error k) : k = 1 := by
  simp only [fRG_requireBridge, fRG_requireBridge_15, zl, zbind] at h
  repeat' split at h
  all_goals first | (cases h; rfl) | cases h
theorem zk_rB1 {P S : ZS} {x : Int32} {u : Unit} (g : cok P) (h : fRG_requireBridge P S x = .ok u) : zr 0 47 x := by
  simp only [fRG_requireBridge, fRG_requireBridge_15, zl] at h
  split at h
  · cases h
  · rename_i c1
    split at h
    · rename_i c2
      exact zlt_x (zle_y (a := 0) (b := 0) (by decide) (zr_any x) (znlt c1) (by decide) : zr 0 2147483647 x) (g.2.1 0) c2 (by decide)
    · cases h
theorem zk_rB3 {P S : ZS} {x : Int32} {u : Unit} (g : cok P) (h : fRG_requireBridge P S x = .ok u) : zr 0 47 x ∧ x.toInt < (P.I 0).toInt := by
  simp only [fRG_requireBridge, fRG_requireBridge_15, zl] at h
  split at h
  · cases h
  · rename_i c1
    split at h
    · rename_i c2
      exact ⟨zlt_x (zle_y (a := 0) (b := 0) (by decide) (zr_any x) (znlt c1) (by decide) : zr 0 2147483647 x) (g.2.1 0) c2 (by decide), Int32.lt_iff_toInt_lt.mp c2⟩
    · cases h
theorem zk_rB2 {P S : ZS} {x : Int32} {u : Unit} (g : cok P) (h : fRG_requireBridge P S x = .ok u) : x.toInt < (P.I 0).toInt := (zk_rB3 g h).2
noncomputable def fRG_requireLink_15 (P : ZS) (S : ZS) : Except Nat (Unit) := .error 1
noncomputable def fRG_requireLink (P S : ZS) (x0 : Int32) : Except Nat (Unit) := (if x0 < 0 then fRG_requireLink_15 P S else zl (P.I 1) (fun k1 => (if x0 < k1 then .ok (()) else fRG_requireLink_15 P S)))
set_option maxHeartbeats 4000000 in
set_option maxRecDepth 100000 in
theorem tRG_requireLink (l : Launch) (dC : Nat → ClassId) (dI : Nat → Nat → Nat) (cI cZ cJ cA : ClassId) (a0 : Array Value) (s0 : State) (o b : Nat → Nat) (P S : ZS) (sz : Nat) (x0 : Int32) (gP : cok P) (gS : cok S) (y : Unit) (hc : fRG_requireLink P S x0 = .ok y) : Met l yRG_requireLink [Cond.code yRG_requireLink bRG_requireLink 2 none] ({ frames := 0, cells := 0, slots := 0, locals := 0 } : Room) (zP zCl dC dI (zTZ cI cZ cJ cA) a0 s0 [.ref (o 0), .int x0] sz (CW cI cZ cA o b P S)) (zQo sz) 0 0 (zN sz) := by
  refine Met.ofW (cc := bRG_requireLink) (maxL := 2) (ret := none) (by decide) rfl ?_
  intro p e s m args below meth c s₁ B hml hv
  obtain ⟨rfl, hsz, hP, hK, hD0, hB⟩ := hv
  have hx := B.exec
  have hb := B.bytes
  have hr := B.returns
  have hown : s.vm.findClass "RingGuard" = some m.cls := findClass_of_methodNamed B.named
  have hlocks := B.notSynchronized
  subst hsz
  have hD := hD0
  have hA0 : ∀ q, zN s.heap.size q → s0.heap.size ≤ q := zA1 hB
  have hAD : ∀ q, zN s0.heap.size q → s0.heap.size ≤ q := fun _ h => h
  have hA : ∀ q : Nat, s.heap.size ≤ q → zN s.heap.size q := fun _ h => h
  have hS : va_S (zN s.heap.size) s.heap s.heap [] := va_S.rf
  have hl := lv_entry ([.ref (o 0), .int x0]) (n := 2) (Nat.le_of_ble_eq_true rfl)
  rw [lg_entry_eq]
  generalize (lg_sl ([.ref (o 0), .int x0]) ++ List.replicate (2 - (lg_sl ([.ref (o 0), .int x0])).length) Slot.unset).toArray = ls at hl ⊢
  have hl : lv_has ls 2 [(0, .ref (o 0)), (1, .int x0)] := hl
  refine zgenQ (fun Q hQe => ?_)
  obtain ⟨tg, etg⟩ : ∃ z, z = fRG_requireLink P S x0 := ⟨_, rfl⟩
  have E := etg
  unfold fRG_requireLink at E
  have hJ15 : ∀ (H : Heap) (locs : List Loc) (ls : Array Slot), tg = fRG_requireLink_15 P S  → va_P (dC, dI) zCl (CW cI cZ cA o b P S) H → va_S (zN s.heap.size) s.heap H locs → lv_has ls 2 [] → W p l e ({ frames := 0, cells := 0, slots := 0, locals := 0 } : Room) s m ([.ref (o 0), .int x0] : List Value).toArray below meth c H locs 0 0 Q (F0 m 15 ls []) := by
    intro H locs ls E hP hS hl
    unfold fRG_requireLink_15 at E
    cases E.symm.trans (etg.trans hc)
  refine lv_iload_n hx hb dRG_requireLink_0 rfl (lv_at hl 1 rfl) ?_
  refine z_if_lt (tgt := 15) hx hb dRG_requireLink_1 (by decide) E (fun c_1 E => ?_) (fun c_1 E => ?_)
  · have r_x0 : zr (-2147483648) (-1) x0 := zlt_x (zr_any x0) (show zr 0 0 0 from by decide) c_1 (by decide)
    exact hJ15 s.heap [] ls  E hP hS (lv_sub hl [] rfl)
  · have r_x0 : zr 0 2147483647 x0 := zle_y (show zr 0 0 0 from by decide) (zr_any x0) (znlt c_1) (by decide)
    refine lv_iload_n hx hb dRG_requireLink_4 rfl (lv_at hl 1 rfl) ?_
    refine lv_aload_n hx hb dRG_requireLink_5 rfl (lv_at hl 0 rfl) ?_
    refine c_getO_RG_plan hx hb (hB.words zU_RG) hown hK hP (hB.word (zm1 k1_235) rfl) dRG_requireLink_6 ?_
    refine c_get_1 hx hb (hB.words zU_PL) hown hK hP (hB.word (zm1 k1_39) rfl) dRG_requireLink_9 E (fun k1 ek1 E => ?_)
    have r_k1 : zr 0 60 k1 := by rw [ek1]; exact gP.2.1 1
    refine z_icmp_lt (tgt := 25) hx hb dRG_requireLink_12 (by decide) E (fun c_12 E => ?_) (fun c_12 E => ?_)
    · have r_x0 : zr 0 59 x0 := zlt_x r_x0 r_k1 c_12 (by decide)
      have r_k1 : zr 1 60 k1 := zlt_y r_x0 r_k1 c_12 (by decide)
      have E := zokE E (etg.trans hc)
      rw [hQe]
      exact W.vret hx hb hr (fun t ht hW => ⟨⟨(), rfl, trivial, trivial⟩, hS.F ht⟩) hS.2.2 dRG_requireLink_25
    · exact hJ15 s.heap [] ls  E hP hS (lv_sub hl [] rfl)
set_option maxHeartbeats 4000000 in
set_option maxRecDepth 100000 in
theorem tRG_requireLink_T1 (l : Launch) (dC : Nat → ClassId) (dI : Nat → Nat → Nat) (cI cZ cJ cA : ClassId) (a0 : Array Value) (s0 : State) (o b : Nat → Nat) (hfl : l.flags = Jvm.pinnedFlags ++ [Jvm.noTraceFlag]) (P S : ZS) (sz : Nat) (x0 : Int32) (gP : cok P) (gS : cok S) (hc : fRG_requireLink P S x0 = .error 1) : tq_Met l yRG_requireLink [Cond.code yRG_requireLink bRG_requireLink 2 none] ({ frames := 6, cells := 1, slots := 6, locals := 90 } : Room) (zP zCl dC dI (zTZ cI cZ cJ cA) a0 s0 [.ref (o 0), .int x0] sz (CW cI cZ cA o b P S)) (tq_Q "java/lang/IllegalArgumentException") 1 6 (zN sz) := by
  refine tq_ofW (cc := bRG_requireLink) (maxL := 2) (ret := none) (by decide) rfl ?_
  intro p e s m args below meth c s₁ B hml htab hv
  obtain ⟨rfl, hsz, hP, hK, hD0, hB⟩ := hv
  have hx := B.exec
  have hb := B.bytes
  have hr := B.returns
  have hown : s.vm.findClass "RingGuard" = some m.cls := findClass_of_methodNamed B.named
  have hlocks := B.notSynchronized
  subst hsz
  have hD := hD0
  have hA0 : ∀ q, zN s.heap.size q → s0.heap.size ≤ q := zA1 hB
  have hAD : ∀ q, zN s0.heap.size q → s0.heap.size ≤ q := fun _ h => h
  have hA : ∀ q : Nat, s.heap.size ≤ q → zN s.heap.size q := fun _ h => h
  have hS : va_S (zN s.heap.size) s.heap s.heap [] := va_S.rf
  have hl := lv_entry ([.ref (o 0), .int x0]) (n := 2) (Nat.le_of_ble_eq_true rfl)
  rw [lg_entry_eq]
  generalize (lg_sl ([.ref (o 0), .int x0]) ++ List.replicate (2 - (lg_sl ([.ref (o 0), .int x0])).length) Slot.unset).toArray = ls at hl ⊢
  have hfl := hfl
  have hl : lv_has ls 2 [(0, .ref (o 0)), (1, .int x0)] := hl
  refine zgenQ (fun Q hQe => ?_)
  obtain ⟨tg, etg⟩ : ∃ z, z = fRG_requireLink P S x0 := ⟨_, rfl⟩
  have E := etg
  unfold fRG_requireLink at E
  have hJ15 : ∀ (H : Heap) (locs : List Loc) (ls : Array Slot), tg = fRG_requireLink_15 P S  → va_P (dC, dI) zCl (CW cI cZ cA o b P S) H → va_S (zN s.heap.size) s.heap H locs → lv_has ls 2 [] → W p l e ({ frames := 6, cells := 1, slots := 6, locals := 90 } : Room) s m ([.ref (o 0), .int x0] : List Value).toArray below meth c H locs 0 0 Q (F0 m 15 ls []) := by
    intro H locs ls E hP hS hl
    unfold fRG_requireLink_15 at E
    obtain ⟨qs, hZ⟩ := hB.str (zm2 k2_189)
    rw [hQe]
    exact zthrow hfl hx hb hown (hB.word (zm2 k2_151) rfl) (hB.word (zm1 k1_14) rfl) hZ (by decide) (hB.words zO_80) (by rw [hml]; exact hl.1) htab hlocks dRG_requireLink_15 dRG_requireLink_18 dRG_requireLink_19 dRG_requireLink_21 dRG_requireLink_24 (Nat.le_of_ble_eq_true rfl) (Nat.le_of_ble_eq_true rfl) (Nat.le_of_ble_eq_true rfl) (Nat.le_of_ble_eq_true rfl) hS rfl rfl
  refine lv_iload_n hx hb dRG_requireLink_0 rfl (lv_at hl 1 rfl) ?_
  refine z_if_lt (tgt := 15) hx hb dRG_requireLink_1 (by decide) E (fun c_1 E => ?_) (fun c_1 E => ?_)
  · have r_x0 : zr (-2147483648) (-1) x0 := zlt_x (zr_any x0) (show zr 0 0 0 from by decide) c_1 (by decide)
    exact hJ15 s.heap [] ls  E hP hS (lv_sub hl [] rfl)
  · have r_x0 : zr 0 2147483647 x0 := zle_y (show zr 0 0 0 from by decide) (zr_any x0) (znlt c_1) (by decide)
    refine lv_iload_n hx hb dRG_requireLink_4 rfl (lv_at hl 1 rfl) ?_
    refine lv_aload_n hx hb dRG_requireLink_5 rfl (lv_at hl 0 rfl) ?_
    refine c_getO_RG_plan hx hb (hB.words zU_RG) hown hK hP (hB.word (zm1 k1_235) rfl) dRG_requireLink_6 ?_
    refine c_get_1 hx hb (hB.words zU_PL) hown hK hP (hB.word (zm1 k1_39) rfl) dRG_requireLink_9 E (fun k1 ek1 E => ?_)
    have r_k1 : zr 0 60 k1 := by rw [ek1]; exact gP.2.1 1
    refine z_icmp_lt (tgt := 25) hx hb dRG_requireLink_12 (by decide) E (fun c_12 E => ?_) (fun c_12 E => ?_)
    · have r_x0 : zr 0 59 x0 := zlt_x r_x0 r_k1 c_12 (by decide)
      have r_k1 : zr 1 60 k1 := zlt_y r_x0 r_k1 c_12 (by decide)
      cases E.symm.trans (etg.trans hc)
    · exact hJ15 s.heap [] ls  E hP hS (lv_sub hl [] rfl)
theorem fRG_requireLink_c {P S : ZS} {x0 : Int32} {k : Nat} (h : fRG_requireLink P S x0 = .error k) : k = 1 := by
  simp only [fRG_requireLink, fRG_requireLink_15, zl, zbind] at h
  repeat' split at h
  all_goals first | (cases h; rfl) | cases h
theorem zk_rL1 {P S : ZS} {x : Int32} {u : Unit} (g : cok P) (h : fRG_requireLink P S x = .ok u) : zr 0 59 x := by
  simp only [fRG_requireLink, fRG_requireLink_15, zl] at h
  split at h
  · cases h
  · rename_i c1
    split at h
    · rename_i c2
      exact zlt_x (zle_y (a := 0) (b := 0) (by decide) (zr_any x) (znlt c1) (by decide) : zr 0 2147483647 x) (g.2.1 1) c2 (by decide)
    · cases h
theorem zk_rL3 {P S : ZS} {x : Int32} {u : Unit} (g : cok P) (h : fRG_requireLink P S x = .ok u) : zr 0 59 x ∧ x.toInt < (P.I 1).toInt := by
  simp only [fRG_requireLink, fRG_requireLink_15, zl] at h
  split at h
  · cases h
  · rename_i c1
    split at h
    · rename_i c2
      exact ⟨zlt_x (zle_y (a := 0) (b := 0) (by decide) (zr_any x) (znlt c1) (by decide) : zr 0 2147483647 x) (g.2.1 1) c2 (by decide), Int32.lt_iff_toInt_lt.mp c2⟩
    · cases h
theorem zk_rL2 {P S : ZS} {x : Int32} {u : Unit} (g : cok P) (h : fRG_requireLink P S x = .ok u) : x.toInt < (P.I 1).toInt := (zk_rL3 g h).2
noncomputable def fRG_requireRing_10 (P : ZS) (S : ZS) : Except Nat (Unit) := .error 1
noncomputable def fRG_requireRing (P S : ZS) (x0 : Int32) : Except Nat (Unit) := (if x0 < 0 then fRG_requireRing_10 P S else (if x0 < 6 then .ok (()) else fRG_requireRing_10 P S))
set_option maxHeartbeats 4000000 in
set_option maxRecDepth 100000 in
theorem tRG_requireRing (l : Launch) (dC : Nat → ClassId) (dI : Nat → Nat → Nat) (cI cZ cJ cA : ClassId) (a0 : Array Value) (s0 : State) (o b : Nat → Nat) (P S : ZS) (sz : Nat) (x0 : Int32) (gP : cok P) (gS : cok S) (y : Unit) (hc : fRG_requireRing P S x0 = .ok y) : Met l yRG_requireRing [Cond.code yRG_requireRing bRG_requireRing 2 none] ({ frames := 0, cells := 0, slots := 0, locals := 0 } : Room) (zP zCl dC dI (zTZ cI cZ cJ cA) a0 s0 [.ref (o 0), .int x0] sz (CW cI cZ cA o b P S)) (zQo sz) 0 0 (zN sz) := by
  refine Met.ofW (cc := bRG_requireRing) (maxL := 2) (ret := none) (by decide) rfl ?_
  intro p e s m args below meth c s₁ B hml hv
  obtain ⟨rfl, hsz, hP, hK, hD0, hB⟩ := hv
  have hx := B.exec
  have hb := B.bytes
  have hr := B.returns
  have hown : s.vm.findClass "RingGuard" = some m.cls := findClass_of_methodNamed B.named
  have hlocks := B.notSynchronized
  subst hsz
  have hD := hD0
  have hA0 : ∀ q, zN s.heap.size q → s0.heap.size ≤ q := zA1 hB
  have hAD : ∀ q, zN s0.heap.size q → s0.heap.size ≤ q := fun _ h => h
  have hA : ∀ q : Nat, s.heap.size ≤ q → zN s.heap.size q := fun _ h => h
  have hS : va_S (zN s.heap.size) s.heap s.heap [] := va_S.rf
  have hl := lv_entry ([.ref (o 0), .int x0]) (n := 2) (Nat.le_of_ble_eq_true rfl)
  rw [lg_entry_eq]
  generalize (lg_sl ([.ref (o 0), .int x0]) ++ List.replicate (2 - (lg_sl ([.ref (o 0), .int x0])).length) Slot.unset).toArray = ls at hl ⊢
  have hl : lv_has ls 2 [(0, .ref (o 0)), (1, .int x0)] := hl
  refine zgenQ (fun Q hQe => ?_)
  obtain ⟨tg, etg⟩ : ∃ z, z = fRG_requireRing P S x0 := ⟨_, rfl⟩
  have E := etg
  unfold fRG_requireRing at E
  have hJ10 : ∀ (H : Heap) (locs : List Loc) (ls : Array Slot), tg = fRG_requireRing_10 P S  → va_P (dC, dI) zCl (CW cI cZ cA o b P S) H → va_S (zN s.heap.size) s.heap H locs → lv_has ls 2 [] → W p l e ({ frames := 0, cells := 0, slots := 0, locals := 0 } : Room) s m ([.ref (o 0), .int x0] : List Value).toArray below meth c H locs 0 0 Q (F0 m 10 ls []) := by
    intro H locs ls E hP hS hl
    unfold fRG_requireRing_10 at E
    cases E.symm.trans (etg.trans hc)
  refine lv_iload_n hx hb dRG_requireRing_0 rfl (lv_at hl 1 rfl) ?_
  refine z_if_lt (tgt := 10) hx hb dRG_requireRing_1 (by decide) E (fun c_1 E => ?_) (fun c_1 E => ?_)
  · have r_x0 : zr (-2147483648) (-1) x0 := zlt_x (zr_any x0) (show zr 0 0 0 from by decide) c_1 (by decide)
    exact hJ10 s.heap [] ls  E hP hS (lv_sub hl [] rfl)
  · have r_x0 : zr 0 2147483647 x0 := zle_y (show zr 0 0 0 from by decide) (zr_any x0) (znlt c_1) (by decide)
    refine lv_iload_n hx hb dRG_requireRing_4 rfl (lv_at hl 1 rfl) ?_
    refine lv_bipush (v := 6) hx hb dRG_requireRing_5 (by decide) ?_
    refine z_icmp_lt (tgt := 20) hx hb dRG_requireRing_7 (by decide) E (fun c_7 E => ?_) (fun c_7 E => ?_)
    · have r_x0 : zr 0 5 x0 := zlt_x r_x0 (show zr 6 6 6 from by decide) c_7 (by decide)
      have E := zokE E (etg.trans hc)
      rw [hQe]
      exact W.vret hx hb hr (fun t ht hW => ⟨⟨(), rfl, trivial, trivial⟩, hS.F ht⟩) hS.2.2 dRG_requireRing_20
    · have r_x0 : zr 6 2147483647 x0 := zle_y (show zr 6 6 6 from by decide) r_x0 (znlt c_7) (by decide)
      exact hJ10 s.heap [] ls  E hP hS (lv_sub hl [] rfl)
set_option maxHeartbeats 4000000 in
set_option maxRecDepth 100000 in
theorem tRG_requireRing_T1 (l : Launch) (dC : Nat → ClassId) (dI : Nat → Nat → Nat) (cI cZ cJ cA : ClassId) (a0 : Array Value) (s0 : State) (o b : Nat → Nat) (hfl : l.flags = Jvm.pinnedFlags ++ [Jvm.noTraceFlag]) (P S : ZS) (sz : Nat) (x0 : Int32) (gP : cok P) (gS : cok S) (hc : fRG_requireRing P S x0 = .error 1) : tq_Met l yRG_requireRing [Cond.code yRG_requireRing bRG_requireRing 2 none] ({ frames := 6, cells := 1, slots := 6, locals := 90 } : Room) (zP zCl dC dI (zTZ cI cZ cJ cA) a0 s0 [.ref (o 0), .int x0] sz (CW cI cZ cA o b P S)) (tq_Q "java/lang/IllegalArgumentException") 1 6 (zN sz) := by
  refine tq_ofW (cc := bRG_requireRing) (maxL := 2) (ret := none) (by decide) rfl ?_
  intro p e s m args below meth c s₁ B hml htab hv
  obtain ⟨rfl, hsz, hP, hK, hD0, hB⟩ := hv
  have hx := B.exec
  have hb := B.bytes
  have hr := B.returns
  have hown : s.vm.findClass "RingGuard" = some m.cls := findClass_of_methodNamed B.named
  have hlocks := B.notSynchronized
  subst hsz
  have hD := hD0
  have hA0 : ∀ q, zN s.heap.size q → s0.heap.size ≤ q := zA1 hB
  have hAD : ∀ q, zN s0.heap.size q → s0.heap.size ≤ q := fun _ h => h
  have hA : ∀ q : Nat, s.heap.size ≤ q → zN s.heap.size q := fun _ h => h
  have hS : va_S (zN s.heap.size) s.heap s.heap [] := va_S.rf
  have hl := lv_entry ([.ref (o 0), .int x0]) (n := 2) (Nat.le_of_ble_eq_true rfl)
  rw [lg_entry_eq]
  generalize (lg_sl ([.ref (o 0), .int x0]) ++ List.replicate (2 - (lg_sl ([.ref (o 0), .int x0])).length) Slot.unset).toArray = ls at hl ⊢
  have hfl := hfl
  have hl : lv_has ls 2 [(0, .ref (o 0)), (1, .int x0)] := hl
  refine zgenQ (fun Q hQe => ?_)
  obtain ⟨tg, etg⟩ : ∃ z, z = fRG_requireRing P S x0 := ⟨_, rfl⟩
  have E := etg
  unfold fRG_requireRing at E
  have hJ10 : ∀ (H : Heap) (locs : List Loc) (ls : Array Slot), tg = fRG_requireRing_10 P S  → va_P (dC, dI) zCl (CW cI cZ cA o b P S) H → va_S (zN s.heap.size) s.heap H locs → lv_has ls 2 [] → W p l e ({ frames := 6, cells := 1, slots := 6, locals := 90 } : Room) s m ([.ref (o 0), .int x0] : List Value).toArray below meth c H locs 0 0 Q (F0 m 10 ls []) := by
    intro H locs ls E hP hS hl
    unfold fRG_requireRing_10 at E
    obtain ⟨qs, hZ⟩ := hB.str (zm2 k2_171)
    rw [hQe]
    exact zthrow hfl hx hb hown (hB.word (zm2 k2_151) rfl) (hB.word (zm1 k1_14) rfl) hZ (by decide) (hB.words zO_80) (by rw [hml]; exact hl.1) htab hlocks dRG_requireRing_10 dRG_requireRing_13 dRG_requireRing_14 dRG_requireRing_16 dRG_requireRing_19 (Nat.le_of_ble_eq_true rfl) (Nat.le_of_ble_eq_true rfl) (Nat.le_of_ble_eq_true rfl) (Nat.le_of_ble_eq_true rfl) hS rfl rfl
  refine lv_iload_n hx hb dRG_requireRing_0 rfl (lv_at hl 1 rfl) ?_
  refine z_if_lt (tgt := 10) hx hb dRG_requireRing_1 (by decide) E (fun c_1 E => ?_) (fun c_1 E => ?_)
  · have r_x0 : zr (-2147483648) (-1) x0 := zlt_x (zr_any x0) (show zr 0 0 0 from by decide) c_1 (by decide)
    exact hJ10 s.heap [] ls  E hP hS (lv_sub hl [] rfl)
  · have r_x0 : zr 0 2147483647 x0 := zle_y (show zr 0 0 0 from by decide) (zr_any x0) (znlt c_1) (by decide)
    refine lv_iload_n hx hb dRG_requireRing_4 rfl (lv_at hl 1 rfl) ?_
    refine lv_bipush (v := 6) hx hb dRG_requireRing_5 (by decide) ?_
    refine z_icmp_lt (tgt := 20) hx hb dRG_requireRing_7 (by decide) E (fun c_7 E => ?_) (fun c_7 E => ?_)
    · have r_x0 : zr 0 5 x0 := zlt_x r_x0 (show zr 6 6 6 from by decide) c_7 (by decide)
      cases E.symm.trans (etg.trans hc)
    · have r_x0 : zr 6 2147483647 x0 := zle_y (show zr 6 6 6 from by decide) r_x0 (znlt c_7) (by decide)
      exact hJ10 s.heap [] ls  E hP hS (lv_sub hl [] rfl)
theorem fRG_requireRing_c {P S : ZS} {x0 : Int32} {k : Nat} (h : fRG_requireRing P S x0 = .error k) : k = 1 := by
  simp only [fRG_requireRing, fRG_requireRing_10, zl, zbind] at h
  repeat' split at h
  all_goals first | (cases h; rfl) | cases h
theorem zk_rR {P S : ZS} {x : Int32} {u : Unit} (g : cok P) (h : fRG_requireRing P S x = .ok u) : zr 0 5 x := by
  simp only [fRG_requireRing, fRG_requireRing_10, zl] at h
  split at h
  · cases h
  · rename_i c1
    split at h
    · rename_i c2
      exact zlt_x (zle_y (a := 0) (b := 0) (by decide) (zr_any x) (znlt c1) (by decide) : zr 0 2147483647 x) (c := 6) (d := 6) (by decide) c2 (by decide)
    · cases h
noncomputable def fRG_requireHost_10 (P : ZS) (S : ZS) : Except Nat (Unit) := .error 1
noncomputable def fRG_requireHost (P S : ZS) (x0 : Int32) : Except Nat (Unit) := (if x0 < 0 then fRG_requireHost_10 P S else (if x0 < 64 then .ok (()) else fRG_requireHost_10 P S))
set_option maxHeartbeats 4000000 in
set_option maxRecDepth 100000 in
theorem tRG_requireHost (l : Launch) (dC : Nat → ClassId) (dI : Nat → Nat → Nat) (cI cZ cJ cA : ClassId) (a0 : Array Value) (s0 : State) (o b : Nat → Nat) (P S : ZS) (sz : Nat) (x0 : Int32) (gP : cok P) (gS : cok S) (y : Unit) (hc : fRG_requireHost P S x0 = .ok y) : Met l yRG_requireHost [Cond.code yRG_requireHost bRG_requireHost 2 none] ({ frames := 0, cells := 0, slots := 0, locals := 0 } : Room) (zP zCl dC dI (zTZ cI cZ cJ cA) a0 s0 [.ref (o 0), .int x0] sz (CW cI cZ cA o b P S)) (zQo sz) 0 0 (zN sz) := by
  refine Met.ofW (cc := bRG_requireHost) (maxL := 2) (ret := none) (by decide) rfl ?_
  intro p e s m args below meth c s₁ B hml hv
  obtain ⟨rfl, hsz, hP, hK, hD0, hB⟩ := hv
  have hx := B.exec
  have hb := B.bytes
  have hr := B.returns
  have hown : s.vm.findClass "RingGuard" = some m.cls := findClass_of_methodNamed B.named
  have hlocks := B.notSynchronized
  subst hsz
  have hD := hD0
  have hA0 : ∀ q, zN s.heap.size q → s0.heap.size ≤ q := zA1 hB
  have hAD : ∀ q, zN s0.heap.size q → s0.heap.size ≤ q := fun _ h => h
  have hA : ∀ q : Nat, s.heap.size ≤ q → zN s.heap.size q := fun _ h => h
  have hS : va_S (zN s.heap.size) s.heap s.heap [] := va_S.rf
  have hl := lv_entry ([.ref (o 0), .int x0]) (n := 2) (Nat.le_of_ble_eq_true rfl)
  rw [lg_entry_eq]
  generalize (lg_sl ([.ref (o 0), .int x0]) ++ List.replicate (2 - (lg_sl ([.ref (o 0), .int x0])).length) Slot.unset).toArray = ls at hl ⊢
  have hl : lv_has ls 2 [(0, .ref (o 0)), (1, .int x0)] := hl
  refine zgenQ (fun Q hQe => ?_)
  obtain ⟨tg, etg⟩ : ∃ z, z = fRG_requireHost P S x0 := ⟨_, rfl⟩
  have E := etg
  unfold fRG_requireHost at E
  have hJ10 : ∀ (H : Heap) (locs : List Loc) (ls : Array Slot), tg = fRG_requireHost_10 P S  → va_P (dC, dI) zCl (CW cI cZ cA o b P S) H → va_S (zN s.heap.size) s.heap H locs → lv_has ls 2 [] → W p l e ({ frames := 0, cells := 0, slots := 0, locals := 0 } : Room) s m ([.ref (o 0), .int x0] : List Value).toArray below meth c H locs 0 0 Q (F0 m 10 ls []) := by
    intro H locs ls E hP hS hl
    unfold fRG_requireHost_10 at E
    cases E.symm.trans (etg.trans hc)
  refine lv_iload_n hx hb dRG_requireHost_0 rfl (lv_at hl 1 rfl) ?_
  refine z_if_lt (tgt := 10) hx hb dRG_requireHost_1 (by decide) E (fun c_1 E => ?_) (fun c_1 E => ?_)
  · have r_x0 : zr (-2147483648) (-1) x0 := zlt_x (zr_any x0) (show zr 0 0 0 from by decide) c_1 (by decide)
    exact hJ10 s.heap [] ls  E hP hS (lv_sub hl [] rfl)
  · have r_x0 : zr 0 2147483647 x0 := zle_y (show zr 0 0 0 from by decide) (zr_any x0) (znlt c_1) (by decide)
    refine lv_iload_n hx hb dRG_requireHost_4 rfl (lv_at hl 1 rfl) ?_
    refine lv_bipush (v := 64) hx hb dRG_requireHost_5 (by decide) ?_
    refine z_icmp_lt (tgt := 20) hx hb dRG_requireHost_7 (by decide) E (fun c_7 E => ?_) (fun c_7 E => ?_)
    · have r_x0 : zr 0 63 x0 := zlt_x r_x0 (show zr 64 64 64 from by decide) c_7 (by decide)
      have E := zokE E (etg.trans hc)
      rw [hQe]
      exact W.vret hx hb hr (fun t ht hW => ⟨⟨(), rfl, trivial, trivial⟩, hS.F ht⟩) hS.2.2 dRG_requireHost_20
    · have r_x0 : zr 64 2147483647 x0 := zle_y (show zr 64 64 64 from by decide) r_x0 (znlt c_7) (by decide)
      exact hJ10 s.heap [] ls  E hP hS (lv_sub hl [] rfl)
set_option maxHeartbeats 4000000 in
set_option maxRecDepth 100000 in
theorem tRG_requireHost_T1 (l : Launch) (dC : Nat → ClassId) (dI : Nat → Nat → Nat) (cI cZ cJ cA : ClassId) (a0 : Array Value) (s0 : State) (o b : Nat → Nat) (hfl : l.flags = Jvm.pinnedFlags ++ [Jvm.noTraceFlag]) (P S : ZS) (sz : Nat) (x0 : Int32) (gP : cok P) (gS : cok S) (hc : fRG_requireHost P S x0 = .error 1) : tq_Met l yRG_requireHost [Cond.code yRG_requireHost bRG_requireHost 2 none] ({ frames := 6, cells := 1, slots := 6, locals := 90 } : Room) (zP zCl dC dI (zTZ cI cZ cJ cA) a0 s0 [.ref (o 0), .int x0] sz (CW cI cZ cA o b P S)) (tq_Q "java/lang/IllegalArgumentException") 1 6 (zN sz) := by
  refine tq_ofW (cc := bRG_requireHost) (maxL := 2) (ret := none) (by decide) rfl ?_
  intro p e s m args below meth c s₁ B hml htab hv
  obtain ⟨rfl, hsz, hP, hK, hD0, hB⟩ := hv
  have hx := B.exec
  have hb := B.bytes
  have hr := B.returns
  have hown : s.vm.findClass "RingGuard" = some m.cls := findClass_of_methodNamed B.named
  have hlocks := B.notSynchronized
  subst hsz
  have hD := hD0
  have hA0 : ∀ q, zN s.heap.size q → s0.heap.size ≤ q := zA1 hB
  have hAD : ∀ q, zN s0.heap.size q → s0.heap.size ≤ q := fun _ h => h
  have hA : ∀ q : Nat, s.heap.size ≤ q → zN s.heap.size q := fun _ h => h
  have hS : va_S (zN s.heap.size) s.heap s.heap [] := va_S.rf
  have hl := lv_entry ([.ref (o 0), .int x0]) (n := 2) (Nat.le_of_ble_eq_true rfl)
  rw [lg_entry_eq]
  generalize (lg_sl ([.ref (o 0), .int x0]) ++ List.replicate (2 - (lg_sl ([.ref (o 0), .int x0])).length) Slot.unset).toArray = ls at hl ⊢
  have hfl := hfl
  have hl : lv_has ls 2 [(0, .ref (o 0)), (1, .int x0)] := hl
  refine zgenQ (fun Q hQe => ?_)
  obtain ⟨tg, etg⟩ : ∃ z, z = fRG_requireHost P S x0 := ⟨_, rfl⟩
  have E := etg
  unfold fRG_requireHost at E
  have hJ10 : ∀ (H : Heap) (locs : List Loc) (ls : Array Slot), tg = fRG_requireHost_10 P S  → va_P (dC, dI) zCl (CW cI cZ cA o b P S) H → va_S (zN s.heap.size) s.heap H locs → lv_has ls 2 [] → W p l e ({ frames := 6, cells := 1, slots := 6, locals := 90 } : Room) s m ([.ref (o 0), .int x0] : List Value).toArray below meth c H locs 0 0 Q (F0 m 10 ls []) := by
    intro H locs ls E hP hS hl
    unfold fRG_requireHost_10 at E
    obtain ⟨qs, hZ⟩ := hB.str (zm4 k4_31)
    rw [hQe]
    exact zthrow hfl hx hb hown (hB.word (zm2 k2_151) rfl) (hB.word (zm1 k1_14) rfl) hZ (by decide) (hB.words zO_80) (by rw [hml]; exact hl.1) htab hlocks dRG_requireHost_10 dRG_requireHost_13 dRG_requireHost_14 dRG_requireHost_16 dRG_requireHost_19 (Nat.le_of_ble_eq_true rfl) (Nat.le_of_ble_eq_true rfl) (Nat.le_of_ble_eq_true rfl) (Nat.le_of_ble_eq_true rfl) hS rfl rfl
  refine lv_iload_n hx hb dRG_requireHost_0 rfl (lv_at hl 1 rfl) ?_
  refine z_if_lt (tgt := 10) hx hb dRG_requireHost_1 (by decide) E (fun c_1 E => ?_) (fun c_1 E => ?_)
  · have r_x0 : zr (-2147483648) (-1) x0 := zlt_x (zr_any x0) (show zr 0 0 0 from by decide) c_1 (by decide)
    exact hJ10 s.heap [] ls  E hP hS (lv_sub hl [] rfl)
  · have r_x0 : zr 0 2147483647 x0 := zle_y (show zr 0 0 0 from by decide) (zr_any x0) (znlt c_1) (by decide)
    refine lv_iload_n hx hb dRG_requireHost_4 rfl (lv_at hl 1 rfl) ?_
    refine lv_bipush (v := 64) hx hb dRG_requireHost_5 (by decide) ?_
    refine z_icmp_lt (tgt := 20) hx hb dRG_requireHost_7 (by decide) E (fun c_7 E => ?_) (fun c_7 E => ?_)
    · have r_x0 : zr 0 63 x0 := zlt_x r_x0 (show zr 64 64 64 from by decide) c_7 (by decide)
      cases E.symm.trans (etg.trans hc)
    · have r_x0 : zr 64 2147483647 x0 := zle_y (show zr 64 64 64 from by decide) r_x0 (znlt c_7) (by decide)
      exact hJ10 s.heap [] ls  E hP hS (lv_sub hl [] rfl)
theorem fRG_requireHost_c {P S : ZS} {x0 : Int32} {k : Nat} (h : fRG_requireHost P S x0 = .error k) : k = 1 := by
  simp only [fRG_requireHost, fRG_requireHost_10, zl, zbind] at h
  repeat' split at h
  all_goals first | (cases h; rfl) | cases h
theorem zk_rH {P S : ZS} {x : Int32} {u : Unit} (g : cok P) (h : fRG_requireHost P S x = .ok u) : zr 0 63 x := by
  simp only [fRG_requireHost, fRG_requireHost_10, zl] at h
  split at h
  · cases h
  · rename_i c1
    split at h
    · rename_i c2
      exact zlt_x (zle_y (a := 0) (b := 0) (by decide) (zr_any x) (znlt c1) (by decide) : zr 0 2147483647 x) (c := 64) (d := 64) (by decide) c2 (by decide)
    · cases h
noncomputable def fRG_requireTag_9 (P : ZS) (S : ZS) : Except Nat (Unit) := .error 1
noncomputable def fRG_requireTag (P S : ZS) (x0 : Int32) : Except Nat (Unit) := (if x0 < 0 then fRG_requireTag_9 P S else (if x0 < 4 then .ok (()) else fRG_requireTag_9 P S))
set_option maxHeartbeats 4000000 in
set_option maxRecDepth 100000 in
theorem tRG_requireTag (l : Launch) (dC : Nat → ClassId) (dI : Nat → Nat → Nat) (cI cZ cJ cA : ClassId) (a0 : Array Value) (s0 : State) (o b : Nat → Nat) (P S : ZS) (sz : Nat) (x0 : Int32) (gP : cok P) (gS : cok S) (y : Unit) (hc : fRG_requireTag P S x0 = .ok y) : Met l yRG_requireTag [Cond.code yRG_requireTag bRG_requireTag 2 none] ({ frames := 0, cells := 0, slots := 0, locals := 0 } : Room) (zP zCl dC dI (zTZ cI cZ cJ cA) a0 s0 [.ref (o 0), .int x0] sz (CW cI cZ cA o b P S)) (zQo sz) 0 0 (zN sz) := by
  refine Met.ofW (cc := bRG_requireTag) (maxL := 2) (ret := none) (by decide) rfl ?_
  intro p e s m args below meth c s₁ B hml hv
  obtain ⟨rfl, hsz, hP, hK, hD0, hB⟩ := hv
  have hx := B.exec
  have hb := B.bytes
  have hr := B.returns
  have hown : s.vm.findClass "RingGuard" = some m.cls := findClass_of_methodNamed B.named
  have hlocks := B.notSynchronized
  subst hsz
  have hD := hD0
  have hA0 : ∀ q, zN s.heap.size q → s0.heap.size ≤ q := zA1 hB
  have hAD : ∀ q, zN s0.heap.size q → s0.heap.size ≤ q := fun _ h => h
  have hA : ∀ q : Nat, s.heap.size ≤ q → zN s.heap.size q := fun _ h => h
  have hS : va_S (zN s.heap.size) s.heap s.heap [] := va_S.rf
  have hl := lv_entry ([.ref (o 0), .int x0]) (n := 2) (Nat.le_of_ble_eq_true rfl)
  rw [lg_entry_eq]
  generalize (lg_sl ([.ref (o 0), .int x0]) ++ List.replicate (2 - (lg_sl ([.ref (o 0), .int x0])).length) Slot.unset).toArray = ls at hl ⊢
  have hl : lv_has ls 2 [(0, .ref (o 0)), (1, .int x0)] := hl
  refine zgenQ (fun Q hQe => ?_)
  obtain ⟨tg, etg⟩ : ∃ z, z = fRG_requireTag P S x0 := ⟨_, rfl⟩
  have E := etg
  unfold fRG_requireTag at E
  have hJ9 : ∀ (H : Heap) (locs : List Loc) (ls : Array Slot), tg = fRG_requireTag_9 P S  → va_P (dC, dI) zCl (CW cI cZ cA o b P S) H → va_S (zN s.heap.size) s.heap H locs → lv_has ls 2 [] → W p l e ({ frames := 0, cells := 0, slots := 0, locals := 0 } : Room) s m ([.ref (o 0), .int x0] : List Value).toArray below meth c H locs 0 0 Q (F0 m 9 ls []) := by
    intro H locs ls E hP hS hl
    unfold fRG_requireTag_9 at E
    cases E.symm.trans (etg.trans hc)
  refine lv_iload_n hx hb dRG_requireTag_0 rfl (lv_at hl 1 rfl) ?_
  refine z_if_lt (tgt := 9) hx hb dRG_requireTag_1 (by decide) E (fun c_1 E => ?_) (fun c_1 E => ?_)
  · have r_x0 : zr (-2147483648) (-1) x0 := zlt_x (zr_any x0) (show zr 0 0 0 from by decide) c_1 (by decide)
    exact hJ9 s.heap [] ls  E hP hS (lv_sub hl [] rfl)
  · have r_x0 : zr 0 2147483647 x0 := zle_y (show zr 0 0 0 from by decide) (zr_any x0) (znlt c_1) (by decide)
    refine lv_iload_n hx hb dRG_requireTag_4 rfl (lv_at hl 1 rfl) ?_
    refine lv_iconst (v := 4) hx hb dRG_requireTag_5 (by decide) ?_
    refine z_icmp_lt (tgt := 19) hx hb dRG_requireTag_6 (by decide) E (fun c_6 E => ?_) (fun c_6 E => ?_)
    · have r_x0 : zr 0 3 x0 := zlt_x r_x0 (show zr 4 4 4 from by decide) c_6 (by decide)
      have E := zokE E (etg.trans hc)
      rw [hQe]
      exact W.vret hx hb hr (fun t ht hW => ⟨⟨(), rfl, trivial, trivial⟩, hS.F ht⟩) hS.2.2 dRG_requireTag_19
    · have r_x0 : zr 4 2147483647 x0 := zle_y (show zr 4 4 4 from by decide) r_x0 (znlt c_6) (by decide)
      exact hJ9 s.heap [] ls  E hP hS (lv_sub hl [] rfl)
set_option maxHeartbeats 4000000 in
set_option maxRecDepth 100000 in
theorem tRG_requireTag_T1 (l : Launch) (dC : Nat → ClassId) (dI : Nat → Nat → Nat) (cI cZ cJ cA : ClassId) (a0 : Array Value) (s0 : State) (o b : Nat → Nat) (hfl : l.flags = Jvm.pinnedFlags ++ [Jvm.noTraceFlag]) (P S : ZS) (sz : Nat) (x0 : Int32) (gP : cok P) (gS : cok S) (hc : fRG_requireTag P S x0 = .error 1) : tq_Met l yRG_requireTag [Cond.code yRG_requireTag bRG_requireTag 2 none] ({ frames := 6, cells := 1, slots := 6, locals := 90 } : Room) (zP zCl dC dI (zTZ cI cZ cJ cA) a0 s0 [.ref (o 0), .int x0] sz (CW cI cZ cA o b P S)) (tq_Q "java/lang/IllegalArgumentException") 1 6 (zN sz) := by
  refine tq_ofW (cc := bRG_requireTag) (maxL := 2) (ret := none) (by decide) rfl ?_
  intro p e s m args below meth c s₁ B hml htab hv
  obtain ⟨rfl, hsz, hP, hK, hD0, hB⟩ := hv
  have hx := B.exec
  have hb := B.bytes
  have hr := B.returns
  have hown : s.vm.findClass "RingGuard" = some m.cls := findClass_of_methodNamed B.named
  have hlocks := B.notSynchronized
  subst hsz
  have hD := hD0
  have hA0 : ∀ q, zN s.heap.size q → s0.heap.size ≤ q := zA1 hB
  have hAD : ∀ q, zN s0.heap.size q → s0.heap.size ≤ q := fun _ h => h
  have hA : ∀ q : Nat, s.heap.size ≤ q → zN s.heap.size q := fun _ h => h
  have hS : va_S (zN s.heap.size) s.heap s.heap [] := va_S.rf
  have hl := lv_entry ([.ref (o 0), .int x0]) (n := 2) (Nat.le_of_ble_eq_true rfl)
  rw [lg_entry_eq]
  generalize (lg_sl ([.ref (o 0), .int x0]) ++ List.replicate (2 - (lg_sl ([.ref (o 0), .int x0])).length) Slot.unset).toArray = ls at hl ⊢
  have hfl := hfl
  have hl : lv_has ls 2 [(0, .ref (o 0)), (1, .int x0)] := hl
  refine zgenQ (fun Q hQe => ?_)
  obtain ⟨tg, etg⟩ : ∃ z, z = fRG_requireTag P S x0 := ⟨_, rfl⟩
  have E := etg
  unfold fRG_requireTag at E
  have hJ9 : ∀ (H : Heap) (locs : List Loc) (ls : Array Slot), tg = fRG_requireTag_9 P S  → va_P (dC, dI) zCl (CW cI cZ cA o b P S) H → va_S (zN s.heap.size) s.heap H locs → lv_has ls 2 [] → W p l e ({ frames := 6, cells := 1, slots := 6, locals := 90 } : Room) s m ([.ref (o 0), .int x0] : List Value).toArray below meth c H locs 0 0 Q (F0 m 9 ls []) := by
    intro H locs ls E hP hS hl
    unfold fRG_requireTag_9 at E
    obtain ⟨qs, hZ⟩ := hB.str (zm4 k4_47)
    rw [hQe]
    exact zthrow hfl hx hb hown (hB.word (zm2 k2_151) rfl) (hB.word (zm1 k1_14) rfl) hZ (by decide) (hB.words zO_80) (by rw [hml]; exact hl.1) htab hlocks dRG_requireTag_9 dRG_requireTag_12 dRG_requireTag_13 dRG_requireTag_15 dRG_requireTag_18 (Nat.le_of_ble_eq_true rfl) (Nat.le_of_ble_eq_true rfl) (Nat.le_of_ble_eq_true rfl) (Nat.le_of_ble_eq_true rfl) hS rfl rfl
  refine lv_iload_n hx hb dRG_requireTag_0 rfl (lv_at hl 1 rfl) ?_
  refine z_if_lt (tgt := 9) hx hb dRG_requireTag_1 (by decide) E (fun c_1 E => ?_) (fun c_1 E => ?_)
  · have r_x0 : zr (-2147483648) (-1) x0 := zlt_x (zr_any x0) (show zr 0 0 0 from by decide) c_1 (by decide)
    exact hJ9 s.heap [] ls  E hP hS (lv_sub hl [] rfl)
  · have r_x0 : zr 0 2147483647 x0 := zle_y (show zr 0 0 0 from by decide) (zr_any x0) (znlt c_1) (by decide)
    refine lv_iload_n hx hb dRG_requireTag_4 rfl (lv_at hl 1 rfl) ?_
    refine lv_iconst (v := 4) hx hb dRG_requireTag_5 (by decide) ?_
    refine z_icmp_lt (tgt := 19) hx hb dRG_requireTag_6 (by decide) E (fun c_6 E => ?_) (fun c_6 E => ?_)
    · have r_x0 : zr 0 3 x0 := zlt_x r_x0 (show zr 4 4 4 from by decide) c_6 (by decide)
      cases E.symm.trans (etg.trans hc)
    · have r_x0 : zr 4 2147483647 x0 := zle_y (show zr 4 4 4 from by decide) r_x0 (znlt c_6) (by decide)
      exact hJ9 s.heap [] ls  E hP hS (lv_sub hl [] rfl)
theorem fRG_requireTag_c {P S : ZS} {x0 : Int32} {k : Nat} (h : fRG_requireTag P S x0 = .error k) : k = 1 := by
  simp only [fRG_requireTag, fRG_requireTag_9, zl, zbind] at h
  repeat' split at h
  all_goals first | (cases h; rfl) | cases h
theorem zk_rT {P S : ZS} {x : Int32} {u : Unit} (g : cok P) (h : fRG_requireTag P S x = .ok u) : zr 0 3 x := by
  simp only [fRG_requireTag, fRG_requireTag_9, zl] at h
  split at h
  · cases h
  · rename_i c1
    split at h
    · rename_i c2
      exact zlt_x (zle_y (a := 0) (b := 0) (by decide) (zr_any x) (znlt c1) (by decide) : zr 0 2147483647 x) (c := 4) (d := 4) (by decide) c2 (by decide)
    · cases h
noncomputable def fRG_requireNotStarted (P S : ZS) : Except Nat (Unit) := zl (P.I 2) (fun k1 => (if k1 = 0 then .ok (()) else .error 2))
set_option maxHeartbeats 4000000 in
set_option maxRecDepth 100000 in
theorem tRG_requireNotStarted (l : Launch) (dC : Nat → ClassId) (dI : Nat → Nat → Nat) (cI cZ cJ cA : ClassId) (a0 : Array Value) (s0 : State) (o b : Nat → Nat) (P S : ZS) (sz : Nat) (gP : cok P) (gS : cok S) (y : Unit) (hc : fRG_requireNotStarted P S  = .ok y) : Met l yRG_requireNotStarted [Cond.code yRG_requireNotStarted bRG_requireNotStarted 1 none] ({ frames := 0, cells := 0, slots := 0, locals := 0 } : Room) (zP zCl dC dI (zTZ cI cZ cJ cA) a0 s0 [.ref (o 0)] sz (CW cI cZ cA o b P S)) (zQo sz) 0 0 (zN sz) := by
  refine Met.ofW (cc := bRG_requireNotStarted) (maxL := 1) (ret := none) (by decide) rfl ?_
  intro p e s m args below meth c s₁ B hml hv
  obtain ⟨rfl, hsz, hP, hK, hD0, hB⟩ := hv
  have hx := B.exec
  have hb := B.bytes
  have hr := B.returns
  have hown : s.vm.findClass "RingGuard" = some m.cls := findClass_of_methodNamed B.named
  have hlocks := B.notSynchronized
  subst hsz
  have hD := hD0
  have hA0 : ∀ q, zN s.heap.size q → s0.heap.size ≤ q := zA1 hB
  have hAD : ∀ q, zN s0.heap.size q → s0.heap.size ≤ q := fun _ h => h
  have hA : ∀ q : Nat, s.heap.size ≤ q → zN s.heap.size q := fun _ h => h
  have hS : va_S (zN s.heap.size) s.heap s.heap [] := va_S.rf
  have hl := lv_entry ([.ref (o 0)]) (n := 1) (Nat.le_of_ble_eq_true rfl)
  rw [lg_entry_eq]
  generalize (lg_sl ([.ref (o 0)]) ++ List.replicate (1 - (lg_sl ([.ref (o 0)])).length) Slot.unset).toArray = ls at hl ⊢
  have hl : lv_has ls 1 [(0, .ref (o 0))] := hl
  refine zgenQ (fun Q hQe => ?_)
  obtain ⟨tg, etg⟩ : ∃ z, z = fRG_requireNotStarted P S  := ⟨_, rfl⟩
  have E := etg
  unfold fRG_requireNotStarted at E
  refine lv_aload_n hx hb dRG_requireNotStarted_0 rfl (lv_at hl 0 rfl) ?_
  refine c_get_2 hx hb (hB.words zU_RG) hown hK hP (hB.word (zm2 k2_1) rfl) dRG_requireNotStarted_1 E (fun k1 ek1 E => ?_)
  have r_k1 : zr 0 1 k1 := by rw [ek1]; exact gP.2.1 2
  refine z_if_eq (tgt := 17) hx hb dRG_requireNotStarted_4 (by decide) E (fun c_4 E => ?_) (fun c_4 E => ?_)
  · have r_k1 : zr 0 0 k1 := zeq_x (show zr 0 0 0 from by decide) c_4
    have E := zokE E (etg.trans hc)
    rw [hQe]
    exact W.vret hx hb hr (fun t ht hW => ⟨⟨(), rfl, trivial, trivial⟩, hS.F ht⟩) hS.2.2 dRG_requireNotStarted_17
  · have r_k1 : zr 1 1 k1 := zne_lo r_k1 c_4 (by decide)
    cases E.symm.trans (etg.trans hc)
set_option maxHeartbeats 4000000 in
set_option maxRecDepth 100000 in
theorem tRG_requireNotStarted_T2 (l : Launch) (dC : Nat → ClassId) (dI : Nat → Nat → Nat) (cI cZ cJ cA : ClassId) (a0 : Array Value) (s0 : State) (o b : Nat → Nat) (hfl : l.flags = Jvm.pinnedFlags ++ [Jvm.noTraceFlag]) (P S : ZS) (sz : Nat) (gP : cok P) (gS : cok S) (hc : fRG_requireNotStarted P S  = .error 2) : tq_Met l yRG_requireNotStarted [Cond.code yRG_requireNotStarted bRG_requireNotStarted 1 none] ({ frames := 6, cells := 1, slots := 6, locals := 90 } : Room) (zP zCl dC dI (zTZ cI cZ cJ cA) a0 s0 [.ref (o 0)] sz (CW cI cZ cA o b P S)) (tq_Q "java/lang/IllegalStateException") 1 6 (zN sz) := by
  refine tq_ofW (cc := bRG_requireNotStarted) (maxL := 1) (ret := none) (by decide) rfl ?_
  intro p e s m args below meth c s₁ B hml htab hv
  obtain ⟨rfl, hsz, hP, hK, hD0, hB⟩ := hv
  have hx := B.exec
  have hb := B.bytes
  have hr := B.returns
  have hown : s.vm.findClass "RingGuard" = some m.cls := findClass_of_methodNamed B.named
  have hlocks := B.notSynchronized
  subst hsz
  have hD := hD0
  have hA0 : ∀ q, zN s.heap.size q → s0.heap.size ≤ q := zA1 hB
  have hAD : ∀ q, zN s0.heap.size q → s0.heap.size ≤ q := fun _ h => h
  have hA : ∀ q : Nat, s.heap.size ≤ q → zN s.heap.size q := fun _ h => h
  have hS : va_S (zN s.heap.size) s.heap s.heap [] := va_S.rf
  have hl := lv_entry ([.ref (o 0)]) (n := 1) (Nat.le_of_ble_eq_true rfl)
  rw [lg_entry_eq]
  generalize (lg_sl ([.ref (o 0)]) ++ List.replicate (1 - (lg_sl ([.ref (o 0)])).length) Slot.unset).toArray = ls at hl ⊢
  have hfl := hfl
  have hl : lv_has ls 1 [(0, .ref (o 0))] := hl
  refine zgenQ (fun Q hQe => ?_)
  obtain ⟨tg, etg⟩ : ∃ z, z = fRG_requireNotStarted P S  := ⟨_, rfl⟩
  have E := etg
  unfold fRG_requireNotStarted at E
  refine lv_aload_n hx hb dRG_requireNotStarted_0 rfl (lv_at hl 0 rfl) ?_
  refine c_get_2 hx hb (hB.words zU_RG) hown hK hP (hB.word (zm2 k2_1) rfl) dRG_requireNotStarted_1 E (fun k1 ek1 E => ?_)
  have r_k1 : zr 0 1 k1 := by rw [ek1]; exact gP.2.1 2
  refine z_if_eq (tgt := 17) hx hb dRG_requireNotStarted_4 (by decide) E (fun c_4 E => ?_) (fun c_4 E => ?_)
  · have r_k1 : zr 0 0 k1 := zeq_x (show zr 0 0 0 from by decide) c_4
    cases E.symm.trans (etg.trans hc)
  · have r_k1 : zr 1 1 k1 := zne_lo r_k1 c_4 (by decide)
    obtain ⟨qs, hZ⟩ := hB.str (zm2 k2_111)
    rw [hQe]
    exact zthrow hfl hx hb hown (hB.word (zm2 k2_71) rfl) (hB.word (zm1 k1_13) rfl) hZ (by decide) (hB.words zO_66) (by rw [hml]; exact hl.1) htab hlocks dRG_requireNotStarted_7 dRG_requireNotStarted_10 dRG_requireNotStarted_11 dRG_requireNotStarted_13 dRG_requireNotStarted_16 (Nat.le_of_ble_eq_true rfl) (Nat.le_of_ble_eq_true rfl) (Nat.le_of_ble_eq_true rfl) (Nat.le_of_ble_eq_true rfl) hS rfl rfl
theorem fRG_requireNotStarted_c {P S : ZS} {k : Nat} (h : fRG_requireNotStarted P S  = .error k) : k = 2 := by
  simp only [fRG_requireNotStarted, zl, zbind] at h
  repeat' split at h
  all_goals first | (cases h; rfl) | cases h
noncomputable def fRG_requireStarted (P S : ZS) : Except Nat (Unit) := zl (P.I 2) (fun k1 => (if k1 = 0 then .error 2 else .ok (())))
set_option maxHeartbeats 4000000 in
set_option maxRecDepth 100000 in
theorem tRG_requireStarted (l : Launch) (dC : Nat → ClassId) (dI : Nat → Nat → Nat) (cI cZ cJ cA : ClassId) (a0 : Array Value) (s0 : State) (o b : Nat → Nat) (P S : ZS) (sz : Nat) (gP : cok P) (gS : cok S) (y : Unit) (hc : fRG_requireStarted P S  = .ok y) : Met l yRG_requireStarted [Cond.code yRG_requireStarted bRG_requireStarted 1 none] ({ frames := 0, cells := 0, slots := 0, locals := 0 } : Room) (zP zCl dC dI (zTZ cI cZ cJ cA) a0 s0 [.ref (o 0)] sz (CW cI cZ cA o b P S)) (zQo sz) 0 0 (zN sz) := by
  refine Met.ofW (cc := bRG_requireStarted) (maxL := 1) (ret := none) (by decide) rfl ?_
  intro p e s m args below meth c s₁ B hml hv
  obtain ⟨rfl, hsz, hP, hK, hD0, hB⟩ := hv
  have hx := B.exec
  have hb := B.bytes
  have hr := B.returns
  have hown : s.vm.findClass "RingGuard" = some m.cls := findClass_of_methodNamed B.named
  have hlocks := B.notSynchronized
  subst hsz
  have hD := hD0
  have hA0 : ∀ q, zN s.heap.size q → s0.heap.size ≤ q := zA1 hB
  have hAD : ∀ q, zN s0.heap.size q → s0.heap.size ≤ q := fun _ h => h
  have hA : ∀ q : Nat, s.heap.size ≤ q → zN s.heap.size q := fun _ h => h
  have hS : va_S (zN s.heap.size) s.heap s.heap [] := va_S.rf
  have hl := lv_entry ([.ref (o 0)]) (n := 1) (Nat.le_of_ble_eq_true rfl)
  rw [lg_entry_eq]
  generalize (lg_sl ([.ref (o 0)]) ++ List.replicate (1 - (lg_sl ([.ref (o 0)])).length) Slot.unset).toArray = ls at hl ⊢
  have hl : lv_has ls 1 [(0, .ref (o 0))] := hl
  refine zgenQ (fun Q hQe => ?_)
  obtain ⟨tg, etg⟩ : ∃ z, z = fRG_requireStarted P S  := ⟨_, rfl⟩
  have E := etg
  unfold fRG_requireStarted at E
  refine lv_aload_n hx hb dRG_requireStarted_0 rfl (lv_at hl 0 rfl) ?_
  refine c_get_2 hx hb (hB.words zU_RG) hown hK hP (hB.word (zm2 k2_1) rfl) dRG_requireStarted_1 E (fun k1 ek1 E => ?_)
  have r_k1 : zr 0 1 k1 := by rw [ek1]; exact gP.2.1 2
  refine z_if_ne (tgt := 17) hx hb dRG_requireStarted_4 (by decide) E (fun c_4 E => ?_) (fun c_4 E => ?_)
  · have r_k1 : zr 1 1 k1 := zne_lo r_k1 c_4 (by decide)
    have E := zokE E (etg.trans hc)
    rw [hQe]
    exact W.vret hx hb hr (fun t ht hW => ⟨⟨(), rfl, trivial, trivial⟩, hS.F ht⟩) hS.2.2 dRG_requireStarted_17
  · have r_k1 : zr 0 0 k1 := zeq_x (show zr 0 0 0 from by decide) c_4
    cases E.symm.trans (etg.trans hc)
set_option maxHeartbeats 4000000 in
set_option maxRecDepth 100000 in
theorem tRG_requireStarted_T2 (l : Launch) (dC : Nat → ClassId) (dI : Nat → Nat → Nat) (cI cZ cJ cA : ClassId) (a0 : Array Value) (s0 : State) (o b : Nat → Nat) (hfl : l.flags = Jvm.pinnedFlags ++ [Jvm.noTraceFlag]) (P S : ZS) (sz : Nat) (gP : cok P) (gS : cok S) (hc : fRG_requireStarted P S  = .error 2) : tq_Met l yRG_requireStarted [Cond.code yRG_requireStarted bRG_requireStarted 1 none] ({ frames := 6, cells := 1, slots := 6, locals := 90 } : Room) (zP zCl dC dI (zTZ cI cZ cJ cA) a0 s0 [.ref (o 0)] sz (CW cI cZ cA o b P S)) (tq_Q "java/lang/IllegalStateException") 1 6 (zN sz) := by
  refine tq_ofW (cc := bRG_requireStarted) (maxL := 1) (ret := none) (by decide) rfl ?_
  intro p e s m args below meth c s₁ B hml htab hv
  obtain ⟨rfl, hsz, hP, hK, hD0, hB⟩ := hv
  have hx := B.exec
  have hb := B.bytes
  have hr := B.returns
  have hown : s.vm.findClass "RingGuard" = some m.cls := findClass_of_methodNamed B.named
  have hlocks := B.notSynchronized
  subst hsz
  have hD := hD0
  have hA0 : ∀ q, zN s.heap.size q → s0.heap.size ≤ q := zA1 hB
  have hAD : ∀ q, zN s0.heap.size q → s0.heap.size ≤ q := fun _ h => h
  have hA : ∀ q : Nat, s.heap.size ≤ q → zN s.heap.size q := fun _ h => h
  have hS : va_S (zN s.heap.size) s.heap s.heap [] := va_S.rf
  have hl := lv_entry ([.ref (o 0)]) (n := 1) (Nat.le_of_ble_eq_true rfl)
  rw [lg_entry_eq]
  generalize (lg_sl ([.ref (o 0)]) ++ List.replicate (1 - (lg_sl ([.ref (o 0)])).length) Slot.unset).toArray = ls at hl ⊢
  have hfl := hfl
  have hl : lv_has ls 1 [(0, .ref (o 0))] := hl
  refine zgenQ (fun Q hQe => ?_)
  obtain ⟨tg, etg⟩ : ∃ z, z = fRG_requireStarted P S  := ⟨_, rfl⟩
  have E := etg
  unfold fRG_requireStarted at E
  refine lv_aload_n hx hb dRG_requireStarted_0 rfl (lv_at hl 0 rfl) ?_
  refine c_get_2 hx hb (hB.words zU_RG) hown hK hP (hB.word (zm2 k2_1) rfl) dRG_requireStarted_1 E (fun k1 ek1 E => ?_)
  have r_k1 : zr 0 1 k1 := by rw [ek1]; exact gP.2.1 2
  refine z_if_ne (tgt := 17) hx hb dRG_requireStarted_4 (by decide) E (fun c_4 E => ?_) (fun c_4 E => ?_)
  · have r_k1 : zr 1 1 k1 := zne_lo r_k1 c_4 (by decide)
    cases E.symm.trans (etg.trans hc)
  · have r_k1 : zr 0 0 k1 := zeq_x (show zr 0 0 0 from by decide) c_4
    obtain ⟨qs, hZ⟩ := hB.str (zm3 k3_59)
    rw [hQe]
    exact zthrow hfl hx hb hown (hB.word (zm2 k2_71) rfl) (hB.word (zm1 k1_13) rfl) hZ (by decide) (hB.words zO_66) (by rw [hml]; exact hl.1) htab hlocks dRG_requireStarted_7 dRG_requireStarted_10 dRG_requireStarted_11 dRG_requireStarted_13 dRG_requireStarted_16 (Nat.le_of_ble_eq_true rfl) (Nat.le_of_ble_eq_true rfl) (Nat.le_of_ble_eq_true rfl) (Nat.le_of_ble_eq_true rfl) hS rfl rfl
theorem fRG_requireStarted_c {P S : ZS} {k : Nat} (h : fRG_requireStarted P S  = .error k) : k = 2 := by
  simp only [fRG_requireStarted, zl, zbind] at h
  repeat' split at h
  all_goals first | (cases h; rfl) | cases h
noncomputable def fRG_requirePort (P S : ZS) (x0 : Int32) (x1 : Int32) : Except Nat (Unit) := zbind (fRG_requireBridge P S x0) (fun u1 => zbind (fRG_requireLink P S x1) (fun u4 => zl (fPL_portOf P S x0 x1) (fun k8 => (if k8 = (-1) then .error 1 else .ok (())))))
set_option maxHeartbeats 4000000 in
set_option maxRecDepth 100000 in
theorem tRG_requirePort (l : Launch) (dC : Nat → ClassId) (dI : Nat → Nat → Nat) (cI cZ cJ cA : ClassId) (a0 : Array Value) (s0 : State) (o b : Nat → Nat) (P S : ZS) (sz : Nat) (x0 : Int32) (x1 : Int32) (gP : cok P) (gS : cok S) (y : Unit) (hc : fRG_requirePort P S x0 x1 = .ok y) : Met l yRG_requirePort [Cond.code yRG_requirePort bRG_requirePort 3 none] ({ frames := 1, cells := 0, slots := 0, locals := 22 } : Room) (zP zCl dC dI (zTZ cI cZ cJ cA) a0 s0 [.ref (o 0), .int x0, .int x1] sz (CW cI cZ cA o b P S)) (zQo sz) 0 0 (zN sz) := by
  refine Met.ofW (cc := bRG_requirePort) (maxL := 3) (ret := none) (by decide) rfl ?_
  intro p e s m args below meth c s₁ B hml hv
  obtain ⟨rfl, hsz, hP, hK, hD0, hB⟩ := hv
  have hx := B.exec
  have hb := B.bytes
  have hr := B.returns
  have hown : s.vm.findClass "RingGuard" = some m.cls := findClass_of_methodNamed B.named
  have hlocks := B.notSynchronized
  subst hsz
  have hD := hD0
  have hA0 : ∀ q, zN s.heap.size q → s0.heap.size ≤ q := zA1 hB
  have hAD : ∀ q, zN s0.heap.size q → s0.heap.size ≤ q := fun _ h => h
  have hA : ∀ q : Nat, s.heap.size ≤ q → zN s.heap.size q := fun _ h => h
  have hS : va_S (zN s.heap.size) s.heap s.heap [] := va_S.rf
  have hl := lv_entry ([.ref (o 0), .int x0, .int x1]) (n := 3) (Nat.le_of_ble_eq_true rfl)
  rw [lg_entry_eq]
  generalize (lg_sl ([.ref (o 0), .int x0, .int x1]) ++ List.replicate (3 - (lg_sl ([.ref (o 0), .int x0, .int x1])).length) Slot.unset).toArray = ls at hl ⊢
  have hl : lv_has ls 3 [(0, .ref (o 0)), (1, .int x0), (2, .int x1)] := hl
  refine zgenQ (fun Q hQe => ?_)
  obtain ⟨tg, etg⟩ : ∃ z, z = fRG_requirePort P S x0 x1 := ⟨_, rfl⟩
  have E := etg
  unfold fRG_requirePort at E
  refine lv_aload_n hx hb dRG_requirePort_0 rfl (lv_at hl 0 rfl) ?_
  refine lv_iload_n hx hb dRG_requirePort_1 rfl (lv_at hl 1 rfl) ?_
  refine z_bind E (fun k9 h2 E => ?_) (fun u1 h2 E => ?_)
  · cases E.symm.trans (etg.trans hc)
  · skip
    refine zcallo (va_runV (As := [.int x0]) (rest := []) ⟨hx, hb, hml, hown, zno⟩ (tRG_requireBridge l dC dI cI cZ cJ cA a0 s0 o b P S s.heap.size x0 gP gS u1 h2) (zcw 1 (hB.word (zm2 k2_150) rfl) (hB.word (zm1 k1_1) rfl) (hB.word (zm2 k2_147) rfl) (hB.word (zm2 k2_149) rfl) (k2_selects_private (by decide) (hB.word (zm1 k1_18) rfl) (hB.word (zm2 k2_148) rfl) (hB.word (zm2 k2_149) rfl)) rfl rfl (by decide +kernel) ⟨Nat.le_of_ble_eq_true rfl, Nat.le_of_ble_eq_true rfl⟩) ⟨zP_blind, va_recv hK hP (ci := 0) (q0 := 0) rfl rfl, zP_pre hP hK hD hAD (zB_on hB hA0 hS)⟩ rfl rfl hl.1 rfl (lv_room (Nat.le_of_ble_eq_true rfl)) dRG_requirePort_2 ⟨Nat.le_of_ble_eq_true rfl, Nat.le_of_ble_eq_true rfl⟩) hS hA (fun H3 locs hz1 hk1 hS => ?_)
    have hP := zKeep hP hk1
    have r_x0 : zr 0 47 x0 := zk_rB1 gP h2
    have qlb_x0 : x0.toInt < (P.I 0).toInt := zk_rB2 gP h2
    refine lv_aload_n hx hb dRG_requirePort_5 rfl (lv_at hl 0 rfl) ?_
    refine lv_iload_n hx hb dRG_requirePort_6 rfl (lv_at hl 2 rfl) ?_
    refine z_bind E (fun k9 h5 E => ?_) (fun u4 h5 E => ?_)
    · cases E.symm.trans (etg.trans hc)
    · skip
      refine zcallo (va_runV (As := [.int x1]) (rest := []) ⟨hx, hb, hml, hown, zno⟩ (tRG_requireLink l dC dI cI cZ cJ cA a0 s0 o b P S H3.size x1 gP gS u4 h5) (zcw 1 (hB.word (zm2 k2_188) rfl) (hB.word (zm1 k1_1) rfl) (hB.word (zm2 k2_185) rfl) (hB.word (zm2 k2_187) rfl) (k2_selects_private (by decide) (hB.word (zm1 k1_18) rfl) (hB.word (zm2 k2_186) rfl) (hB.word (zm2 k2_187) rfl)) rfl rfl (by decide +kernel) ⟨Nat.le_of_ble_eq_true rfl, Nat.le_of_ble_eq_true rfl⟩) ⟨zP_blind, va_recv hK hP (ci := 0) (q0 := 0) rfl rfl, zP_pre hP hK hD hAD (zB_on hB hA0 hS)⟩ rfl rfl hl.1 rfl (lv_room (Nat.le_of_ble_eq_true rfl)) dRG_requirePort_7 ⟨Nat.le_of_ble_eq_true rfl, Nat.le_of_ble_eq_true rfl⟩) hS hA (fun H6 locs hz1 hk1 hS => ?_)
      have hP := zKeep hP hk1
      have r_x1 : zr 0 59 x1 := zk_rL1 gP h5
      have qll_x1 : x1.toInt < (P.I 1).toInt := zk_rL2 gP h5
      refine lv_aload_n hx hb dRG_requirePort_10 rfl (lv_at hl 0 rfl) ?_
      refine c_getO_RG_plan hx hb (hB.words zU_RG) hown hK hP (hB.word (zm1 k1_235) rfl) dRG_requirePort_11 ?_
      refine lv_iload_n hx hb dRG_requirePort_14 rfl (lv_at hl 1 rfl) ?_
      refine lv_iload_n hx hb dRG_requirePort_15 rfl (lv_at hl 2 rfl) ?_
      refine zcallp (va_runV (As := [.int x0, .int x1]) (rest := []) ⟨hx, hb, hml, hown, zno⟩ (tPL_portOf l dC dI cI cZ cJ cA a0 s0 o b P S H6.size x0 x1 gP gS r_x1) (zcw 2 (hB.word (zm2 k2_212) rfl) (hB.word (zm1 k1_2) rfl) (hB.word (zm3 k3_128) rfl) (hB.word (zm2 k2_210) rfl) (hB.word (zm2 k2_211) rfl) rfl rfl (by decide +kernel) ⟨Nat.le_of_ble_eq_true rfl, Nat.le_of_ble_eq_true rfl⟩) ⟨zP_blind, va_recv hK hP (ci := 1) (q0 := 1) rfl rfl, zP_pre hP hK hD hAD (zB_on hB hA0 hS)⟩ rfl rfl hl.1 rfl (lv_room (Nat.le_of_ble_eq_true rfl)) dRG_requirePort_16 ⟨Nat.le_of_ble_eq_true rfl, Nat.le_of_ble_eq_true rfl⟩) hS hA (fun k8 H7 locs hk8 hz1 hk1 hS => ?_)
      have hP := zKeep hP hk1
      have E := zl_s E hk8.1
      refine lv_iconst (v := (-1)) hx hb dRG_requirePort_19 (by decide) ?_
      refine z_icmp_ne (tgt := 33) hx hb dRG_requirePort_20 (by decide) E (fun c_20 E => ?_) (fun c_20 E => ?_)
      · have r_k8 : zr 0 119 k8 := zne_lo hk8.2 c_20 (by decide)
        have E := zokE E (etg.trans hc)
        rw [hQe]
        exact W.vret hx hb hr (fun t ht hW => ⟨⟨(), rfl, trivial, trivial⟩, hS.F ht⟩) hS.2.2 dRG_requirePort_33
      · have r_k8 : zr (-1) (-1) k8 := zeq_x (show zr (-1) (-1) (-1) from by decide) c_20
        cases E.symm.trans (etg.trans hc)
set_option maxHeartbeats 4000000 in
set_option maxRecDepth 100000 in
theorem tRG_requirePort_T1 (l : Launch) (dC : Nat → ClassId) (dI : Nat → Nat → Nat) (cI cZ cJ cA : ClassId) (a0 : Array Value) (s0 : State) (o b : Nat → Nat) (hfl : l.flags = Jvm.pinnedFlags ++ [Jvm.noTraceFlag]) (P S : ZS) (sz : Nat) (x0 : Int32) (x1 : Int32) (gP : cok P) (gS : cok S) (hc : fRG_requirePort P S x0 x1 = .error 1) : tq_Met l yRG_requirePort [Cond.code yRG_requirePort bRG_requirePort 3 none] ({ frames := 7, cells := 1, slots := 6, locals := 111 } : Room) (zP zCl dC dI (zTZ cI cZ cJ cA) a0 s0 [.ref (o 0), .int x0, .int x1] sz (CW cI cZ cA o b P S)) (tq_Q "java/lang/IllegalArgumentException") 1 6 (zN sz) := by
  refine tq_ofW (cc := bRG_requirePort) (maxL := 3) (ret := none) (by decide) rfl ?_
  intro p e s m args below meth c s₁ B hml htab hv
  obtain ⟨rfl, hsz, hP, hK, hD0, hB⟩ := hv
  have hx := B.exec
  have hb := B.bytes
  have hr := B.returns
  have hown : s.vm.findClass "RingGuard" = some m.cls := findClass_of_methodNamed B.named
  have hlocks := B.notSynchronized
  subst hsz
  have hD := hD0
  have hA0 : ∀ q, zN s.heap.size q → s0.heap.size ≤ q := zA1 hB
  have hAD : ∀ q, zN s0.heap.size q → s0.heap.size ≤ q := fun _ h => h
  have hA : ∀ q : Nat, s.heap.size ≤ q → zN s.heap.size q := fun _ h => h
  have hS : va_S (zN s.heap.size) s.heap s.heap [] := va_S.rf
  have hl := lv_entry ([.ref (o 0), .int x0, .int x1]) (n := 3) (Nat.le_of_ble_eq_true rfl)
  rw [lg_entry_eq]
  generalize (lg_sl ([.ref (o 0), .int x0, .int x1]) ++ List.replicate (3 - (lg_sl ([.ref (o 0), .int x0, .int x1])).length) Slot.unset).toArray = ls at hl ⊢
  have hfl := hfl
  have hl : lv_has ls 3 [(0, .ref (o 0)), (1, .int x0), (2, .int x1)] := hl
  refine zgenQ (fun Q hQe => ?_)
  obtain ⟨tg, etg⟩ : ∃ z, z = fRG_requirePort P S x0 x1 := ⟨_, rfl⟩
  have E := etg
  unfold fRG_requirePort at E
  refine lv_aload_n hx hb dRG_requirePort_0 rfl (lv_at hl 0 rfl) ?_
  refine lv_iload_n hx hb dRG_requirePort_1 rfl (lv_at hl 1 rfl) ?_
  refine z_bind E (fun k9 h2 E => ?_) (fun u1 h2 E => ?_)
  · have x9 : k9 = 1 := zerr (E.symm.trans (etg.trans hc))
    subst x9
    rw [hQe]
    exact zpass (tq_runV (As := [.int x0]) (rest := []) ⟨hx, hb, hml, hown, zno⟩ (tRG_requireBridge_T1 l dC dI cI cZ cJ cA a0 s0 o b hfl P S s.heap.size x0 gP gS h2) (zcw 1 (hB.word (zm2 k2_150) rfl) (hB.word (zm1 k1_1) rfl) (hB.word (zm2 k2_147) rfl) (hB.word (zm2 k2_149) rfl) (k2_selects_private (by decide) (hB.word (zm1 k1_18) rfl) (hB.word (zm2 k2_148) rfl) (hB.word (zm2 k2_149) rfl)) rfl rfl (by decide +kernel) ⟨Nat.le_of_ble_eq_true rfl, Nat.le_of_ble_eq_true rfl⟩) ⟨zP_blind, va_recv hK hP (ci := 0) (q0 := 0) rfl rfl, zP_pre hP hK hD hAD (zB_on hB hA0 hS)⟩ rfl rfl hl.1 rfl (lv_room (Nat.le_of_ble_eq_true rfl)) dRG_requirePort_2 ⟨Nat.le_of_ble_eq_true rfl, Nat.le_of_ble_eq_true rfl⟩) htab hlocks hS (Nat.le_of_ble_eq_true rfl) (Nat.le_of_ble_eq_true rfl)
  · skip
    refine zcallo (va_runV (As := [.int x0]) (rest := []) ⟨hx, hb, hml, hown, zno⟩ (tRG_requireBridge l dC dI cI cZ cJ cA a0 s0 o b P S s.heap.size x0 gP gS u1 h2) (zcw 1 (hB.word (zm2 k2_150) rfl) (hB.word (zm1 k1_1) rfl) (hB.word (zm2 k2_147) rfl) (hB.word (zm2 k2_149) rfl) (k2_selects_private (by decide) (hB.word (zm1 k1_18) rfl) (hB.word (zm2 k2_148) rfl) (hB.word (zm2 k2_149) rfl)) rfl rfl (by decide +kernel) ⟨Nat.le_of_ble_eq_true rfl, Nat.le_of_ble_eq_true rfl⟩) ⟨zP_blind, va_recv hK hP (ci := 0) (q0 := 0) rfl rfl, zP_pre hP hK hD hAD (zB_on hB hA0 hS)⟩ rfl rfl hl.1 rfl (lv_room (Nat.le_of_ble_eq_true rfl)) dRG_requirePort_2 ⟨Nat.le_of_ble_eq_true rfl, Nat.le_of_ble_eq_true rfl⟩) hS hA (fun H3 locs hz1 hk1 hS => ?_)
    have hP := zKeep hP hk1
    have r_x0 : zr 0 47 x0 := zk_rB1 gP h2
    have qlb_x0 : x0.toInt < (P.I 0).toInt := zk_rB2 gP h2
    refine lv_aload_n hx hb dRG_requirePort_5 rfl (lv_at hl 0 rfl) ?_
    refine lv_iload_n hx hb dRG_requirePort_6 rfl (lv_at hl 2 rfl) ?_
    refine z_bind E (fun k9 h5 E => ?_) (fun u4 h5 E => ?_)
    · have x9 : k9 = 1 := zerr (E.symm.trans (etg.trans hc))
      subst x9
      rw [hQe]
      exact zpass (tq_runV (As := [.int x1]) (rest := []) ⟨hx, hb, hml, hown, zno⟩ (tRG_requireLink_T1 l dC dI cI cZ cJ cA a0 s0 o b hfl P S H3.size x1 gP gS h5) (zcw 1 (hB.word (zm2 k2_188) rfl) (hB.word (zm1 k1_1) rfl) (hB.word (zm2 k2_185) rfl) (hB.word (zm2 k2_187) rfl) (k2_selects_private (by decide) (hB.word (zm1 k1_18) rfl) (hB.word (zm2 k2_186) rfl) (hB.word (zm2 k2_187) rfl)) rfl rfl (by decide +kernel) ⟨Nat.le_of_ble_eq_true rfl, Nat.le_of_ble_eq_true rfl⟩) ⟨zP_blind, va_recv hK hP (ci := 0) (q0 := 0) rfl rfl, zP_pre hP hK hD hAD (zB_on hB hA0 hS)⟩ rfl rfl hl.1 rfl (lv_room (Nat.le_of_ble_eq_true rfl)) dRG_requirePort_7 ⟨Nat.le_of_ble_eq_true rfl, Nat.le_of_ble_eq_true rfl⟩) htab hlocks hS (Nat.le_of_ble_eq_true rfl) (Nat.le_of_ble_eq_true rfl)
    · skip
      refine zcallo (va_runV (As := [.int x1]) (rest := []) ⟨hx, hb, hml, hown, zno⟩ (tRG_requireLink l dC dI cI cZ cJ cA a0 s0 o b P S H3.size x1 gP gS u4 h5) (zcw 1 (hB.word (zm2 k2_188) rfl) (hB.word (zm1 k1_1) rfl) (hB.word (zm2 k2_185) rfl) (hB.word (zm2 k2_187) rfl) (k2_selects_private (by decide) (hB.word (zm1 k1_18) rfl) (hB.word (zm2 k2_186) rfl) (hB.word (zm2 k2_187) rfl)) rfl rfl (by decide +kernel) ⟨Nat.le_of_ble_eq_true rfl, Nat.le_of_ble_eq_true rfl⟩) ⟨zP_blind, va_recv hK hP (ci := 0) (q0 := 0) rfl rfl, zP_pre hP hK hD hAD (zB_on hB hA0 hS)⟩ rfl rfl hl.1 rfl (lv_room (Nat.le_of_ble_eq_true rfl)) dRG_requirePort_7 ⟨Nat.le_of_ble_eq_true rfl, Nat.le_of_ble_eq_true rfl⟩) hS hA (fun H6 locs hz1 hk1 hS => ?_)
      have hP := zKeep hP hk1
      have r_x1 : zr 0 59 x1 := zk_rL1 gP h5
      have qll_x1 : x1.toInt < (P.I 1).toInt := zk_rL2 gP h5
      refine lv_aload_n hx hb dRG_requirePort_10 rfl (lv_at hl 0 rfl) ?_
      refine c_getO_RG_plan hx hb (hB.words zU_RG) hown hK hP (hB.word (zm1 k1_235) rfl) dRG_requirePort_11 ?_
      refine lv_iload_n hx hb dRG_requirePort_14 rfl (lv_at hl 1 rfl) ?_
      refine lv_iload_n hx hb dRG_requirePort_15 rfl (lv_at hl 2 rfl) ?_
      refine zcallp (va_runV (As := [.int x0, .int x1]) (rest := []) ⟨hx, hb, hml, hown, zno⟩ (tPL_portOf l dC dI cI cZ cJ cA a0 s0 o b P S H6.size x0 x1 gP gS r_x1) (zcw 2 (hB.word (zm2 k2_212) rfl) (hB.word (zm1 k1_2) rfl) (hB.word (zm3 k3_128) rfl) (hB.word (zm2 k2_210) rfl) (hB.word (zm2 k2_211) rfl) rfl rfl (by decide +kernel) ⟨Nat.le_of_ble_eq_true rfl, Nat.le_of_ble_eq_true rfl⟩) ⟨zP_blind, va_recv hK hP (ci := 1) (q0 := 1) rfl rfl, zP_pre hP hK hD hAD (zB_on hB hA0 hS)⟩ rfl rfl hl.1 rfl (lv_room (Nat.le_of_ble_eq_true rfl)) dRG_requirePort_16 ⟨Nat.le_of_ble_eq_true rfl, Nat.le_of_ble_eq_true rfl⟩) hS hA (fun k8 H7 locs hk8 hz1 hk1 hS => ?_)
      have hP := zKeep hP hk1
      have E := zl_s E hk8.1
      refine lv_iconst (v := (-1)) hx hb dRG_requirePort_19 (by decide) ?_
      refine z_icmp_ne (tgt := 33) hx hb dRG_requirePort_20 (by decide) E (fun c_20 E => ?_) (fun c_20 E => ?_)
      · have r_k8 : zr 0 119 k8 := zne_lo hk8.2 c_20 (by decide)
        cases E.symm.trans (etg.trans hc)
      · have r_k8 : zr (-1) (-1) k8 := zeq_x (show zr (-1) (-1) (-1) from by decide) c_20
        obtain ⟨qs, hZ⟩ := hB.str (zm3 k3_129)
        rw [hQe]
        exact zthrow hfl hx hb hown (hB.word (zm2 k2_151) rfl) (hB.word (zm1 k1_14) rfl) hZ (by decide) (hB.words zO_80) (by rw [hml]; exact hl.1) htab hlocks dRG_requirePort_23 dRG_requirePort_26 dRG_requirePort_27 dRG_requirePort_29 dRG_requirePort_32 (Nat.le_of_ble_eq_true rfl) (Nat.le_of_ble_eq_true rfl) (Nat.le_of_ble_eq_true rfl) (Nat.le_of_ble_eq_true rfl) hS rfl rfl
theorem fRG_requirePort_c {P S : ZS} {x0 x1 : Int32} {k : Nat} (h : fRG_requirePort P S x0 x1 = .error k) : k = 1 := by
  simp only [fRG_requirePort, zl, zbind] at h
  repeat' split at h
  all_goals first | (cases h; rfl) | (cases h; first | exact fRG_requireBridge_c (by assumption) | exact fRG_requireLink_c (by assumption)) | cases h
theorem zk_rP1 {P S : ZS} {x0 x1 : Int32} {u : Unit} (g : cok P) (h : fRG_requirePort P S x0 x1 = .ok u) : zr 0 47 x0 := by
  simp only [fRG_requirePort, zbind] at h
  split at h
  · cases h
  · rename_i h1
    split at h
    · cases h
    · rename_i h2
      exact zk_rB1 g h1
theorem zk_rP2 {P S : ZS} {x0 x1 : Int32} {u : Unit} (g : cok P) (h : fRG_requirePort P S x0 x1 = .ok u) : zr 0 59 x1 := by
  simp only [fRG_requirePort, zbind] at h
  split at h
  · cases h
  · rename_i h1
    split at h
    · cases h
    · rename_i h2
      exact zk_rL1 g h2
theorem zk_rP3 {P S : ZS} {x0 x1 : Int32} {u : Unit} (g : cok P) (h : fRG_requirePort P S x0 x1 = .ok u) : x1.toInt < (P.I 1).toInt := by
  simp only [fRG_requirePort, zbind] at h
  split at h
  · cases h
  · rename_i h1
    split at h
    · cases h
    · rename_i h2
      exact zk_rL2 g h2
theorem zk_rP4 {P S : ZS} {x0 x1 : Int32} {u : Unit} (h : fRG_requirePort P S x0 x1 = .ok u) : ¬ fPL_portOf P S x0 x1 = -1 := by
  simp only [fRG_requirePort, zbind, zl] at h
  split at h
  · cases h
  · split at h
    · cases h
    · split at h
      · cases h
      · rename_i c
        exact c
