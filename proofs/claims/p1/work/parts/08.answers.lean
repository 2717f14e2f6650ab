set_option maxHeartbeats 4000000 in
set_option maxRecDepth 100000 in
theorem zi_bridge (l : Launch) (dC : Nat → ClassId) (dI : Nat → Nat → Nat) (cI cZ cJ : ClassId) (a0 : Array Value) (s0 : State) (x : Nat) (b : Nat → Nat) (sz : Nat) : Met l yRG_bridge [Cond.code yRG_bridge bRG_bridge 2 (some .int)] ({ frames := 1, cells := 0, slots := 0, locals := 20 } : Room) (zP zCl dC dI (zTY cI cZ cJ) a0 s0 [.ref x] sz [(x, .inr (0, [.ref (b 0), .ref (b 1), .ref (b 2), .ref (b 3), .ref (b 4), .ref (b 5), .int 0, .int 0, .int 0, .int 0, .int 0, .int 0, .int 0])), ((b 0), .inr (1, [.int 0, .int 0, .ref (b 10), .ref (b 11), .ref (b 12), .ref (b 13), .ref (b 14), .ref (b 15), .ref (b 16), .ref (b 17), .ref (b 18)]))]) (zQi zCl dC dI (fun r => r = 0) [(x, .inr (0, [.ref (b 0), .ref (b 1), .ref (b 2), .ref (b 3), .ref (b 4), .ref (b 5), .int 0, .int 0, .int 0, .int 0, .int 0, .int 0, .int 0])), ((b 0), .inr (1, [.int 1, .int 0, .ref (b 10), .ref (b 11), .ref (b 12), .ref (b 13), .ref (b 14), .ref (b 15), .ref (b 16), .ref (b 17), .ref (b 18)]))] (va_A [(x, .inr (0, [.ref (b 0), .ref (b 1), .ref (b 2), .ref (b 3), .ref (b 4), .ref (b 5), .int 0, .int 0, .int 0, .int 0, .int 0, .int 0, .int 0])), ((b 0), .inr (1, [.int 0, .int 0, .ref (b 10), .ref (b 11), .ref (b 12), .ref (b 13), .ref (b 14), .ref (b 15), .ref (b 16), .ref (b 17), .ref (b 18)]))] sz)) 0 0 (va_A [(x, .inr (0, [.ref (b 0), .ref (b 1), .ref (b 2), .ref (b 3), .ref (b 4), .ref (b 5), .int 0, .int 0, .int 0, .int 0, .int 0, .int 0, .int 0])), ((b 0), .inr (1, [.int 0, .int 0, .ref (b 10), .ref (b 11), .ref (b 12), .ref (b 13), .ref (b 14), .ref (b 15), .ref (b 16), .ref (b 17), .ref (b 18)]))] sz) := by
  refine Met.ofW (cc := bRG_bridge) (maxL := 2) (ret := (some .int)) (by decide) rfl ?_
  intro p e s m args below meth c s₁ B hml hv
  obtain ⟨rfl, hsz, hP, hK, hD0, hB⟩ := hv
  have hx := B.exec
  have hb := B.bytes
  have hr := B.returns
  have hown : s.vm.findClass "RingGuard" = some m.cls := findClass_of_methodNamed B.named
  have hlocks := B.notSynchronized
  subst hsz
  have hD := hD0.self (sz := s.heap.size)
  have hA0 := zA0 hD0 hB
  generalize hAe : va_A [(x, .inr (0, [.ref (b 0), .ref (b 1), .ref (b 2), .ref (b 3), .ref (b 4), .ref (b 5), .int 0, .int 0, .int 0, .int 0, .int 0, .int 0, .int 0])), ((b 0), .inr (1, [.int 0, .int 0, .ref (b 10), .ref (b 11), .ref (b 12), .ref (b 13), .ref (b 14), .ref (b 15), .ref (b 16), .ref (b 17), .ref (b 18)]))] s.heap.size = A at hD hA0 ⊢
  have hAD := hA0
  have hA : ∀ q : Nat, s.heap.size ≤ q → A q := fun q h => by rw [← hAe]; exact Or.inr h
  have hS : va_S A s.heap s.heap [] := va_S.rf
  have hP : va_P (dC, dI) zCl [(x, .inr (0, [.ref (b 0), .ref (b 1), .ref (b 2), .ref (b 3), .ref (b 4), .ref (b 5), .int 0, .int 0, .int 0, .int 0, .int 0, .int 0, .int 0])), ((b 0), .inr (1, [.int 0, .int 0, .ref (b 10), .ref (b 11), .ref (b 12), .ref (b 13), .ref (b 14), .ref (b 15), .ref (b 16), .ref (b 17), .ref (b 18)]))] s.heap := hP
  have hl := lv_entry ([.ref x]) (n := 2) (Nat.le_of_ble_eq_true rfl)
  rw [lg_entry_eq]
  generalize (lg_sl ([.ref x]) ++ List.replicate (2 - (lg_sl ([.ref x])).length) Slot.unset).toArray = ls at hl ⊢
  have hl : lv_has ls 2 [(0, .ref x)] := hl
  refine lv_aload_n hx hb dRG_bridge_0 rfl (lv_at hl 0 rfl) ?_
  have hPc : va_P (dC, dI) zCl [(x, .inr (0, [.ref (b 0), .ref (b 1), .ref (b 2), .ref (b 3), .ref (b 4), .ref (b 5), .int 0, .int 0, .int 0, .int 0, .int 0, .int 0, .int 0]))] s.heap := hP.sub [0] rfl
  have hDc : va_D A [(x, .inr (0, [.ref (b 0), .ref (b 1), .ref (b 2), .ref (b 3), .ref (b 4), .ref (b 5), .int 0, .int 0, .int 0, .int 0, .int 0, .int 0, .int 0]))] := hD.sub [0] (by decide) rfl
  refine zcallo (va_runV (As := []) (rest := []) ⟨hx, hb, hml, hown, zno⟩ (zo_requireNotStarted l dC dI cI cZ cJ a0 s0 x b s.heap.size) (zcw 0 (hB.word (zm2 k2_70) rfl) (hB.word (zm1 k1_1) rfl) (hB.word (zm2 k2_67) rfl) (hB.word (zm2 k2_69) rfl) (k2_selects_private (by decide) (hB.word (zm1 k1_18) rfl) (hB.word (zm2 k2_68) rfl) (hB.word (zm2 k2_69) rfl)) rfl rfl (by decide +kernel) ⟨Nat.le_of_ble_eq_true rfl, Nat.le_of_ble_eq_true rfl⟩) ⟨zP_blind, va_recv hK hP (ci := 0) (q0 := 0) rfl rfl, zP_pre hPc hK hDc hAD (zB_on hB hA0 hS)⟩ rfl rfl hl.1 rfl (lv_room (Nat.le_of_ble_eq_true rfl)) dRG_bridge_1 ⟨Nat.le_of_ble_eq_true rfl, Nat.le_of_ble_eq_true rfl⟩) hS hA (fun H1 locs hz1 hk1 hS => ?_)
  have hP := zKeep hP hk1
  generalize H1 = H at hP hS ⊢
  have hP : va_P (dC, dI) zCl [(x, .inr (0, [.ref (b 0), .ref (b 1), .ref (b 2), .ref (b 3), .ref (b 4), .ref (b 5), .int 0, .int 0, .int 0, .int 0, .int 0, .int 0, .int 0])), ((b 0), .inr (1, [.int 0, .int 0, .ref (b 10), .ref (b 11), .ref (b 12), .ref (b 13), .ref (b 14), .ref (b 15), .ref (b 16), .ref (b 17), .ref (b 18)]))] H := hP
  refine lv_aload_n hx hb dRG_bridge_4 rfl (lv_at hl 0 rfl) ?_
  have hu0 : ∀ w ∈ u_ws "RingGuard" T_RG 13, w.before ([.ref x] : List Value).toArray s = true := hB.words zU_RG
  refine va_get (D := (dC, dI)) (ci := 0) (v := .ref (b 0)) (C := "RingGuard") (T := T_RG) (N := 13) hx hb hu0 zid hown hK hP 0 rfl rfl 0 (by decide) (hB.word (zm1 k1_235) rfl) (fun _ h9 => h9) rfl dRG_bridge_5 ?_
  have hu1 : ∀ w ∈ u_ws "RingGuard$Plan" T_PL 11, w.before ([.ref x] : List Value).toArray s = true := hB.words zU_PL
  refine va_get (D := (dC, dI)) (ci := 1) (v := .int 0) (C := "RingGuard$Plan") (T := T_PL) (N := 11) hx hb hu1 zid hown hK hP 1 rfl rfl 0 (by decide) (hB.word (zm1 k1_34) rfl) (fun _ h9 => h9) rfl dRG_bridge_8 ?_
  refine lv_bipush (v := 48) hx hb dRG_bridge_11 (by decide) ?_
  refine lv_icmp_lt (tgt := 26) hx hb dRG_bridge_13 (by decide) (fun _ => ?_) (fun c9 => absurd (by decide) c9)
  refine lv_aload_n hx hb dRG_bridge_26 rfl (lv_at hl 0 rfl) ?_
  refine va_get (D := (dC, dI)) (ci := 0) (v := .ref (b 0)) (C := "RingGuard") (T := T_RG) (N := 13) hx hb hu0 zid hown hK hP 0 rfl rfl 0 (by decide) (hB.word (zm1 k1_235) rfl) (fun _ h9 => h9) rfl dRG_bridge_27 ?_
  refine va_get (D := (dC, dI)) (ci := 1) (v := .int 0) (C := "RingGuard$Plan") (T := T_PL) (N := 11) hx hb hu1 zid hown hK hP 1 rfl rfl 0 (by decide) (hB.word (zm1 k1_34) rfl) (fun _ h9 => h9) rfl dRG_bridge_30 ?_
  refine lv_istore_n (lv' := [(1, .int 0), (0, .ref x)]) hx hb dRG_bridge_33 rfl hl (by decide) rfl (fun ls hl => ?_)
  refine lv_aload_n hx hb dRG_bridge_34 rfl (lv_at hl 1 rfl) ?_
  refine va_get (D := (dC, dI)) (ci := 0) (v := .ref (b 0)) (C := "RingGuard") (T := T_RG) (N := 13) hx hb hu0 zid hown hK hP 0 rfl rfl 0 (by decide) (hB.word (zm1 k1_235) rfl) (fun _ h9 => h9) rfl dRG_bridge_35 ?_
  refine lv_iload_n hx hb dRG_bridge_38 rfl (lv_at hl 0 rfl) ?_
  refine lv_iconst (v := 1) hx hb dRG_bridge_39 (by decide) ?_
  refine lv_iadd hx hb dRG_bridge_40 ?_
  refine lv_topi (fun k2 ek2 => ?_)
  have ek2 : k2 = 1 := ek2.trans (by decide)
  subst ek2
  refine va_put (D := (dC, dI)) (ci := 1) (v := .int 1) (ty := .int) (C := "RingGuard$Plan") (T := T_PL) (N := 11) hx hb hu1 zid ty_PL ok_PL nm_PL hown hK hP hD hS 1 rfl rfl 0 (by decide) (hB.word (zm1 k1_34) rfl) (fun _ h9 => h9) rfl (by decide +kernel) rfl rfl (Nat.le_of_ble_eq_true rfl) dRG_bridge_41 (fun H locs hP hD hS => ?_)
  have hP : va_P (dC, dI) zCl [(x, .inr (0, [.ref (b 0), .ref (b 1), .ref (b 2), .ref (b 3), .ref (b 4), .ref (b 5), .int 0, .int 0, .int 0, .int 0, .int 0, .int 0, .int 0])), ((b 0), .inr (1, [.int 1, .int 0, .ref (b 10), .ref (b 11), .ref (b 12), .ref (b 13), .ref (b 14), .ref (b 15), .ref (b 16), .ref (b 17), .ref (b 18)]))] H := hP
  have hD : va_D A [(x, .inr (0, [.ref (b 0), .ref (b 1), .ref (b 2), .ref (b 3), .ref (b 4), .ref (b 5), .int 0, .int 0, .int 0, .int 0, .int 0, .int 0, .int 0])), ((b 0), .inr (1, [.int 1, .int 0, .ref (b 10), .ref (b 11), .ref (b 12), .ref (b 13), .ref (b 14), .ref (b 15), .ref (b 16), .ref (b 17), .ref (b 18)]))] := hD
  refine lv_iload_n hx hb dRG_bridge_44 rfl (lv_at hl 0 rfl) ?_
  refine W.widen (k := 0) (n := 0) (Nat.le_of_ble_eq_true rfl) (Nat.le_of_ble_eq_true rfl) ?_
  have hP9 : va_P (dC, dI) zCl [(x, .inr (0, [.ref (b 0), .ref (b 1), .ref (b 2), .ref (b 3), .ref (b 4), .ref (b 5), .int 0, .int 0, .int 0, .int 0, .int 0, .int 0, .int 0])), ((b 0), .inr (1, [.int 1, .int 0, .ref (b 10), .ref (b 11), .ref (b 12), .ref (b 13), .ref (b 14), .ref (b 15), .ref (b 16), .ref (b 17), .ref (b 18)]))] H := hP.sub [0, 1] rfl
  have hD9 : va_D A [(x, .inr (0, [.ref (b 0), .ref (b 1), .ref (b 2), .ref (b 3), .ref (b 4), .ref (b 5), .int 0, .int 0, .int 0, .int 0, .int 0, .int 0, .int 0])), ((b 0), .inr (1, [.int 1, .int 0, .ref (b 10), .ref (b 11), .ref (b 12), .ref (b 13), .ref (b 14), .ref (b 15), .ref (b 16), .ref (b 17), .ref (b 18)]))] := hD.sub [0, 1] (by decide) rfl
  exact W.iret (v := 0) hx hb hr (fun t ht hW => ⟨⟨0, (), rfl, rfl, by rw [ht]; exact hP9, hD9⟩, hS.F ht⟩) hS.2.2 dRG_bridge_45
set_option maxHeartbeats 4000000 in
set_option maxRecDepth 100000 in
theorem zp_firstFault (l : Launch) (dC : Nat → ClassId) (dI : Nat → Nat → Nat) (cI cZ cJ : ClassId) (a0 : Array Value) (s0 : State) (x : Nat) (b : Nat → Nat) (sz : Nat) : Met l yPL_firstFault [Cond.code yPL_firstFault bPL_firstFault 4 (some .int)] ({ frames := 0, cells := 0, slots := 0, locals := 0 } : Room) (zP zCl dC dI (zTY cI cZ cJ) a0 s0 [.ref (b 0), .ref (b 5)] sz [((b 0), .inr (1, [.int 0, .int 0, .ref (b 10), .ref (b 11), .ref (b 12), .ref (b 13), .ref (b 14), .ref (b 15), .ref (b 16), .ref (b 17), .ref (b 18)]))]) (zQp (fun r => r = 7) sz) 0 0 (zN sz) := by
  refine Met.ofW (cc := bPL_firstFault) (maxL := 4) (ret := (some .int)) (by decide) rfl ?_
  intro p e s m args below meth c s₁ B hml hv
  obtain ⟨rfl, hsz, hP, hK, hD0, hB⟩ := hv
  have hx := B.exec
  have hb := B.bytes
  have hr := B.returns
  have hown : s.vm.findClass "RingGuard$Plan" = some m.cls := findClass_of_methodNamed B.named
  have hlocks := B.notSynchronized
  subst hsz
  have hD := hD0
  have hA0 : ∀ q, zN s.heap.size q → s0.heap.size ≤ q := zA1 hB
  have hAD : ∀ q, zN s0.heap.size q → s0.heap.size ≤ q := fun _ h => h
  have hA : ∀ q : Nat, s.heap.size ≤ q → zN s.heap.size q := fun _ h => h
  have hS : va_S (zN s.heap.size) s.heap s.heap [] := va_S.rf
  have hP : va_P (dC, dI) zCl [((b 0), .inr (1, [.int 0, .int 0, .ref (b 10), .ref (b 11), .ref (b 12), .ref (b 13), .ref (b 14), .ref (b 15), .ref (b 16), .ref (b 17), .ref (b 18)]))] s.heap := hP
  have hl := lv_entry ([.ref (b 0), .ref (b 5)]) (n := 4) (Nat.le_of_ble_eq_true rfl)
  rw [lg_entry_eq]
  generalize (lg_sl ([.ref (b 0), .ref (b 5)]) ++ List.replicate (4 - (lg_sl ([.ref (b 0), .ref (b 5)])).length) Slot.unset).toArray = ls at hl ⊢
  have hl : lv_has ls 4 [(0, .ref (b 0)), (1, .ref (b 5))] := hl
  refine lv_aload_n hx hb dPL_firstFault_0 rfl (lv_at hl 0 rfl) ?_
  have hu1 : ∀ w ∈ u_ws "RingGuard$Plan" T_PL 11, w.before ([.ref (b 0), .ref (b 5)] : List Value).toArray s = true := hB.words zU_PL
  refine va_get (D := (dC, dI)) (ci := 1) (v := .int 0) (C := "RingGuard$Plan") (T := T_PL) (N := 11) hx hb hu1 zid hown hK hP 0 rfl rfl 1 (by decide) (hB.word (zm1 k1_37) rfl) (fun _ h9 => h9) rfl dPL_firstFault_1 ?_
  refine lv_if_eq (tgt := 14) hx hb dPL_firstFault_4 (by decide) (fun _ => ?_) (fun c9 => absurd (by decide) c9)
  refine lv_bipush (v := 7) hx hb dPL_firstFault_14 (by decide) ?_
  refine W.widen (k := 0) (n := 0) (Nat.le_of_ble_eq_true rfl) (Nat.le_of_ble_eq_true rfl) ?_
  exact W.iret (v := 7) hx hb hr (fun t ht hW => ⟨⟨7, (), rfl, rfl, trivial⟩, hS.F ht⟩) hS.2.2 dPL_firstFault_16
set_option maxHeartbeats 4000000 in
set_option maxRecDepth 100000 in
theorem zp_start (l : Launch) (dC : Nat → ClassId) (dI : Nat → Nat → Nat) (cI cZ cJ : ClassId) (a0 : Array Value) (s0 : State) (x : Nat) (b : Nat → Nat) (sz : Nat) : Met l yRG_start [Cond.code yRG_start bRG_start 2 (some .int)] ({ frames := 1, cells := 0, slots := 0, locals := 23 } : Room) (zP zCl dC dI (zTY cI cZ cJ) a0 s0 [.ref x] sz [(x, .inr (0, [.ref (b 0), .ref (b 1), .ref (b 2), .ref (b 3), .ref (b 4), .ref (b 5), .int 0, .int 0, .int 0, .int 0, .int 0, .int 0, .int 0])), ((b 0), .inr (1, [.int 0, .int 0, .ref (b 10), .ref (b 11), .ref (b 12), .ref (b 13), .ref (b 14), .ref (b 15), .ref (b 16), .ref (b 17), .ref (b 18)]))]) (zQp (fun r => r = 7) sz) 0 0 (zN sz) := by
  refine Met.ofW (cc := bRG_start) (maxL := 2) (ret := (some .int)) (by decide) rfl ?_
  intro p e s m args below meth c s₁ B hml hv
  obtain ⟨rfl, hsz, hP, hK, hD0, hB⟩ := hv
  have hx := B.exec
  have hb := B.bytes
  have hr := B.returns
  have hown : s.vm.findClass "RingGuard" = some m.cls := findClass_of_methodNamed B.named
  have hlocks := B.notSynchronized
  subst hsz
  have hD := hD0
  have hA0 : ∀ q, zN s.heap.size q → s0.heap.size ≤ q := zA1 hB
  have hAD : ∀ q, zN s0.heap.size q → s0.heap.size ≤ q := fun _ h => h
  have hA : ∀ q : Nat, s.heap.size ≤ q → zN s.heap.size q := fun _ h => h
  have hS : va_S (zN s.heap.size) s.heap s.heap [] := va_S.rf
  have hP : va_P (dC, dI) zCl [(x, .inr (0, [.ref (b 0), .ref (b 1), .ref (b 2), .ref (b 3), .ref (b 4), .ref (b 5), .int 0, .int 0, .int 0, .int 0, .int 0, .int 0, .int 0])), ((b 0), .inr (1, [.int 0, .int 0, .ref (b 10), .ref (b 11), .ref (b 12), .ref (b 13), .ref (b 14), .ref (b 15), .ref (b 16), .ref (b 17), .ref (b 18)]))] s.heap := hP
  have hl := lv_entry ([.ref x]) (n := 2) (Nat.le_of_ble_eq_true rfl)
  rw [lg_entry_eq]
  generalize (lg_sl ([.ref x]) ++ List.replicate (2 - (lg_sl ([.ref x])).length) Slot.unset).toArray = ls at hl ⊢
  have hl : lv_has ls 2 [(0, .ref x)] := hl
  refine lv_aload_n hx hb dRG_start_0 rfl (lv_at hl 0 rfl) ?_
  have hPc : va_P (dC, dI) zCl [(x, .inr (0, [.ref (b 0), .ref (b 1), .ref (b 2), .ref (b 3), .ref (b 4), .ref (b 5), .int 0, .int 0, .int 0, .int 0, .int 0, .int 0, .int 0]))] s.heap := hP.sub [0] rfl
  have hDc : va_D (zN s0.heap.size) [(x, .inr (0, [.ref (b 0), .ref (b 1), .ref (b 2), .ref (b 3), .ref (b 4), .ref (b 5), .int 0, .int 0, .int 0, .int 0, .int 0, .int 0, .int 0]))] := hD.sub [0] (by decide) rfl
  refine zcallo (va_runV (As := []) (rest := []) ⟨hx, hb, hml, hown, zno⟩ (zo_requireNotStarted l dC dI cI cZ cJ a0 s0 x b s.heap.size) (zcw 0 (hB.word (zm2 k2_70) rfl) (hB.word (zm1 k1_1) rfl) (hB.word (zm2 k2_67) rfl) (hB.word (zm2 k2_69) rfl) (k2_selects_private (by decide) (hB.word (zm1 k1_18) rfl) (hB.word (zm2 k2_68) rfl) (hB.word (zm2 k2_69) rfl)) rfl rfl (by decide +kernel) ⟨Nat.le_of_ble_eq_true rfl, Nat.le_of_ble_eq_true rfl⟩) ⟨zP_blind, va_recv hK hP (ci := 0) (q0 := 0) rfl rfl, zP_pre hPc hK hDc hAD (zB_on hB hA0 hS)⟩ rfl rfl hl.1 rfl (lv_room (Nat.le_of_ble_eq_true rfl)) dRG_start_1 ⟨Nat.le_of_ble_eq_true rfl, Nat.le_of_ble_eq_true rfl⟩) hS hA (fun H1 locs hz1 hk1 hS => ?_)
  have hP := zKeep hP hk1
  generalize H1 = H at hP hS ⊢
  have hP : va_P (dC, dI) zCl [(x, .inr (0, [.ref (b 0), .ref (b 1), .ref (b 2), .ref (b 3), .ref (b 4), .ref (b 5), .int 0, .int 0, .int 0, .int 0, .int 0, .int 0, .int 0])), ((b 0), .inr (1, [.int 0, .int 0, .ref (b 10), .ref (b 11), .ref (b 12), .ref (b 13), .ref (b 14), .ref (b 15), .ref (b 16), .ref (b 17), .ref (b 18)]))] H := hP
  refine lv_aload_n hx hb dRG_start_4 rfl (lv_at hl 0 rfl) ?_
  have hu0 : ∀ w ∈ u_ws "RingGuard" T_RG 13, w.before ([.ref x] : List Value).toArray s = true := hB.words zU_RG
  refine va_get (D := (dC, dI)) (ci := 0) (v := .ref (b 0)) (C := "RingGuard") (T := T_RG) (N := 13) hx hb hu0 zid hown hK hP 0 rfl rfl 0 (by decide) (hB.word (zm1 k1_235) rfl) (fun _ h9 => h9) rfl dRG_start_5 ?_
  refine lv_aload_n hx hb dRG_start_8 rfl (lv_at hl 0 rfl) ?_
  refine va_get (D := (dC, dI)) (ci := 0) (v := .ref (b 5)) (C := "RingGuard") (T := T_RG) (N := 13) hx hb hu0 zid hown hK hP 0 rfl rfl 5 (by decide) (hB.word (zm2 k2_0) rfl) (fun _ h9 => h9) rfl dRG_start_9 ?_
  have hPc : va_P (dC, dI) zCl [((b 0), .inr (1, [.int 0, .int 0, .ref (b 10), .ref (b 11), .ref (b 12), .ref (b 13), .ref (b 14), .ref (b 15), .ref (b 16), .ref (b 17), .ref (b 18)]))] H := hP.sub [1] rfl
  have hDc : va_D (zN s0.heap.size) [((b 0), .inr (1, [.int 0, .int 0, .ref (b 10), .ref (b 11), .ref (b 12), .ref (b 13), .ref (b 14), .ref (b 15), .ref (b 16), .ref (b 17), .ref (b 18)]))] := hD.sub [1] (by decide) rfl
  refine zcallp (va_runV (As := [.ref (b 5)]) (rest := []) ⟨hx, hb, hml, hown, zno⟩ (zp_firstFault l dC dI cI cZ cJ a0 s0 x b H.size) (zcw 1 (hB.word (zm2 k2_200) rfl) (hB.word (zm1 k1_2) rfl) (hB.word (zm2 k2_197) rfl) (hB.word (zm2 k2_198) rfl) (hB.word (zm2 k2_199) rfl) rfl rfl (by decide +kernel) ⟨Nat.le_of_ble_eq_true rfl, Nat.le_of_ble_eq_true rfl⟩) ⟨zP_blind, va_recv hK hP (ci := 1) (q0 := 1) rfl rfl, zP_pre hPc hK hDc hAD (zB_on hB hA0 hS)⟩ rfl rfl hl.1 rfl (lv_room (Nat.le_of_ble_eq_true rfl)) dRG_start_12 ⟨Nat.le_of_ble_eq_true rfl, Nat.le_of_ble_eq_true rfl⟩) hS hA (fun r2 H1 locs hr2 hz1 hk1 hS => ?_)
  have hP := zKeep hP hk1
  generalize H1 = H at hP hS ⊢
  have hP : va_P (dC, dI) zCl [(x, .inr (0, [.ref (b 0), .ref (b 1), .ref (b 2), .ref (b 3), .ref (b 4), .ref (b 5), .int 0, .int 0, .int 0, .int 0, .int 0, .int 0, .int 0])), ((b 0), .inr (1, [.int 0, .int 0, .ref (b 10), .ref (b 11), .ref (b 12), .ref (b 13), .ref (b 14), .ref (b 15), .ref (b 16), .ref (b 17), .ref (b 18)]))] H := hP
  subst hr2
  refine lv_istore_n (lv' := [(1, .int 7), (0, .ref x)]) hx hb dRG_start_15 rfl hl (by decide) rfl (fun ls hl => ?_)
  refine lv_iload_n hx hb dRG_start_16 rfl (lv_at hl 0 rfl) ?_
  refine lv_if_ne (tgt := 39) hx hb dRG_start_17 (by decide) (fun _ => ?_) (fun c9 => absurd c9 (by decide))
  refine lv_iload_n hx hb dRG_start_39 rfl (lv_at hl 0 rfl) ?_
  refine W.widen (k := 0) (n := 0) (Nat.le_of_ble_eq_true rfl) (Nat.le_of_ble_eq_true rfl) ?_
  exact W.iret (v := 7) hx hb hr (fun t ht hW => ⟨⟨7, (), rfl, rfl, trivial⟩, hS.F ht⟩) hS.2.2 dRG_start_40
set_option maxHeartbeats 4000000 in
set_option maxRecDepth 100000 in
theorem zp_visits (l : Launch) (dC : Nat → ClassId) (dI : Nat → Nat → Nat) (cI cZ cJ : ClassId) (a0 : Array Value) (s0 : State) (x : Nat) (b : Nat → Nat) (sz : Nat) : Met l yRG_visits [Cond.code yRG_visits bRG_visits 1 (some .int)] ({ frames := 0, cells := 0, slots := 0, locals := 0 } : Room) (zP zCl dC dI (zTY cI cZ cJ) a0 s0 [.ref x] sz [(x, .inr (0, [.ref (b 0), .ref (b 1), .ref (b 2), .ref (b 3), .ref (b 4), .ref (b 5), .int 0, .int 0, .int 0, .int 0, .int 0, .int 0, .int 0])), ((b 4), .inr (5, [.ref (b 0), .ref (b 3), .ref (b 2), .ref (b 20), .ref (b 21), .ref (b 22), .int 0, .ref (b 23), .int 0]))]) (zQp (fun r => r = 0) sz) 0 0 (zN sz) := by
  refine Met.ofW (cc := bRG_visits) (maxL := 1) (ret := (some .int)) (by decide) rfl ?_
  intro p e s m args below meth c s₁ B hml hv
  obtain ⟨rfl, hsz, hP, hK, hD0, hB⟩ := hv
  have hx := B.exec
  have hb := B.bytes
  have hr := B.returns
  have hown : s.vm.findClass "RingGuard" = some m.cls := findClass_of_methodNamed B.named
  have hlocks := B.notSynchronized
  subst hsz
  have hD := hD0
  have hA0 : ∀ q, zN s.heap.size q → s0.heap.size ≤ q := zA1 hB
  have hAD : ∀ q, zN s0.heap.size q → s0.heap.size ≤ q := fun _ h => h
  have hA : ∀ q : Nat, s.heap.size ≤ q → zN s.heap.size q := fun _ h => h
  have hS : va_S (zN s.heap.size) s.heap s.heap [] := va_S.rf
  have hP : va_P (dC, dI) zCl [(x, .inr (0, [.ref (b 0), .ref (b 1), .ref (b 2), .ref (b 3), .ref (b 4), .ref (b 5), .int 0, .int 0, .int 0, .int 0, .int 0, .int 0, .int 0])), ((b 4), .inr (5, [.ref (b 0), .ref (b 3), .ref (b 2), .ref (b 20), .ref (b 21), .ref (b 22), .int 0, .ref (b 23), .int 0]))] s.heap := hP
  have hl := lv_entry ([.ref x]) (n := 1) (Nat.le_of_ble_eq_true rfl)
  rw [lg_entry_eq]
  generalize (lg_sl ([.ref x]) ++ List.replicate (1 - (lg_sl ([.ref x])).length) Slot.unset).toArray = ls at hl ⊢
  have hl : lv_has ls 1 [(0, .ref x)] := hl
  refine lv_aload_n hx hb dRG_visits_0 rfl (lv_at hl 0 rfl) ?_
  have hu0 : ∀ w ∈ u_ws "RingGuard" T_RG 13, w.before ([.ref x] : List Value).toArray s = true := hB.words zU_RG
  refine va_get (D := (dC, dI)) (ci := 0) (v := .ref (b 4)) (C := "RingGuard") (T := T_RG) (N := 13) hx hb hu0 zid hown hK hP 0 rfl rfl 4 (by decide) (hB.word (zm1 k1_239) rfl) (fun _ h9 => h9) rfl dRG_visits_1 ?_
  have hu5 : ∀ w ∈ u_ws "RingGuard$Frames" T_FR 9, w.before ([.ref x] : List Value).toArray s = true := hB.words zU_FR
  refine va_get (D := (dC, dI)) (ci := 5) (v := .int 0) (C := "RingGuard$Frames") (T := T_FR) (N := 9) hx hb hu5 zid hown hK hP 1 rfl rfl 8 (by decide) (hB.word (zm1 k1_196) rfl) (fun _ h9 => h9) rfl dRG_visits_4 ?_
  refine W.widen (k := 0) (n := 0) (Nat.le_of_ble_eq_true rfl) (Nat.le_of_ble_eq_true rfl) ?_
  exact W.iret (v := 0) hx hb hr (fun t ht hW => ⟨⟨0, (), rfl, rfl, trivial⟩, hS.F ht⟩) hS.2.2 dRG_visits_7
set_option maxHeartbeats 4000000 in
set_option maxRecDepth 100000 in
theorem zp_lost (l : Launch) (dC : Nat → ClassId) (dI : Nat → Nat → Nat) (cI cZ cJ : ClassId) (a0 : Array Value) (s0 : State) (x : Nat) (b : Nat → Nat) (sz : Nat) : Met l yRG_lost [Cond.code yRG_lost bRG_lost 1 (some .int)] ({ frames := 0, cells := 0, slots := 0, locals := 0 } : Room) (zP zCl dC dI (zTY cI cZ cJ) a0 s0 [.ref x] sz [(x, .inr (0, [.ref (b 0), .ref (b 1), .ref (b 2), .ref (b 3), .ref (b 4), .ref (b 5), .int 0, .int 0, .int 0, .int 0, .int 0, .int 0, .int 0])), ((b 1), .inr (2, [.ref (b 24), .ref (b 25), .ref (b 26), .ref (b 27), .ref (b 28), .int 0]))]) (zQp (fun r => r = 0) sz) 0 0 (zN sz) := by
  refine Met.ofW (cc := bRG_lost) (maxL := 1) (ret := (some .int)) (by decide) rfl ?_
  intro p e s m args below meth c s₁ B hml hv
  obtain ⟨rfl, hsz, hP, hK, hD0, hB⟩ := hv
  have hx := B.exec
  have hb := B.bytes
  have hr := B.returns
  have hown : s.vm.findClass "RingGuard" = some m.cls := findClass_of_methodNamed B.named
  have hlocks := B.notSynchronized
  subst hsz
  have hD := hD0
  have hA0 : ∀ q, zN s.heap.size q → s0.heap.size ≤ q := zA1 hB
  have hAD : ∀ q, zN s0.heap.size q → s0.heap.size ≤ q := fun _ h => h
  have hA : ∀ q : Nat, s.heap.size ≤ q → zN s.heap.size q := fun _ h => h
  have hS : va_S (zN s.heap.size) s.heap s.heap [] := va_S.rf
  have hP : va_P (dC, dI) zCl [(x, .inr (0, [.ref (b 0), .ref (b 1), .ref (b 2), .ref (b 3), .ref (b 4), .ref (b 5), .int 0, .int 0, .int 0, .int 0, .int 0, .int 0, .int 0])), ((b 1), .inr (2, [.ref (b 24), .ref (b 25), .ref (b 26), .ref (b 27), .ref (b 28), .int 0]))] s.heap := hP
  have hl := lv_entry ([.ref x]) (n := 1) (Nat.le_of_ble_eq_true rfl)
  rw [lg_entry_eq]
  generalize (lg_sl ([.ref x]) ++ List.replicate (1 - (lg_sl ([.ref x])).length) Slot.unset).toArray = ls at hl ⊢
  have hl : lv_has ls 1 [(0, .ref x)] := hl
  refine lv_aload_n hx hb dRG_lost_0 rfl (lv_at hl 0 rfl) ?_
  have hu0 : ∀ w ∈ u_ws "RingGuard" T_RG 13, w.before ([.ref x] : List Value).toArray s = true := hB.words zU_RG
  refine va_get (D := (dC, dI)) (ci := 0) (v := .ref (b 1)) (C := "RingGuard") (T := T_RG) (N := 13) hx hb hu0 zid hown hK hP 0 rfl rfl 1 (by decide) (hB.word (zm1 k1_236) rfl) (fun _ h9 => h9) rfl dRG_lost_1 ?_
  have hu2 : ∀ w ∈ u_ws "RingGuard$Wires" T_WI 6, w.before ([.ref x] : List Value).toArray s = true := hB.words zU_WI
  refine va_get (D := (dC, dI)) (ci := 2) (v := .int 0) (C := "RingGuard$Wires") (T := T_WI) (N := 6) hx hb hu2 zid hown hK hP 1 rfl rfl 5 (by decide) (hB.word (zm1 k1_97) rfl) (fun _ h9 => h9) rfl dRG_lost_4 ?_
  refine W.widen (k := 0) (n := 0) (Nat.le_of_ble_eq_true rfl) (Nat.le_of_ble_eq_true rfl) ?_
  exact W.iret (v := 0) hx hb hr (fun t ht hW => ⟨⟨0, (), rfl, rfl, trivial⟩, hS.F ht⟩) hS.2.2 dRG_lost_7
set_option maxHeartbeats 4000000 in
set_option maxRecDepth 100000 in
theorem zp_circles (l : Launch) (dC : Nat → ClassId) (dI : Nat → Nat → Nat) (cI cZ cJ : ClassId) (a0 : Array Value) (s0 : State) (x : Nat) (b : Nat → Nat) (sz : Nat) : Met l yRG_circles [Cond.code yRG_circles bRG_circles 1 (some .int)] ({ frames := 0, cells := 0, slots := 0, locals := 0 } : Room) (zP zCl dC dI (zTY cI cZ cJ) a0 s0 [.ref x] sz [(x, .inr (0, [.ref (b 0), .ref (b 1), .ref (b 2), .ref (b 3), .ref (b 4), .ref (b 5), .int 0, .int 0, .int 0, .int 0, .int 0, .int 0, .int 0]))]) (zQp (fun r => r = 0) sz) 0 0 (zN sz) := by
  refine Met.ofW (cc := bRG_circles) (maxL := 1) (ret := (some .int)) (by decide) rfl ?_
  intro p e s m args below meth c s₁ B hml hv
  obtain ⟨rfl, hsz, hP, hK, hD0, hB⟩ := hv
  have hx := B.exec
  have hb := B.bytes
  have hr := B.returns
  have hown : s.vm.findClass "RingGuard" = some m.cls := findClass_of_methodNamed B.named
  have hlocks := B.notSynchronized
  subst hsz
  have hD := hD0
  have hA0 : ∀ q, zN s.heap.size q → s0.heap.size ≤ q := zA1 hB
  have hAD : ∀ q, zN s0.heap.size q → s0.heap.size ≤ q := fun _ h => h
  have hA : ∀ q : Nat, s.heap.size ≤ q → zN s.heap.size q := fun _ h => h
  have hS : va_S (zN s.heap.size) s.heap s.heap [] := va_S.rf
  have hP : va_P (dC, dI) zCl [(x, .inr (0, [.ref (b 0), .ref (b 1), .ref (b 2), .ref (b 3), .ref (b 4), .ref (b 5), .int 0, .int 0, .int 0, .int 0, .int 0, .int 0, .int 0]))] s.heap := hP
  have hl := lv_entry ([.ref x]) (n := 1) (Nat.le_of_ble_eq_true rfl)
  rw [lg_entry_eq]
  generalize (lg_sl ([.ref x]) ++ List.replicate (1 - (lg_sl ([.ref x])).length) Slot.unset).toArray = ls at hl ⊢
  have hl : lv_has ls 1 [(0, .ref x)] := hl
  refine lv_aload_n hx hb dRG_circles_0 rfl (lv_at hl 0 rfl) ?_
  have hu0 : ∀ w ∈ u_ws "RingGuard" T_RG 13, w.before ([.ref x] : List Value).toArray s = true := hB.words zU_RG
  refine va_get (D := (dC, dI)) (ci := 0) (v := .int 0) (C := "RingGuard") (T := T_RG) (N := 13) hx hb hu0 zid hown hK hP 0 rfl rfl 11 (by decide) (hB.word (zm2 k2_6) rfl) (fun _ h9 => h9) rfl dRG_circles_1 ?_
  refine W.widen (k := 0) (n := 0) (Nat.le_of_ble_eq_true rfl) (Nat.le_of_ble_eq_true rfl) ?_
  exact W.iret (v := 0) hx hb hr (fun t ht hW => ⟨⟨0, (), rfl, rfl, trivial⟩, hS.F ht⟩) hS.2.2 dRG_circles_4
set_option maxHeartbeats 4000000 in
set_option maxRecDepth 100000 in
theorem zp_apart (l : Launch) (dC : Nat → ClassId) (dI : Nat → Nat → Nat) (cI cZ cJ : ClassId) (a0 : Array Value) (s0 : State) (x : Nat) (b : Nat → Nat) (sz : Nat) : Met l yRG_apart [Cond.code yRG_apart bRG_apart 1 (some .int)] ({ frames := 0, cells := 0, slots := 0, locals := 0 } : Room) (zP zCl dC dI (zTY cI cZ cJ) a0 s0 [.ref x] sz [(x, .inr (0, [.ref (b 0), .ref (b 1), .ref (b 2), .ref (b 3), .ref (b 4), .ref (b 5), .int 0, .int 0, .int 0, .int 0, .int 0, .int 0, .int 0]))]) (zQp (fun r => r = 0) sz) 0 0 (zN sz) := by
  refine Met.ofW (cc := bRG_apart) (maxL := 1) (ret := (some .int)) (by decide) rfl ?_
  intro p e s m args below meth c s₁ B hml hv
  obtain ⟨rfl, hsz, hP, hK, hD0, hB⟩ := hv
  have hx := B.exec
  have hb := B.bytes
  have hr := B.returns
  have hown : s.vm.findClass "RingGuard" = some m.cls := findClass_of_methodNamed B.named
  have hlocks := B.notSynchronized
  subst hsz
  have hD := hD0
  have hA0 : ∀ q, zN s.heap.size q → s0.heap.size ≤ q := zA1 hB
  have hAD : ∀ q, zN s0.heap.size q → s0.heap.size ≤ q := fun _ h => h
  have hA : ∀ q : Nat, s.heap.size ≤ q → zN s.heap.size q := fun _ h => h
  have hS : va_S (zN s.heap.size) s.heap s.heap [] := va_S.rf
  have hP : va_P (dC, dI) zCl [(x, .inr (0, [.ref (b 0), .ref (b 1), .ref (b 2), .ref (b 3), .ref (b 4), .ref (b 5), .int 0, .int 0, .int 0, .int 0, .int 0, .int 0, .int 0]))] s.heap := hP
  have hl := lv_entry ([.ref x]) (n := 1) (Nat.le_of_ble_eq_true rfl)
  rw [lg_entry_eq]
  generalize (lg_sl ([.ref x]) ++ List.replicate (1 - (lg_sl ([.ref x])).length) Slot.unset).toArray = ls at hl ⊢
  have hl : lv_has ls 1 [(0, .ref x)] := hl
  refine lv_aload_n hx hb dRG_apart_0 rfl (lv_at hl 0 rfl) ?_
  have hu0 : ∀ w ∈ u_ws "RingGuard" T_RG 13, w.before ([.ref x] : List Value).toArray s = true := hB.words zU_RG
  refine va_get (D := (dC, dI)) (ci := 0) (v := .int 0) (C := "RingGuard") (T := T_RG) (N := 13) hx hb hu0 zid hown hK hP 0 rfl rfl 12 (by decide) (hB.word (zm2 k2_7) rfl) (fun _ h9 => h9) rfl dRG_apart_1 ?_
  refine W.widen (k := 0) (n := 0) (Nat.le_of_ble_eq_true rfl) (Nat.le_of_ble_eq_true rfl) ?_
  exact W.iret (v := 0) hx hb hr (fun t ht hW => ⟨⟨0, (), rfl, rfl, trivial⟩, hS.F ht⟩) hS.2.2 dRG_apart_4
