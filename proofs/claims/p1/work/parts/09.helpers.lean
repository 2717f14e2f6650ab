set_option maxHeartbeats 4000000 in
set_option maxRecDepth 100000 in
theorem zh_link (l : Launch) (dC : Nat → ClassId) (dI : Nat → Nat → Nat) (cI cZ cJ : ClassId) (a0 : Array Value) (s0 : State) (hfl : l.flags = Jvm.pinnedFlags ++ [Jvm.noTraceFlag]) (x : Nat) (b : Nat → Nat) (o sz : Nat) (p0 p1 p2 : Int32) : Met l yLA_link [Cond.codeWith yLA_link bLA_link 6 (some .int) [(0, 12, 15, 19), (0, 12, 19, 13)]] ({ frames := 8, cells := 1, slots := 6, locals := 134 } : Room) (zP zCl dC dI (zTY cI cZ cJ) a0 s0 [.ref x, .int p0, .int p1, .int p2, .ref o] sz [(x, .inr (0, [.ref (b 0), .ref (b 1), .ref (b 2), .ref (b 3), .ref (b 4), .ref (b 5), .int 0, .int 0, .int 0, .int 0, .int 0, .int 0, .int 0])), ((b 0), .inr (1, [.int 0, .int 0, .ref (b 10), .ref (b 11), .ref (b 12), .ref (b 13), .ref (b 14), .ref (b 15), .ref (b 16), .ref (b 17), .ref (b 18)]))]) (zQp (fun r => r = 1) sz) 1 6 (zN sz) := by
  refine tq_ofWith (cc := bLA_link) (maxL := 6) (ret := (some .int)) (hs := [(0, 12, 15, 19), (0, 12, 19, 13)]) (by decide) rfl ?_
  intro p e s m args below meth c s₁ B hml htab hv
  obtain ⟨rfl, hsz, hP, hK, hD0, hB⟩ := hv
  have hx := B.exec
  have hb := B.bytes
  have hr := B.returns
  have hown : s.vm.findClass "RingGuardLaw" = some m.cls := findClass_of_methodNamed B.named
  have hlocks := B.notSynchronized
  subst hsz
  have hD := hD0
  have hA0 : ∀ q, zN s.heap.size q → s0.heap.size ≤ q := zA1 hB
  have hAD : ∀ q, zN s0.heap.size q → s0.heap.size ≤ q := fun _ h => h
  have hA : ∀ q : Nat, s.heap.size ≤ q → zN s.heap.size q := fun _ h => h
  have hS : va_S (zN s.heap.size) s.heap s.heap [] := va_S.rf
  have hP : va_P (dC, dI) zCl [(x, .inr (0, [.ref (b 0), .ref (b 1), .ref (b 2), .ref (b 3), .ref (b 4), .ref (b 5), .int 0, .int 0, .int 0, .int 0, .int 0, .int 0, .int 0])), ((b 0), .inr (1, [.int 0, .int 0, .ref (b 10), .ref (b 11), .ref (b 12), .ref (b 13), .ref (b 14), .ref (b 15), .ref (b 16), .ref (b 17), .ref (b 18)]))] s.heap := hP
  have hl := lv_entry ([.ref x, .int p0, .int p1, .int p2, .ref o]) (n := 6) (Nat.le_of_ble_eq_true rfl)
  rw [lg_entry_eq]
  generalize (lg_sl ([.ref x, .int p0, .int p1, .int p2, .ref o]) ++ List.replicate (6 - (lg_sl ([.ref x, .int p0, .int p1, .int p2, .ref o])).length) Slot.unset).toArray = ls at hl ⊢
  have hl : lv_has ls 6 [(0, .ref x), (1, .int p0), (2, .int p1), (3, .int p2), (4, .ref o)] := hl
  refine lv_aload hx hb dLA_link_0 (lv_at hl 4 rfl) ?_
  refine lv_iconst (v := 0) hx hb dLA_link_2 (by decide) ?_
  refine lv_aload_n hx hb dLA_link_3 rfl (lv_at hl 0 rfl) ?_
  refine lv_iload_n hx hb dLA_link_4 rfl (lv_at hl 1 rfl) ?_
  refine lv_iload_n hx hb dLA_link_5 rfl (lv_at hl 2 rfl) ?_
  refine lv_iload_n hx hb dLA_link_6 rfl (lv_at hl 3 rfl) ?_
  have hPc : va_P (dC, dI) zCl [(x, .inr (0, [.ref (b 0), .ref (b 1), .ref (b 2), .ref (b 3), .ref (b 4), .ref (b 5), .int 0, .int 0, .int 0, .int 0, .int 0, .int 0, .int 0])), ((b 0), .inr (1, [.int 0, .int 0, .ref (b 10), .ref (b 11), .ref (b 12), .ref (b 13), .ref (b 14), .ref (b 15), .ref (b 16), .ref (b 17), .ref (b 18)]))] s.heap := hP.sub [0, 1] rfl
  have hDc : va_D (zN s0.heap.size) [(x, .inr (0, [.ref (b 0), .ref (b 1), .ref (b 2), .ref (b 3), .ref (b 4), .ref (b 5), .int 0, .int 0, .int 0, .int 0, .int 0, .int 0, .int 0])), ((b 0), .inr (1, [.int 0, .int 0, .ref (b 10), .ref (b 11), .ref (b 12), .ref (b 13), .ref (b 14), .ref (b 15), .ref (b 16), .ref (b 17), .ref (b 18)]))] := hD.sub [0, 1] (by decide) rfl
  refine tq_catch (hp := 15) (tq_runV (As := [.int p0, .int p1, .int p2]) (rest := [.int 0, .ref o]) ⟨hx, hb, hml, hown, zno⟩ (zt_link l dC dI cI cZ cJ a0 s0 hfl x b s.heap.size p0 p1 p2) (zcw 3 (hB.word (zm2 k2_146) rfl) (hB.word (zm1 k1_1) rfl) (hB.word (zm2 k2_143) rfl) (hB.word (zm2 k2_144) rfl) (hB.word (zm2 k2_145) rfl) rfl rfl (by decide +kernel) ⟨Nat.le_of_ble_eq_true rfl, Nat.le_of_ble_eq_true rfl⟩) ⟨zP_blind, va_recv hK hP (ci := 0) (q0 := 0) rfl rfl, zP_pre hPc hK hDc hAD (zB_on hB hA0 hS)⟩ rfl rfl hl.1 rfl (lv_room (Nat.le_of_ble_eq_true rfl)) dLA_link_7 ⟨Nat.le_of_ble_eq_true rfl, Nat.le_of_ble_eq_true rfl⟩) hown htab (zsel1 (by decide) (by decide) (hB.word (zm2 k2_142) rfl) (zfit (args := #[]) (hB.word (zm2 k2_153) rfl))) hS (fun q h => hA q (Nat.le_trans hS.1 h)) (fun xq H1 locs hz1 hk1 hS => ?_)
  have hP := zKeep hP hk1
  generalize H1 = H at hP hS ⊢
  have hP : va_P (dC, dI) zCl [(x, .inr (0, [.ref (b 0), .ref (b 1), .ref (b 2), .ref (b 3), .ref (b 4), .ref (b 5), .int 0, .int 0, .int 0, .int 0, .int 0, .int 0, .int 0])), ((b 0), .inr (1, [.int 0, .int 0, .ref (b 10), .ref (b 11), .ref (b 12), .ref (b 13), .ref (b 14), .ref (b 15), .ref (b 16), .ref (b 17), .ref (b 18)]))] H := hP
  refine lv_astore (lv' := [(5, .ref xq), (0, .ref x), (1, .int p0), (2, .int p1), (3, .int p2), (4, .ref o)]) hx hb dLA_link_15 hl (by decide) rfl (fun ls hl => ?_)
  refine lv_iconst (v := 1) hx hb dLA_link_17 (by decide) ?_
  refine W.widen (k := 1) (n := 6) (Nat.le_of_ble_eq_true rfl) (Nat.le_of_ble_eq_true rfl) ?_
  exact W.iret (v := 1) hx hb hr (fun t ht hW => ⟨⟨1, (), rfl, rfl, trivial⟩, hS.F ht⟩) hS.2.2 dLA_link_18
set_option maxHeartbeats 4000000 in
set_option maxRecDepth 100000 in
theorem zh_owner (l : Launch) (dC : Nat → ClassId) (dI : Nat → Nat → Nat) (cI cZ cJ : ClassId) (a0 : Array Value) (s0 : State) (hfl : l.flags = Jvm.pinnedFlags ++ [Jvm.noTraceFlag]) (x : Nat) (b : Nat → Nat) (o sz : Nat) (p0 p1 p2 : Int32) : Met l yLA_owner [Cond.codeWith yLA_owner bLA_owner 5 (some .int) [(0, 7, 10, 19), (0, 7, 14, 13)]] ({ frames := 8, cells := 1, slots := 6, locals := 134 } : Room) (zP zCl dC dI (zTY cI cZ cJ) a0 s0 [.ref x, .int p0, .int p1, .int p2] sz [(x, .inr (0, [.ref (b 0), .ref (b 1), .ref (b 2), .ref (b 3), .ref (b 4), .ref (b 5), .int 0, .int 0, .int 0, .int 0, .int 0, .int 0, .int 0])), ((b 0), .inr (1, [.int 0, .int 0, .ref (b 10), .ref (b 11), .ref (b 12), .ref (b 13), .ref (b 14), .ref (b 15), .ref (b 16), .ref (b 17), .ref (b 18)]))]) (zQp (fun r => r = 1) sz) 1 6 (zN sz) := by
  refine tq_ofWith (cc := bLA_owner) (maxL := 5) (ret := (some .int)) (hs := [(0, 7, 10, 19), (0, 7, 14, 13)]) (by decide) rfl ?_
  intro p e s m args below meth c s₁ B hml htab hv
  obtain ⟨rfl, hsz, hP, hK, hD0, hB⟩ := hv
  have hx := B.exec
  have hb := B.bytes
  have hr := B.returns
  have hown : s.vm.findClass "RingGuardLaw" = some m.cls := findClass_of_methodNamed B.named
  have hlocks := B.notSynchronized
  subst hsz
  have hD := hD0
  have hA0 : ∀ q, zN s.heap.size q → s0.heap.size ≤ q := zA1 hB
  have hAD : ∀ q, zN s0.heap.size q → s0.heap.size ≤ q := fun _ h => h
  have hA : ∀ q : Nat, s.heap.size ≤ q → zN s.heap.size q := fun _ h => h
  have hS : va_S (zN s.heap.size) s.heap s.heap [] := va_S.rf
  have hP : va_P (dC, dI) zCl [(x, .inr (0, [.ref (b 0), .ref (b 1), .ref (b 2), .ref (b 3), .ref (b 4), .ref (b 5), .int 0, .int 0, .int 0, .int 0, .int 0, .int 0, .int 0])), ((b 0), .inr (1, [.int 0, .int 0, .ref (b 10), .ref (b 11), .ref (b 12), .ref (b 13), .ref (b 14), .ref (b 15), .ref (b 16), .ref (b 17), .ref (b 18)]))] s.heap := hP
  have hl := lv_entry ([.ref x, .int p0, .int p1, .int p2]) (n := 5) (Nat.le_of_ble_eq_true rfl)
  rw [lg_entry_eq]
  generalize (lg_sl ([.ref x, .int p0, .int p1, .int p2]) ++ List.replicate (5 - (lg_sl ([.ref x, .int p0, .int p1, .int p2])).length) Slot.unset).toArray = ls at hl ⊢
  have hl : lv_has ls 5 [(0, .ref x), (1, .int p0), (2, .int p1), (3, .int p2)] := hl
  refine lv_aload_n hx hb dLA_owner_0 rfl (lv_at hl 0 rfl) ?_
  refine lv_iload_n hx hb dLA_owner_1 rfl (lv_at hl 1 rfl) ?_
  refine lv_iload_n hx hb dLA_owner_2 rfl (lv_at hl 2 rfl) ?_
  refine lv_iload_n hx hb dLA_owner_3 rfl (lv_at hl 3 rfl) ?_
  have hPc : va_P (dC, dI) zCl [(x, .inr (0, [.ref (b 0), .ref (b 1), .ref (b 2), .ref (b 3), .ref (b 4), .ref (b 5), .int 0, .int 0, .int 0, .int 0, .int 0, .int 0, .int 0])), ((b 0), .inr (1, [.int 0, .int 0, .ref (b 10), .ref (b 11), .ref (b 12), .ref (b 13), .ref (b 14), .ref (b 15), .ref (b 16), .ref (b 17), .ref (b 18)]))] s.heap := hP.sub [0, 1] rfl
  have hDc : va_D (zN s0.heap.size) [(x, .inr (0, [.ref (b 0), .ref (b 1), .ref (b 2), .ref (b 3), .ref (b 4), .ref (b 5), .int 0, .int 0, .int 0, .int 0, .int 0, .int 0, .int 0])), ((b 0), .inr (1, [.int 0, .int 0, .ref (b 10), .ref (b 11), .ref (b 12), .ref (b 13), .ref (b 14), .ref (b 15), .ref (b 16), .ref (b 17), .ref (b 18)]))] := hD.sub [0, 1] (by decide) rfl
  refine tq_catch (hp := 10) (tq_runV (As := [.int p0, .int p1, .int p2]) (rest := []) ⟨hx, hb, hml, hown, zno⟩ (zt_owner l dC dI cI cZ cJ a0 s0 hfl x b s.heap.size p0 p1 p2) (zcw 3 (hB.word (zm2 k2_184) rfl) (hB.word (zm1 k1_1) rfl) (hB.word (zm2 k2_181) rfl) (hB.word (zm2 k2_182) rfl) (hB.word (zm2 k2_183) rfl) rfl rfl (by decide +kernel) ⟨Nat.le_of_ble_eq_true rfl, Nat.le_of_ble_eq_true rfl⟩) ⟨zP_blind, va_recv hK hP (ci := 0) (q0 := 0) rfl rfl, zP_pre hPc hK hDc hAD (zB_on hB hA0 hS)⟩ rfl rfl hl.1 rfl (lv_room (Nat.le_of_ble_eq_true rfl)) dLA_owner_4 ⟨Nat.le_of_ble_eq_true rfl, Nat.le_of_ble_eq_true rfl⟩) hown htab (zsel1 (by decide) (by decide) (hB.word (zm2 k2_142) rfl) (zfit (args := #[]) (hB.word (zm2 k2_153) rfl))) hS (fun q h => hA q (Nat.le_trans hS.1 h)) (fun xq H1 locs hz1 hk1 hS => ?_)
  have hP := zKeep hP hk1
  generalize H1 = H at hP hS ⊢
  have hP : va_P (dC, dI) zCl [(x, .inr (0, [.ref (b 0), .ref (b 1), .ref (b 2), .ref (b 3), .ref (b 4), .ref (b 5), .int 0, .int 0, .int 0, .int 0, .int 0, .int 0, .int 0])), ((b 0), .inr (1, [.int 0, .int 0, .ref (b 10), .ref (b 11), .ref (b 12), .ref (b 13), .ref (b 14), .ref (b 15), .ref (b 16), .ref (b 17), .ref (b 18)]))] H := hP
  refine lv_astore (lv' := [(4, .ref xq), (0, .ref x), (1, .int p0), (2, .int p1), (3, .int p2)]) hx hb dLA_owner_10 hl (by decide) rfl (fun ls hl => ?_)
  refine lv_iconst (v := 1) hx hb dLA_owner_12 (by decide) ?_
  refine W.widen (k := 1) (n := 6) (Nat.le_of_ble_eq_true rfl) (Nat.le_of_ble_eq_true rfl) ?_
  exact W.iret (v := 1) hx hb hr (fun t ht hW => ⟨⟨1, (), rfl, rfl, trivial⟩, hS.F ht⟩) hS.2.2 dLA_owner_13
set_option maxHeartbeats 4000000 in
set_option maxRecDepth 100000 in
theorem zh_fail (l : Launch) (dC : Nat → ClassId) (dI : Nat → Nat → Nat) (cI cZ cJ : ClassId) (a0 : Array Value) (s0 : State) (hfl : l.flags = Jvm.pinnedFlags ++ [Jvm.noTraceFlag]) (x : Nat) (b : Nat → Nat) (o sz : Nat) (p0 : Int32) : Met l yLA_fail [Cond.codeWith yLA_fail bLA_fail 4 (some .int) [(0, 16, 19, 19), (0, 16, 22, 13)]] ({ frames := 8, cells := 1, slots := 6, locals := 133 } : Room) (zP zCl dC dI (zTY cI cZ cJ) a0 s0 [.ref x, .int p0, .ref o] sz [(x, .inr (0, [.ref (b 0), .ref (b 1), .ref (b 2), .ref (b 3), .ref (b 4), .ref (b 5), .int 0, .int 0, .int 0, .int 0, .int 0, .int 0, .int 0])), ((b 0), .inr (1, [.int 0, .int 0, .ref (b 10), .ref (b 11), .ref (b 12), .ref (b 13), .ref (b 14), .ref (b 15), .ref (b 16), .ref (b 17), .ref (b 18)]))]) (zQp (fun r => r = 1) sz) 1 6 (zN sz) := by
  refine tq_ofWith (cc := bLA_fail) (maxL := 4) (ret := (some .int)) (hs := [(0, 16, 19, 19), (0, 16, 22, 13)]) (by decide) rfl ?_
  intro p e s m args below meth c s₁ B hml htab hv
  obtain ⟨rfl, hsz, hP, hK, hD0, hB⟩ := hv
  have hx := B.exec
  have hb := B.bytes
  have hr := B.returns
  have hown : s.vm.findClass "RingGuardLaw" = some m.cls := findClass_of_methodNamed B.named
  have hlocks := B.notSynchronized
  subst hsz
  have hD := hD0
  have hA0 : ∀ q, zN s.heap.size q → s0.heap.size ≤ q := zA1 hB
  have hAD : ∀ q, zN s0.heap.size q → s0.heap.size ≤ q := fun _ h => h
  have hA : ∀ q : Nat, s.heap.size ≤ q → zN s.heap.size q := fun _ h => h
  have hS : va_S (zN s.heap.size) s.heap s.heap [] := va_S.rf
  have hP : va_P (dC, dI) zCl [(x, .inr (0, [.ref (b 0), .ref (b 1), .ref (b 2), .ref (b 3), .ref (b 4), .ref (b 5), .int 0, .int 0, .int 0, .int 0, .int 0, .int 0, .int 0])), ((b 0), .inr (1, [.int 0, .int 0, .ref (b 10), .ref (b 11), .ref (b 12), .ref (b 13), .ref (b 14), .ref (b 15), .ref (b 16), .ref (b 17), .ref (b 18)]))] s.heap := hP
  have hl := lv_entry ([.ref x, .int p0, .ref o]) (n := 4) (Nat.le_of_ble_eq_true rfl)
  rw [lg_entry_eq]
  generalize (lg_sl ([.ref x, .int p0, .ref o]) ++ List.replicate (4 - (lg_sl ([.ref x, .int p0, .ref o])).length) Slot.unset).toArray = ls at hl ⊢
  have hl : lv_has ls 4 [(0, .ref x), (1, .int p0), (2, .ref o)] := hl
  refine lv_aload_n hx hb dLA_fail_0 rfl (lv_at hl 2 rfl) ?_
  refine lv_iconst (v := 0) hx hb dLA_fail_1 (by decide) ?_
  refine lv_aload_n hx hb dLA_fail_2 rfl (lv_at hl 0 rfl) ?_
  refine lv_iload_n hx hb dLA_fail_3 rfl (lv_at hl 1 rfl) ?_
  have hPc : va_P (dC, dI) zCl [(x, .inr (0, [.ref (b 0), .ref (b 1), .ref (b 2), .ref (b 3), .ref (b 4), .ref (b 5), .int 0, .int 0, .int 0, .int 0, .int 0, .int 0, .int 0])), ((b 0), .inr (1, [.int 0, .int 0, .ref (b 10), .ref (b 11), .ref (b 12), .ref (b 13), .ref (b 14), .ref (b 15), .ref (b 16), .ref (b 17), .ref (b 18)]))] s.heap := hP.sub [0, 1] rfl
  have hDc : va_D (zN s0.heap.size) [(x, .inr (0, [.ref (b 0), .ref (b 1), .ref (b 2), .ref (b 3), .ref (b 4), .ref (b 5), .int 0, .int 0, .int 0, .int 0, .int 0, .int 0, .int 0])), ((b 0), .inr (1, [.int 0, .int 0, .ref (b 10), .ref (b 11), .ref (b 12), .ref (b 13), .ref (b 14), .ref (b 15), .ref (b 16), .ref (b 17), .ref (b 18)]))] := hD.sub [0, 1] (by decide) rfl
  refine tq_catch (hp := 19) (tq_runV (As := [.int p0]) (rest := [.int 0, .ref o]) ⟨hx, hb, hml, hown, zno⟩ (zt_fail l dC dI cI cZ cJ a0 s0 hfl x b s.heap.size p0) (zcw 1 (hB.word (zm3 k3_54) rfl) (hB.word (zm1 k1_1) rfl) (hB.word (zm3 k3_51) rfl) (hB.word (zm3 k3_52) rfl) (hB.word (zm3 k3_53) rfl) rfl rfl (by decide +kernel) ⟨Nat.le_of_ble_eq_true rfl, Nat.le_of_ble_eq_true rfl⟩) ⟨zP_blind, va_recv hK hP (ci := 0) (q0 := 0) rfl rfl, zP_pre hPc hK hDc hAD (zB_on hB hA0 hS)⟩ rfl rfl hl.1 rfl (lv_room (Nat.le_of_ble_eq_true rfl)) dLA_fail_4 ⟨Nat.le_of_ble_eq_true rfl, Nat.le_of_ble_eq_true rfl⟩) hown htab (zsel1 (by decide) (by decide) (hB.word (zm2 k2_142) rfl) (zfit (args := #[]) (hB.word (zm2 k2_153) rfl))) hS (fun q h => hA q (Nat.le_trans hS.1 h)) (fun xq H1 locs hz1 hk1 hS => ?_)
  have hP := zKeep hP hk1
  generalize H1 = H at hP hS ⊢
  have hP : va_P (dC, dI) zCl [(x, .inr (0, [.ref (b 0), .ref (b 1), .ref (b 2), .ref (b 3), .ref (b 4), .ref (b 5), .int 0, .int 0, .int 0, .int 0, .int 0, .int 0, .int 0])), ((b 0), .inr (1, [.int 0, .int 0, .ref (b 10), .ref (b 11), .ref (b 12), .ref (b 13), .ref (b 14), .ref (b 15), .ref (b 16), .ref (b 17), .ref (b 18)]))] H := hP
  refine lv_astore_n (lv' := [(3, .ref xq), (0, .ref x), (1, .int p0), (2, .ref o)]) hx hb dLA_fail_19 rfl hl (by decide) rfl (fun ls hl => ?_)
  refine lv_iconst (v := 1) hx hb dLA_fail_20 (by decide) ?_
  refine W.widen (k := 1) (n := 6) (Nat.le_of_ble_eq_true rfl) (Nat.le_of_ble_eq_true rfl) ?_
  exact W.iret (v := 1) hx hb hr (fun t ht hW => ⟨⟨1, (), rfl, rfl, trivial⟩, hS.F ht⟩) hS.2.2 dLA_fail_21
set_option maxHeartbeats 4000000 in
set_option maxRecDepth 100000 in
theorem zh_heal (l : Launch) (dC : Nat → ClassId) (dI : Nat → Nat → Nat) (cI cZ cJ : ClassId) (a0 : Array Value) (s0 : State) (hfl : l.flags = Jvm.pinnedFlags ++ [Jvm.noTraceFlag]) (x : Nat) (b : Nat → Nat) (o sz : Nat) (p0 : Int32) : Met l yLA_heal [Cond.codeWith yLA_heal bLA_heal 4 (some .int) [(0, 16, 19, 19), (0, 16, 22, 13)]] ({ frames := 8, cells := 1, slots := 6, locals := 133 } : Room) (zP zCl dC dI (zTY cI cZ cJ) a0 s0 [.ref x, .int p0, .ref o] sz [(x, .inr (0, [.ref (b 0), .ref (b 1), .ref (b 2), .ref (b 3), .ref (b 4), .ref (b 5), .int 0, .int 0, .int 0, .int 0, .int 0, .int 0, .int 0])), ((b 0), .inr (1, [.int 0, .int 0, .ref (b 10), .ref (b 11), .ref (b 12), .ref (b 13), .ref (b 14), .ref (b 15), .ref (b 16), .ref (b 17), .ref (b 18)]))]) (zQp (fun r => r = 1) sz) 1 6 (zN sz) := by
  refine tq_ofWith (cc := bLA_heal) (maxL := 4) (ret := (some .int)) (hs := [(0, 16, 19, 19), (0, 16, 22, 13)]) (by decide) rfl ?_
  intro p e s m args below meth c s₁ B hml htab hv
  obtain ⟨rfl, hsz, hP, hK, hD0, hB⟩ := hv
  have hx := B.exec
  have hb := B.bytes
  have hr := B.returns
  have hown : s.vm.findClass "RingGuardLaw" = some m.cls := findClass_of_methodNamed B.named
  have hlocks := B.notSynchronized
  subst hsz
  have hD := hD0
  have hA0 : ∀ q, zN s.heap.size q → s0.heap.size ≤ q := zA1 hB
  have hAD : ∀ q, zN s0.heap.size q → s0.heap.size ≤ q := fun _ h => h
  have hA : ∀ q : Nat, s.heap.size ≤ q → zN s.heap.size q := fun _ h => h
  have hS : va_S (zN s.heap.size) s.heap s.heap [] := va_S.rf
  have hP : va_P (dC, dI) zCl [(x, .inr (0, [.ref (b 0), .ref (b 1), .ref (b 2), .ref (b 3), .ref (b 4), .ref (b 5), .int 0, .int 0, .int 0, .int 0, .int 0, .int 0, .int 0])), ((b 0), .inr (1, [.int 0, .int 0, .ref (b 10), .ref (b 11), .ref (b 12), .ref (b 13), .ref (b 14), .ref (b 15), .ref (b 16), .ref (b 17), .ref (b 18)]))] s.heap := hP
  have hl := lv_entry ([.ref x, .int p0, .ref o]) (n := 4) (Nat.le_of_ble_eq_true rfl)
  rw [lg_entry_eq]
  generalize (lg_sl ([.ref x, .int p0, .ref o]) ++ List.replicate (4 - (lg_sl ([.ref x, .int p0, .ref o])).length) Slot.unset).toArray = ls at hl ⊢
  have hl : lv_has ls 4 [(0, .ref x), (1, .int p0), (2, .ref o)] := hl
  refine lv_aload_n hx hb dLA_heal_0 rfl (lv_at hl 2 rfl) ?_
  refine lv_iconst (v := 0) hx hb dLA_heal_1 (by decide) ?_
  refine lv_aload_n hx hb dLA_heal_2 rfl (lv_at hl 0 rfl) ?_
  refine lv_iload_n hx hb dLA_heal_3 rfl (lv_at hl 1 rfl) ?_
  have hPc : va_P (dC, dI) zCl [(x, .inr (0, [.ref (b 0), .ref (b 1), .ref (b 2), .ref (b 3), .ref (b 4), .ref (b 5), .int 0, .int 0, .int 0, .int 0, .int 0, .int 0, .int 0])), ((b 0), .inr (1, [.int 0, .int 0, .ref (b 10), .ref (b 11), .ref (b 12), .ref (b 13), .ref (b 14), .ref (b 15), .ref (b 16), .ref (b 17), .ref (b 18)]))] s.heap := hP.sub [0, 1] rfl
  have hDc : va_D (zN s0.heap.size) [(x, .inr (0, [.ref (b 0), .ref (b 1), .ref (b 2), .ref (b 3), .ref (b 4), .ref (b 5), .int 0, .int 0, .int 0, .int 0, .int 0, .int 0, .int 0])), ((b 0), .inr (1, [.int 0, .int 0, .ref (b 10), .ref (b 11), .ref (b 12), .ref (b 13), .ref (b 14), .ref (b 15), .ref (b 16), .ref (b 17), .ref (b 18)]))] := hD.sub [0, 1] (by decide) rfl
  refine tq_catch (hp := 19) (tq_runV (As := [.int p0]) (rest := [.int 0, .ref o]) ⟨hx, hb, hml, hown, zno⟩ (zt_heal l dC dI cI cZ cJ a0 s0 hfl x b s.heap.size p0) (zcw 1 (hB.word (zm3 k3_100) rfl) (hB.word (zm1 k1_1) rfl) (hB.word (zm3 k3_97) rfl) (hB.word (zm3 k3_98) rfl) (hB.word (zm3 k3_99) rfl) rfl rfl (by decide +kernel) ⟨Nat.le_of_ble_eq_true rfl, Nat.le_of_ble_eq_true rfl⟩) ⟨zP_blind, va_recv hK hP (ci := 0) (q0 := 0) rfl rfl, zP_pre hPc hK hDc hAD (zB_on hB hA0 hS)⟩ rfl rfl hl.1 rfl (lv_room (Nat.le_of_ble_eq_true rfl)) dLA_heal_4 ⟨Nat.le_of_ble_eq_true rfl, Nat.le_of_ble_eq_true rfl⟩) hown htab (zsel1 (by decide) (by decide) (hB.word (zm2 k2_142) rfl) (zfit (args := #[]) (hB.word (zm2 k2_153) rfl))) hS (fun q h => hA q (Nat.le_trans hS.1 h)) (fun xq H1 locs hz1 hk1 hS => ?_)
  have hP := zKeep hP hk1
  generalize H1 = H at hP hS ⊢
  have hP : va_P (dC, dI) zCl [(x, .inr (0, [.ref (b 0), .ref (b 1), .ref (b 2), .ref (b 3), .ref (b 4), .ref (b 5), .int 0, .int 0, .int 0, .int 0, .int 0, .int 0, .int 0])), ((b 0), .inr (1, [.int 0, .int 0, .ref (b 10), .ref (b 11), .ref (b 12), .ref (b 13), .ref (b 14), .ref (b 15), .ref (b 16), .ref (b 17), .ref (b 18)]))] H := hP
  refine lv_astore_n (lv' := [(3, .ref xq), (0, .ref x), (1, .int p0), (2, .ref o)]) hx hb dLA_heal_19 rfl hl (by decide) rfl (fun ls hl => ?_)
  refine lv_iconst (v := 1) hx hb dLA_heal_20 (by decide) ?_
  refine W.widen (k := 1) (n := 6) (Nat.le_of_ble_eq_true rfl) (Nat.le_of_ble_eq_true rfl) ?_
  exact W.iret (v := 1) hx hb hr (fun t ht hW => ⟨⟨1, (), rfl, rfl, trivial⟩, hS.F ht⟩) hS.2.2 dLA_heal_21
set_option maxHeartbeats 4000000 in
set_option maxRecDepth 100000 in
theorem zh_lose (l : Launch) (dC : Nat → ClassId) (dI : Nat → Nat → Nat) (cI cZ cJ : ClassId) (a0 : Array Value) (s0 : State) (hfl : l.flags = Jvm.pinnedFlags ++ [Jvm.noTraceFlag]) (x : Nat) (b : Nat → Nat) (o sz : Nat) (p0 p1 : Int32) : Met l yLA_lose [Cond.codeWith yLA_lose bLA_lose 5 (some .int) [(0, 10, 13, 19), (0, 10, 17, 13)]] ({ frames := 8, cells := 1, slots := 6, locals := 134 } : Room) (zP zCl dC dI (zTY cI cZ cJ) a0 s0 [.ref x, .int p0, .int p1, .ref o] sz [(x, .inr (0, [.ref (b 0), .ref (b 1), .ref (b 2), .ref (b 3), .ref (b 4), .ref (b 5), .int 0, .int 0, .int 0, .int 0, .int 0, .int 0, .int 0])), ((b 0), .inr (1, [.int 0, .int 0, .ref (b 10), .ref (b 11), .ref (b 12), .ref (b 13), .ref (b 14), .ref (b 15), .ref (b 16), .ref (b 17), .ref (b 18)]))]) (zQp (fun r => r = 1) sz) 1 6 (zN sz) := by
  refine tq_ofWith (cc := bLA_lose) (maxL := 5) (ret := (some .int)) (hs := [(0, 10, 13, 19), (0, 10, 17, 13)]) (by decide) rfl ?_
  intro p e s m args below meth c s₁ B hml htab hv
  obtain ⟨rfl, hsz, hP, hK, hD0, hB⟩ := hv
  have hx := B.exec
  have hb := B.bytes
  have hr := B.returns
  have hown : s.vm.findClass "RingGuardLaw" = some m.cls := findClass_of_methodNamed B.named
  have hlocks := B.notSynchronized
  subst hsz
  have hD := hD0
  have hA0 : ∀ q, zN s.heap.size q → s0.heap.size ≤ q := zA1 hB
  have hAD : ∀ q, zN s0.heap.size q → s0.heap.size ≤ q := fun _ h => h
  have hA : ∀ q : Nat, s.heap.size ≤ q → zN s.heap.size q := fun _ h => h
  have hS : va_S (zN s.heap.size) s.heap s.heap [] := va_S.rf
  have hP : va_P (dC, dI) zCl [(x, .inr (0, [.ref (b 0), .ref (b 1), .ref (b 2), .ref (b 3), .ref (b 4), .ref (b 5), .int 0, .int 0, .int 0, .int 0, .int 0, .int 0, .int 0])), ((b 0), .inr (1, [.int 0, .int 0, .ref (b 10), .ref (b 11), .ref (b 12), .ref (b 13), .ref (b 14), .ref (b 15), .ref (b 16), .ref (b 17), .ref (b 18)]))] s.heap := hP
  have hl := lv_entry ([.ref x, .int p0, .int p1, .ref o]) (n := 5) (Nat.le_of_ble_eq_true rfl)
  rw [lg_entry_eq]
  generalize (lg_sl ([.ref x, .int p0, .int p1, .ref o]) ++ List.replicate (5 - (lg_sl ([.ref x, .int p0, .int p1, .ref o])).length) Slot.unset).toArray = ls at hl ⊢
  have hl : lv_has ls 5 [(0, .ref x), (1, .int p0), (2, .int p1), (3, .ref o)] := hl
  refine lv_aload_n hx hb dLA_lose_0 rfl (lv_at hl 3 rfl) ?_
  refine lv_iconst (v := 0) hx hb dLA_lose_1 (by decide) ?_
  refine lv_aload_n hx hb dLA_lose_2 rfl (lv_at hl 0 rfl) ?_
  refine lv_iload_n hx hb dLA_lose_3 rfl (lv_at hl 1 rfl) ?_
  refine lv_iload_n hx hb dLA_lose_4 rfl (lv_at hl 2 rfl) ?_
  have hPc : va_P (dC, dI) zCl [(x, .inr (0, [.ref (b 0), .ref (b 1), .ref (b 2), .ref (b 3), .ref (b 4), .ref (b 5), .int 0, .int 0, .int 0, .int 0, .int 0, .int 0, .int 0])), ((b 0), .inr (1, [.int 0, .int 0, .ref (b 10), .ref (b 11), .ref (b 12), .ref (b 13), .ref (b 14), .ref (b 15), .ref (b 16), .ref (b 17), .ref (b 18)]))] s.heap := hP.sub [0, 1] rfl
  have hDc : va_D (zN s0.heap.size) [(x, .inr (0, [.ref (b 0), .ref (b 1), .ref (b 2), .ref (b 3), .ref (b 4), .ref (b 5), .int 0, .int 0, .int 0, .int 0, .int 0, .int 0, .int 0])), ((b 0), .inr (1, [.int 0, .int 0, .ref (b 10), .ref (b 11), .ref (b 12), .ref (b 13), .ref (b 14), .ref (b 15), .ref (b 16), .ref (b 17), .ref (b 18)]))] := hD.sub [0, 1] (by decide) rfl
  refine tq_catch (hp := 13) (tq_runV (As := [.int p0, .int p1]) (rest := [.int 0, .ref o]) ⟨hx, hb, hml, hown, zno⟩ (zt_lose l dC dI cI cZ cJ a0 s0 hfl x b s.heap.size p0 p1) (zcw 2 (hB.word (zm3 k3_115) rfl) (hB.word (zm1 k1_1) rfl) (hB.word (zm3 k3_112) rfl) (hB.word (zm3 k3_113) rfl) (hB.word (zm3 k3_114) rfl) rfl rfl (by decide +kernel) ⟨Nat.le_of_ble_eq_true rfl, Nat.le_of_ble_eq_true rfl⟩) ⟨zP_blind, va_recv hK hP (ci := 0) (q0 := 0) rfl rfl, zP_pre hPc hK hDc hAD (zB_on hB hA0 hS)⟩ rfl rfl hl.1 rfl (lv_room (Nat.le_of_ble_eq_true rfl)) dLA_lose_5 ⟨Nat.le_of_ble_eq_true rfl, Nat.le_of_ble_eq_true rfl⟩) hown htab (zsel1 (by decide) (by decide) (hB.word (zm2 k2_142) rfl) (zfit (args := #[]) (hB.word (zm2 k2_153) rfl))) hS (fun q h => hA q (Nat.le_trans hS.1 h)) (fun xq H1 locs hz1 hk1 hS => ?_)
  have hP := zKeep hP hk1
  generalize H1 = H at hP hS ⊢
  have hP : va_P (dC, dI) zCl [(x, .inr (0, [.ref (b 0), .ref (b 1), .ref (b 2), .ref (b 3), .ref (b 4), .ref (b 5), .int 0, .int 0, .int 0, .int 0, .int 0, .int 0, .int 0])), ((b 0), .inr (1, [.int 0, .int 0, .ref (b 10), .ref (b 11), .ref (b 12), .ref (b 13), .ref (b 14), .ref (b 15), .ref (b 16), .ref (b 17), .ref (b 18)]))] H := hP
  refine lv_astore (lv' := [(4, .ref xq), (0, .ref x), (1, .int p0), (2, .int p1), (3, .ref o)]) hx hb dLA_lose_13 hl (by decide) rfl (fun ls hl => ?_)
  refine lv_iconst (v := 1) hx hb dLA_lose_15 (by decide) ?_
  refine W.widen (k := 1) (n := 6) (Nat.le_of_ble_eq_true rfl) (Nat.le_of_ble_eq_true rfl) ?_
  exact W.iret (v := 1) hx hb hr (fun t ht hW => ⟨⟨1, (), rfl, rfl, trivial⟩, hS.F ht⟩) hS.2.2 dLA_lose_16
set_option maxHeartbeats 4000000 in
set_option maxRecDepth 100000 in
theorem zh_clear (l : Launch) (dC : Nat → ClassId) (dI : Nat → Nat → Nat) (cI cZ cJ : ClassId) (a0 : Array Value) (s0 : State) (hfl : l.flags = Jvm.pinnedFlags ++ [Jvm.noTraceFlag]) (x : Nat) (b : Nat → Nat) (o sz : Nat) (p0 p1 : Int32) : Met l yLA_clear [Cond.codeWith yLA_clear bLA_clear 5 (some .int) [(0, 17, 20, 19), (0, 17, 24, 13)]] ({ frames := 8, cells := 1, slots := 6, locals := 134 } : Room) (zP zCl dC dI (zTY cI cZ cJ) a0 s0 [.ref x, .int p0, .int p1, .ref o] sz [(x, .inr (0, [.ref (b 0), .ref (b 1), .ref (b 2), .ref (b 3), .ref (b 4), .ref (b 5), .int 0, .int 0, .int 0, .int 0, .int 0, .int 0, .int 0])), ((b 0), .inr (1, [.int 0, .int 0, .ref (b 10), .ref (b 11), .ref (b 12), .ref (b 13), .ref (b 14), .ref (b 15), .ref (b 16), .ref (b 17), .ref (b 18)]))]) (zQp (fun r => r = 1) sz) 1 6 (zN sz) := by
  refine tq_ofWith (cc := bLA_clear) (maxL := 5) (ret := (some .int)) (hs := [(0, 17, 20, 19), (0, 17, 24, 13)]) (by decide) rfl ?_
  intro p e s m args below meth c s₁ B hml htab hv
  obtain ⟨rfl, hsz, hP, hK, hD0, hB⟩ := hv
  have hx := B.exec
  have hb := B.bytes
  have hr := B.returns
  have hown : s.vm.findClass "RingGuardLaw" = some m.cls := findClass_of_methodNamed B.named
  have hlocks := B.notSynchronized
  subst hsz
  have hD := hD0
  have hA0 : ∀ q, zN s.heap.size q → s0.heap.size ≤ q := zA1 hB
  have hAD : ∀ q, zN s0.heap.size q → s0.heap.size ≤ q := fun _ h => h
  have hA : ∀ q : Nat, s.heap.size ≤ q → zN s.heap.size q := fun _ h => h
  have hS : va_S (zN s.heap.size) s.heap s.heap [] := va_S.rf
  have hP : va_P (dC, dI) zCl [(x, .inr (0, [.ref (b 0), .ref (b 1), .ref (b 2), .ref (b 3), .ref (b 4), .ref (b 5), .int 0, .int 0, .int 0, .int 0, .int 0, .int 0, .int 0])), ((b 0), .inr (1, [.int 0, .int 0, .ref (b 10), .ref (b 11), .ref (b 12), .ref (b 13), .ref (b 14), .ref (b 15), .ref (b 16), .ref (b 17), .ref (b 18)]))] s.heap := hP
  have hl := lv_entry ([.ref x, .int p0, .int p1, .ref o]) (n := 5) (Nat.le_of_ble_eq_true rfl)
  rw [lg_entry_eq]
  generalize (lg_sl ([.ref x, .int p0, .int p1, .ref o]) ++ List.replicate (5 - (lg_sl ([.ref x, .int p0, .int p1, .ref o])).length) Slot.unset).toArray = ls at hl ⊢
  have hl : lv_has ls 5 [(0, .ref x), (1, .int p0), (2, .int p1), (3, .ref o)] := hl
  refine lv_aload_n hx hb dLA_clear_0 rfl (lv_at hl 3 rfl) ?_
  refine lv_iconst (v := 0) hx hb dLA_clear_1 (by decide) ?_
  refine lv_aload_n hx hb dLA_clear_2 rfl (lv_at hl 0 rfl) ?_
  refine lv_iload_n hx hb dLA_clear_3 rfl (lv_at hl 1 rfl) ?_
  refine lv_iload_n hx hb dLA_clear_4 rfl (lv_at hl 2 rfl) ?_
  have hPc : va_P (dC, dI) zCl [(x, .inr (0, [.ref (b 0), .ref (b 1), .ref (b 2), .ref (b 3), .ref (b 4), .ref (b 5), .int 0, .int 0, .int 0, .int 0, .int 0, .int 0, .int 0])), ((b 0), .inr (1, [.int 0, .int 0, .ref (b 10), .ref (b 11), .ref (b 12), .ref (b 13), .ref (b 14), .ref (b 15), .ref (b 16), .ref (b 17), .ref (b 18)]))] s.heap := hP.sub [0, 1] rfl
  have hDc : va_D (zN s0.heap.size) [(x, .inr (0, [.ref (b 0), .ref (b 1), .ref (b 2), .ref (b 3), .ref (b 4), .ref (b 5), .int 0, .int 0, .int 0, .int 0, .int 0, .int 0, .int 0])), ((b 0), .inr (1, [.int 0, .int 0, .ref (b 10), .ref (b 11), .ref (b 12), .ref (b 13), .ref (b 14), .ref (b 15), .ref (b 16), .ref (b 17), .ref (b 18)]))] := hD.sub [0, 1] (by decide) rfl
  refine tq_catch (hp := 20) (tq_runV (As := [.int p0, .int p1]) (rest := [.int 0, .ref o]) ⟨hx, hb, hml, hown, zno⟩ (zt_clear l dC dI cI cZ cJ a0 s0 hfl x b s.heap.size p0 p1) (zcw 2 (hB.word (zm3 k3_148) rfl) (hB.word (zm1 k1_1) rfl) (hB.word (zm3 k3_145) rfl) (hB.word (zm3 k3_146) rfl) (hB.word (zm3 k3_147) rfl) rfl rfl (by decide +kernel) ⟨Nat.le_of_ble_eq_true rfl, Nat.le_of_ble_eq_true rfl⟩) ⟨zP_blind, va_recv hK hP (ci := 0) (q0 := 0) rfl rfl, zP_pre hPc hK hDc hAD (zB_on hB hA0 hS)⟩ rfl rfl hl.1 rfl (lv_room (Nat.le_of_ble_eq_true rfl)) dLA_clear_5 ⟨Nat.le_of_ble_eq_true rfl, Nat.le_of_ble_eq_true rfl⟩) hown htab (zsel1 (by decide) (by decide) (hB.word (zm2 k2_142) rfl) (zfit (args := #[]) (hB.word (zm2 k2_153) rfl))) hS (fun q h => hA q (Nat.le_trans hS.1 h)) (fun xq H1 locs hz1 hk1 hS => ?_)
  have hP := zKeep hP hk1
  generalize H1 = H at hP hS ⊢
  have hP : va_P (dC, dI) zCl [(x, .inr (0, [.ref (b 0), .ref (b 1), .ref (b 2), .ref (b 3), .ref (b 4), .ref (b 5), .int 0, .int 0, .int 0, .int 0, .int 0, .int 0, .int 0])), ((b 0), .inr (1, [.int 0, .int 0, .ref (b 10), .ref (b 11), .ref (b 12), .ref (b 13), .ref (b 14), .ref (b 15), .ref (b 16), .ref (b 17), .ref (b 18)]))] H := hP
  refine lv_astore (lv' := [(4, .ref xq), (0, .ref x), (1, .int p0), (2, .int p1), (3, .ref o)]) hx hb dLA_clear_20 hl (by decide) rfl (fun ls hl => ?_)
  refine lv_iconst (v := 1) hx hb dLA_clear_22 (by decide) ?_
  refine W.widen (k := 1) (n := 6) (Nat.le_of_ble_eq_true rfl) (Nat.le_of_ble_eq_true rfl) ?_
  exact W.iret (v := 1) hx hb hr (fun t ht hW => ⟨⟨1, (), rfl, rfl, trivial⟩, hS.F ht⟩) hS.2.2 dLA_clear_23
set_option maxHeartbeats 4000000 in
set_option maxRecDepth 100000 in
theorem zh_ticks1 (l : Launch) (dC : Nat → ClassId) (dI : Nat → Nat → Nat) (cI cZ cJ : ClassId) (a0 : Array Value) (s0 : State) (hfl : l.flags = Jvm.pinnedFlags ++ [Jvm.noTraceFlag]) (x : Nat) (b : Nat → Nat) (o sz : Nat) (p0 : Int32) (hv : ¬ p0 < 1 → ¬ p0 ≤ 200) : Met l yLA_ticks [Cond.codeWith yLA_ticks bLA_ticks 4 (some .int) [(0, 9, 12, 19), (0, 9, 15, 13)]] ({ frames := 7, cells := 1, slots := 6, locals := 113 } : Room) (zP zCl dC dI (zTY cI cZ cJ) a0 s0 [.ref x, .int p0, .ref o] sz [(x, .inr (0, [.ref (b 0), .ref (b 1), .ref (b 2), .ref (b 3), .ref (b 4), .ref (b 5), .int 0, .int 0, .int 0, .int 0, .int 0, .int 0, .int 0]))]) (zQp (fun r => r = 1) sz) 1 6 (zN sz) := by
  refine tq_ofWith (cc := bLA_ticks) (maxL := 4) (ret := (some .int)) (hs := [(0, 9, 12, 19), (0, 9, 15, 13)]) (by decide) rfl ?_
  intro p e s m args below meth c s₁ B hml htab hv
  obtain ⟨rfl, hsz, hP, hK, hD0, hB⟩ := hv
  have hx := B.exec
  have hb := B.bytes
  have hr := B.returns
  have hown : s.vm.findClass "RingGuardLaw" = some m.cls := findClass_of_methodNamed B.named
  have hlocks := B.notSynchronized
  subst hsz
  have hD := hD0
  have hA0 : ∀ q, zN s.heap.size q → s0.heap.size ≤ q := zA1 hB
  have hAD : ∀ q, zN s0.heap.size q → s0.heap.size ≤ q := fun _ h => h
  have hA : ∀ q : Nat, s.heap.size ≤ q → zN s.heap.size q := fun _ h => h
  have hS : va_S (zN s.heap.size) s.heap s.heap [] := va_S.rf
  have hP : va_P (dC, dI) zCl [(x, .inr (0, [.ref (b 0), .ref (b 1), .ref (b 2), .ref (b 3), .ref (b 4), .ref (b 5), .int 0, .int 0, .int 0, .int 0, .int 0, .int 0, .int 0]))] s.heap := hP
  have hl := lv_entry ([.ref x, .int p0, .ref o]) (n := 4) (Nat.le_of_ble_eq_true rfl)
  rw [lg_entry_eq]
  generalize (lg_sl ([.ref x, .int p0, .ref o]) ++ List.replicate (4 - (lg_sl ([.ref x, .int p0, .ref o])).length) Slot.unset).toArray = ls at hl ⊢
  have hl : lv_has ls 4 [(0, .ref x), (1, .int p0), (2, .ref o)] := hl
  refine lv_aload_n hx hb dLA_ticks_0 rfl (lv_at hl 2 rfl) ?_
  refine lv_iconst (v := 0) hx hb dLA_ticks_1 (by decide) ?_
  refine lv_aload_n hx hb dLA_ticks_2 rfl (lv_at hl 0 rfl) ?_
  refine lv_iload_n hx hb dLA_ticks_3 rfl (lv_at hl 1 rfl) ?_
  have hPc : va_P (dC, dI) zCl [(x, .inr (0, [.ref (b 0), .ref (b 1), .ref (b 2), .ref (b 3), .ref (b 4), .ref (b 5), .int 0, .int 0, .int 0, .int 0, .int 0, .int 0, .int 0]))] s.heap := hP.sub [0] rfl
  have hDc : va_D (zN s0.heap.size) [(x, .inr (0, [.ref (b 0), .ref (b 1), .ref (b 2), .ref (b 3), .ref (b 4), .ref (b 5), .int 0, .int 0, .int 0, .int 0, .int 0, .int 0, .int 0]))] := hD.sub [0] (by decide) rfl
  refine tq_catch (hp := 12) (tq_runV (As := [.int p0]) (rest := [.int 0, .ref o]) ⟨hx, hb, hml, hown, zno⟩ (zt_ticks1 l dC dI cI cZ cJ a0 s0 hfl x b s.heap.size p0 hv) (zcw 1 (hB.word (zm3 k3_156) rfl) (hB.word (zm1 k1_1) rfl) (hB.word (zm3 k3_153) rfl) (hB.word (zm3 k3_154) rfl) (hB.word (zm3 k3_155) rfl) rfl rfl (by decide +kernel) ⟨Nat.le_of_ble_eq_true rfl, Nat.le_of_ble_eq_true rfl⟩) ⟨zP_blind, va_recv hK hP (ci := 0) (q0 := 0) rfl rfl, zP_pre hPc hK hDc hAD (zB_on hB hA0 hS)⟩ rfl rfl hl.1 rfl (lv_room (Nat.le_of_ble_eq_true rfl)) dLA_ticks_4 ⟨Nat.le_of_ble_eq_true rfl, Nat.le_of_ble_eq_true rfl⟩) hown htab (zsel1 (by decide) (by decide) (hB.word (zm2 k2_142) rfl) (zfit (args := #[]) (hB.word (zm2 k2_153) rfl))) hS (fun q h => hA q (Nat.le_trans hS.1 h)) (fun xq H1 locs hz1 hk1 hS => ?_)
  have hP := zKeep hP hk1
  generalize H1 = H at hP hS ⊢
  have hP : va_P (dC, dI) zCl [(x, .inr (0, [.ref (b 0), .ref (b 1), .ref (b 2), .ref (b 3), .ref (b 4), .ref (b 5), .int 0, .int 0, .int 0, .int 0, .int 0, .int 0, .int 0]))] H := hP
  refine lv_astore_n (lv' := [(3, .ref xq), (0, .ref x), (1, .int p0), (2, .ref o)]) hx hb dLA_ticks_12 rfl hl (by decide) rfl (fun ls hl => ?_)
  refine lv_iconst (v := 1) hx hb dLA_ticks_13 (by decide) ?_
  refine W.widen (k := 1) (n := 6) (Nat.le_of_ble_eq_true rfl) (Nat.le_of_ble_eq_true rfl) ?_
  exact W.iret (v := 1) hx hb hr (fun t ht hW => ⟨⟨1, (), rfl, rfl, trivial⟩, hS.F ht⟩) hS.2.2 dLA_ticks_14
set_option maxHeartbeats 4000000 in
set_option maxRecDepth 100000 in
theorem zh_ticks2 (l : Launch) (dC : Nat → ClassId) (dI : Nat → Nat → Nat) (cI cZ cJ : ClassId) (a0 : Array Value) (s0 : State) (hfl : l.flags = Jvm.pinnedFlags ++ [Jvm.noTraceFlag]) (x : Nat) (b : Nat → Nat) (o sz : Nat) (p0 : Int32) (h0 : ¬ p0 < 1) (h1 : p0 ≤ 200) : Met l yLA_ticks [Cond.codeWith yLA_ticks bLA_ticks 4 (some .int) [(0, 9, 12, 19), (0, 9, 15, 13)]] ({ frames := 8, cells := 1, slots := 6, locals := 133 } : Room) (zP zCl dC dI (zTY cI cZ cJ) a0 s0 [.ref x, .int p0, .ref o] sz [(x, .inr (0, [.ref (b 0), .ref (b 1), .ref (b 2), .ref (b 3), .ref (b 4), .ref (b 5), .int 0, .int 0, .int 0, .int 0, .int 0, .int 0, .int 0]))]) (zQp (fun r => r = 2) sz) 1 6 (zN sz) := by
  refine tq_ofWith (cc := bLA_ticks) (maxL := 4) (ret := (some .int)) (hs := [(0, 9, 12, 19), (0, 9, 15, 13)]) (by decide) rfl ?_
  intro p e s m args below meth c s₁ B hml htab hv
  obtain ⟨rfl, hsz, hP, hK, hD0, hB⟩ := hv
  have hx := B.exec
  have hb := B.bytes
  have hr := B.returns
  have hown : s.vm.findClass "RingGuardLaw" = some m.cls := findClass_of_methodNamed B.named
  have hlocks := B.notSynchronized
  subst hsz
  have hD := hD0
  have hA0 : ∀ q, zN s.heap.size q → s0.heap.size ≤ q := zA1 hB
  have hAD : ∀ q, zN s0.heap.size q → s0.heap.size ≤ q := fun _ h => h
  have hA : ∀ q : Nat, s.heap.size ≤ q → zN s.heap.size q := fun _ h => h
  have hS : va_S (zN s.heap.size) s.heap s.heap [] := va_S.rf
  have hP : va_P (dC, dI) zCl [(x, .inr (0, [.ref (b 0), .ref (b 1), .ref (b 2), .ref (b 3), .ref (b 4), .ref (b 5), .int 0, .int 0, .int 0, .int 0, .int 0, .int 0, .int 0]))] s.heap := hP
  have hl := lv_entry ([.ref x, .int p0, .ref o]) (n := 4) (Nat.le_of_ble_eq_true rfl)
  rw [lg_entry_eq]
  generalize (lg_sl ([.ref x, .int p0, .ref o]) ++ List.replicate (4 - (lg_sl ([.ref x, .int p0, .ref o])).length) Slot.unset).toArray = ls at hl ⊢
  have hl : lv_has ls 4 [(0, .ref x), (1, .int p0), (2, .ref o)] := hl
  refine lv_aload_n hx hb dLA_ticks_0 rfl (lv_at hl 2 rfl) ?_
  refine lv_iconst (v := 0) hx hb dLA_ticks_1 (by decide) ?_
  refine lv_aload_n hx hb dLA_ticks_2 rfl (lv_at hl 0 rfl) ?_
  refine lv_iload_n hx hb dLA_ticks_3 rfl (lv_at hl 1 rfl) ?_
  have hPc : va_P (dC, dI) zCl [(x, .inr (0, [.ref (b 0), .ref (b 1), .ref (b 2), .ref (b 3), .ref (b 4), .ref (b 5), .int 0, .int 0, .int 0, .int 0, .int 0, .int 0, .int 0]))] s.heap := hP.sub [0] rfl
  have hDc : va_D (zN s0.heap.size) [(x, .inr (0, [.ref (b 0), .ref (b 1), .ref (b 2), .ref (b 3), .ref (b 4), .ref (b 5), .int 0, .int 0, .int 0, .int 0, .int 0, .int 0, .int 0]))] := hD.sub [0] (by decide) rfl
  refine tq_catch (hp := 15) (tq_runV (As := [.int p0]) (rest := [.int 0, .ref o]) ⟨hx, hb, hml, hown, zno⟩ (zt_ticks2 l dC dI cI cZ cJ a0 s0 hfl x b s.heap.size p0 h0 h1) (zcw 1 (hB.word (zm3 k3_156) rfl) (hB.word (zm1 k1_1) rfl) (hB.word (zm3 k3_153) rfl) (hB.word (zm3 k3_154) rfl) (hB.word (zm3 k3_155) rfl) rfl rfl (by decide +kernel) ⟨Nat.le_of_ble_eq_true rfl, Nat.le_of_ble_eq_true rfl⟩) ⟨zP_blind, va_recv hK hP (ci := 0) (q0 := 0) rfl rfl, zP_pre hPc hK hDc hAD (zB_on hB hA0 hS)⟩ rfl rfl hl.1 rfl (lv_room (Nat.le_of_ble_eq_true rfl)) dLA_ticks_4 ⟨Nat.le_of_ble_eq_true rfl, Nat.le_of_ble_eq_true rfl⟩) hown htab (zsel2 (by decide) (by decide) (hB.word (zm2 k2_142) rfl) (znofit hB zno_ISE) (zsel1 (by decide) (by decide) (hB.word (zm2 k2_62) rfl) (zfit (args := #[]) (hB.word (zm2 k2_73) rfl)))) hS (fun q h => hA q (Nat.le_trans hS.1 h)) (fun xq H1 locs hz1 hk1 hS => ?_)
  have hP := zKeep hP hk1
  generalize H1 = H at hP hS ⊢
  have hP : va_P (dC, dI) zCl [(x, .inr (0, [.ref (b 0), .ref (b 1), .ref (b 2), .ref (b 3), .ref (b 4), .ref (b 5), .int 0, .int 0, .int 0, .int 0, .int 0, .int 0, .int 0]))] H := hP
  refine lv_astore_n (lv' := [(3, .ref xq), (0, .ref x), (1, .int p0), (2, .ref o)]) hx hb dLA_ticks_15 rfl hl (by decide) rfl (fun ls hl => ?_)
  refine lv_iconst (v := 2) hx hb dLA_ticks_16 (by decide) ?_
  refine W.widen (k := 1) (n := 6) (Nat.le_of_ble_eq_true rfl) (Nat.le_of_ble_eq_true rfl) ?_
  exact W.iret (v := 2) hx hb hr (fun t ht hW => ⟨⟨2, (), rfl, rfl, trivial⟩, hS.F ht⟩) hS.2.2 dLA_ticks_17
set_option maxHeartbeats 4000000 in
set_option maxRecDepth 100000 in
theorem zh_host (l : Launch) (dC : Nat → ClassId) (dI : Nat → Nat → Nat) (cI cZ cJ : ClassId) (a0 : Array Value) (s0 : State) (hfl : l.flags = Jvm.pinnedFlags ++ [Jvm.noTraceFlag]) (x : Nat) (b : Nat → Nat) (o sz : Nat) (p0 p1 : Int32) : Met l yLA_host [Cond.codeWith yLA_host bLA_host 5 (some .int) [(0, 10, 13, 19), (0, 10, 17, 13)]] ({ frames := 8, cells := 1, slots := 6, locals := 134 } : Room) (zP zCl dC dI (zTY cI cZ cJ) a0 s0 [.ref x, .int p0, .int p1, .ref o] sz [(x, .inr (0, [.ref (b 0), .ref (b 1), .ref (b 2), .ref (b 3), .ref (b 4), .ref (b 5), .int 0, .int 0, .int 0, .int 0, .int 0, .int 0, .int 0])), ((b 0), .inr (1, [.int 0, .int 0, .ref (b 10), .ref (b 11), .ref (b 12), .ref (b 13), .ref (b 14), .ref (b 15), .ref (b 16), .ref (b 17), .ref (b 18)]))]) (zQp (fun r => r = 1) sz) 1 6 (zN sz) := by
  refine tq_ofWith (cc := bLA_host) (maxL := 5) (ret := (some .int)) (hs := [(0, 10, 13, 19), (0, 10, 17, 13)]) (by decide) rfl ?_
  intro p e s m args below meth c s₁ B hml htab hv
  obtain ⟨rfl, hsz, hP, hK, hD0, hB⟩ := hv
  have hx := B.exec
  have hb := B.bytes
  have hr := B.returns
  have hown : s.vm.findClass "RingGuardLaw" = some m.cls := findClass_of_methodNamed B.named
  have hlocks := B.notSynchronized
  subst hsz
  have hD := hD0
  have hA0 : ∀ q, zN s.heap.size q → s0.heap.size ≤ q := zA1 hB
  have hAD : ∀ q, zN s0.heap.size q → s0.heap.size ≤ q := fun _ h => h
  have hA : ∀ q : Nat, s.heap.size ≤ q → zN s.heap.size q := fun _ h => h
  have hS : va_S (zN s.heap.size) s.heap s.heap [] := va_S.rf
  have hP : va_P (dC, dI) zCl [(x, .inr (0, [.ref (b 0), .ref (b 1), .ref (b 2), .ref (b 3), .ref (b 4), .ref (b 5), .int 0, .int 0, .int 0, .int 0, .int 0, .int 0, .int 0])), ((b 0), .inr (1, [.int 0, .int 0, .ref (b 10), .ref (b 11), .ref (b 12), .ref (b 13), .ref (b 14), .ref (b 15), .ref (b 16), .ref (b 17), .ref (b 18)]))] s.heap := hP
  have hl := lv_entry ([.ref x, .int p0, .int p1, .ref o]) (n := 5) (Nat.le_of_ble_eq_true rfl)
  rw [lg_entry_eq]
  generalize (lg_sl ([.ref x, .int p0, .int p1, .ref o]) ++ List.replicate (5 - (lg_sl ([.ref x, .int p0, .int p1, .ref o])).length) Slot.unset).toArray = ls at hl ⊢
  have hl : lv_has ls 5 [(0, .ref x), (1, .int p0), (2, .int p1), (3, .ref o)] := hl
  refine lv_aload_n hx hb dLA_host_0 rfl (lv_at hl 3 rfl) ?_
  refine lv_iconst (v := 0) hx hb dLA_host_1 (by decide) ?_
  refine lv_aload_n hx hb dLA_host_2 rfl (lv_at hl 0 rfl) ?_
  refine lv_iload_n hx hb dLA_host_3 rfl (lv_at hl 1 rfl) ?_
  refine lv_iload_n hx hb dLA_host_4 rfl (lv_at hl 2 rfl) ?_
  have hPc : va_P (dC, dI) zCl [(x, .inr (0, [.ref (b 0), .ref (b 1), .ref (b 2), .ref (b 3), .ref (b 4), .ref (b 5), .int 0, .int 0, .int 0, .int 0, .int 0, .int 0, .int 0])), ((b 0), .inr (1, [.int 0, .int 0, .ref (b 10), .ref (b 11), .ref (b 12), .ref (b 13), .ref (b 14), .ref (b 15), .ref (b 16), .ref (b 17), .ref (b 18)]))] s.heap := hP.sub [0, 1] rfl
  have hDc : va_D (zN s0.heap.size) [(x, .inr (0, [.ref (b 0), .ref (b 1), .ref (b 2), .ref (b 3), .ref (b 4), .ref (b 5), .int 0, .int 0, .int 0, .int 0, .int 0, .int 0, .int 0])), ((b 0), .inr (1, [.int 0, .int 0, .ref (b 10), .ref (b 11), .ref (b 12), .ref (b 13), .ref (b 14), .ref (b 15), .ref (b 16), .ref (b 17), .ref (b 18)]))] := hD.sub [0, 1] (by decide) rfl
  refine tq_catch (hp := 13) (tq_runV (As := [.int p0, .int p1]) (rest := [.int 0, .ref o]) ⟨hx, hb, hml, hown, zno⟩ (zt_host l dC dI cI cZ cJ a0 s0 hfl x b s.heap.size p0 p1) (zcw 2 (hB.word (zm4 k4_26) rfl) (hB.word (zm1 k1_1) rfl) (hB.word (zm4 k4_23) rfl) (hB.word (zm4 k4_24) rfl) (hB.word (zm4 k4_25) rfl) rfl rfl (by decide +kernel) ⟨Nat.le_of_ble_eq_true rfl, Nat.le_of_ble_eq_true rfl⟩) ⟨zP_blind, va_recv hK hP (ci := 0) (q0 := 0) rfl rfl, zP_pre hPc hK hDc hAD (zB_on hB hA0 hS)⟩ rfl rfl hl.1 rfl (lv_room (Nat.le_of_ble_eq_true rfl)) dLA_host_5 ⟨Nat.le_of_ble_eq_true rfl, Nat.le_of_ble_eq_true rfl⟩) hown htab (zsel1 (by decide) (by decide) (hB.word (zm2 k2_142) rfl) (zfit (args := #[]) (hB.word (zm2 k2_153) rfl))) hS (fun q h => hA q (Nat.le_trans hS.1 h)) (fun xq H1 locs hz1 hk1 hS => ?_)
  have hP := zKeep hP hk1
  generalize H1 = H at hP hS ⊢
  have hP : va_P (dC, dI) zCl [(x, .inr (0, [.ref (b 0), .ref (b 1), .ref (b 2), .ref (b 3), .ref (b 4), .ref (b 5), .int 0, .int 0, .int 0, .int 0, .int 0, .int 0, .int 0])), ((b 0), .inr (1, [.int 0, .int 0, .ref (b 10), .ref (b 11), .ref (b 12), .ref (b 13), .ref (b 14), .ref (b 15), .ref (b 16), .ref (b 17), .ref (b 18)]))] H := hP
  refine lv_astore (lv' := [(4, .ref xq), (0, .ref x), (1, .int p0), (2, .int p1), (3, .ref o)]) hx hb dLA_host_13 hl (by decide) rfl (fun ls hl => ?_)
  refine lv_iconst (v := 1) hx hb dLA_host_15 (by decide) ?_
  refine W.widen (k := 1) (n := 6) (Nat.le_of_ble_eq_true rfl) (Nat.le_of_ble_eq_true rfl) ?_
  exact W.iret (v := 1) hx hb hr (fun t ht hW => ⟨⟨1, (), rfl, rfl, trivial⟩, hS.F ht⟩) hS.2.2 dLA_host_16
set_option maxHeartbeats 4000000 in
set_option maxRecDepth 100000 in
theorem zh_send (l : Launch) (dC : Nat → ClassId) (dI : Nat → Nat → Nat) (cI cZ cJ : ClassId) (a0 : Array Value) (s0 : State) (hfl : l.flags = Jvm.pinnedFlags ++ [Jvm.noTraceFlag]) (x : Nat) (b : Nat → Nat) (o sz : Nat) (fh : Nat → Int32) (p0 p1 p2 : Int32) (hf : ∀ j, j < 64 → fh j = -1) : Met l yLA_send [Cond.codeWith yLA_send bLA_send 6 (some .int) [(0, 12, 15, 19), (0, 12, 19, 13)]] ({ frames := 8, cells := 1, slots := 6, locals := 134 } : Room) (zP zCl dC dI (zTY cI cZ cJ) a0 s0 [.ref x, .int p0, .int p1, .int p2, .ref o] sz [(x, .inr (0, [.ref (b 0), .ref (b 1), .ref (b 2), .ref (b 3), .ref (b 4), .ref (b 5), .int 0, .int 0, .int 0, .int 0, .int 0, .int 0, .int 0])), ((b 4), .inr (5, [.ref (b 0), .ref (b 3), .ref (b 2), .ref (b 20), .ref (b 21), .ref (b 22), .int 0, .ref (b 23), .int 0])), ((b 20), .inl (cI, 64, .inl fh))]) (zQp (fun r => r = 1) sz) 1 6 (zN sz) := by
  refine tq_ofWith (cc := bLA_send) (maxL := 6) (ret := (some .int)) (hs := [(0, 12, 15, 19), (0, 12, 19, 13)]) (by decide) rfl ?_
  intro p e s m args below meth c s₁ B hml htab hv
  obtain ⟨rfl, hsz, hP, hK, hD0, hB⟩ := hv
  have hx := B.exec
  have hb := B.bytes
  have hr := B.returns
  have hown : s.vm.findClass "RingGuardLaw" = some m.cls := findClass_of_methodNamed B.named
  have hlocks := B.notSynchronized
  subst hsz
  have hD := hD0
  have hA0 : ∀ q, zN s.heap.size q → s0.heap.size ≤ q := zA1 hB
  have hAD : ∀ q, zN s0.heap.size q → s0.heap.size ≤ q := fun _ h => h
  have hA : ∀ q : Nat, s.heap.size ≤ q → zN s.heap.size q := fun _ h => h
  have hS : va_S (zN s.heap.size) s.heap s.heap [] := va_S.rf
  have hP : va_P (dC, dI) zCl [(x, .inr (0, [.ref (b 0), .ref (b 1), .ref (b 2), .ref (b 3), .ref (b 4), .ref (b 5), .int 0, .int 0, .int 0, .int 0, .int 0, .int 0, .int 0])), ((b 4), .inr (5, [.ref (b 0), .ref (b 3), .ref (b 2), .ref (b 20), .ref (b 21), .ref (b 22), .int 0, .ref (b 23), .int 0])), ((b 20), .inl (cI, 64, .inl fh))] s.heap := hP
  have hl := lv_entry ([.ref x, .int p0, .int p1, .int p2, .ref o]) (n := 6) (Nat.le_of_ble_eq_true rfl)
  rw [lg_entry_eq]
  generalize (lg_sl ([.ref x, .int p0, .int p1, .int p2, .ref o]) ++ List.replicate (6 - (lg_sl ([.ref x, .int p0, .int p1, .int p2, .ref o])).length) Slot.unset).toArray = ls at hl ⊢
  have hl : lv_has ls 6 [(0, .ref x), (1, .int p0), (2, .int p1), (3, .int p2), (4, .ref o)] := hl
  refine lv_aload hx hb dLA_send_0 (lv_at hl 4 rfl) ?_
  refine lv_iconst (v := 0) hx hb dLA_send_2 (by decide) ?_
  refine lv_aload_n hx hb dLA_send_3 rfl (lv_at hl 0 rfl) ?_
  refine lv_iload_n hx hb dLA_send_4 rfl (lv_at hl 1 rfl) ?_
  refine lv_iload_n hx hb dLA_send_5 rfl (lv_at hl 2 rfl) ?_
  refine lv_iload_n hx hb dLA_send_6 rfl (lv_at hl 3 rfl) ?_
  have hPc : va_P (dC, dI) zCl [(x, .inr (0, [.ref (b 0), .ref (b 1), .ref (b 2), .ref (b 3), .ref (b 4), .ref (b 5), .int 0, .int 0, .int 0, .int 0, .int 0, .int 0, .int 0])), ((b 4), .inr (5, [.ref (b 0), .ref (b 3), .ref (b 2), .ref (b 20), .ref (b 21), .ref (b 22), .int 0, .ref (b 23), .int 0])), ((b 20), .inl (cI, 64, .inl fh))] s.heap := hP.sub [0, 1, 2] rfl
  have hDc : va_D (zN s0.heap.size) [(x, .inr (0, [.ref (b 0), .ref (b 1), .ref (b 2), .ref (b 3), .ref (b 4), .ref (b 5), .int 0, .int 0, .int 0, .int 0, .int 0, .int 0, .int 0])), ((b 4), .inr (5, [.ref (b 0), .ref (b 3), .ref (b 2), .ref (b 20), .ref (b 21), .ref (b 22), .int 0, .ref (b 23), .int 0])), ((b 20), .inl (cI, 64, .inl fh))] := hD.sub [0, 1, 2] (by decide) rfl
  refine tq_catch (hp := 15) (tq_runV (As := [.int p0, .int p1, .int p2]) (rest := [.int 0, .ref o]) ⟨hx, hb, hml, hown, zno⟩ (zt_send l dC dI cI cZ cJ a0 s0 hfl x b s.heap.size fh p0 p1 p2 hf) (zcw 3 (hB.word (zm4 k4_42) rfl) (hB.word (zm1 k1_1) rfl) (hB.word (zm4 k4_39) rfl) (hB.word (zm4 k4_40) rfl) (hB.word (zm4 k4_41) rfl) rfl rfl (by decide +kernel) ⟨Nat.le_of_ble_eq_true rfl, Nat.le_of_ble_eq_true rfl⟩) ⟨zP_blind, va_recv hK hP (ci := 0) (q0 := 0) rfl rfl, zP_pre hPc hK hDc hAD (zB_on hB hA0 hS)⟩ rfl rfl hl.1 rfl (lv_room (Nat.le_of_ble_eq_true rfl)) dLA_send_7 ⟨Nat.le_of_ble_eq_true rfl, Nat.le_of_ble_eq_true rfl⟩) hown htab (zsel1 (by decide) (by decide) (hB.word (zm2 k2_142) rfl) (zfit (args := #[]) (hB.word (zm2 k2_153) rfl))) hS (fun q h => hA q (Nat.le_trans hS.1 h)) (fun xq H1 locs hz1 hk1 hS => ?_)
  have hP := zKeep hP hk1
  generalize H1 = H at hP hS ⊢
  have hP : va_P (dC, dI) zCl [(x, .inr (0, [.ref (b 0), .ref (b 1), .ref (b 2), .ref (b 3), .ref (b 4), .ref (b 5), .int 0, .int 0, .int 0, .int 0, .int 0, .int 0, .int 0])), ((b 4), .inr (5, [.ref (b 0), .ref (b 3), .ref (b 2), .ref (b 20), .ref (b 21), .ref (b 22), .int 0, .ref (b 23), .int 0])), ((b 20), .inl (cI, 64, .inl fh))] H := hP
  refine lv_astore (lv' := [(5, .ref xq), (0, .ref x), (1, .int p0), (2, .int p1), (3, .int p2), (4, .ref o)]) hx hb dLA_send_15 hl (by decide) rfl (fun ls hl => ?_)
  refine lv_iconst (v := 1) hx hb dLA_send_17 (by decide) ?_
  refine W.widen (k := 1) (n := 6) (Nat.le_of_ble_eq_true rfl) (Nat.le_of_ble_eq_true rfl) ?_
  exact W.iret (v := 1) hx hb hr (fun t ht hW => ⟨⟨1, (), rfl, rfl, trivial⟩, hS.F ht⟩) hS.2.2 dLA_send_18
set_option maxHeartbeats 4000000 in
set_option maxRecDepth 100000 in
theorem zh_holds (l : Launch) (dC : Nat → ClassId) (dI : Nat → Nat → Nat) (cI cZ cJ : ClassId) (a0 : Array Value) (s0 : State) (hfl : l.flags = Jvm.pinnedFlags ++ [Jvm.noTraceFlag]) (x : Nat) (b : Nat → Nat) (o sz : Nat) (p0 p1 : Int32) : Met l yLA_holds [Cond.codeWith yLA_holds bLA_holds 5 (some .int) [(0, 10, 13, 19)]] ({ frames := 9, cells := 1, slots := 6, locals := 155 } : Room) (zP zCl dC dI (zTY cI cZ cJ) a0 s0 [.ref x, .int p0, .int p1, .ref o] sz [(x, .inr (0, [.ref (b 0), .ref (b 1), .ref (b 2), .ref (b 3), .ref (b 4), .ref (b 5), .int 0, .int 0, .int 0, .int 0, .int 0, .int 0, .int 0])), ((b 0), .inr (1, [.int 0, .int 0, .ref (b 10), .ref (b 11), .ref (b 12), .ref (b 13), .ref (b 14), .ref (b 15), .ref (b 16), .ref (b 17), .ref (b 18)]))]) (zQp (fun r => r = 1) sz) 1 6 (zN sz) := by
  refine tq_ofWith (cc := bLA_holds) (maxL := 5) (ret := (some .int)) (hs := [(0, 10, 13, 19)]) (by decide) rfl ?_
  intro p e s m args below meth c s₁ B hml htab hv
  obtain ⟨rfl, hsz, hP, hK, hD0, hB⟩ := hv
  have hx := B.exec
  have hb := B.bytes
  have hr := B.returns
  have hown : s.vm.findClass "RingGuardLaw" = some m.cls := findClass_of_methodNamed B.named
  have hlocks := B.notSynchronized
  subst hsz
  have hD := hD0
  have hA0 : ∀ q, zN s.heap.size q → s0.heap.size ≤ q := zA1 hB
  have hAD : ∀ q, zN s0.heap.size q → s0.heap.size ≤ q := fun _ h => h
  have hA : ∀ q : Nat, s.heap.size ≤ q → zN s.heap.size q := fun _ h => h
  have hS : va_S (zN s.heap.size) s.heap s.heap [] := va_S.rf
  have hP : va_P (dC, dI) zCl [(x, .inr (0, [.ref (b 0), .ref (b 1), .ref (b 2), .ref (b 3), .ref (b 4), .ref (b 5), .int 0, .int 0, .int 0, .int 0, .int 0, .int 0, .int 0])), ((b 0), .inr (1, [.int 0, .int 0, .ref (b 10), .ref (b 11), .ref (b 12), .ref (b 13), .ref (b 14), .ref (b 15), .ref (b 16), .ref (b 17), .ref (b 18)]))] s.heap := hP
  have hl := lv_entry ([.ref x, .int p0, .int p1, .ref o]) (n := 5) (Nat.le_of_ble_eq_true rfl)
  rw [lg_entry_eq]
  generalize (lg_sl ([.ref x, .int p0, .int p1, .ref o]) ++ List.replicate (5 - (lg_sl ([.ref x, .int p0, .int p1, .ref o])).length) Slot.unset).toArray = ls at hl ⊢
  have hl : lv_has ls 5 [(0, .ref x), (1, .int p0), (2, .int p1), (3, .ref o)] := hl
  refine lv_aload_n hx hb dLA_holds_0 rfl (lv_at hl 3 rfl) ?_
  refine lv_iconst (v := 0) hx hb dLA_holds_1 (by decide) ?_
  refine lv_aload_n hx hb dLA_holds_2 rfl (lv_at hl 0 rfl) ?_
  refine lv_iload_n hx hb dLA_holds_3 rfl (lv_at hl 1 rfl) ?_
  refine lv_iload_n hx hb dLA_holds_4 rfl (lv_at hl 2 rfl) ?_
  have hPc : va_P (dC, dI) zCl [(x, .inr (0, [.ref (b 0), .ref (b 1), .ref (b 2), .ref (b 3), .ref (b 4), .ref (b 5), .int 0, .int 0, .int 0, .int 0, .int 0, .int 0, .int 0])), ((b 0), .inr (1, [.int 0, .int 0, .ref (b 10), .ref (b 11), .ref (b 12), .ref (b 13), .ref (b 14), .ref (b 15), .ref (b 16), .ref (b 17), .ref (b 18)]))] s.heap := hP.sub [0, 1] rfl
  have hDc : va_D (zN s0.heap.size) [(x, .inr (0, [.ref (b 0), .ref (b 1), .ref (b 2), .ref (b 3), .ref (b 4), .ref (b 5), .int 0, .int 0, .int 0, .int 0, .int 0, .int 0, .int 0])), ((b 0), .inr (1, [.int 0, .int 0, .ref (b 10), .ref (b 11), .ref (b 12), .ref (b 13), .ref (b 14), .ref (b 15), .ref (b 16), .ref (b 17), .ref (b 18)]))] := hD.sub [0, 1] (by decide) rfl
  refine tq_catch (hp := 13) (tq_runV (As := [.int p0, .int p1]) (rest := [.int 0, .ref o]) ⟨hx, hb, hml, hown, zno⟩ (zt_holds l dC dI cI cZ cJ a0 s0 hfl x b s.heap.size p0 p1) (zcw 2 (hB.word (zm4 k4_84) rfl) (hB.word (zm1 k1_1) rfl) (hB.word (zm4 k4_81) rfl) (hB.word (zm4 k4_82) rfl) (hB.word (zm4 k4_83) rfl) rfl rfl (by decide +kernel) ⟨Nat.le_of_ble_eq_true rfl, Nat.le_of_ble_eq_true rfl⟩) ⟨zP_blind, va_recv hK hP (ci := 0) (q0 := 0) rfl rfl, zP_pre hPc hK hDc hAD (zB_on hB hA0 hS)⟩ rfl rfl hl.1 rfl (lv_room (Nat.le_of_ble_eq_true rfl)) dLA_holds_5 ⟨Nat.le_of_ble_eq_true rfl, Nat.le_of_ble_eq_true rfl⟩) hown htab (zsel1 (by decide) (by decide) (hB.word (zm2 k2_142) rfl) (zfit (args := #[]) (hB.word (zm2 k2_153) rfl))) hS (fun q h => hA q (Nat.le_trans hS.1 h)) (fun xq H1 locs hz1 hk1 hS => ?_)
  have hP := zKeep hP hk1
  generalize H1 = H at hP hS ⊢
  have hP : va_P (dC, dI) zCl [(x, .inr (0, [.ref (b 0), .ref (b 1), .ref (b 2), .ref (b 3), .ref (b 4), .ref (b 5), .int 0, .int 0, .int 0, .int 0, .int 0, .int 0, .int 0])), ((b 0), .inr (1, [.int 0, .int 0, .ref (b 10), .ref (b 11), .ref (b 12), .ref (b 13), .ref (b 14), .ref (b 15), .ref (b 16), .ref (b 17), .ref (b 18)]))] H := hP
  refine lv_astore (lv' := [(4, .ref xq), (0, .ref x), (1, .int p0), (2, .int p1), (3, .ref o)]) hx hb dLA_holds_13 hl (by decide) rfl (fun ls hl => ?_)
  refine lv_iconst (v := 1) hx hb dLA_holds_15 (by decide) ?_
  refine W.widen (k := 1) (n := 6) (Nat.le_of_ble_eq_true rfl) (Nat.le_of_ble_eq_true rfl) ?_
  exact W.iret (v := 1) hx hb hr (fun t ht hW => ⟨⟨1, (), rfl, rfl, trivial⟩, hS.F ht⟩) hS.2.2 dLA_holds_16
set_option maxHeartbeats 4000000 in
set_option maxRecDepth 100000 in
theorem zh_told (l : Launch) (dC : Nat → ClassId) (dI : Nat → Nat → Nat) (cI cZ cJ : ClassId) (a0 : Array Value) (s0 : State) (hfl : l.flags = Jvm.pinnedFlags ++ [Jvm.noTraceFlag]) (x : Nat) (b : Nat → Nat) (o sz : Nat) (p0 p1 p2 : Int32) : Met l yLA_told [Cond.codeWith yLA_told bLA_told 6 (some .int) [(0, 12, 15, 19)]] ({ frames := 8, cells := 1, slots := 6, locals := 134 } : Room) (zP zCl dC dI (zTY cI cZ cJ) a0 s0 [.ref x, .int p0, .int p1, .int p2, .ref o] sz [(x, .inr (0, [.ref (b 0), .ref (b 1), .ref (b 2), .ref (b 3), .ref (b 4), .ref (b 5), .int 0, .int 0, .int 0, .int 0, .int 0, .int 0, .int 0])), ((b 0), .inr (1, [.int 0, .int 0, .ref (b 10), .ref (b 11), .ref (b 12), .ref (b 13), .ref (b 14), .ref (b 15), .ref (b 16), .ref (b 17), .ref (b 18)]))]) (zQp (fun r => r = 1) sz) 1 6 (zN sz) := by
  refine tq_ofWith (cc := bLA_told) (maxL := 6) (ret := (some .int)) (hs := [(0, 12, 15, 19)]) (by decide) rfl ?_
  intro p e s m args below meth c s₁ B hml htab hv
  obtain ⟨rfl, hsz, hP, hK, hD0, hB⟩ := hv
  have hx := B.exec
  have hb := B.bytes
  have hr := B.returns
  have hown : s.vm.findClass "RingGuardLaw" = some m.cls := findClass_of_methodNamed B.named
  have hlocks := B.notSynchronized
  subst hsz
  have hD := hD0
  have hA0 : ∀ q, zN s.heap.size q → s0.heap.size ≤ q := zA1 hB
  have hAD : ∀ q, zN s0.heap.size q → s0.heap.size ≤ q := fun _ h => h
  have hA : ∀ q : Nat, s.heap.size ≤ q → zN s.heap.size q := fun _ h => h
  have hS : va_S (zN s.heap.size) s.heap s.heap [] := va_S.rf
  have hP : va_P (dC, dI) zCl [(x, .inr (0, [.ref (b 0), .ref (b 1), .ref (b 2), .ref (b 3), .ref (b 4), .ref (b 5), .int 0, .int 0, .int 0, .int 0, .int 0, .int 0, .int 0])), ((b 0), .inr (1, [.int 0, .int 0, .ref (b 10), .ref (b 11), .ref (b 12), .ref (b 13), .ref (b 14), .ref (b 15), .ref (b 16), .ref (b 17), .ref (b 18)]))] s.heap := hP
  have hl := lv_entry ([.ref x, .int p0, .int p1, .int p2, .ref o]) (n := 6) (Nat.le_of_ble_eq_true rfl)
  rw [lg_entry_eq]
  generalize (lg_sl ([.ref x, .int p0, .int p1, .int p2, .ref o]) ++ List.replicate (6 - (lg_sl ([.ref x, .int p0, .int p1, .int p2, .ref o])).length) Slot.unset).toArray = ls at hl ⊢
  have hl : lv_has ls 6 [(0, .ref x), (1, .int p0), (2, .int p1), (3, .int p2), (4, .ref o)] := hl
  refine lv_aload hx hb dLA_told_0 (lv_at hl 4 rfl) ?_
  refine lv_iconst (v := 0) hx hb dLA_told_2 (by decide) ?_
  refine lv_aload_n hx hb dLA_told_3 rfl (lv_at hl 0 rfl) ?_
  refine lv_iload_n hx hb dLA_told_4 rfl (lv_at hl 1 rfl) ?_
  refine lv_iload_n hx hb dLA_told_5 rfl (lv_at hl 2 rfl) ?_
  refine lv_iload_n hx hb dLA_told_6 rfl (lv_at hl 3 rfl) ?_
  have hPc : va_P (dC, dI) zCl [(x, .inr (0, [.ref (b 0), .ref (b 1), .ref (b 2), .ref (b 3), .ref (b 4), .ref (b 5), .int 0, .int 0, .int 0, .int 0, .int 0, .int 0, .int 0])), ((b 0), .inr (1, [.int 0, .int 0, .ref (b 10), .ref (b 11), .ref (b 12), .ref (b 13), .ref (b 14), .ref (b 15), .ref (b 16), .ref (b 17), .ref (b 18)]))] s.heap := hP.sub [0, 1] rfl
  have hDc : va_D (zN s0.heap.size) [(x, .inr (0, [.ref (b 0), .ref (b 1), .ref (b 2), .ref (b 3), .ref (b 4), .ref (b 5), .int 0, .int 0, .int 0, .int 0, .int 0, .int 0, .int 0])), ((b 0), .inr (1, [.int 0, .int 0, .ref (b 10), .ref (b 11), .ref (b 12), .ref (b 13), .ref (b 14), .ref (b 15), .ref (b 16), .ref (b 17), .ref (b 18)]))] := hD.sub [0, 1] (by decide) rfl
  refine tq_catch (hp := 15) (tq_runV (As := [.int p0, .int p1, .int p2]) (rest := [.int 0, .ref o]) ⟨hx, hb, hml, hown, zno⟩ (zt_told l dC dI cI cZ cJ a0 s0 hfl x b s.heap.size p0 p1 p2) (zcw 3 (hB.word (zm4 k4_91) rfl) (hB.word (zm1 k1_1) rfl) (hB.word (zm4 k4_88) rfl) (hB.word (zm4 k4_89) rfl) (hB.word (zm4 k4_90) rfl) rfl rfl (by decide +kernel) ⟨Nat.le_of_ble_eq_true rfl, Nat.le_of_ble_eq_true rfl⟩) ⟨zP_blind, va_recv hK hP (ci := 0) (q0 := 0) rfl rfl, zP_pre hPc hK hDc hAD (zB_on hB hA0 hS)⟩ rfl rfl hl.1 rfl (lv_room (Nat.le_of_ble_eq_true rfl)) dLA_told_7 ⟨Nat.le_of_ble_eq_true rfl, Nat.le_of_ble_eq_true rfl⟩) hown htab (zsel1 (by decide) (by decide) (hB.word (zm2 k2_142) rfl) (zfit (args := #[]) (hB.word (zm2 k2_153) rfl))) hS (fun q h => hA q (Nat.le_trans hS.1 h)) (fun xq H1 locs hz1 hk1 hS => ?_)
  have hP := zKeep hP hk1
  generalize H1 = H at hP hS ⊢
  have hP : va_P (dC, dI) zCl [(x, .inr (0, [.ref (b 0), .ref (b 1), .ref (b 2), .ref (b 3), .ref (b 4), .ref (b 5), .int 0, .int 0, .int 0, .int 0, .int 0, .int 0, .int 0])), ((b 0), .inr (1, [.int 0, .int 0, .ref (b 10), .ref (b 11), .ref (b 12), .ref (b 13), .ref (b 14), .ref (b 15), .ref (b 16), .ref (b 17), .ref (b 18)]))] H := hP
  refine lv_astore (lv' := [(5, .ref xq), (0, .ref x), (1, .int p0), (2, .int p1), (3, .int p2), (4, .ref o)]) hx hb dLA_told_15 hl (by decide) rfl (fun ls hl => ?_)
  refine lv_iconst (v := 1) hx hb dLA_told_17 (by decide) ?_
  refine W.widen (k := 1) (n := 6) (Nat.le_of_ble_eq_true rfl) (Nat.le_of_ble_eq_true rfl) ?_
  exact W.iret (v := 1) hx hb hr (fun t ht hW => ⟨⟨1, (), rfl, rfl, trivial⟩, hS.F ht⟩) hS.2.2 dLA_told_18
set_option maxHeartbeats 4000000 in
set_option maxRecDepth 100000 in
theorem zh_learned (l : Launch) (dC : Nat → ClassId) (dI : Nat → Nat → Nat) (cI cZ cJ : ClassId) (a0 : Array Value) (s0 : State) (hfl : l.flags = Jvm.pinnedFlags ++ [Jvm.noTraceFlag]) (x : Nat) (b : Nat → Nat) (o sz : Nat) (p0 p1 p2 : Int32) : Met l yLA_learned [Cond.codeWith yLA_learned bLA_learned 6 (some .int) [(0, 12, 15, 19)]] ({ frames := 8, cells := 1, slots := 6, locals := 134 } : Room) (zP zCl dC dI (zTY cI cZ cJ) a0 s0 [.ref x, .int p0, .int p1, .int p2, .ref o] sz [(x, .inr (0, [.ref (b 0), .ref (b 1), .ref (b 2), .ref (b 3), .ref (b 4), .ref (b 5), .int 0, .int 0, .int 0, .int 0, .int 0, .int 0, .int 0])), ((b 0), .inr (1, [.int 0, .int 0, .ref (b 10), .ref (b 11), .ref (b 12), .ref (b 13), .ref (b 14), .ref (b 15), .ref (b 16), .ref (b 17), .ref (b 18)]))]) (zQp (fun r => r = 1) sz) 1 6 (zN sz) := by
  refine tq_ofWith (cc := bLA_learned) (maxL := 6) (ret := (some .int)) (hs := [(0, 12, 15, 19)]) (by decide) rfl ?_
  intro p e s m args below meth c s₁ B hml htab hv
  obtain ⟨rfl, hsz, hP, hK, hD0, hB⟩ := hv
  have hx := B.exec
  have hb := B.bytes
  have hr := B.returns
  have hown : s.vm.findClass "RingGuardLaw" = some m.cls := findClass_of_methodNamed B.named
  have hlocks := B.notSynchronized
  subst hsz
  have hD := hD0
  have hA0 : ∀ q, zN s.heap.size q → s0.heap.size ≤ q := zA1 hB
  have hAD : ∀ q, zN s0.heap.size q → s0.heap.size ≤ q := fun _ h => h
  have hA : ∀ q : Nat, s.heap.size ≤ q → zN s.heap.size q := fun _ h => h
  have hS : va_S (zN s.heap.size) s.heap s.heap [] := va_S.rf
  have hP : va_P (dC, dI) zCl [(x, .inr (0, [.ref (b 0), .ref (b 1), .ref (b 2), .ref (b 3), .ref (b 4), .ref (b 5), .int 0, .int 0, .int 0, .int 0, .int 0, .int 0, .int 0])), ((b 0), .inr (1, [.int 0, .int 0, .ref (b 10), .ref (b 11), .ref (b 12), .ref (b 13), .ref (b 14), .ref (b 15), .ref (b 16), .ref (b 17), .ref (b 18)]))] s.heap := hP
  have hl := lv_entry ([.ref x, .int p0, .int p1, .int p2, .ref o]) (n := 6) (Nat.le_of_ble_eq_true rfl)
  rw [lg_entry_eq]
  generalize (lg_sl ([.ref x, .int p0, .int p1, .int p2, .ref o]) ++ List.replicate (6 - (lg_sl ([.ref x, .int p0, .int p1, .int p2, .ref o])).length) Slot.unset).toArray = ls at hl ⊢
  have hl : lv_has ls 6 [(0, .ref x), (1, .int p0), (2, .int p1), (3, .int p2), (4, .ref o)] := hl
  refine lv_aload hx hb dLA_learned_0 (lv_at hl 4 rfl) ?_
  refine lv_iconst (v := 0) hx hb dLA_learned_2 (by decide) ?_
  refine lv_aload_n hx hb dLA_learned_3 rfl (lv_at hl 0 rfl) ?_
  refine lv_iload_n hx hb dLA_learned_4 rfl (lv_at hl 1 rfl) ?_
  refine lv_iload_n hx hb dLA_learned_5 rfl (lv_at hl 2 rfl) ?_
  refine lv_iload_n hx hb dLA_learned_6 rfl (lv_at hl 3 rfl) ?_
  have hPc : va_P (dC, dI) zCl [(x, .inr (0, [.ref (b 0), .ref (b 1), .ref (b 2), .ref (b 3), .ref (b 4), .ref (b 5), .int 0, .int 0, .int 0, .int 0, .int 0, .int 0, .int 0])), ((b 0), .inr (1, [.int 0, .int 0, .ref (b 10), .ref (b 11), .ref (b 12), .ref (b 13), .ref (b 14), .ref (b 15), .ref (b 16), .ref (b 17), .ref (b 18)]))] s.heap := hP.sub [0, 1] rfl
  have hDc : va_D (zN s0.heap.size) [(x, .inr (0, [.ref (b 0), .ref (b 1), .ref (b 2), .ref (b 3), .ref (b 4), .ref (b 5), .int 0, .int 0, .int 0, .int 0, .int 0, .int 0, .int 0])), ((b 0), .inr (1, [.int 0, .int 0, .ref (b 10), .ref (b 11), .ref (b 12), .ref (b 13), .ref (b 14), .ref (b 15), .ref (b 16), .ref (b 17), .ref (b 18)]))] := hD.sub [0, 1] (by decide) rfl
  refine tq_catch (hp := 15) (tq_runV (As := [.int p0, .int p1, .int p2]) (rest := [.int 0, .ref o]) ⟨hx, hb, hml, hown, zno⟩ (zt_learned l dC dI cI cZ cJ a0 s0 hfl x b s.heap.size p0 p1 p2) (zcw 3 (hB.word (zm4 k4_99) rfl) (hB.word (zm1 k1_1) rfl) (hB.word (zm4 k4_96) rfl) (hB.word (zm4 k4_97) rfl) (hB.word (zm4 k4_98) rfl) rfl rfl (by decide +kernel) ⟨Nat.le_of_ble_eq_true rfl, Nat.le_of_ble_eq_true rfl⟩) ⟨zP_blind, va_recv hK hP (ci := 0) (q0 := 0) rfl rfl, zP_pre hPc hK hDc hAD (zB_on hB hA0 hS)⟩ rfl rfl hl.1 rfl (lv_room (Nat.le_of_ble_eq_true rfl)) dLA_learned_7 ⟨Nat.le_of_ble_eq_true rfl, Nat.le_of_ble_eq_true rfl⟩) hown htab (zsel1 (by decide) (by decide) (hB.word (zm2 k2_142) rfl) (zfit (args := #[]) (hB.word (zm2 k2_153) rfl))) hS (fun q h => hA q (Nat.le_trans hS.1 h)) (fun xq H1 locs hz1 hk1 hS => ?_)
  have hP := zKeep hP hk1
  generalize H1 = H at hP hS ⊢
  have hP : va_P (dC, dI) zCl [(x, .inr (0, [.ref (b 0), .ref (b 1), .ref (b 2), .ref (b 3), .ref (b 4), .ref (b 5), .int 0, .int 0, .int 0, .int 0, .int 0, .int 0, .int 0])), ((b 0), .inr (1, [.int 0, .int 0, .ref (b 10), .ref (b 11), .ref (b 12), .ref (b 13), .ref (b 14), .ref (b 15), .ref (b 16), .ref (b 17), .ref (b 18)]))] H := hP
  refine lv_astore (lv' := [(5, .ref xq), (0, .ref x), (1, .int p0), (2, .int p1), (3, .int p2), (4, .ref o)]) hx hb dLA_learned_15 hl (by decide) rfl (fun ls hl => ?_)
  refine lv_iconst (v := 1) hx hb dLA_learned_17 (by decide) ?_
  refine W.widen (k := 1) (n := 6) (Nat.le_of_ble_eq_true rfl) (Nat.le_of_ble_eq_true rfl) ?_
  exact W.iret (v := 1) hx hb hr (fun t ht hW => ⟨⟨1, (), rfl, rfl, trivial⟩, hS.F ht⟩) hS.2.2 dLA_learned_18
set_option maxHeartbeats 4000000 in
set_option maxRecDepth 100000 in
theorem zh_joined (l : Launch) (dC : Nat → ClassId) (dI : Nat → Nat → Nat) (cI cZ cJ : ClassId) (a0 : Array Value) (s0 : State) (hfl : l.flags = Jvm.pinnedFlags ++ [Jvm.noTraceFlag]) (x : Nat) (b : Nat → Nat) (o sz : Nat) (p0 p1 : Int32) : Met l yLA_joined [Cond.codeWith yLA_joined bLA_joined 5 (some .int) [(0, 17, 20, 19)]] ({ frames := 8, cells := 1, slots := 6, locals := 133 } : Room) (zP zCl dC dI (zTY cI cZ cJ) a0 s0 [.ref x, .int p0, .int p1, .ref o] sz [(x, .inr (0, [.ref (b 0), .ref (b 1), .ref (b 2), .ref (b 3), .ref (b 4), .ref (b 5), .int 0, .int 0, .int 0, .int 0, .int 0, .int 0, .int 0])), ((b 0), .inr (1, [.int 0, .int 0, .ref (b 10), .ref (b 11), .ref (b 12), .ref (b 13), .ref (b 14), .ref (b 15), .ref (b 16), .ref (b 17), .ref (b 18)]))]) (zQp (fun r => r = 1) sz) 1 6 (zN sz) := by
  refine tq_ofWith (cc := bLA_joined) (maxL := 5) (ret := (some .int)) (hs := [(0, 17, 20, 19)]) (by decide) rfl ?_
  intro p e s m args below meth c s₁ B hml htab hv
  obtain ⟨rfl, hsz, hP, hK, hD0, hB⟩ := hv
  have hx := B.exec
  have hb := B.bytes
  have hr := B.returns
  have hown : s.vm.findClass "RingGuardLaw" = some m.cls := findClass_of_methodNamed B.named
  have hlocks := B.notSynchronized
  subst hsz
  have hD := hD0
  have hA0 : ∀ q, zN s.heap.size q → s0.heap.size ≤ q := zA1 hB
  have hAD : ∀ q, zN s0.heap.size q → s0.heap.size ≤ q := fun _ h => h
  have hA : ∀ q : Nat, s.heap.size ≤ q → zN s.heap.size q := fun _ h => h
  have hS : va_S (zN s.heap.size) s.heap s.heap [] := va_S.rf
  have hP : va_P (dC, dI) zCl [(x, .inr (0, [.ref (b 0), .ref (b 1), .ref (b 2), .ref (b 3), .ref (b 4), .ref (b 5), .int 0, .int 0, .int 0, .int 0, .int 0, .int 0, .int 0])), ((b 0), .inr (1, [.int 0, .int 0, .ref (b 10), .ref (b 11), .ref (b 12), .ref (b 13), .ref (b 14), .ref (b 15), .ref (b 16), .ref (b 17), .ref (b 18)]))] s.heap := hP
  have hl := lv_entry ([.ref x, .int p0, .int p1, .ref o]) (n := 5) (Nat.le_of_ble_eq_true rfl)
  rw [lg_entry_eq]
  generalize (lg_sl ([.ref x, .int p0, .int p1, .ref o]) ++ List.replicate (5 - (lg_sl ([.ref x, .int p0, .int p1, .ref o])).length) Slot.unset).toArray = ls at hl ⊢
  have hl : lv_has ls 5 [(0, .ref x), (1, .int p0), (2, .int p1), (3, .ref o)] := hl
  refine lv_aload_n hx hb dLA_joined_0 rfl (lv_at hl 3 rfl) ?_
  refine lv_iconst (v := 0) hx hb dLA_joined_1 (by decide) ?_
  refine lv_aload_n hx hb dLA_joined_2 rfl (lv_at hl 0 rfl) ?_
  refine lv_iload_n hx hb dLA_joined_3 rfl (lv_at hl 1 rfl) ?_
  refine lv_iload_n hx hb dLA_joined_4 rfl (lv_at hl 2 rfl) ?_
  have hPc : va_P (dC, dI) zCl [(x, .inr (0, [.ref (b 0), .ref (b 1), .ref (b 2), .ref (b 3), .ref (b 4), .ref (b 5), .int 0, .int 0, .int 0, .int 0, .int 0, .int 0, .int 0])), ((b 0), .inr (1, [.int 0, .int 0, .ref (b 10), .ref (b 11), .ref (b 12), .ref (b 13), .ref (b 14), .ref (b 15), .ref (b 16), .ref (b 17), .ref (b 18)]))] s.heap := hP.sub [0, 1] rfl
  have hDc : va_D (zN s0.heap.size) [(x, .inr (0, [.ref (b 0), .ref (b 1), .ref (b 2), .ref (b 3), .ref (b 4), .ref (b 5), .int 0, .int 0, .int 0, .int 0, .int 0, .int 0, .int 0])), ((b 0), .inr (1, [.int 0, .int 0, .ref (b 10), .ref (b 11), .ref (b 12), .ref (b 13), .ref (b 14), .ref (b 15), .ref (b 16), .ref (b 17), .ref (b 18)]))] := hD.sub [0, 1] (by decide) rfl
  refine tq_catch (hp := 20) (tq_runV (As := [.int p0, .int p1]) (rest := [.int 0, .ref o]) ⟨hx, hb, hml, hown, zno⟩ (zt_joined l dC dI cI cZ cJ a0 s0 hfl x b s.heap.size p0 p1) (zcw 2 (hB.word (zm4 k4_107) rfl) (hB.word (zm1 k1_1) rfl) (hB.word (zm4 k4_104) rfl) (hB.word (zm4 k4_105) rfl) (hB.word (zm4 k4_106) rfl) rfl rfl (by decide +kernel) ⟨Nat.le_of_ble_eq_true rfl, Nat.le_of_ble_eq_true rfl⟩) ⟨zP_blind, va_recv hK hP (ci := 0) (q0 := 0) rfl rfl, zP_pre hPc hK hDc hAD (zB_on hB hA0 hS)⟩ rfl rfl hl.1 rfl (lv_room (Nat.le_of_ble_eq_true rfl)) dLA_joined_5 ⟨Nat.le_of_ble_eq_true rfl, Nat.le_of_ble_eq_true rfl⟩) hown htab (zsel1 (by decide) (by decide) (hB.word (zm2 k2_142) rfl) (zfit (args := #[]) (hB.word (zm2 k2_153) rfl))) hS (fun q h => hA q (Nat.le_trans hS.1 h)) (fun xq H1 locs hz1 hk1 hS => ?_)
  have hP := zKeep hP hk1
  generalize H1 = H at hP hS ⊢
  have hP : va_P (dC, dI) zCl [(x, .inr (0, [.ref (b 0), .ref (b 1), .ref (b 2), .ref (b 3), .ref (b 4), .ref (b 5), .int 0, .int 0, .int 0, .int 0, .int 0, .int 0, .int 0])), ((b 0), .inr (1, [.int 0, .int 0, .ref (b 10), .ref (b 11), .ref (b 12), .ref (b 13), .ref (b 14), .ref (b 15), .ref (b 16), .ref (b 17), .ref (b 18)]))] H := hP
  refine lv_astore (lv' := [(4, .ref xq), (0, .ref x), (1, .int p0), (2, .int p1), (3, .ref o)]) hx hb dLA_joined_20 hl (by decide) rfl (fun ls hl => ?_)
  refine lv_iconst (v := 1) hx hb dLA_joined_22 (by decide) ?_
  refine W.widen (k := 1) (n := 6) (Nat.le_of_ble_eq_true rfl) (Nat.le_of_ble_eq_true rfl) ?_
  exact W.iret (v := 1) hx hb hr (fun t ht hW => ⟨⟨1, (), rfl, rfl, trivial⟩, hS.F ht⟩) hS.2.2 dLA_joined_23
set_option maxHeartbeats 4000000 in
set_option maxRecDepth 100000 in
theorem zh_order (l : Launch) (dC : Nat → ClassId) (dI : Nat → Nat → Nat) (cI cZ cJ : ClassId) (a0 : Array Value) (s0 : State) (hfl : l.flags = Jvm.pinnedFlags ++ [Jvm.noTraceFlag]) (x : Nat) (b : Nat → Nat) (o sz : Nat) (p0 p1 p2 : Int32) : Met l yLA_order [Cond.codeWith yLA_order bLA_order 6 (some .int) [(0, 19, 22, 19), (0, 19, 26, 13)]] ({ frames := 9, cells := 1, slots := 6, locals := 157 } : Room) (zP zCl dC dI (zTY cI cZ cJ) a0 s0 [.ref x, .int p0, .int p1, .int p2, .ref o] sz [(x, .inr (0, [.ref (b 0), .ref (b 1), .ref (b 2), .ref (b 3), .ref (b 4), .ref (b 5), .int 0, .int 0, .int 0, .int 0, .int 0, .int 0, .int 0])), ((b 0), .inr (1, [.int 0, .int 0, .ref (b 10), .ref (b 11), .ref (b 12), .ref (b 13), .ref (b 14), .ref (b 15), .ref (b 16), .ref (b 17), .ref (b 18)]))]) (zQp (fun r => r = 1) sz) 1 6 (zN sz) := by
  refine tq_ofWith (cc := bLA_order) (maxL := 6) (ret := (some .int)) (hs := [(0, 19, 22, 19), (0, 19, 26, 13)]) (by decide) rfl ?_
  intro p e s m args below meth c s₁ B hml htab hv
  obtain ⟨rfl, hsz, hP, hK, hD0, hB⟩ := hv
  have hx := B.exec
  have hb := B.bytes
  have hr := B.returns
  have hown : s.vm.findClass "RingGuardLaw" = some m.cls := findClass_of_methodNamed B.named
  have hlocks := B.notSynchronized
  subst hsz
  have hD := hD0
  have hA0 : ∀ q, zN s.heap.size q → s0.heap.size ≤ q := zA1 hB
  have hAD : ∀ q, zN s0.heap.size q → s0.heap.size ≤ q := fun _ h => h
  have hA : ∀ q : Nat, s.heap.size ≤ q → zN s.heap.size q := fun _ h => h
  have hS : va_S (zN s.heap.size) s.heap s.heap [] := va_S.rf
  have hP : va_P (dC, dI) zCl [(x, .inr (0, [.ref (b 0), .ref (b 1), .ref (b 2), .ref (b 3), .ref (b 4), .ref (b 5), .int 0, .int 0, .int 0, .int 0, .int 0, .int 0, .int 0])), ((b 0), .inr (1, [.int 0, .int 0, .ref (b 10), .ref (b 11), .ref (b 12), .ref (b 13), .ref (b 14), .ref (b 15), .ref (b 16), .ref (b 17), .ref (b 18)]))] s.heap := hP
  have hl := lv_entry ([.ref x, .int p0, .int p1, .int p2, .ref o]) (n := 6) (Nat.le_of_ble_eq_true rfl)
  rw [lg_entry_eq]
  generalize (lg_sl ([.ref x, .int p0, .int p1, .int p2, .ref o]) ++ List.replicate (6 - (lg_sl ([.ref x, .int p0, .int p1, .int p2, .ref o])).length) Slot.unset).toArray = ls at hl ⊢
  have hl : lv_has ls 6 [(0, .ref x), (1, .int p0), (2, .int p1), (3, .int p2), (4, .ref o)] := hl
  refine lv_aload hx hb dLA_order_0 (lv_at hl 4 rfl) ?_
  refine lv_iconst (v := 0) hx hb dLA_order_2 (by decide) ?_
  refine lv_aload_n hx hb dLA_order_3 rfl (lv_at hl 0 rfl) ?_
  refine lv_iload_n hx hb dLA_order_4 rfl (lv_at hl 1 rfl) ?_
  refine lv_iload_n hx hb dLA_order_5 rfl (lv_at hl 2 rfl) ?_
  refine lv_iload_n hx hb dLA_order_6 rfl (lv_at hl 3 rfl) ?_
  have hPc : va_P (dC, dI) zCl [(x, .inr (0, [.ref (b 0), .ref (b 1), .ref (b 2), .ref (b 3), .ref (b 4), .ref (b 5), .int 0, .int 0, .int 0, .int 0, .int 0, .int 0, .int 0])), ((b 0), .inr (1, [.int 0, .int 0, .ref (b 10), .ref (b 11), .ref (b 12), .ref (b 13), .ref (b 14), .ref (b 15), .ref (b 16), .ref (b 17), .ref (b 18)]))] s.heap := hP.sub [0, 1] rfl
  have hDc : va_D (zN s0.heap.size) [(x, .inr (0, [.ref (b 0), .ref (b 1), .ref (b 2), .ref (b 3), .ref (b 4), .ref (b 5), .int 0, .int 0, .int 0, .int 0, .int 0, .int 0, .int 0])), ((b 0), .inr (1, [.int 0, .int 0, .ref (b 10), .ref (b 11), .ref (b 12), .ref (b 13), .ref (b 14), .ref (b 15), .ref (b 16), .ref (b 17), .ref (b 18)]))] := hD.sub [0, 1] (by decide) rfl
  refine tq_catch (hp := 22) (tq_runV (As := [.int p0, .int p1, .int p2]) (rest := [.int 0, .ref o]) ⟨hx, hb, hml, hown, zno⟩ (zt_order l dC dI cI cZ cJ a0 s0 hfl x b s.heap.size p0 p1 p2) (zcw 3 (hB.word (zm3 k3_123) rfl) (hB.word (zm1 k1_1) rfl) (hB.word (zm3 k3_120) rfl) (hB.word (zm3 k3_121) rfl) (hB.word (zm3 k3_122) rfl) rfl rfl (by decide +kernel) ⟨Nat.le_of_ble_eq_true rfl, Nat.le_of_ble_eq_true rfl⟩) ⟨zP_blind, va_recv hK hP (ci := 0) (q0 := 0) rfl rfl, zP_pre hPc hK hDc hAD (zB_on hB hA0 hS)⟩ rfl rfl hl.1 rfl (lv_room (Nat.le_of_ble_eq_true rfl)) dLA_order_7 ⟨Nat.le_of_ble_eq_true rfl, Nat.le_of_ble_eq_true rfl⟩) hown htab (zsel1 (by decide) (by decide) (hB.word (zm2 k2_142) rfl) (zfit (args := #[]) (hB.word (zm2 k2_153) rfl))) hS (fun q h => hA q (Nat.le_trans hS.1 h)) (fun xq H1 locs hz1 hk1 hS => ?_)
  have hP := zKeep hP hk1
  generalize H1 = H at hP hS ⊢
  have hP : va_P (dC, dI) zCl [(x, .inr (0, [.ref (b 0), .ref (b 1), .ref (b 2), .ref (b 3), .ref (b 4), .ref (b 5), .int 0, .int 0, .int 0, .int 0, .int 0, .int 0, .int 0])), ((b 0), .inr (1, [.int 0, .int 0, .ref (b 10), .ref (b 11), .ref (b 12), .ref (b 13), .ref (b 14), .ref (b 15), .ref (b 16), .ref (b 17), .ref (b 18)]))] H := hP
  refine lv_astore (lv' := [(5, .ref xq), (0, .ref x), (1, .int p0), (2, .int p1), (3, .int p2), (4, .ref o)]) hx hb dLA_order_22 hl (by decide) rfl (fun ls hl => ?_)
  refine lv_iconst (v := 1) hx hb dLA_order_24 (by decide) ?_
  refine W.widen (k := 1) (n := 6) (Nat.le_of_ble_eq_true rfl) (Nat.le_of_ble_eq_true rfl) ?_
  exact W.iret (v := 1) hx hb hr (fun t ht hW => ⟨⟨1, (), rfl, rfl, trivial⟩, hS.F ht⟩) hS.2.2 dLA_order_25
set_option maxHeartbeats 4000000 in
set_option maxRecDepth 100000 in
theorem zh_bridge (l : Launch) (dC : Nat → ClassId) (dI : Nat → Nat → Nat) (cI cZ cJ : ClassId) (a0 : Array Value) (s0 : State) (x : Nat) (b : Nat → Nat) (o sz : Nat) : Met l yLA_bridge [Cond.codeWith yLA_bridge bLA_bridge 3 (some .int) [(0, 8, 11, 13)]] ({ frames := 2, cells := 0, slots := 0, locals := 41 } : Room) (zP zCl dC dI (zTY cI cZ cJ) a0 s0 [.ref x, .ref o] sz [(x, .inr (0, [.ref (b 0), .ref (b 1), .ref (b 2), .ref (b 3), .ref (b 4), .ref (b 5), .int 0, .int 0, .int 0, .int 0, .int 0, .int 0, .int 0])), ((b 0), .inr (1, [.int 0, .int 0, .ref (b 10), .ref (b 11), .ref (b 12), .ref (b 13), .ref (b 14), .ref (b 15), .ref (b 16), .ref (b 17), .ref (b 18)])), (o, .inl (cJ, 1, .inr (.inl (fun _ => 0))))]) (zQi zCl dC dI (fun r => r = 0) [(x, .inr (0, [.ref (b 0), .ref (b 1), .ref (b 2), .ref (b 3), .ref (b 4), .ref (b 5), .int 0, .int 0, .int 0, .int 0, .int 0, .int 0, .int 0])), ((b 0), .inr (1, [.int 1, .int 0, .ref (b 10), .ref (b 11), .ref (b 12), .ref (b 13), .ref (b 14), .ref (b 15), .ref (b 16), .ref (b 17), .ref (b 18)])), (o, .inl (cJ, 1, .inr (.inl (vp_updL (fun _ => 0) (0 : Int32).toNatClampNeg 0))))] (va_A [(x, .inr (0, [.ref (b 0), .ref (b 1), .ref (b 2), .ref (b 3), .ref (b 4), .ref (b 5), .int 0, .int 0, .int 0, .int 0, .int 0, .int 0, .int 0])), ((b 0), .inr (1, [.int 0, .int 0, .ref (b 10), .ref (b 11), .ref (b 12), .ref (b 13), .ref (b 14), .ref (b 15), .ref (b 16), .ref (b 17), .ref (b 18)])), (o, .inl (cJ, 1, .inr (.inl (fun _ => 0))))] sz)) 0 0 (va_A [(x, .inr (0, [.ref (b 0), .ref (b 1), .ref (b 2), .ref (b 3), .ref (b 4), .ref (b 5), .int 0, .int 0, .int 0, .int 0, .int 0, .int 0, .int 0])), ((b 0), .inr (1, [.int 0, .int 0, .ref (b 10), .ref (b 11), .ref (b 12), .ref (b 13), .ref (b 14), .ref (b 15), .ref (b 16), .ref (b 17), .ref (b 18)])), (o, .inl (cJ, 1, .inr (.inl (fun _ => 0))))] sz) := by
  refine tq_ofWith (cc := bLA_bridge) (maxL := 3) (ret := (some .int)) (hs := [(0, 8, 11, 13)]) (by decide) rfl ?_
  intro p e s m args below meth c s₁ B hml htab hv
  obtain ⟨rfl, hsz, hP, hK, hD0, hB⟩ := hv
  have hx := B.exec
  have hb := B.bytes
  have hr := B.returns
  have hown : s.vm.findClass "RingGuardLaw" = some m.cls := findClass_of_methodNamed B.named
  have hlocks := B.notSynchronized
  subst hsz
  have hD := hD0.self (sz := s.heap.size)
  have hA0 := zA0 hD0 hB
  generalize hAe : va_A [(x, .inr (0, [.ref (b 0), .ref (b 1), .ref (b 2), .ref (b 3), .ref (b 4), .ref (b 5), .int 0, .int 0, .int 0, .int 0, .int 0, .int 0, .int 0])), ((b 0), .inr (1, [.int 0, .int 0, .ref (b 10), .ref (b 11), .ref (b 12), .ref (b 13), .ref (b 14), .ref (b 15), .ref (b 16), .ref (b 17), .ref (b 18)])), (o, .inl (cJ, 1, .inr (.inl (fun _ => 0))))] s.heap.size = A at hD hA0 ⊢
  have hAD := hA0
  have hA : ∀ q : Nat, s.heap.size ≤ q → A q := fun q h => by rw [← hAe]; exact Or.inr h
  have hS : va_S A s.heap s.heap [] := va_S.rf
  have hP : va_P (dC, dI) zCl [(x, .inr (0, [.ref (b 0), .ref (b 1), .ref (b 2), .ref (b 3), .ref (b 4), .ref (b 5), .int 0, .int 0, .int 0, .int 0, .int 0, .int 0, .int 0])), ((b 0), .inr (1, [.int 0, .int 0, .ref (b 10), .ref (b 11), .ref (b 12), .ref (b 13), .ref (b 14), .ref (b 15), .ref (b 16), .ref (b 17), .ref (b 18)])), (o, .inl (cJ, 1, .inr (.inl (fun _ => 0))))] s.heap := hP
  have hl := lv_entry ([.ref x, .ref o]) (n := 3) (Nat.le_of_ble_eq_true rfl)
  rw [lg_entry_eq]
  generalize (lg_sl ([.ref x, .ref o]) ++ List.replicate (3 - (lg_sl ([.ref x, .ref o])).length) Slot.unset).toArray = ls at hl ⊢
  have hl : lv_has ls 3 [(0, .ref x), (1, .ref o)] := hl
  refine lv_aload_n hx hb dLA_bridge_0 rfl (lv_at hl 1 rfl) ?_
  refine lv_iconst (v := 0) hx hb dLA_bridge_1 (by decide) ?_
  refine lv_aload_n hx hb dLA_bridge_2 rfl (lv_at hl 0 rfl) ?_
  have hPc : va_P (dC, dI) zCl [(x, .inr (0, [.ref (b 0), .ref (b 1), .ref (b 2), .ref (b 3), .ref (b 4), .ref (b 5), .int 0, .int 0, .int 0, .int 0, .int 0, .int 0, .int 0])), ((b 0), .inr (1, [.int 0, .int 0, .ref (b 10), .ref (b 11), .ref (b 12), .ref (b 13), .ref (b 14), .ref (b 15), .ref (b 16), .ref (b 17), .ref (b 18)]))] s.heap := hP.sub [0, 1] rfl
  have hDc : va_D A [(x, .inr (0, [.ref (b 0), .ref (b 1), .ref (b 2), .ref (b 3), .ref (b 4), .ref (b 5), .int 0, .int 0, .int 0, .int 0, .int 0, .int 0, .int 0])), ((b 0), .inr (1, [.int 0, .int 0, .ref (b 10), .ref (b 11), .ref (b 12), .ref (b 13), .ref (b 14), .ref (b 15), .ref (b 16), .ref (b 17), .ref (b 18)]))] := hD.sub [0, 1] (by decide) rfl
  refine zcalli (wr := [(o, .inl (cJ, 1, .inr (.inl (fun _ => 0))))]) (va_runV (As := []) (rest := [.int 0, .ref o]) ⟨hx, hb, hml, hown, zno⟩ (zi_bridge l dC dI cI cZ cJ a0 s0 x b s.heap.size) (zcw 0 (hB.word (zm2 k2_66) rfl) (hB.word (zm1 k1_1) rfl) (hB.word (zm2 k2_63) rfl) (hB.word (zm2 k2_64) rfl) (hB.word (zm2 k2_65) rfl) rfl rfl (by decide +kernel) ⟨Nat.le_of_ble_eq_true rfl, Nat.le_of_ble_eq_true rfl⟩) ⟨zP_blind, va_recv hK hP (ci := 0) (q0 := 0) rfl rfl, zP_pre hPc hK hDc hAD (zB_on hB hA0 hS)⟩ rfl rfl hl.1 rfl (lv_room (Nat.le_of_ble_eq_true rfl)) dLA_bridge_3 ⟨Nat.le_of_ble_eq_true rfl, Nat.le_of_ble_eq_true rfl⟩) hP hD hS hA [0, 1] [2] rfl rfl (by decide) (by decide) (fun r1 H1 locs hr1 hP hD hS => ?_)
  generalize H1 = H at hP hS ⊢
  have hP : va_P (dC, dI) zCl [(o, .inl (cJ, 1, .inr (.inl (fun _ => 0)))), (x, .inr (0, [.ref (b 0), .ref (b 1), .ref (b 2), .ref (b 3), .ref (b 4), .ref (b 5), .int 0, .int 0, .int 0, .int 0, .int 0, .int 0, .int 0])), ((b 0), .inr (1, [.int 1, .int 0, .ref (b 10), .ref (b 11), .ref (b 12), .ref (b 13), .ref (b 14), .ref (b 15), .ref (b 16), .ref (b 17), .ref (b 18)]))] H := hP
  have hD : va_D A [(o, .inl (cJ, 1, .inr (.inl (fun _ => 0)))), (x, .inr (0, [.ref (b 0), .ref (b 1), .ref (b 2), .ref (b 3), .ref (b 4), .ref (b 5), .int 0, .int 0, .int 0, .int 0, .int 0, .int 0, .int 0])), ((b 0), .inr (1, [.int 1, .int 0, .ref (b 10), .ref (b 11), .ref (b 12), .ref (b 13), .ref (b 14), .ref (b 15), .ref (b 16), .ref (b 17), .ref (b 18)]))] := hD
  subst hr1
  refine lv_i2l (v := 0) hx hb dLA_bridge_6 (by decide) ?_
  refine va_last hx hb hK hP hD hS 0 2 rfl rfl (i := 0) (by unfold vp_in; decide) dLA_bridge_7 (fun H locs hP hD hS => ?_)
  have hP : va_P (dC, dI) zCl [(o, .inl (cJ, 1, .inr (.inl (vp_updL (fun _ => 0) (0 : Int32).toNatClampNeg 0)))), (x, .inr (0, [.ref (b 0), .ref (b 1), .ref (b 2), .ref (b 3), .ref (b 4), .ref (b 5), .int 0, .int 0, .int 0, .int 0, .int 0, .int 0, .int 0])), ((b 0), .inr (1, [.int 1, .int 0, .ref (b 10), .ref (b 11), .ref (b 12), .ref (b 13), .ref (b 14), .ref (b 15), .ref (b 16), .ref (b 17), .ref (b 18)]))] H := hP
  have hD : va_D A [(o, .inl (cJ, 1, .inr (.inl (vp_updL (fun _ => 0) (0 : Int32).toNatClampNeg 0)))), (x, .inr (0, [.ref (b 0), .ref (b 1), .ref (b 2), .ref (b 3), .ref (b 4), .ref (b 5), .int 0, .int 0, .int 0, .int 0, .int 0, .int 0, .int 0])), ((b 0), .inr (1, [.int 1, .int 0, .ref (b 10), .ref (b 11), .ref (b 12), .ref (b 13), .ref (b 14), .ref (b 15), .ref (b 16), .ref (b 17), .ref (b 18)]))] := hD
  refine lv_goto (tgt := 14) hx hb dLA_bridge_8 (by decide) ?_
  refine lv_iconst (v := 0) hx hb dLA_bridge_14 (by decide) ?_
  refine W.widen (k := 0) (n := 0) (Nat.le_of_ble_eq_true rfl) (Nat.le_of_ble_eq_true rfl) ?_
  have hP9 : va_P (dC, dI) zCl [(x, .inr (0, [.ref (b 0), .ref (b 1), .ref (b 2), .ref (b 3), .ref (b 4), .ref (b 5), .int 0, .int 0, .int 0, .int 0, .int 0, .int 0, .int 0])), ((b 0), .inr (1, [.int 1, .int 0, .ref (b 10), .ref (b 11), .ref (b 12), .ref (b 13), .ref (b 14), .ref (b 15), .ref (b 16), .ref (b 17), .ref (b 18)])), (o, .inl (cJ, 1, .inr (.inl (vp_updL (fun _ => 0) (0 : Int32).toNatClampNeg 0))))] H := hP.sub [1, 2, 0] rfl
  have hD9 : va_D A [(x, .inr (0, [.ref (b 0), .ref (b 1), .ref (b 2), .ref (b 3), .ref (b 4), .ref (b 5), .int 0, .int 0, .int 0, .int 0, .int 0, .int 0, .int 0])), ((b 0), .inr (1, [.int 1, .int 0, .ref (b 10), .ref (b 11), .ref (b 12), .ref (b 13), .ref (b 14), .ref (b 15), .ref (b 16), .ref (b 17), .ref (b 18)])), (o, .inl (cJ, 1, .inr (.inl (vp_updL (fun _ => 0) (0 : Int32).toNatClampNeg 0))))] := hD.sub [1, 2, 0] (by decide) rfl
  exact W.iret (v := 0) hx hb hr (fun t ht hW => ⟨⟨0, (), rfl, rfl, by rw [ht]; exact hP9, hD9⟩, hS.F ht⟩) hS.2.2 dLA_bridge_15
set_option maxHeartbeats 4000000 in
set_option maxRecDepth 100000 in
theorem zh_start (l : Launch) (dC : Nat → ClassId) (dI : Nat → Nat → Nat) (cI cZ cJ : ClassId) (a0 : Array Value) (s0 : State) (x : Nat) (b : Nat → Nat) (o sz : Nat) : Met l yLA_start [Cond.codeWith yLA_start bLA_start 3 (some .int) [(0, 8, 11, 13)]] ({ frames := 2, cells := 0, slots := 0, locals := 44 } : Room) (zP zCl dC dI (zTY cI cZ cJ) a0 s0 [.ref x, .ref o] sz [(x, .inr (0, [.ref (b 0), .ref (b 1), .ref (b 2), .ref (b 3), .ref (b 4), .ref (b 5), .int 0, .int 0, .int 0, .int 0, .int 0, .int 0, .int 0])), ((b 0), .inr (1, [.int 0, .int 0, .ref (b 10), .ref (b 11), .ref (b 12), .ref (b 13), .ref (b 14), .ref (b 15), .ref (b 16), .ref (b 17), .ref (b 18)])), (o, .inl (cJ, 1, .inr (.inl (fun _ => 0))))]) (zQi zCl dC dI (fun r => r = 0) [(x, .inr (0, [.ref (b 0), .ref (b 1), .ref (b 2), .ref (b 3), .ref (b 4), .ref (b 5), .int 0, .int 0, .int 0, .int 0, .int 0, .int 0, .int 0])), ((b 0), .inr (1, [.int 0, .int 0, .ref (b 10), .ref (b 11), .ref (b 12), .ref (b 13), .ref (b 14), .ref (b 15), .ref (b 16), .ref (b 17), .ref (b 18)])), (o, .inl (cJ, 1, .inr (.inl (vp_updL (fun _ => 0) (0 : Int32).toNatClampNeg 7))))] (va_A [(x, .inr (0, [.ref (b 0), .ref (b 1), .ref (b 2), .ref (b 3), .ref (b 4), .ref (b 5), .int 0, .int 0, .int 0, .int 0, .int 0, .int 0, .int 0])), ((b 0), .inr (1, [.int 0, .int 0, .ref (b 10), .ref (b 11), .ref (b 12), .ref (b 13), .ref (b 14), .ref (b 15), .ref (b 16), .ref (b 17), .ref (b 18)])), (o, .inl (cJ, 1, .inr (.inl (fun _ => 0))))] sz)) 0 0 (va_A [(x, .inr (0, [.ref (b 0), .ref (b 1), .ref (b 2), .ref (b 3), .ref (b 4), .ref (b 5), .int 0, .int 0, .int 0, .int 0, .int 0, .int 0, .int 0])), ((b 0), .inr (1, [.int 0, .int 0, .ref (b 10), .ref (b 11), .ref (b 12), .ref (b 13), .ref (b 14), .ref (b 15), .ref (b 16), .ref (b 17), .ref (b 18)])), (o, .inl (cJ, 1, .inr (.inl (fun _ => 0))))] sz) := by
  refine tq_ofWith (cc := bLA_start) (maxL := 3) (ret := (some .int)) (hs := [(0, 8, 11, 13)]) (by decide) rfl ?_
  intro p e s m args below meth c s₁ B hml htab hv
  obtain ⟨rfl, hsz, hP, hK, hD0, hB⟩ := hv
  have hx := B.exec
  have hb := B.bytes
  have hr := B.returns
  have hown : s.vm.findClass "RingGuardLaw" = some m.cls := findClass_of_methodNamed B.named
  have hlocks := B.notSynchronized
  subst hsz
  have hD := hD0.self (sz := s.heap.size)
  have hA0 := zA0 hD0 hB
  generalize hAe : va_A [(x, .inr (0, [.ref (b 0), .ref (b 1), .ref (b 2), .ref (b 3), .ref (b 4), .ref (b 5), .int 0, .int 0, .int 0, .int 0, .int 0, .int 0, .int 0])), ((b 0), .inr (1, [.int 0, .int 0, .ref (b 10), .ref (b 11), .ref (b 12), .ref (b 13), .ref (b 14), .ref (b 15), .ref (b 16), .ref (b 17), .ref (b 18)])), (o, .inl (cJ, 1, .inr (.inl (fun _ => 0))))] s.heap.size = A at hD hA0 ⊢
  have hAD := hA0
  have hA : ∀ q : Nat, s.heap.size ≤ q → A q := fun q h => by rw [← hAe]; exact Or.inr h
  have hS : va_S A s.heap s.heap [] := va_S.rf
  have hP : va_P (dC, dI) zCl [(x, .inr (0, [.ref (b 0), .ref (b 1), .ref (b 2), .ref (b 3), .ref (b 4), .ref (b 5), .int 0, .int 0, .int 0, .int 0, .int 0, .int 0, .int 0])), ((b 0), .inr (1, [.int 0, .int 0, .ref (b 10), .ref (b 11), .ref (b 12), .ref (b 13), .ref (b 14), .ref (b 15), .ref (b 16), .ref (b 17), .ref (b 18)])), (o, .inl (cJ, 1, .inr (.inl (fun _ => 0))))] s.heap := hP
  have hl := lv_entry ([.ref x, .ref o]) (n := 3) (Nat.le_of_ble_eq_true rfl)
  rw [lg_entry_eq]
  generalize (lg_sl ([.ref x, .ref o]) ++ List.replicate (3 - (lg_sl ([.ref x, .ref o])).length) Slot.unset).toArray = ls at hl ⊢
  have hl : lv_has ls 3 [(0, .ref x), (1, .ref o)] := hl
  refine lv_aload_n hx hb dLA_start_0 rfl (lv_at hl 1 rfl) ?_
  refine lv_iconst (v := 0) hx hb dLA_start_1 (by decide) ?_
  refine lv_aload_n hx hb dLA_start_2 rfl (lv_at hl 0 rfl) ?_
  have hPc : va_P (dC, dI) zCl [(x, .inr (0, [.ref (b 0), .ref (b 1), .ref (b 2), .ref (b 3), .ref (b 4), .ref (b 5), .int 0, .int 0, .int 0, .int 0, .int 0, .int 0, .int 0])), ((b 0), .inr (1, [.int 0, .int 0, .ref (b 10), .ref (b 11), .ref (b 12), .ref (b 13), .ref (b 14), .ref (b 15), .ref (b 16), .ref (b 17), .ref (b 18)]))] s.heap := hP.sub [0, 1] rfl
  have hDc : va_D A [(x, .inr (0, [.ref (b 0), .ref (b 1), .ref (b 2), .ref (b 3), .ref (b 4), .ref (b 5), .int 0, .int 0, .int 0, .int 0, .int 0, .int 0, .int 0])), ((b 0), .inr (1, [.int 0, .int 0, .ref (b 10), .ref (b 11), .ref (b 12), .ref (b 13), .ref (b 14), .ref (b 15), .ref (b 16), .ref (b 17), .ref (b 18)]))] := hD.sub [0, 1] (by decide) rfl
  refine zcallp (va_runV (As := []) (rest := [.int 0, .ref o]) ⟨hx, hb, hml, hown, zno⟩ (zp_start l dC dI cI cZ cJ a0 s0 x b s.heap.size) (zcw 0 (hB.word (zm2 k2_196) rfl) (hB.word (zm1 k1_1) rfl) (hB.word (zm2 k2_193) rfl) (hB.word (zm2 k2_194) rfl) (hB.word (zm2 k2_195) rfl) rfl rfl (by decide +kernel) ⟨Nat.le_of_ble_eq_true rfl, Nat.le_of_ble_eq_true rfl⟩) ⟨zP_blind, va_recv hK hP (ci := 0) (q0 := 0) rfl rfl, zP_pre hPc hK hDc hAD (zB_on hB hA0 hS)⟩ rfl rfl hl.1 rfl (lv_room (Nat.le_of_ble_eq_true rfl)) dLA_start_3 ⟨Nat.le_of_ble_eq_true rfl, Nat.le_of_ble_eq_true rfl⟩) hS hA (fun r1 H1 locs hr1 hz1 hk1 hS => ?_)
  have hP := zKeep hP hk1
  generalize H1 = H at hP hS ⊢
  have hP : va_P (dC, dI) zCl [(x, .inr (0, [.ref (b 0), .ref (b 1), .ref (b 2), .ref (b 3), .ref (b 4), .ref (b 5), .int 0, .int 0, .int 0, .int 0, .int 0, .int 0, .int 0])), ((b 0), .inr (1, [.int 0, .int 0, .ref (b 10), .ref (b 11), .ref (b 12), .ref (b 13), .ref (b 14), .ref (b 15), .ref (b 16), .ref (b 17), .ref (b 18)])), (o, .inl (cJ, 1, .inr (.inl (fun _ => 0))))] H := hP
  subst hr1
  refine lv_i2l (v := 7) hx hb dLA_start_6 (by decide) ?_
  refine va_last hx hb hK hP hD hS 2 2 rfl rfl (i := 0) (by unfold vp_in; decide) dLA_start_7 (fun H locs hP hD hS => ?_)
  have hP : va_P (dC, dI) zCl [(x, .inr (0, [.ref (b 0), .ref (b 1), .ref (b 2), .ref (b 3), .ref (b 4), .ref (b 5), .int 0, .int 0, .int 0, .int 0, .int 0, .int 0, .int 0])), ((b 0), .inr (1, [.int 0, .int 0, .ref (b 10), .ref (b 11), .ref (b 12), .ref (b 13), .ref (b 14), .ref (b 15), .ref (b 16), .ref (b 17), .ref (b 18)])), (o, .inl (cJ, 1, .inr (.inl (vp_updL (fun _ => 0) (0 : Int32).toNatClampNeg 7))))] H := hP
  have hD : va_D A [(x, .inr (0, [.ref (b 0), .ref (b 1), .ref (b 2), .ref (b 3), .ref (b 4), .ref (b 5), .int 0, .int 0, .int 0, .int 0, .int 0, .int 0, .int 0])), ((b 0), .inr (1, [.int 0, .int 0, .ref (b 10), .ref (b 11), .ref (b 12), .ref (b 13), .ref (b 14), .ref (b 15), .ref (b 16), .ref (b 17), .ref (b 18)])), (o, .inl (cJ, 1, .inr (.inl (vp_updL (fun _ => 0) (0 : Int32).toNatClampNeg 7))))] := hD
  refine lv_goto (tgt := 14) hx hb dLA_start_8 (by decide) ?_
  refine lv_iconst (v := 0) hx hb dLA_start_14 (by decide) ?_
  refine W.widen (k := 0) (n := 0) (Nat.le_of_ble_eq_true rfl) (Nat.le_of_ble_eq_true rfl) ?_
  have hP9 : va_P (dC, dI) zCl [(x, .inr (0, [.ref (b 0), .ref (b 1), .ref (b 2), .ref (b 3), .ref (b 4), .ref (b 5), .int 0, .int 0, .int 0, .int 0, .int 0, .int 0, .int 0])), ((b 0), .inr (1, [.int 0, .int 0, .ref (b 10), .ref (b 11), .ref (b 12), .ref (b 13), .ref (b 14), .ref (b 15), .ref (b 16), .ref (b 17), .ref (b 18)])), (o, .inl (cJ, 1, .inr (.inl (vp_updL (fun _ => 0) (0 : Int32).toNatClampNeg 7))))] H := hP.sub [0, 1, 2] rfl
  have hD9 : va_D A [(x, .inr (0, [.ref (b 0), .ref (b 1), .ref (b 2), .ref (b 3), .ref (b 4), .ref (b 5), .int 0, .int 0, .int 0, .int 0, .int 0, .int 0, .int 0])), ((b 0), .inr (1, [.int 0, .int 0, .ref (b 10), .ref (b 11), .ref (b 12), .ref (b 13), .ref (b 14), .ref (b 15), .ref (b 16), .ref (b 17), .ref (b 18)])), (o, .inl (cJ, 1, .inr (.inl (vp_updL (fun _ => 0) (0 : Int32).toNatClampNeg 7))))] := hD.sub [0, 1, 2] (by decide) rfl
  exact W.iret (v := 0) hx hb hr (fun t ht hW => ⟨⟨0, (), rfl, rfl, by rw [ht]; exact hP9, hD9⟩, hS.F ht⟩) hS.2.2 dLA_start_15
