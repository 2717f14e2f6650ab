set_option maxHeartbeats 4000000 in
set_option maxRecDepth 100000 in
theorem zt_link (l : Launch) (dC : Nat → ClassId) (dI : Nat → Nat → Nat) (cI cZ cJ : ClassId) (a0 : Array Value) (s0 : State) (hfl : l.flags = Jvm.pinnedFlags ++ [Jvm.noTraceFlag]) (x : Nat) (b : Nat → Nat) (sz : Nat) (p0 p1 p2 : Int32) : tq_Met l yRG_link [Cond.code yRG_link bRG_link 4 (some .int)] ({ frames := 7, cells := 1, slots := 6, locals := 111 } : Room) (zP zCl dC dI (zTY cI cZ cJ) a0 s0 [.ref x, .int p0, .int p1, .int p2] sz [(x, .inr (0, [.ref (b 0), .ref (b 1), .ref (b 2), .ref (b 3), .ref (b 4), .ref (b 5), .int 0, .int 0, .int 0, .int 0, .int 0, .int 0, .int 0])), ((b 0), .inr (1, [.int 0, .int 0, .ref (b 10), .ref (b 11), .ref (b 12), .ref (b 13), .ref (b 14), .ref (b 15), .ref (b 16), .ref (b 17), .ref (b 18)]))]) (tq_Q "java/lang/IllegalArgumentException") 1 6 (zN sz) := by
  refine tq_ofW (cc := bRG_link) (maxL := 4) (ret := (some .int)) (by decide) rfl ?_
  intro p e s m args below meth c s₁ B hml htab hv
  obtain ⟨rfl, hsz, hP, hK, hD0, hB⟩ := hv
  have hx := B.exec
  have hb := B.bytes
  have hr := B.returns
  have hown : s.vm.findClass "RingGuard" = some m.cls := findClass_of_methodNamed B.named
  have hlocks := B.notSynchronized
  subst hsz
  have hD := hD0
  have hA0 : ∀ q, zN s.heap.size q → s0.heap.size ≤ q := zA1 hB
  have hAD : ∀ q, zN s0.heap.size q → s0.heap.size ≤ q := fun _ h => h
  have hA : ∀ q : Nat, s.heap.size ≤ q → zN s.heap.size q := fun _ h => h
  have hS : va_S (zN s.heap.size) s.heap s.heap [] := va_S.rf
  have hP : va_P (dC, dI) zCl [(x, .inr (0, [.ref (b 0), .ref (b 1), .ref (b 2), .ref (b 3), .ref (b 4), .ref (b 5), .int 0, .int 0, .int 0, .int 0, .int 0, .int 0, .int 0])), ((b 0), .inr (1, [.int 0, .int 0, .ref (b 10), .ref (b 11), .ref (b 12), .ref (b 13), .ref (b 14), .ref (b 15), .ref (b 16), .ref (b 17), .ref (b 18)]))] s.heap := hP
  have hl := lv_entry ([.ref x, .int p0, .int p1, .int p2]) (n := 4) (Nat.le_of_ble_eq_true rfl)
  rw [lg_entry_eq]
  generalize (lg_sl ([.ref x, .int p0, .int p1, .int p2]) ++ List.replicate (4 - (lg_sl ([.ref x, .int p0, .int p1, .int p2])).length) Slot.unset).toArray = ls at hl ⊢
  have hl : lv_has ls 4 [(0, .ref x), (1, .int p0), (2, .int p1), (3, .int p2)] := hl
  refine lv_aload_n hx hb dRG_link_0 rfl (lv_at hl 0 rfl) ?_
  refine lv_iload_n hx hb dRG_link_1 rfl (lv_at hl 1 rfl) ?_
  have hPc : va_P (dC, dI) zCl [(x, .inr (0, [.ref (b 0), .ref (b 1), .ref (b 2), .ref (b 3), .ref (b 4), .ref (b 5), .int 0, .int 0, .int 0, .int 0, .int 0, .int 0, .int 0])), ((b 0), .inr (1, [.int 0, .int 0, .ref (b 10), .ref (b 11), .ref (b 12), .ref (b 13), .ref (b 14), .ref (b 15), .ref (b 16), .ref (b 17), .ref (b 18)]))] s.heap := hP.sub [0, 1] rfl
  have hDc : va_D (zN s0.heap.size) [(x, .inr (0, [.ref (b 0), .ref (b 1), .ref (b 2), .ref (b 3), .ref (b 4), .ref (b 5), .int 0, .int 0, .int 0, .int 0, .int 0, .int 0, .int 0])), ((b 0), .inr (1, [.int 0, .int 0, .ref (b 10), .ref (b 11), .ref (b 12), .ref (b 13), .ref (b 14), .ref (b 15), .ref (b 16), .ref (b 17), .ref (b 18)]))] := hD.sub [0, 1] (by decide) rfl
  exact zpass (tq_runV (As := [.int p0]) (rest := []) ⟨hx, hb, hml, hown, zno⟩ (zt_requireBridge l dC dI cI cZ cJ a0 s0 hfl x b s.heap.size p0) (zcw 1 (hB.word (zm2 k2_150) rfl) (hB.word (zm1 k1_1) rfl) (hB.word (zm2 k2_147) rfl) (hB.word (zm2 k2_149) rfl) (k2_selects_private (by decide) (hB.word (zm1 k1_18) rfl) (hB.word (zm2 k2_148) rfl) (hB.word (zm2 k2_149) rfl)) rfl rfl (by decide +kernel) ⟨Nat.le_of_ble_eq_true rfl, Nat.le_of_ble_eq_true rfl⟩) ⟨zP_blind, va_recv hK hP (ci := 0) (q0 := 0) rfl rfl, zP_pre hPc hK hDc hAD (zB_on hB hA0 hS)⟩ rfl rfl hl.1 rfl (lv_room (Nat.le_of_ble_eq_true rfl)) dRG_link_2 ⟨Nat.le_of_ble_eq_true rfl, Nat.le_of_ble_eq_true rfl⟩) htab hlocks hS (Nat.le_of_ble_eq_true rfl) (Nat.le_of_ble_eq_true rfl)
set_option maxHeartbeats 4000000 in
set_option maxRecDepth 100000 in
theorem zt_owner (l : Launch) (dC : Nat → ClassId) (dI : Nat → Nat → Nat) (cI cZ cJ : ClassId) (a0 : Array Value) (s0 : State) (hfl : l.flags = Jvm.pinnedFlags ++ [Jvm.noTraceFlag]) (x : Nat) (b : Nat → Nat) (sz : Nat) (p0 p1 p2 : Int32) : tq_Met l yRG_owner [Cond.code yRG_owner bRG_owner 4 none] ({ frames := 7, cells := 1, slots := 6, locals := 111 } : Room) (zP zCl dC dI (zTY cI cZ cJ) a0 s0 [.ref x, .int p0, .int p1, .int p2] sz [(x, .inr (0, [.ref (b 0), .ref (b 1), .ref (b 2), .ref (b 3), .ref (b 4), .ref (b 5), .int 0, .int 0, .int 0, .int 0, .int 0, .int 0, .int 0])), ((b 0), .inr (1, [.int 0, .int 0, .ref (b 10), .ref (b 11), .ref (b 12), .ref (b 13), .ref (b 14), .ref (b 15), .ref (b 16), .ref (b 17), .ref (b 18)]))]) (tq_Q "java/lang/IllegalArgumentException") 1 6 (zN sz) := by
  refine tq_ofW (cc := bRG_owner) (maxL := 4) (ret := none) (by decide) rfl ?_
  intro p e s m args below meth c s₁ B hml htab hv
  obtain ⟨rfl, hsz, hP, hK, hD0, hB⟩ := hv
  have hx := B.exec
  have hb := B.bytes
  have hr := B.returns
  have hown : s.vm.findClass "RingGuard" = some m.cls := findClass_of_methodNamed B.named
  have hlocks := B.notSynchronized
  subst hsz
  have hD := hD0
  have hA0 : ∀ q, zN s.heap.size q → s0.heap.size ≤ q := zA1 hB
  have hAD : ∀ q, zN s0.heap.size q → s0.heap.size ≤ q := fun _ h => h
  have hA : ∀ q : Nat, s.heap.size ≤ q → zN s.heap.size q := fun _ h => h
  have hS : va_S (zN s.heap.size) s.heap s.heap [] := va_S.rf
  have hP : va_P (dC, dI) zCl [(x, .inr (0, [.ref (b 0), .ref (b 1), .ref (b 2), .ref (b 3), .ref (b 4), .ref (b 5), .int 0, .int 0, .int 0, .int 0, .int 0, .int 0, .int 0])), ((b 0), .inr (1, [.int 0, .int 0, .ref (b 10), .ref (b 11), .ref (b 12), .ref (b 13), .ref (b 14), .ref (b 15), .ref (b 16), .ref (b 17), .ref (b 18)]))] s.heap := hP
  have hl := lv_entry ([.ref x, .int p0, .int p1, .int p2]) (n := 4) (Nat.le_of_ble_eq_true rfl)
  rw [lg_entry_eq]
  generalize (lg_sl ([.ref x, .int p0, .int p1, .int p2]) ++ List.replicate (4 - (lg_sl ([.ref x, .int p0, .int p1, .int p2])).length) Slot.unset).toArray = ls at hl ⊢
  have hl : lv_has ls 4 [(0, .ref x), (1, .int p0), (2, .int p1), (3, .int p2)] := hl
  refine lv_aload_n hx hb dRG_owner_0 rfl (lv_at hl 0 rfl) ?_
  refine lv_iload_n hx hb dRG_owner_1 rfl (lv_at hl 1 rfl) ?_
  by_cases hy1 : ¬ p0 < 0 → ¬ p0 < 6
  · have hPc : va_P (dC, dI) zCl [(x, .inr (0, [.ref (b 0), .ref (b 1), .ref (b 2), .ref (b 3), .ref (b 4), .ref (b 5), .int 0, .int 0, .int 0, .int 0, .int 0, .int 0, .int 0]))] s.heap := hP.sub [0] rfl
    have hDc : va_D (zN s0.heap.size) [(x, .inr (0, [.ref (b 0), .ref (b 1), .ref (b 2), .ref (b 3), .ref (b 4), .ref (b 5), .int 0, .int 0, .int 0, .int 0, .int 0, .int 0, .int 0]))] := hD.sub [0] (by decide) rfl
    exact zpass (tq_runV (As := [.int p0]) (rest := []) ⟨hx, hb, hml, hown, zno⟩ (zt_requireRing l dC dI cI cZ cJ a0 s0 hfl x b s.heap.size p0 hy1) (zcw 1 (hB.word (zm2 k2_170) rfl) (hB.word (zm1 k1_1) rfl) (hB.word (zm2 k2_167) rfl) (hB.word (zm2 k2_169) rfl) (k2_selects_private (by decide) (hB.word (zm1 k1_18) rfl) (hB.word (zm2 k2_168) rfl) (hB.word (zm2 k2_169) rfl)) rfl rfl (by decide +kernel) ⟨Nat.le_of_ble_eq_true rfl, Nat.le_of_ble_eq_true rfl⟩) ⟨zP_blind, va_recv hK hP (ci := 0) (q0 := 0) rfl rfl, zP_pre hPc hK hDc hAD (zB_on hB hA0 hS)⟩ rfl rfl hl.1 rfl (lv_room (Nat.le_of_ble_eq_true rfl)) dRG_owner_2 ⟨Nat.le_of_ble_eq_true rfl, Nat.le_of_ble_eq_true rfl⟩) htab hlocks hS (Nat.le_of_ble_eq_true rfl) (Nat.le_of_ble_eq_true rfl)
  · have hy1a := (Classical.not_imp.mp hy1).1
    have hy1b := Classical.not_not.mp (Classical.not_imp.mp hy1).2
    have hPc : va_P (dC, dI) zCl [(x, .inr (0, [.ref (b 0), .ref (b 1), .ref (b 2), .ref (b 3), .ref (b 4), .ref (b 5), .int 0, .int 0, .int 0, .int 0, .int 0, .int 0, .int 0]))] s.heap := hP.sub [0] rfl
    have hDc : va_D (zN s0.heap.size) [(x, .inr (0, [.ref (b 0), .ref (b 1), .ref (b 2), .ref (b 3), .ref (b 4), .ref (b 5), .int 0, .int 0, .int 0, .int 0, .int 0, .int 0, .int 0]))] := hD.sub [0] (by decide) rfl
    refine zcallo (va_runV (As := [.int p0]) (rest := []) ⟨hx, hb, hml, hown, zno⟩ (zo_requireRing l dC dI cI cZ cJ a0 s0 x b s.heap.size p0 hy1a hy1b) (zcw 1 (hB.word (zm2 k2_170) rfl) (hB.word (zm1 k1_1) rfl) (hB.word (zm2 k2_167) rfl) (hB.word (zm2 k2_169) rfl) (k2_selects_private (by decide) (hB.word (zm1 k1_18) rfl) (hB.word (zm2 k2_168) rfl) (hB.word (zm2 k2_169) rfl)) rfl rfl (by decide +kernel) ⟨Nat.le_of_ble_eq_true rfl, Nat.le_of_ble_eq_true rfl⟩) ⟨zP_blind, va_recv hK hP (ci := 0) (q0 := 0) rfl rfl, zP_pre hPc hK hDc hAD (zB_on hB hA0 hS)⟩ rfl rfl hl.1 rfl (lv_room (Nat.le_of_ble_eq_true rfl)) dRG_owner_2 ⟨Nat.le_of_ble_eq_true rfl, Nat.le_of_ble_eq_true rfl⟩) hS hA (fun H1 locs hz1 hk1 hS => ?_)
    have hP := zKeep hP hk1
    generalize H1 = H at hP hS ⊢
    have hP : va_P (dC, dI) zCl [(x, .inr (0, [.ref (b 0), .ref (b 1), .ref (b 2), .ref (b 3), .ref (b 4), .ref (b 5), .int 0, .int 0, .int 0, .int 0, .int 0, .int 0, .int 0])), ((b 0), .inr (1, [.int 0, .int 0, .ref (b 10), .ref (b 11), .ref (b 12), .ref (b 13), .ref (b 14), .ref (b 15), .ref (b 16), .ref (b 17), .ref (b 18)]))] H := hP
    refine lv_aload_n hx hb dRG_owner_5 rfl (lv_at hl 0 rfl) ?_
    refine lv_iload_n hx hb dRG_owner_6 rfl (lv_at hl 2 rfl) ?_
    have hPc : va_P (dC, dI) zCl [(x, .inr (0, [.ref (b 0), .ref (b 1), .ref (b 2), .ref (b 3), .ref (b 4), .ref (b 5), .int 0, .int 0, .int 0, .int 0, .int 0, .int 0, .int 0])), ((b 0), .inr (1, [.int 0, .int 0, .ref (b 10), .ref (b 11), .ref (b 12), .ref (b 13), .ref (b 14), .ref (b 15), .ref (b 16), .ref (b 17), .ref (b 18)]))] H := hP.sub [0, 1] rfl
    have hDc : va_D (zN s0.heap.size) [(x, .inr (0, [.ref (b 0), .ref (b 1), .ref (b 2), .ref (b 3), .ref (b 4), .ref (b 5), .int 0, .int 0, .int 0, .int 0, .int 0, .int 0, .int 0])), ((b 0), .inr (1, [.int 0, .int 0, .ref (b 10), .ref (b 11), .ref (b 12), .ref (b 13), .ref (b 14), .ref (b 15), .ref (b 16), .ref (b 17), .ref (b 18)]))] := hD.sub [0, 1] (by decide) rfl
    exact zpass (tq_runV (As := [.int p1]) (rest := []) ⟨hx, hb, hml, hown, zno⟩ (zt_requireBridge l dC dI cI cZ cJ a0 s0 hfl x b H.size p1) (zcw 1 (hB.word (zm2 k2_150) rfl) (hB.word (zm1 k1_1) rfl) (hB.word (zm2 k2_147) rfl) (hB.word (zm2 k2_149) rfl) (k2_selects_private (by decide) (hB.word (zm1 k1_18) rfl) (hB.word (zm2 k2_148) rfl) (hB.word (zm2 k2_149) rfl)) rfl rfl (by decide +kernel) ⟨Nat.le_of_ble_eq_true rfl, Nat.le_of_ble_eq_true rfl⟩) ⟨zP_blind, va_recv hK hP (ci := 0) (q0 := 0) rfl rfl, zP_pre hPc hK hDc hAD (zB_on hB hA0 hS)⟩ rfl rfl hl.1 rfl (lv_room (Nat.le_of_ble_eq_true rfl)) dRG_owner_7 ⟨Nat.le_of_ble_eq_true rfl, Nat.le_of_ble_eq_true rfl⟩) htab hlocks hS (Nat.le_of_ble_eq_true rfl) (Nat.le_of_ble_eq_true rfl)
set_option maxHeartbeats 4000000 in
set_option maxRecDepth 100000 in
theorem zt_fail (l : Launch) (dC : Nat → ClassId) (dI : Nat → Nat → Nat) (cI cZ cJ : ClassId) (a0 : Array Value) (s0 : State) (hfl : l.flags = Jvm.pinnedFlags ++ [Jvm.noTraceFlag]) (x : Nat) (b : Nat → Nat) (sz : Nat) (p0 : Int32) : tq_Met l yRG_fail [Cond.code yRG_fail bRG_fail 3 (some .boolean)] ({ frames := 7, cells := 1, slots := 6, locals := 111 } : Room) (zP zCl dC dI (zTY cI cZ cJ) a0 s0 [.ref x, .int p0] sz [(x, .inr (0, [.ref (b 0), .ref (b 1), .ref (b 2), .ref (b 3), .ref (b 4), .ref (b 5), .int 0, .int 0, .int 0, .int 0, .int 0, .int 0, .int 0])), ((b 0), .inr (1, [.int 0, .int 0, .ref (b 10), .ref (b 11), .ref (b 12), .ref (b 13), .ref (b 14), .ref (b 15), .ref (b 16), .ref (b 17), .ref (b 18)]))]) (tq_Q "java/lang/IllegalArgumentException") 1 6 (zN sz) := by
  refine tq_ofW (cc := bRG_fail) (maxL := 3) (ret := (some .boolean)) (by decide) rfl ?_
  intro p e s m args below meth c s₁ B hml htab hv
  obtain ⟨rfl, hsz, hP, hK, hD0, hB⟩ := hv
  have hx := B.exec
  have hb := B.bytes
  have hr := B.returns
  have hown : s.vm.findClass "RingGuard" = some m.cls := findClass_of_methodNamed B.named
  have hlocks := B.notSynchronized
  subst hsz
  have hD := hD0
  have hA0 : ∀ q, zN s.heap.size q → s0.heap.size ≤ q := zA1 hB
  have hAD : ∀ q, zN s0.heap.size q → s0.heap.size ≤ q := fun _ h => h
  have hA : ∀ q : Nat, s.heap.size ≤ q → zN s.heap.size q := fun _ h => h
  have hS : va_S (zN s.heap.size) s.heap s.heap [] := va_S.rf
  have hP : va_P (dC, dI) zCl [(x, .inr (0, [.ref (b 0), .ref (b 1), .ref (b 2), .ref (b 3), .ref (b 4), .ref (b 5), .int 0, .int 0, .int 0, .int 0, .int 0, .int 0, .int 0])), ((b 0), .inr (1, [.int 0, .int 0, .ref (b 10), .ref (b 11), .ref (b 12), .ref (b 13), .ref (b 14), .ref (b 15), .ref (b 16), .ref (b 17), .ref (b 18)]))] s.heap := hP
  have hl := lv_entry ([.ref x, .int p0]) (n := 3) (Nat.le_of_ble_eq_true rfl)
  rw [lg_entry_eq]
  generalize (lg_sl ([.ref x, .int p0]) ++ List.replicate (3 - (lg_sl ([.ref x, .int p0])).length) Slot.unset).toArray = ls at hl ⊢
  have hl : lv_has ls 3 [(0, .ref x), (1, .int p0)] := hl
  refine lv_aload_n hx hb dRG_fail_0 rfl (lv_at hl 0 rfl) ?_
  refine lv_iload_n hx hb dRG_fail_1 rfl (lv_at hl 1 rfl) ?_
  have hPc : va_P (dC, dI) zCl [(x, .inr (0, [.ref (b 0), .ref (b 1), .ref (b 2), .ref (b 3), .ref (b 4), .ref (b 5), .int 0, .int 0, .int 0, .int 0, .int 0, .int 0, .int 0])), ((b 0), .inr (1, [.int 0, .int 0, .ref (b 10), .ref (b 11), .ref (b 12), .ref (b 13), .ref (b 14), .ref (b 15), .ref (b 16), .ref (b 17), .ref (b 18)]))] s.heap := hP.sub [0, 1] rfl
  have hDc : va_D (zN s0.heap.size) [(x, .inr (0, [.ref (b 0), .ref (b 1), .ref (b 2), .ref (b 3), .ref (b 4), .ref (b 5), .int 0, .int 0, .int 0, .int 0, .int 0, .int 0, .int 0])), ((b 0), .inr (1, [.int 0, .int 0, .ref (b 10), .ref (b 11), .ref (b 12), .ref (b 13), .ref (b 14), .ref (b 15), .ref (b 16), .ref (b 17), .ref (b 18)]))] := hD.sub [0, 1] (by decide) rfl
  exact zpass (tq_runV (As := [.int p0]) (rest := []) ⟨hx, hb, hml, hown, zno⟩ (zt_requireLink l dC dI cI cZ cJ a0 s0 hfl x b s.heap.size p0) (zcw 1 (hB.word (zm2 k2_188) rfl) (hB.word (zm1 k1_1) rfl) (hB.word (zm2 k2_185) rfl) (hB.word (zm2 k2_187) rfl) (k2_selects_private (by decide) (hB.word (zm1 k1_18) rfl) (hB.word (zm2 k2_186) rfl) (hB.word (zm2 k2_187) rfl)) rfl rfl (by decide +kernel) ⟨Nat.le_of_ble_eq_true rfl, Nat.le_of_ble_eq_true rfl⟩) ⟨zP_blind, va_recv hK hP (ci := 0) (q0 := 0) rfl rfl, zP_pre hPc hK hDc hAD (zB_on hB hA0 hS)⟩ rfl rfl hl.1 rfl (lv_room (Nat.le_of_ble_eq_true rfl)) dRG_fail_2 ⟨Nat.le_of_ble_eq_true rfl, Nat.le_of_ble_eq_true rfl⟩) htab hlocks hS (Nat.le_of_ble_eq_true rfl) (Nat.le_of_ble_eq_true rfl)
set_option maxHeartbeats 4000000 in
set_option maxRecDepth 100000 in
theorem zt_heal (l : Launch) (dC : Nat → ClassId) (dI : Nat → Nat → Nat) (cI cZ cJ : ClassId) (a0 : Array Value) (s0 : State) (hfl : l.flags = Jvm.pinnedFlags ++ [Jvm.noTraceFlag]) (x : Nat) (b : Nat → Nat) (sz : Nat) (p0 : Int32) : tq_Met l yRG_heal [Cond.code yRG_heal bRG_heal 3 (some .boolean)] ({ frames := 7, cells := 1, slots := 6, locals := 111 } : Room) (zP zCl dC dI (zTY cI cZ cJ) a0 s0 [.ref x, .int p0] sz [(x, .inr (0, [.ref (b 0), .ref (b 1), .ref (b 2), .ref (b 3), .ref (b 4), .ref (b 5), .int 0, .int 0, .int 0, .int 0, .int 0, .int 0, .int 0])), ((b 0), .inr (1, [.int 0, .int 0, .ref (b 10), .ref (b 11), .ref (b 12), .ref (b 13), .ref (b 14), .ref (b 15), .ref (b 16), .ref (b 17), .ref (b 18)]))]) (tq_Q "java/lang/IllegalArgumentException") 1 6 (zN sz) := by
  refine tq_ofW (cc := bRG_heal) (maxL := 3) (ret := (some .boolean)) (by decide) rfl ?_
  intro p e s m args below meth c s₁ B hml htab hv
  obtain ⟨rfl, hsz, hP, hK, hD0, hB⟩ := hv
  have hx := B.exec
  have hb := B.bytes
  have hr := B.returns
  have hown : s.vm.findClass "RingGuard" = some m.cls := findClass_of_methodNamed B.named
  have hlocks := B.notSynchronized
  subst hsz
  have hD := hD0
  have hA0 : ∀ q, zN s.heap.size q → s0.heap.size ≤ q := zA1 hB
  have hAD : ∀ q, zN s0.heap.size q → s0.heap.size ≤ q := fun _ h => h
  have hA : ∀ q : Nat, s.heap.size ≤ q → zN s.heap.size q := fun _ h => h
  have hS : va_S (zN s.heap.size) s.heap s.heap [] := va_S.rf
  have hP : va_P (dC, dI) zCl [(x, .inr (0, [.ref (b 0), .ref (b 1), .ref (b 2), .ref (b 3), .ref (b 4), .ref (b 5), .int 0, .int 0, .int 0, .int 0, .int 0, .int 0, .int 0])), ((b 0), .inr (1, [.int 0, .int 0, .ref (b 10), .ref (b 11), .ref (b 12), .ref (b 13), .ref (b 14), .ref (b 15), .ref (b 16), .ref (b 17), .ref (b 18)]))] s.heap := hP
  have hl := lv_entry ([.ref x, .int p0]) (n := 3) (Nat.le_of_ble_eq_true rfl)
  rw [lg_entry_eq]
  generalize (lg_sl ([.ref x, .int p0]) ++ List.replicate (3 - (lg_sl ([.ref x, .int p0])).length) Slot.unset).toArray = ls at hl ⊢
  have hl : lv_has ls 3 [(0, .ref x), (1, .int p0)] := hl
  refine lv_aload_n hx hb dRG_heal_0 rfl (lv_at hl 0 rfl) ?_
  refine lv_iload_n hx hb dRG_heal_1 rfl (lv_at hl 1 rfl) ?_
  have hPc : va_P (dC, dI) zCl [(x, .inr (0, [.ref (b 0), .ref (b 1), .ref (b 2), .ref (b 3), .ref (b 4), .ref (b 5), .int 0, .int 0, .int 0, .int 0, .int 0, .int 0, .int 0])), ((b 0), .inr (1, [.int 0, .int 0, .ref (b 10), .ref (b 11), .ref (b 12), .ref (b 13), .ref (b 14), .ref (b 15), .ref (b 16), .ref (b 17), .ref (b 18)]))] s.heap := hP.sub [0, 1] rfl
  have hDc : va_D (zN s0.heap.size) [(x, .inr (0, [.ref (b 0), .ref (b 1), .ref (b 2), .ref (b 3), .ref (b 4), .ref (b 5), .int 0, .int 0, .int 0, .int 0, .int 0, .int 0, .int 0])), ((b 0), .inr (1, [.int 0, .int 0, .ref (b 10), .ref (b 11), .ref (b 12), .ref (b 13), .ref (b 14), .ref (b 15), .ref (b 16), .ref (b 17), .ref (b 18)]))] := hD.sub [0, 1] (by decide) rfl
  exact zpass (tq_runV (As := [.int p0]) (rest := []) ⟨hx, hb, hml, hown, zno⟩ (zt_requireLink l dC dI cI cZ cJ a0 s0 hfl x b s.heap.size p0) (zcw 1 (hB.word (zm2 k2_188) rfl) (hB.word (zm1 k1_1) rfl) (hB.word (zm2 k2_185) rfl) (hB.word (zm2 k2_187) rfl) (k2_selects_private (by decide) (hB.word (zm1 k1_18) rfl) (hB.word (zm2 k2_186) rfl) (hB.word (zm2 k2_187) rfl)) rfl rfl (by decide +kernel) ⟨Nat.le_of_ble_eq_true rfl, Nat.le_of_ble_eq_true rfl⟩) ⟨zP_blind, va_recv hK hP (ci := 0) (q0 := 0) rfl rfl, zP_pre hPc hK hDc hAD (zB_on hB hA0 hS)⟩ rfl rfl hl.1 rfl (lv_room (Nat.le_of_ble_eq_true rfl)) dRG_heal_2 ⟨Nat.le_of_ble_eq_true rfl, Nat.le_of_ble_eq_true rfl⟩) htab hlocks hS (Nat.le_of_ble_eq_true rfl) (Nat.le_of_ble_eq_true rfl)
set_option maxHeartbeats 4000000 in
set_option maxRecDepth 100000 in
theorem zt_lose (l : Launch) (dC : Nat → ClassId) (dI : Nat → Nat → Nat) (cI cZ cJ : ClassId) (a0 : Array Value) (s0 : State) (hfl : l.flags = Jvm.pinnedFlags ++ [Jvm.noTraceFlag]) (x : Nat) (b : Nat → Nat) (sz : Nat) (p0 p1 : Int32) : tq_Met l yRG_lose [Cond.code yRG_lose bRG_lose 4 (some .int)] ({ frames := 7, cells := 1, slots := 6, locals := 111 } : Room) (zP zCl dC dI (zTY cI cZ cJ) a0 s0 [.ref x, .int p0, .int p1] sz [(x, .inr (0, [.ref (b 0), .ref (b 1), .ref (b 2), .ref (b 3), .ref (b 4), .ref (b 5), .int 0, .int 0, .int 0, .int 0, .int 0, .int 0, .int 0])), ((b 0), .inr (1, [.int 0, .int 0, .ref (b 10), .ref (b 11), .ref (b 12), .ref (b 13), .ref (b 14), .ref (b 15), .ref (b 16), .ref (b 17), .ref (b 18)]))]) (tq_Q "java/lang/IllegalArgumentException") 1 6 (zN sz) := by
  refine tq_ofW (cc := bRG_lose) (maxL := 4) (ret := (some .int)) (by decide) rfl ?_
  intro p e s m args below meth c s₁ B hml htab hv
  obtain ⟨rfl, hsz, hP, hK, hD0, hB⟩ := hv
  have hx := B.exec
  have hb := B.bytes
  have hr := B.returns
  have hown : s.vm.findClass "RingGuard" = some m.cls := findClass_of_methodNamed B.named
  have hlocks := B.notSynchronized
  subst hsz
  have hD := hD0
  have hA0 : ∀ q, zN s.heap.size q → s0.heap.size ≤ q := zA1 hB
  have hAD : ∀ q, zN s0.heap.size q → s0.heap.size ≤ q := fun _ h => h
  have hA : ∀ q : Nat, s.heap.size ≤ q → zN s.heap.size q := fun _ h => h
  have hS : va_S (zN s.heap.size) s.heap s.heap [] := va_S.rf
  have hP : va_P (dC, dI) zCl [(x, .inr (0, [.ref (b 0), .ref (b 1), .ref (b 2), .ref (b 3), .ref (b 4), .ref (b 5), .int 0, .int 0, .int 0, .int 0, .int 0, .int 0, .int 0])), ((b 0), .inr (1, [.int 0, .int 0, .ref (b 10), .ref (b 11), .ref (b 12), .ref (b 13), .ref (b 14), .ref (b 15), .ref (b 16), .ref (b 17), .ref (b 18)]))] s.heap := hP
  have hl := lv_entry ([.ref x, .int p0, .int p1]) (n := 4) (Nat.le_of_ble_eq_true rfl)
  rw [lg_entry_eq]
  generalize (lg_sl ([.ref x, .int p0, .int p1]) ++ List.replicate (4 - (lg_sl ([.ref x, .int p0, .int p1])).length) Slot.unset).toArray = ls at hl ⊢
  have hl : lv_has ls 4 [(0, .ref x), (1, .int p0), (2, .int p1)] := hl
  refine lv_aload_n hx hb dRG_lose_0 rfl (lv_at hl 0 rfl) ?_
  refine lv_iload_n hx hb dRG_lose_1 rfl (lv_at hl 1 rfl) ?_
  have hPc : va_P (dC, dI) zCl [(x, .inr (0, [.ref (b 0), .ref (b 1), .ref (b 2), .ref (b 3), .ref (b 4), .ref (b 5), .int 0, .int 0, .int 0, .int 0, .int 0, .int 0, .int 0])), ((b 0), .inr (1, [.int 0, .int 0, .ref (b 10), .ref (b 11), .ref (b 12), .ref (b 13), .ref (b 14), .ref (b 15), .ref (b 16), .ref (b 17), .ref (b 18)]))] s.heap := hP.sub [0, 1] rfl
  have hDc : va_D (zN s0.heap.size) [(x, .inr (0, [.ref (b 0), .ref (b 1), .ref (b 2), .ref (b 3), .ref (b 4), .ref (b 5), .int 0, .int 0, .int 0, .int 0, .int 0, .int 0, .int 0])), ((b 0), .inr (1, [.int 0, .int 0, .ref (b 10), .ref (b 11), .ref (b 12), .ref (b 13), .ref (b 14), .ref (b 15), .ref (b 16), .ref (b 17), .ref (b 18)]))] := hD.sub [0, 1] (by decide) rfl
  exact zpass (tq_runV (As := [.int p0]) (rest := []) ⟨hx, hb, hml, hown, zno⟩ (zt_requireLink l dC dI cI cZ cJ a0 s0 hfl x b s.heap.size p0) (zcw 1 (hB.word (zm2 k2_188) rfl) (hB.word (zm1 k1_1) rfl) (hB.word (zm2 k2_185) rfl) (hB.word (zm2 k2_187) rfl) (k2_selects_private (by decide) (hB.word (zm1 k1_18) rfl) (hB.word (zm2 k2_186) rfl) (hB.word (zm2 k2_187) rfl)) rfl rfl (by decide +kernel) ⟨Nat.le_of_ble_eq_true rfl, Nat.le_of_ble_eq_true rfl⟩) ⟨zP_blind, va_recv hK hP (ci := 0) (q0 := 0) rfl rfl, zP_pre hPc hK hDc hAD (zB_on hB hA0 hS)⟩ rfl rfl hl.1 rfl (lv_room (Nat.le_of_ble_eq_true rfl)) dRG_lose_2 ⟨Nat.le_of_ble_eq_true rfl, Nat.le_of_ble_eq_true rfl⟩) htab hlocks hS (Nat.le_of_ble_eq_true rfl) (Nat.le_of_ble_eq_true rfl)
set_option maxHeartbeats 4000000 in
set_option maxRecDepth 100000 in
theorem zt_order (l : Launch) (dC : Nat → ClassId) (dI : Nat → Nat → Nat) (cI cZ cJ : ClassId) (a0 : Array Value) (s0 : State) (hfl : l.flags = Jvm.pinnedFlags ++ [Jvm.noTraceFlag]) (x : Nat) (b : Nat → Nat) (sz : Nat) (p0 p1 p2 : Int32) : tq_Met l yRG_order [Cond.code yRG_order bRG_order 5 (some .boolean)] ({ frames := 8, cells := 1, slots := 6, locals := 133 } : Room) (zP zCl dC dI (zTY cI cZ cJ) a0 s0 [.ref x, .int p0, .int p1, .int p2] sz [(x, .inr (0, [.ref (b 0), .ref (b 1), .ref (b 2), .ref (b 3), .ref (b 4), .ref (b 5), .int 0, .int 0, .int 0, .int 0, .int 0, .int 0, .int 0])), ((b 0), .inr (1, [.int 0, .int 0, .ref (b 10), .ref (b 11), .ref (b 12), .ref (b 13), .ref (b 14), .ref (b 15), .ref (b 16), .ref (b 17), .ref (b 18)]))]) (tq_Q "java/lang/IllegalArgumentException") 1 6 (zN sz) := by
  refine tq_ofW (cc := bRG_order) (maxL := 5) (ret := (some .boolean)) (by decide) rfl ?_
  intro p e s m args below meth c s₁ B hml htab hv
  obtain ⟨rfl, hsz, hP, hK, hD0, hB⟩ := hv
  have hx := B.exec
  have hb := B.bytes
  have hr := B.returns
  have hown : s.vm.findClass "RingGuard" = some m.cls := findClass_of_methodNamed B.named
  have hlocks := B.notSynchronized
  subst hsz
  have hD := hD0
  have hA0 : ∀ q, zN s.heap.size q → s0.heap.size ≤ q := zA1 hB
  have hAD : ∀ q, zN s0.heap.size q → s0.heap.size ≤ q := fun _ h => h
  have hA : ∀ q : Nat, s.heap.size ≤ q → zN s.heap.size q := fun _ h => h
  have hS : va_S (zN s.heap.size) s.heap s.heap [] := va_S.rf
  have hP : va_P (dC, dI) zCl [(x, .inr (0, [.ref (b 0), .ref (b 1), .ref (b 2), .ref (b 3), .ref (b 4), .ref (b 5), .int 0, .int 0, .int 0, .int 0, .int 0, .int 0, .int 0])), ((b 0), .inr (1, [.int 0, .int 0, .ref (b 10), .ref (b 11), .ref (b 12), .ref (b 13), .ref (b 14), .ref (b 15), .ref (b 16), .ref (b 17), .ref (b 18)]))] s.heap := hP
  have hl := lv_entry ([.ref x, .int p0, .int p1, .int p2]) (n := 5) (Nat.le_of_ble_eq_true rfl)
  rw [lg_entry_eq]
  generalize (lg_sl ([.ref x, .int p0, .int p1, .int p2]) ++ List.replicate (5 - (lg_sl ([.ref x, .int p0, .int p1, .int p2])).length) Slot.unset).toArray = ls at hl ⊢
  have hl : lv_has ls 5 [(0, .ref x), (1, .int p0), (2, .int p1), (3, .int p2)] := hl
  refine lv_aload_n hx hb dRG_order_0 rfl (lv_at hl 0 rfl) ?_
  refine lv_iload_n hx hb dRG_order_1 rfl (lv_at hl 1 rfl) ?_
  refine lv_iload_n hx hb dRG_order_2 rfl (lv_at hl 2 rfl) ?_
  have hPc : va_P (dC, dI) zCl [(x, .inr (0, [.ref (b 0), .ref (b 1), .ref (b 2), .ref (b 3), .ref (b 4), .ref (b 5), .int 0, .int 0, .int 0, .int 0, .int 0, .int 0, .int 0])), ((b 0), .inr (1, [.int 0, .int 0, .ref (b 10), .ref (b 11), .ref (b 12), .ref (b 13), .ref (b 14), .ref (b 15), .ref (b 16), .ref (b 17), .ref (b 18)]))] s.heap := hP.sub [0, 1] rfl
  have hDc : va_D (zN s0.heap.size) [(x, .inr (0, [.ref (b 0), .ref (b 1), .ref (b 2), .ref (b 3), .ref (b 4), .ref (b 5), .int 0, .int 0, .int 0, .int 0, .int 0, .int 0, .int 0])), ((b 0), .inr (1, [.int 0, .int 0, .ref (b 10), .ref (b 11), .ref (b 12), .ref (b 13), .ref (b 14), .ref (b 15), .ref (b 16), .ref (b 17), .ref (b 18)]))] := hD.sub [0, 1] (by decide) rfl
  exact zpass (tq_runV (As := [.int p0, .int p1]) (rest := []) ⟨hx, hb, hml, hown, zno⟩ (zt_requirePort l dC dI cI cZ cJ a0 s0 hfl x b s.heap.size p0 p1) (zcw 2 (hB.word (zm3 k3_127) rfl) (hB.word (zm1 k1_1) rfl) (hB.word (zm3 k3_124) rfl) (hB.word (zm3 k3_126) rfl) (k2_selects_private (by decide) (hB.word (zm1 k1_18) rfl) (hB.word (zm3 k3_125) rfl) (hB.word (zm3 k3_126) rfl)) rfl rfl (by decide +kernel) ⟨Nat.le_of_ble_eq_true rfl, Nat.le_of_ble_eq_true rfl⟩) ⟨zP_blind, va_recv hK hP (ci := 0) (q0 := 0) rfl rfl, zP_pre hPc hK hDc hAD (zB_on hB hA0 hS)⟩ rfl rfl hl.1 rfl (lv_room (Nat.le_of_ble_eq_true rfl)) dRG_order_3 ⟨Nat.le_of_ble_eq_true rfl, Nat.le_of_ble_eq_true rfl⟩) htab hlocks hS (Nat.le_of_ble_eq_true rfl) (Nat.le_of_ble_eq_true rfl)
set_option maxHeartbeats 4000000 in
set_option maxRecDepth 100000 in
theorem zt_clear (l : Launch) (dC : Nat → ClassId) (dI : Nat → Nat → Nat) (cI cZ cJ : ClassId) (a0 : Array Value) (s0 : State) (hfl : l.flags = Jvm.pinnedFlags ++ [Jvm.noTraceFlag]) (x : Nat) (b : Nat → Nat) (sz : Nat) (p0 p1 : Int32) : tq_Met l yRG_clear [Cond.code yRG_clear bRG_clear 4 (some .boolean)] ({ frames := 7, cells := 1, slots := 6, locals := 111 } : Room) (zP zCl dC dI (zTY cI cZ cJ) a0 s0 [.ref x, .int p0, .int p1] sz [(x, .inr (0, [.ref (b 0), .ref (b 1), .ref (b 2), .ref (b 3), .ref (b 4), .ref (b 5), .int 0, .int 0, .int 0, .int 0, .int 0, .int 0, .int 0])), ((b 0), .inr (1, [.int 0, .int 0, .ref (b 10), .ref (b 11), .ref (b 12), .ref (b 13), .ref (b 14), .ref (b 15), .ref (b 16), .ref (b 17), .ref (b 18)]))]) (tq_Q "java/lang/IllegalArgumentException") 1 6 (zN sz) := by
  refine tq_ofW (cc := bRG_clear) (maxL := 4) (ret := (some .boolean)) (by decide) rfl ?_
  intro p e s m args below meth c s₁ B hml htab hv
  obtain ⟨rfl, hsz, hP, hK, hD0, hB⟩ := hv
  have hx := B.exec
  have hb := B.bytes
  have hr := B.returns
  have hown : s.vm.findClass "RingGuard" = some m.cls := findClass_of_methodNamed B.named
  have hlocks := B.notSynchronized
  subst hsz
  have hD := hD0
  have hA0 : ∀ q, zN s.heap.size q → s0.heap.size ≤ q := zA1 hB
  have hAD : ∀ q, zN s0.heap.size q → s0.heap.size ≤ q := fun _ h => h
  have hA : ∀ q : Nat, s.heap.size ≤ q → zN s.heap.size q := fun _ h => h
  have hS : va_S (zN s.heap.size) s.heap s.heap [] := va_S.rf
  have hP : va_P (dC, dI) zCl [(x, .inr (0, [.ref (b 0), .ref (b 1), .ref (b 2), .ref (b 3), .ref (b 4), .ref (b 5), .int 0, .int 0, .int 0, .int 0, .int 0, .int 0, .int 0])), ((b 0), .inr (1, [.int 0, .int 0, .ref (b 10), .ref (b 11), .ref (b 12), .ref (b 13), .ref (b 14), .ref (b 15), .ref (b 16), .ref (b 17), .ref (b 18)]))] s.heap := hP
  have hl := lv_entry ([.ref x, .int p0, .int p1]) (n := 4) (Nat.le_of_ble_eq_true rfl)
  rw [lg_entry_eq]
  generalize (lg_sl ([.ref x, .int p0, .int p1]) ++ List.replicate (4 - (lg_sl ([.ref x, .int p0, .int p1])).length) Slot.unset).toArray = ls at hl ⊢
  have hl : lv_has ls 4 [(0, .ref x), (1, .int p0), (2, .int p1)] := hl
  refine lv_aload_n hx hb dRG_clear_0 rfl (lv_at hl 0 rfl) ?_
  refine lv_iload_n hx hb dRG_clear_1 rfl (lv_at hl 1 rfl) ?_
  have hPc : va_P (dC, dI) zCl [(x, .inr (0, [.ref (b 0), .ref (b 1), .ref (b 2), .ref (b 3), .ref (b 4), .ref (b 5), .int 0, .int 0, .int 0, .int 0, .int 0, .int 0, .int 0])), ((b 0), .inr (1, [.int 0, .int 0, .ref (b 10), .ref (b 11), .ref (b 12), .ref (b 13), .ref (b 14), .ref (b 15), .ref (b 16), .ref (b 17), .ref (b 18)]))] s.heap := hP.sub [0, 1] rfl
  have hDc : va_D (zN s0.heap.size) [(x, .inr (0, [.ref (b 0), .ref (b 1), .ref (b 2), .ref (b 3), .ref (b 4), .ref (b 5), .int 0, .int 0, .int 0, .int 0, .int 0, .int 0, .int 0])), ((b 0), .inr (1, [.int 0, .int 0, .ref (b 10), .ref (b 11), .ref (b 12), .ref (b 13), .ref (b 14), .ref (b 15), .ref (b 16), .ref (b 17), .ref (b 18)]))] := hD.sub [0, 1] (by decide) rfl
  exact zpass (tq_runV (As := [.int p0]) (rest := []) ⟨hx, hb, hml, hown, zno⟩ (zt_requireBridge l dC dI cI cZ cJ a0 s0 hfl x b s.heap.size p0) (zcw 1 (hB.word (zm2 k2_150) rfl) (hB.word (zm1 k1_1) rfl) (hB.word (zm2 k2_147) rfl) (hB.word (zm2 k2_149) rfl) (k2_selects_private (by decide) (hB.word (zm1 k1_18) rfl) (hB.word (zm2 k2_148) rfl) (hB.word (zm2 k2_149) rfl)) rfl rfl (by decide +kernel) ⟨Nat.le_of_ble_eq_true rfl, Nat.le_of_ble_eq_true rfl⟩) ⟨zP_blind, va_recv hK hP (ci := 0) (q0 := 0) rfl rfl, zP_pre hPc hK hDc hAD (zB_on hB hA0 hS)⟩ rfl rfl hl.1 rfl (lv_room (Nat.le_of_ble_eq_true rfl)) dRG_clear_2 ⟨Nat.le_of_ble_eq_true rfl, Nat.le_of_ble_eq_true rfl⟩) htab hlocks hS (Nat.le_of_ble_eq_true rfl) (Nat.le_of_ble_eq_true rfl)
set_option maxHeartbeats 4000000 in
set_option maxRecDepth 100000 in
theorem zt_ticks1 (l : Launch) (dC : Nat → ClassId) (dI : Nat → Nat → Nat) (cI cZ cJ : ClassId) (a0 : Array Value) (s0 : State) (hfl : l.flags = Jvm.pinnedFlags ++ [Jvm.noTraceFlag]) (x : Nat) (b : Nat → Nat) (sz : Nat) (p0 : Int32) (hv : ¬ p0 < 1 → ¬ p0 ≤ 200) : tq_Met l yRG_ticks [Cond.code yRG_ticks bRG_ticks 4 (some .int)] ({ frames := 6, cells := 1, slots := 6, locals := 90 } : Room) (zP zCl dC dI (zTY cI cZ cJ) a0 s0 [.ref x, .int p0] sz [(x, .inr (0, [.ref (b 0), .ref (b 1), .ref (b 2), .ref (b 3), .ref (b 4), .ref (b 5), .int 0, .int 0, .int 0, .int 0, .int 0, .int 0, .int 0]))]) (tq_Q "java/lang/IllegalArgumentException") 1 6 (zN sz) := by
  refine tq_ofW (cc := bRG_ticks) (maxL := 4) (ret := (some .int)) (by decide) rfl ?_
  intro p e s m args below meth c s₁ B hml htab hv
  obtain ⟨rfl, hsz, hP, hK, hD0, hB⟩ := hv
  have hx := B.exec
  have hb := B.bytes
  have hr := B.returns
  have hown : s.vm.findClass "RingGuard" = some m.cls := findClass_of_methodNamed B.named
  have hlocks := B.notSynchronized
  subst hsz
  have hD := hD0
  have hA0 : ∀ q, zN s.heap.size q → s0.heap.size ≤ q := zA1 hB
  have hAD : ∀ q, zN s0.heap.size q → s0.heap.size ≤ q := fun _ h => h
  have hA : ∀ q : Nat, s.heap.size ≤ q → zN s.heap.size q := fun _ h => h
  have hS : va_S (zN s.heap.size) s.heap s.heap [] := va_S.rf
  have hP : va_P (dC, dI) zCl [(x, .inr (0, [.ref (b 0), .ref (b 1), .ref (b 2), .ref (b 3), .ref (b 4), .ref (b 5), .int 0, .int 0, .int 0, .int 0, .int 0, .int 0, .int 0]))] s.heap := hP
  have hl := lv_entry ([.ref x, .int p0]) (n := 4) (Nat.le_of_ble_eq_true rfl)
  rw [lg_entry_eq]
  generalize (lg_sl ([.ref x, .int p0]) ++ List.replicate (4 - (lg_sl ([.ref x, .int p0])).length) Slot.unset).toArray = ls at hl ⊢
  have hl : lv_has ls 4 [(0, .ref x), (1, .int p0)] := hl
  refine lv_iload_n hx hb dRG_ticks_0 rfl (lv_at hl 1 rfl) ?_
  refine lv_iconst (v := 1) hx hb dRG_ticks_1 (by decide) ?_
  refine lv_icmp_lt (tgt := 12) hx hb dRG_ticks_2 (by decide) (fun c_2 => ?_) (fun c_2 => ?_)
  · obtain ⟨qs, hZ⟩ := hB.str (zm3 k3_157)
    exact zthrow hfl hx hb hown (hB.word (zm2 k2_151) rfl) (hB.word (zm1 k1_14) rfl) hZ (by decide) (hB.words zO_80) (by rw [hml]; exact hl.1) htab hlocks dRG_ticks_12 dRG_ticks_15 dRG_ticks_16 dRG_ticks_18 dRG_ticks_21 (Nat.le_of_ble_eq_true rfl) (Nat.le_of_ble_eq_true rfl) (Nat.le_of_ble_eq_true rfl) (Nat.le_of_ble_eq_true rfl) hS rfl rfl
  · refine lv_iload_n hx hb dRG_ticks_5 rfl (lv_at hl 1 rfl) ?_
    refine lv_sipush (v := 200) hx hb dRG_ticks_6 (by decide) ?_
    refine lv_icmp_le (tgt := 22) hx hb dRG_ticks_9 (by decide) (fun c9 => absurd c9 (hv c_2)) (fun _ => ?_)
    obtain ⟨qs, hZ⟩ := hB.str (zm3 k3_157)
    exact zthrow hfl hx hb hown (hB.word (zm2 k2_151) rfl) (hB.word (zm1 k1_14) rfl) hZ (by decide) (hB.words zO_80) (by rw [hml]; exact hl.1) htab hlocks dRG_ticks_12 dRG_ticks_15 dRG_ticks_16 dRG_ticks_18 dRG_ticks_21 (Nat.le_of_ble_eq_true rfl) (Nat.le_of_ble_eq_true rfl) (Nat.le_of_ble_eq_true rfl) (Nat.le_of_ble_eq_true rfl) hS rfl rfl
set_option maxHeartbeats 4000000 in
set_option maxRecDepth 100000 in
theorem zt_ticks2 (l : Launch) (dC : Nat → ClassId) (dI : Nat → Nat → Nat) (cI cZ cJ : ClassId) (a0 : Array Value) (s0 : State) (hfl : l.flags = Jvm.pinnedFlags ++ [Jvm.noTraceFlag]) (x : Nat) (b : Nat → Nat) (sz : Nat) (p0 : Int32) (h0 : ¬ p0 < 1) (h1 : p0 ≤ 200) : tq_Met l yRG_ticks [Cond.code yRG_ticks bRG_ticks 4 (some .int)] ({ frames := 7, cells := 1, slots := 6, locals := 110 } : Room) (zP zCl dC dI (zTY cI cZ cJ) a0 s0 [.ref x, .int p0] sz [(x, .inr (0, [.ref (b 0), .ref (b 1), .ref (b 2), .ref (b 3), .ref (b 4), .ref (b 5), .int 0, .int 0, .int 0, .int 0, .int 0, .int 0, .int 0]))]) (tq_Q "java/lang/IllegalStateException") 1 6 (zN sz) := by
  refine tq_ofW (cc := bRG_ticks) (maxL := 4) (ret := (some .int)) (by decide) rfl ?_
  intro p e s m args below meth c s₁ B hml htab hv
  obtain ⟨rfl, hsz, hP, hK, hD0, hB⟩ := hv
  have hx := B.exec
  have hb := B.bytes
  have hr := B.returns
  have hown : s.vm.findClass "RingGuard" = some m.cls := findClass_of_methodNamed B.named
  have hlocks := B.notSynchronized
  subst hsz
  have hD := hD0
  have hA0 : ∀ q, zN s.heap.size q → s0.heap.size ≤ q := zA1 hB
  have hAD : ∀ q, zN s0.heap.size q → s0.heap.size ≤ q := fun _ h => h
  have hA : ∀ q : Nat, s.heap.size ≤ q → zN s.heap.size q := fun _ h => h
  have hS : va_S (zN s.heap.size) s.heap s.heap [] := va_S.rf
  have hP : va_P (dC, dI) zCl [(x, .inr (0, [.ref (b 0), .ref (b 1), .ref (b 2), .ref (b 3), .ref (b 4), .ref (b 5), .int 0, .int 0, .int 0, .int 0, .int 0, .int 0, .int 0]))] s.heap := hP
  have hl := lv_entry ([.ref x, .int p0]) (n := 4) (Nat.le_of_ble_eq_true rfl)
  rw [lg_entry_eq]
  generalize (lg_sl ([.ref x, .int p0]) ++ List.replicate (4 - (lg_sl ([.ref x, .int p0])).length) Slot.unset).toArray = ls at hl ⊢
  have hl : lv_has ls 4 [(0, .ref x), (1, .int p0)] := hl
  refine lv_iload_n hx hb dRG_ticks_0 rfl (lv_at hl 1 rfl) ?_
  refine lv_iconst (v := 1) hx hb dRG_ticks_1 (by decide) ?_
  refine lv_icmp_lt (tgt := 12) hx hb dRG_ticks_2 (by decide) (fun c9 => absurd c9 h0) (fun _ => ?_)
  refine lv_iload_n hx hb dRG_ticks_5 rfl (lv_at hl 1 rfl) ?_
  refine lv_sipush (v := 200) hx hb dRG_ticks_6 (by decide) ?_
  refine lv_icmp_le (tgt := 22) hx hb dRG_ticks_9 (by decide) (fun _ => ?_) (fun c9 => absurd h1 c9)
  refine lv_aload_n hx hb dRG_ticks_22 rfl (lv_at hl 0 rfl) ?_
  have hPc : va_P (dC, dI) zCl [(x, .inr (0, [.ref (b 0), .ref (b 1), .ref (b 2), .ref (b 3), .ref (b 4), .ref (b 5), .int 0, .int 0, .int 0, .int 0, .int 0, .int 0, .int 0]))] s.heap := hP.sub [0] rfl
  have hDc : va_D (zN s0.heap.size) [(x, .inr (0, [.ref (b 0), .ref (b 1), .ref (b 2), .ref (b 3), .ref (b 4), .ref (b 5), .int 0, .int 0, .int 0, .int 0, .int 0, .int 0, .int 0]))] := hD.sub [0] (by decide) rfl
  exact zpass (tq_runV (As := []) (rest := []) ⟨hx, hb, hml, hown, zno⟩ (zt_requireStarted l dC dI cI cZ cJ a0 s0 hfl x b s.heap.size) (zcw 0 (hB.word (zm3 k3_58) rfl) (hB.word (zm1 k1_1) rfl) (hB.word (zm3 k3_55) rfl) (hB.word (zm3 k3_57) rfl) (k2_selects_private (by decide) (hB.word (zm1 k1_18) rfl) (hB.word (zm3 k3_56) rfl) (hB.word (zm3 k3_57) rfl)) rfl rfl (by decide +kernel) ⟨Nat.le_of_ble_eq_true rfl, Nat.le_of_ble_eq_true rfl⟩) ⟨zP_blind, va_recv hK hP (ci := 0) (q0 := 0) rfl rfl, zP_pre hPc hK hDc hAD (zB_on hB hA0 hS)⟩ rfl rfl hl.1 rfl (lv_room (Nat.le_of_ble_eq_true rfl)) dRG_ticks_23 ⟨Nat.le_of_ble_eq_true rfl, Nat.le_of_ble_eq_true rfl⟩) htab hlocks hS (Nat.le_of_ble_eq_true rfl) (Nat.le_of_ble_eq_true rfl)
set_option maxHeartbeats 4000000 in
set_option maxRecDepth 100000 in
theorem zt_host (l : Launch) (dC : Nat → ClassId) (dI : Nat → Nat → Nat) (cI cZ cJ : ClassId) (a0 : Array Value) (s0 : State) (hfl : l.flags = Jvm.pinnedFlags ++ [Jvm.noTraceFlag]) (x : Nat) (b : Nat → Nat) (sz : Nat) (p0 p1 : Int32) : tq_Met l yRG_host [Cond.code yRG_host bRG_host 4 (some .int)] ({ frames := 7, cells := 1, slots := 6, locals := 111 } : Room) (zP zCl dC dI (zTY cI cZ cJ) a0 s0 [.ref x, .int p0, .int p1] sz [(x, .inr (0, [.ref (b 0), .ref (b 1), .ref (b 2), .ref (b 3), .ref (b 4), .ref (b 5), .int 0, .int 0, .int 0, .int 0, .int 0, .int 0, .int 0])), ((b 0), .inr (1, [.int 0, .int 0, .ref (b 10), .ref (b 11), .ref (b 12), .ref (b 13), .ref (b 14), .ref (b 15), .ref (b 16), .ref (b 17), .ref (b 18)]))]) (tq_Q "java/lang/IllegalArgumentException") 1 6 (zN sz) := by
  refine tq_ofW (cc := bRG_host) (maxL := 4) (ret := (some .int)) (by decide) rfl ?_
  intro p e s m args below meth c s₁ B hml htab hv
  obtain ⟨rfl, hsz, hP, hK, hD0, hB⟩ := hv
  have hx := B.exec
  have hb := B.bytes
  have hr := B.returns
  have hown : s.vm.findClass "RingGuard" = some m.cls := findClass_of_methodNamed B.named
  have hlocks := B.notSynchronized
  subst hsz
  have hD := hD0
  have hA0 : ∀ q, zN s.heap.size q → s0.heap.size ≤ q := zA1 hB
  have hAD : ∀ q, zN s0.heap.size q → s0.heap.size ≤ q := fun _ h => h
  have hA : ∀ q : Nat, s.heap.size ≤ q → zN s.heap.size q := fun _ h => h
  have hS : va_S (zN s.heap.size) s.heap s.heap [] := va_S.rf
  have hP : va_P (dC, dI) zCl [(x, .inr (0, [.ref (b 0), .ref (b 1), .ref (b 2), .ref (b 3), .ref (b 4), .ref (b 5), .int 0, .int 0, .int 0, .int 0, .int 0, .int 0, .int 0])), ((b 0), .inr (1, [.int 0, .int 0, .ref (b 10), .ref (b 11), .ref (b 12), .ref (b 13), .ref (b 14), .ref (b 15), .ref (b 16), .ref (b 17), .ref (b 18)]))] s.heap := hP
  have hl := lv_entry ([.ref x, .int p0, .int p1]) (n := 4) (Nat.le_of_ble_eq_true rfl)
  rw [lg_entry_eq]
  generalize (lg_sl ([.ref x, .int p0, .int p1]) ++ List.replicate (4 - (lg_sl ([.ref x, .int p0, .int p1])).length) Slot.unset).toArray = ls at hl ⊢
  have hl : lv_has ls 4 [(0, .ref x), (1, .int p0), (2, .int p1)] := hl
  refine lv_aload_n hx hb dRG_host_0 rfl (lv_at hl 0 rfl) ?_
  refine lv_iload_n hx hb dRG_host_1 rfl (lv_at hl 1 rfl) ?_
  by_cases hy1 : ¬ p0 < 0 → ¬ p0 < 64
  · have hPc : va_P (dC, dI) zCl [(x, .inr (0, [.ref (b 0), .ref (b 1), .ref (b 2), .ref (b 3), .ref (b 4), .ref (b 5), .int 0, .int 0, .int 0, .int 0, .int 0, .int 0, .int 0]))] s.heap := hP.sub [0] rfl
    have hDc : va_D (zN s0.heap.size) [(x, .inr (0, [.ref (b 0), .ref (b 1), .ref (b 2), .ref (b 3), .ref (b 4), .ref (b 5), .int 0, .int 0, .int 0, .int 0, .int 0, .int 0, .int 0]))] := hD.sub [0] (by decide) rfl
    exact zpass (tq_runV (As := [.int p0]) (rest := []) ⟨hx, hb, hml, hown, zno⟩ (zt_requireHost l dC dI cI cZ cJ a0 s0 hfl x b s.heap.size p0 hy1) (zcw 1 (hB.word (zm4 k4_30) rfl) (hB.word (zm1 k1_1) rfl) (hB.word (zm4 k4_27) rfl) (hB.word (zm4 k4_29) rfl) (k2_selects_private (by decide) (hB.word (zm1 k1_18) rfl) (hB.word (zm4 k4_28) rfl) (hB.word (zm4 k4_29) rfl)) rfl rfl (by decide +kernel) ⟨Nat.le_of_ble_eq_true rfl, Nat.le_of_ble_eq_true rfl⟩) ⟨zP_blind, va_recv hK hP (ci := 0) (q0 := 0) rfl rfl, zP_pre hPc hK hDc hAD (zB_on hB hA0 hS)⟩ rfl rfl hl.1 rfl (lv_room (Nat.le_of_ble_eq_true rfl)) dRG_host_2 ⟨Nat.le_of_ble_eq_true rfl, Nat.le_of_ble_eq_true rfl⟩) htab hlocks hS (Nat.le_of_ble_eq_true rfl) (Nat.le_of_ble_eq_true rfl)
  · have hy1a := (Classical.not_imp.mp hy1).1
    have hy1b := Classical.not_not.mp (Classical.not_imp.mp hy1).2
    have hPc : va_P (dC, dI) zCl [(x, .inr (0, [.ref (b 0), .ref (b 1), .ref (b 2), .ref (b 3), .ref (b 4), .ref (b 5), .int 0, .int 0, .int 0, .int 0, .int 0, .int 0, .int 0]))] s.heap := hP.sub [0] rfl
    have hDc : va_D (zN s0.heap.size) [(x, .inr (0, [.ref (b 0), .ref (b 1), .ref (b 2), .ref (b 3), .ref (b 4), .ref (b 5), .int 0, .int 0, .int 0, .int 0, .int 0, .int 0, .int 0]))] := hD.sub [0] (by decide) rfl
    refine zcallo (va_runV (As := [.int p0]) (rest := []) ⟨hx, hb, hml, hown, zno⟩ (zo_requireHost l dC dI cI cZ cJ a0 s0 x b s.heap.size p0 hy1a hy1b) (zcw 1 (hB.word (zm4 k4_30) rfl) (hB.word (zm1 k1_1) rfl) (hB.word (zm4 k4_27) rfl) (hB.word (zm4 k4_29) rfl) (k2_selects_private (by decide) (hB.word (zm1 k1_18) rfl) (hB.word (zm4 k4_28) rfl) (hB.word (zm4 k4_29) rfl)) rfl rfl (by decide +kernel) ⟨Nat.le_of_ble_eq_true rfl, Nat.le_of_ble_eq_true rfl⟩) ⟨zP_blind, va_recv hK hP (ci := 0) (q0 := 0) rfl rfl, zP_pre hPc hK hDc hAD (zB_on hB hA0 hS)⟩ rfl rfl hl.1 rfl (lv_room (Nat.le_of_ble_eq_true rfl)) dRG_host_2 ⟨Nat.le_of_ble_eq_true rfl, Nat.le_of_ble_eq_true rfl⟩) hS hA (fun H1 locs hz1 hk1 hS => ?_)
    have hP := zKeep hP hk1
    generalize H1 = H at hP hS ⊢
    have hP : va_P (dC, dI) zCl [(x, .inr (0, [.ref (b 0), .ref (b 1), .ref (b 2), .ref (b 3), .ref (b 4), .ref (b 5), .int 0, .int 0, .int 0, .int 0, .int 0, .int 0, .int 0])), ((b 0), .inr (1, [.int 0, .int 0, .ref (b 10), .ref (b 11), .ref (b 12), .ref (b 13), .ref (b 14), .ref (b 15), .ref (b 16), .ref (b 17), .ref (b 18)]))] H := hP
    refine lv_aload_n hx hb dRG_host_5 rfl (lv_at hl 0 rfl) ?_
    refine lv_iload_n hx hb dRG_host_6 rfl (lv_at hl 2 rfl) ?_
    have hPc : va_P (dC, dI) zCl [(x, .inr (0, [.ref (b 0), .ref (b 1), .ref (b 2), .ref (b 3), .ref (b 4), .ref (b 5), .int 0, .int 0, .int 0, .int 0, .int 0, .int 0, .int 0])), ((b 0), .inr (1, [.int 0, .int 0, .ref (b 10), .ref (b 11), .ref (b 12), .ref (b 13), .ref (b 14), .ref (b 15), .ref (b 16), .ref (b 17), .ref (b 18)]))] H := hP.sub [0, 1] rfl
    have hDc : va_D (zN s0.heap.size) [(x, .inr (0, [.ref (b 0), .ref (b 1), .ref (b 2), .ref (b 3), .ref (b 4), .ref (b 5), .int 0, .int 0, .int 0, .int 0, .int 0, .int 0, .int 0])), ((b 0), .inr (1, [.int 0, .int 0, .ref (b 10), .ref (b 11), .ref (b 12), .ref (b 13), .ref (b 14), .ref (b 15), .ref (b 16), .ref (b 17), .ref (b 18)]))] := hD.sub [0, 1] (by decide) rfl
    exact zpass (tq_runV (As := [.int p1]) (rest := []) ⟨hx, hb, hml, hown, zno⟩ (zt_requireBridge l dC dI cI cZ cJ a0 s0 hfl x b H.size p1) (zcw 1 (hB.word (zm2 k2_150) rfl) (hB.word (zm1 k1_1) rfl) (hB.word (zm2 k2_147) rfl) (hB.word (zm2 k2_149) rfl) (k2_selects_private (by decide) (hB.word (zm1 k1_18) rfl) (hB.word (zm2 k2_148) rfl) (hB.word (zm2 k2_149) rfl)) rfl rfl (by decide +kernel) ⟨Nat.le_of_ble_eq_true rfl, Nat.le_of_ble_eq_true rfl⟩) ⟨zP_blind, va_recv hK hP (ci := 0) (q0 := 0) rfl rfl, zP_pre hPc hK hDc hAD (zB_on hB hA0 hS)⟩ rfl rfl hl.1 rfl (lv_room (Nat.le_of_ble_eq_true rfl)) dRG_host_7 ⟨Nat.le_of_ble_eq_true rfl, Nat.le_of_ble_eq_true rfl⟩) htab hlocks hS (Nat.le_of_ble_eq_true rfl) (Nat.le_of_ble_eq_true rfl)
set_option maxHeartbeats 4000000 in
set_option maxRecDepth 100000 in
theorem zt_send (l : Launch) (dC : Nat → ClassId) (dI : Nat → Nat → Nat) (cI cZ cJ : ClassId) (a0 : Array Value) (s0 : State) (hfl : l.flags = Jvm.pinnedFlags ++ [Jvm.noTraceFlag]) (x : Nat) (b : Nat → Nat) (sz : Nat) (fh : Nat → Int32) (p0 p1 p2 : Int32) (hf : ∀ j, j < 64 → fh j = -1) : tq_Met l yRG_send [Cond.code yRG_send bRG_send 4 (some .int)] ({ frames := 7, cells := 1, slots := 6, locals := 111 } : Room) (zP zCl dC dI (zTY cI cZ cJ) a0 s0 [.ref x, .int p0, .int p1, .int p2] sz [(x, .inr (0, [.ref (b 0), .ref (b 1), .ref (b 2), .ref (b 3), .ref (b 4), .ref (b 5), .int 0, .int 0, .int 0, .int 0, .int 0, .int 0, .int 0])), ((b 4), .inr (5, [.ref (b 0), .ref (b 3), .ref (b 2), .ref (b 20), .ref (b 21), .ref (b 22), .int 0, .ref (b 23), .int 0])), ((b 20), .inl (cI, 64, .inl fh))]) (tq_Q "java/lang/IllegalArgumentException") 1 6 (zN sz) := by
  refine tq_ofW (cc := bRG_send) (maxL := 4) (ret := (some .int)) (by decide) rfl ?_
  intro p e s m args below meth c s₁ B hml htab hv
  obtain ⟨rfl, hsz, hP, hK, hD0, hB⟩ := hv
  have hx := B.exec
  have hb := B.bytes
  have hr := B.returns
  have hown : s.vm.findClass "RingGuard" = some m.cls := findClass_of_methodNamed B.named
  have hlocks := B.notSynchronized
  subst hsz
  have hD := hD0
  have hA0 : ∀ q, zN s.heap.size q → s0.heap.size ≤ q := zA1 hB
  have hAD : ∀ q, zN s0.heap.size q → s0.heap.size ≤ q := fun _ h => h
  have hA : ∀ q : Nat, s.heap.size ≤ q → zN s.heap.size q := fun _ h => h
  have hS : va_S (zN s.heap.size) s.heap s.heap [] := va_S.rf
  have hP : va_P (dC, dI) zCl [(x, .inr (0, [.ref (b 0), .ref (b 1), .ref (b 2), .ref (b 3), .ref (b 4), .ref (b 5), .int 0, .int 0, .int 0, .int 0, .int 0, .int 0, .int 0])), ((b 4), .inr (5, [.ref (b 0), .ref (b 3), .ref (b 2), .ref (b 20), .ref (b 21), .ref (b 22), .int 0, .ref (b 23), .int 0])), ((b 20), .inl (cI, 64, .inl fh))] s.heap := hP
  have hl := lv_entry ([.ref x, .int p0, .int p1, .int p2]) (n := 4) (Nat.le_of_ble_eq_true rfl)
  rw [lg_entry_eq]
  generalize (lg_sl ([.ref x, .int p0, .int p1, .int p2]) ++ List.replicate (4 - (lg_sl ([.ref x, .int p0, .int p1, .int p2])).length) Slot.unset).toArray = ls at hl ⊢
  have hl : lv_has ls 4 [(0, .ref x), (1, .int p0), (2, .int p1), (3, .int p2)] := hl
  refine lv_aload_n hx hb dRG_send_0 rfl (lv_at hl 0 rfl) ?_
  refine lv_iload_n hx hb dRG_send_1 rfl (lv_at hl 1 rfl) ?_
  by_cases hy1 : ¬ p0 < 0 → ¬ p0 < 64
  · have hPc : va_P (dC, dI) zCl [(x, .inr (0, [.ref (b 0), .ref (b 1), .ref (b 2), .ref (b 3), .ref (b 4), .ref (b 5), .int 0, .int 0, .int 0, .int 0, .int 0, .int 0, .int 0]))] s.heap := hP.sub [0] rfl
    have hDc : va_D (zN s0.heap.size) [(x, .inr (0, [.ref (b 0), .ref (b 1), .ref (b 2), .ref (b 3), .ref (b 4), .ref (b 5), .int 0, .int 0, .int 0, .int 0, .int 0, .int 0, .int 0]))] := hD.sub [0] (by decide) rfl
    exact zpass (tq_runV (As := [.int p0]) (rest := []) ⟨hx, hb, hml, hown, zno⟩ (zt_requireHost l dC dI cI cZ cJ a0 s0 hfl x b s.heap.size p0 hy1) (zcw 1 (hB.word (zm4 k4_30) rfl) (hB.word (zm1 k1_1) rfl) (hB.word (zm4 k4_27) rfl) (hB.word (zm4 k4_29) rfl) (k2_selects_private (by decide) (hB.word (zm1 k1_18) rfl) (hB.word (zm4 k4_28) rfl) (hB.word (zm4 k4_29) rfl)) rfl rfl (by decide +kernel) ⟨Nat.le_of_ble_eq_true rfl, Nat.le_of_ble_eq_true rfl⟩) ⟨zP_blind, va_recv hK hP (ci := 0) (q0 := 0) rfl rfl, zP_pre hPc hK hDc hAD (zB_on hB hA0 hS)⟩ rfl rfl hl.1 rfl (lv_room (Nat.le_of_ble_eq_true rfl)) dRG_send_2 ⟨Nat.le_of_ble_eq_true rfl, Nat.le_of_ble_eq_true rfl⟩) htab hlocks hS (Nat.le_of_ble_eq_true rfl) (Nat.le_of_ble_eq_true rfl)
  · have hy1a := (Classical.not_imp.mp hy1).1
    have hy1b := Classical.not_not.mp (Classical.not_imp.mp hy1).2
    have hPc : va_P (dC, dI) zCl [(x, .inr (0, [.ref (b 0), .ref (b 1), .ref (b 2), .ref (b 3), .ref (b 4), .ref (b 5), .int 0, .int 0, .int 0, .int 0, .int 0, .int 0, .int 0]))] s.heap := hP.sub [0] rfl
    have hDc : va_D (zN s0.heap.size) [(x, .inr (0, [.ref (b 0), .ref (b 1), .ref (b 2), .ref (b 3), .ref (b 4), .ref (b 5), .int 0, .int 0, .int 0, .int 0, .int 0, .int 0, .int 0]))] := hD.sub [0] (by decide) rfl
    refine zcallo (va_runV (As := [.int p0]) (rest := []) ⟨hx, hb, hml, hown, zno⟩ (zo_requireHost l dC dI cI cZ cJ a0 s0 x b s.heap.size p0 hy1a hy1b) (zcw 1 (hB.word (zm4 k4_30) rfl) (hB.word (zm1 k1_1) rfl) (hB.word (zm4 k4_27) rfl) (hB.word (zm4 k4_29) rfl) (k2_selects_private (by decide) (hB.word (zm1 k1_18) rfl) (hB.word (zm4 k4_28) rfl) (hB.word (zm4 k4_29) rfl)) rfl rfl (by decide +kernel) ⟨Nat.le_of_ble_eq_true rfl, Nat.le_of_ble_eq_true rfl⟩) ⟨zP_blind, va_recv hK hP (ci := 0) (q0 := 0) rfl rfl, zP_pre hPc hK hDc hAD (zB_on hB hA0 hS)⟩ rfl rfl hl.1 rfl (lv_room (Nat.le_of_ble_eq_true rfl)) dRG_send_2 ⟨Nat.le_of_ble_eq_true rfl, Nat.le_of_ble_eq_true rfl⟩) hS hA (fun H1 locs hz1 hk1 hS => ?_)
    have hP := zKeep hP hk1
    generalize H1 = H at hP hS ⊢
    have hP : va_P (dC, dI) zCl [(x, .inr (0, [.ref (b 0), .ref (b 1), .ref (b 2), .ref (b 3), .ref (b 4), .ref (b 5), .int 0, .int 0, .int 0, .int 0, .int 0, .int 0, .int 0])), ((b 4), .inr (5, [.ref (b 0), .ref (b 3), .ref (b 2), .ref (b 20), .ref (b 21), .ref (b 22), .int 0, .ref (b 23), .int 0])), ((b 20), .inl (cI, 64, .inl fh))] H := hP
    refine lv_aload_n hx hb dRG_send_5 rfl (lv_at hl 0 rfl) ?_
    refine lv_iload_n hx hb dRG_send_6 rfl (lv_at hl 2 rfl) ?_
    by_cases hy3 : ¬ p1 < 0 → ¬ p1 < 64
    · have hPc : va_P (dC, dI) zCl [(x, .inr (0, [.ref (b 0), .ref (b 1), .ref (b 2), .ref (b 3), .ref (b 4), .ref (b 5), .int 0, .int 0, .int 0, .int 0, .int 0, .int 0, .int 0]))] H := hP.sub [0] rfl
      have hDc : va_D (zN s0.heap.size) [(x, .inr (0, [.ref (b 0), .ref (b 1), .ref (b 2), .ref (b 3), .ref (b 4), .ref (b 5), .int 0, .int 0, .int 0, .int 0, .int 0, .int 0, .int 0]))] := hD.sub [0] (by decide) rfl
      exact zpass (tq_runV (As := [.int p1]) (rest := []) ⟨hx, hb, hml, hown, zno⟩ (zt_requireHost l dC dI cI cZ cJ a0 s0 hfl x b H.size p1 hy3) (zcw 1 (hB.word (zm4 k4_30) rfl) (hB.word (zm1 k1_1) rfl) (hB.word (zm4 k4_27) rfl) (hB.word (zm4 k4_29) rfl) (k2_selects_private (by decide) (hB.word (zm1 k1_18) rfl) (hB.word (zm4 k4_28) rfl) (hB.word (zm4 k4_29) rfl)) rfl rfl (by decide +kernel) ⟨Nat.le_of_ble_eq_true rfl, Nat.le_of_ble_eq_true rfl⟩) ⟨zP_blind, va_recv hK hP (ci := 0) (q0 := 0) rfl rfl, zP_pre hPc hK hDc hAD (zB_on hB hA0 hS)⟩ rfl rfl hl.1 rfl (lv_room (Nat.le_of_ble_eq_true rfl)) dRG_send_7 ⟨Nat.le_of_ble_eq_true rfl, Nat.le_of_ble_eq_true rfl⟩) htab hlocks hS (Nat.le_of_ble_eq_true rfl) (Nat.le_of_ble_eq_true rfl)
    · have hy3a := (Classical.not_imp.mp hy3).1
      have hy3b := Classical.not_not.mp (Classical.not_imp.mp hy3).2
      have hPc : va_P (dC, dI) zCl [(x, .inr (0, [.ref (b 0), .ref (b 1), .ref (b 2), .ref (b 3), .ref (b 4), .ref (b 5), .int 0, .int 0, .int 0, .int 0, .int 0, .int 0, .int 0]))] H := hP.sub [0] rfl
      have hDc : va_D (zN s0.heap.size) [(x, .inr (0, [.ref (b 0), .ref (b 1), .ref (b 2), .ref (b 3), .ref (b 4), .ref (b 5), .int 0, .int 0, .int 0, .int 0, .int 0, .int 0, .int 0]))] := hD.sub [0] (by decide) rfl
      refine zcallo (va_runV (As := [.int p1]) (rest := []) ⟨hx, hb, hml, hown, zno⟩ (zo_requireHost l dC dI cI cZ cJ a0 s0 x b H.size p1 hy3a hy3b) (zcw 1 (hB.word (zm4 k4_30) rfl) (hB.word (zm1 k1_1) rfl) (hB.word (zm4 k4_27) rfl) (hB.word (zm4 k4_29) rfl) (k2_selects_private (by decide) (hB.word (zm1 k1_18) rfl) (hB.word (zm4 k4_28) rfl) (hB.word (zm4 k4_29) rfl)) rfl rfl (by decide +kernel) ⟨Nat.le_of_ble_eq_true rfl, Nat.le_of_ble_eq_true rfl⟩) ⟨zP_blind, va_recv hK hP (ci := 0) (q0 := 0) rfl rfl, zP_pre hPc hK hDc hAD (zB_on hB hA0 hS)⟩ rfl rfl hl.1 rfl (lv_room (Nat.le_of_ble_eq_true rfl)) dRG_send_7 ⟨Nat.le_of_ble_eq_true rfl, Nat.le_of_ble_eq_true rfl⟩) hS hA (fun H1 locs hz1 hk1 hS => ?_)
      have hP := zKeep hP hk1
      generalize H1 = H at hP hS ⊢
      have hP : va_P (dC, dI) zCl [(x, .inr (0, [.ref (b 0), .ref (b 1), .ref (b 2), .ref (b 3), .ref (b 4), .ref (b 5), .int 0, .int 0, .int 0, .int 0, .int 0, .int 0, .int 0])), ((b 4), .inr (5, [.ref (b 0), .ref (b 3), .ref (b 2), .ref (b 20), .ref (b 21), .ref (b 22), .int 0, .ref (b 23), .int 0])), ((b 20), .inl (cI, 64, .inl fh))] H := hP
      refine lv_aload_n hx hb dRG_send_10 rfl (lv_at hl 0 rfl) ?_
      refine lv_iload_n hx hb dRG_send_11 rfl (lv_at hl 3 rfl) ?_
      by_cases hy5 : ¬ p2 < 0 → ¬ p2 < 4
      · have hPc : va_P (dC, dI) zCl [(x, .inr (0, [.ref (b 0), .ref (b 1), .ref (b 2), .ref (b 3), .ref (b 4), .ref (b 5), .int 0, .int 0, .int 0, .int 0, .int 0, .int 0, .int 0]))] H := hP.sub [0] rfl
        have hDc : va_D (zN s0.heap.size) [(x, .inr (0, [.ref (b 0), .ref (b 1), .ref (b 2), .ref (b 3), .ref (b 4), .ref (b 5), .int 0, .int 0, .int 0, .int 0, .int 0, .int 0, .int 0]))] := hD.sub [0] (by decide) rfl
        exact zpass (tq_runV (As := [.int p2]) (rest := []) ⟨hx, hb, hml, hown, zno⟩ (zt_requireTag l dC dI cI cZ cJ a0 s0 hfl x b H.size p2 hy5) (zcw 1 (hB.word (zm4 k4_46) rfl) (hB.word (zm1 k1_1) rfl) (hB.word (zm4 k4_43) rfl) (hB.word (zm4 k4_45) rfl) (k2_selects_private (by decide) (hB.word (zm1 k1_18) rfl) (hB.word (zm4 k4_44) rfl) (hB.word (zm4 k4_45) rfl)) rfl rfl (by decide +kernel) ⟨Nat.le_of_ble_eq_true rfl, Nat.le_of_ble_eq_true rfl⟩) ⟨zP_blind, va_recv hK hP (ci := 0) (q0 := 0) rfl rfl, zP_pre hPc hK hDc hAD (zB_on hB hA0 hS)⟩ rfl rfl hl.1 rfl (lv_room (Nat.le_of_ble_eq_true rfl)) dRG_send_12 ⟨Nat.le_of_ble_eq_true rfl, Nat.le_of_ble_eq_true rfl⟩) htab hlocks hS (Nat.le_of_ble_eq_true rfl) (Nat.le_of_ble_eq_true rfl)
      · have hy5a := (Classical.not_imp.mp hy5).1
        have hy5b := Classical.not_not.mp (Classical.not_imp.mp hy5).2
        have hPc : va_P (dC, dI) zCl [(x, .inr (0, [.ref (b 0), .ref (b 1), .ref (b 2), .ref (b 3), .ref (b 4), .ref (b 5), .int 0, .int 0, .int 0, .int 0, .int 0, .int 0, .int 0]))] H := hP.sub [0] rfl
        have hDc : va_D (zN s0.heap.size) [(x, .inr (0, [.ref (b 0), .ref (b 1), .ref (b 2), .ref (b 3), .ref (b 4), .ref (b 5), .int 0, .int 0, .int 0, .int 0, .int 0, .int 0, .int 0]))] := hD.sub [0] (by decide) rfl
        refine zcallo (va_runV (As := [.int p2]) (rest := []) ⟨hx, hb, hml, hown, zno⟩ (zo_requireTag l dC dI cI cZ cJ a0 s0 x b H.size p2 hy5a hy5b) (zcw 1 (hB.word (zm4 k4_46) rfl) (hB.word (zm1 k1_1) rfl) (hB.word (zm4 k4_43) rfl) (hB.word (zm4 k4_45) rfl) (k2_selects_private (by decide) (hB.word (zm1 k1_18) rfl) (hB.word (zm4 k4_44) rfl) (hB.word (zm4 k4_45) rfl)) rfl rfl (by decide +kernel) ⟨Nat.le_of_ble_eq_true rfl, Nat.le_of_ble_eq_true rfl⟩) ⟨zP_blind, va_recv hK hP (ci := 0) (q0 := 0) rfl rfl, zP_pre hPc hK hDc hAD (zB_on hB hA0 hS)⟩ rfl rfl hl.1 rfl (lv_room (Nat.le_of_ble_eq_true rfl)) dRG_send_12 ⟨Nat.le_of_ble_eq_true rfl, Nat.le_of_ble_eq_true rfl⟩) hS hA (fun H1 locs hz1 hk1 hS => ?_)
        have hP := zKeep hP hk1
        generalize H1 = H at hP hS ⊢
        have hP : va_P (dC, dI) zCl [(x, .inr (0, [.ref (b 0), .ref (b 1), .ref (b 2), .ref (b 3), .ref (b 4), .ref (b 5), .int 0, .int 0, .int 0, .int 0, .int 0, .int 0, .int 0])), ((b 4), .inr (5, [.ref (b 0), .ref (b 3), .ref (b 2), .ref (b 20), .ref (b 21), .ref (b 22), .int 0, .ref (b 23), .int 0])), ((b 20), .inl (cI, 64, .inl fh))] H := hP
        refine lv_iload_n hx hb dRG_send_15 rfl (lv_at hl 1 rfl) ?_
        refine lv_iload_n hx hb dRG_send_16 rfl (lv_at hl 2 rfl) ?_
        refine lv_icmp_eq (tgt := 46) hx hb dRG_send_17 (by decide) (fun c_17 => ?_) (fun c_17 => ?_)
        · obtain ⟨qs, hZ⟩ := hB.str (zm4 k4_48)
          exact zthrow hfl hx hb hown (hB.word (zm2 k2_151) rfl) (hB.word (zm1 k1_14) rfl) hZ (by decide) (hB.words zO_80) (by rw [hml]; exact hl.1) htab hlocks dRG_send_46 dRG_send_49 dRG_send_50 dRG_send_52 dRG_send_55 (Nat.le_of_ble_eq_true rfl) (Nat.le_of_ble_eq_true rfl) (Nat.le_of_ble_eq_true rfl) (Nat.le_of_ble_eq_true rfl) hS rfl rfl
        · refine lv_aload_n hx hb dRG_send_20 rfl (lv_at hl 0 rfl) ?_
          have hu0 : ∀ w ∈ u_ws "RingGuard" T_RG 13, w.before ([.ref x, .int p0, .int p1, .int p2] : List Value).toArray s = true := hB.words zU_RG
          refine va_get (D := (dC, dI)) (ci := 0) (v := .ref (b 4)) (C := "RingGuard") (T := T_RG) (N := 13) hx hb hu0 zid hown hK hP 0 rfl rfl 4 (by decide) (hB.word (zm1 k1_239) rfl) (fun _ h9 => h9) rfl dRG_send_21 ?_
          have hu5 : ∀ w ∈ u_ws "RingGuard$Frames" T_FR 9, w.before ([.ref x, .int p0, .int p1, .int p2] : List Value).toArray s = true := hB.words zU_FR
          refine va_get (D := (dC, dI)) (ci := 5) (v := .ref (b 20)) (C := "RingGuard$Frames") (T := T_FR) (N := 9) hx hb hu5 zid hown hK hP 1 rfl rfl 3 (by decide) (hB.word (zm1 k1_190) rfl) (fun _ h9 => h9) rfl dRG_send_24 ?_
          refine lv_iload_n hx hb dRG_send_27 rfl (lv_at hl 1 rfl) ?_
          refine va_iald hx hb hK hP 2 0 rfl rfl (i := p0) (zin hy1a hy1b) dRG_send_28 ?_
          refine lv_topi (fun k7 ek7 => ?_)
          refine lv_iconst (v := (-1)) hx hb dRG_send_29 (by decide) ?_
          refine lv_icmp_eq (tgt := 46) hx hb dRG_send_30 (by decide) (fun _ => ?_) (fun c9 => absurd (ek7.trans (hf _ (zlt hy1a hy1b))) c9)
          obtain ⟨qs, hZ⟩ := hB.str (zm4 k4_48)
          exact zthrow hfl hx hb hown (hB.word (zm2 k2_151) rfl) (hB.word (zm1 k1_14) rfl) hZ (by decide) (hB.words zO_80) (by rw [hml]; exact hl.1) htab hlocks dRG_send_46 dRG_send_49 dRG_send_50 dRG_send_52 dRG_send_55 (Nat.le_of_ble_eq_true rfl) (Nat.le_of_ble_eq_true rfl) (Nat.le_of_ble_eq_true rfl) (Nat.le_of_ble_eq_true rfl) hS rfl rfl
set_option maxHeartbeats 4000000 in
set_option maxRecDepth 100000 in
theorem zt_holds (l : Launch) (dC : Nat → ClassId) (dI : Nat → Nat → Nat) (cI cZ cJ : ClassId) (a0 : Array Value) (s0 : State) (hfl : l.flags = Jvm.pinnedFlags ++ [Jvm.noTraceFlag]) (x : Nat) (b : Nat → Nat) (sz : Nat) (p0 p1 : Int32) : tq_Met l yRG_holds [Cond.code yRG_holds bRG_holds 3 (some .int)] ({ frames := 8, cells := 1, slots := 6, locals := 133 } : Room) (zP zCl dC dI (zTY cI cZ cJ) a0 s0 [.ref x, .int p0, .int p1] sz [(x, .inr (0, [.ref (b 0), .ref (b 1), .ref (b 2), .ref (b 3), .ref (b 4), .ref (b 5), .int 0, .int 0, .int 0, .int 0, .int 0, .int 0, .int 0])), ((b 0), .inr (1, [.int 0, .int 0, .ref (b 10), .ref (b 11), .ref (b 12), .ref (b 13), .ref (b 14), .ref (b 15), .ref (b 16), .ref (b 17), .ref (b 18)]))]) (tq_Q "java/lang/IllegalArgumentException") 1 6 (zN sz) := by
  refine tq_ofW (cc := bRG_holds) (maxL := 3) (ret := (some .int)) (by decide) rfl ?_
  intro p e s m args below meth c s₁ B hml htab hv
  obtain ⟨rfl, hsz, hP, hK, hD0, hB⟩ := hv
  have hx := B.exec
  have hb := B.bytes
  have hr := B.returns
  have hown : s.vm.findClass "RingGuard" = some m.cls := findClass_of_methodNamed B.named
  have hlocks := B.notSynchronized
  subst hsz
  have hD := hD0
  have hA0 : ∀ q, zN s.heap.size q → s0.heap.size ≤ q := zA1 hB
  have hAD : ∀ q, zN s0.heap.size q → s0.heap.size ≤ q := fun _ h => h
  have hA : ∀ q : Nat, s.heap.size ≤ q → zN s.heap.size q := fun _ h => h
  have hS : va_S (zN s.heap.size) s.heap s.heap [] := va_S.rf
  have hP : va_P (dC, dI) zCl [(x, .inr (0, [.ref (b 0), .ref (b 1), .ref (b 2), .ref (b 3), .ref (b 4), .ref (b 5), .int 0, .int 0, .int 0, .int 0, .int 0, .int 0, .int 0])), ((b 0), .inr (1, [.int 0, .int 0, .ref (b 10), .ref (b 11), .ref (b 12), .ref (b 13), .ref (b 14), .ref (b 15), .ref (b 16), .ref (b 17), .ref (b 18)]))] s.heap := hP
  have hl := lv_entry ([.ref x, .int p0, .int p1]) (n := 3) (Nat.le_of_ble_eq_true rfl)
  rw [lg_entry_eq]
  generalize (lg_sl ([.ref x, .int p0, .int p1]) ++ List.replicate (3 - (lg_sl ([.ref x, .int p0, .int p1])).length) Slot.unset).toArray = ls at hl ⊢
  have hl : lv_has ls 3 [(0, .ref x), (1, .int p0), (2, .int p1)] := hl
  refine lv_aload_n hx hb dRG_holds_0 rfl (lv_at hl 0 rfl) ?_
  refine lv_iload_n hx hb dRG_holds_1 rfl (lv_at hl 1 rfl) ?_
  refine lv_iload_n hx hb dRG_holds_2 rfl (lv_at hl 2 rfl) ?_
  have hPc : va_P (dC, dI) zCl [(x, .inr (0, [.ref (b 0), .ref (b 1), .ref (b 2), .ref (b 3), .ref (b 4), .ref (b 5), .int 0, .int 0, .int 0, .int 0, .int 0, .int 0, .int 0])), ((b 0), .inr (1, [.int 0, .int 0, .ref (b 10), .ref (b 11), .ref (b 12), .ref (b 13), .ref (b 14), .ref (b 15), .ref (b 16), .ref (b 17), .ref (b 18)]))] s.heap := hP.sub [0, 1] rfl
  have hDc : va_D (zN s0.heap.size) [(x, .inr (0, [.ref (b 0), .ref (b 1), .ref (b 2), .ref (b 3), .ref (b 4), .ref (b 5), .int 0, .int 0, .int 0, .int 0, .int 0, .int 0, .int 0])), ((b 0), .inr (1, [.int 0, .int 0, .ref (b 10), .ref (b 11), .ref (b 12), .ref (b 13), .ref (b 14), .ref (b 15), .ref (b 16), .ref (b 17), .ref (b 18)]))] := hD.sub [0, 1] (by decide) rfl
  exact zpass (tq_runV (As := [.int p0, .int p1]) (rest := []) ⟨hx, hb, hml, hown, zno⟩ (zt_requirePort l dC dI cI cZ cJ a0 s0 hfl x b s.heap.size p0 p1) (zcw 2 (hB.word (zm3 k3_127) rfl) (hB.word (zm1 k1_1) rfl) (hB.word (zm3 k3_124) rfl) (hB.word (zm3 k3_126) rfl) (k2_selects_private (by decide) (hB.word (zm1 k1_18) rfl) (hB.word (zm3 k3_125) rfl) (hB.word (zm3 k3_126) rfl)) rfl rfl (by decide +kernel) ⟨Nat.le_of_ble_eq_true rfl, Nat.le_of_ble_eq_true rfl⟩) ⟨zP_blind, va_recv hK hP (ci := 0) (q0 := 0) rfl rfl, zP_pre hPc hK hDc hAD (zB_on hB hA0 hS)⟩ rfl rfl hl.1 rfl (lv_room (Nat.le_of_ble_eq_true rfl)) dRG_holds_3 ⟨Nat.le_of_ble_eq_true rfl, Nat.le_of_ble_eq_true rfl⟩) htab hlocks hS (Nat.le_of_ble_eq_true rfl) (Nat.le_of_ble_eq_true rfl)
set_option maxHeartbeats 4000000 in
set_option maxRecDepth 100000 in
theorem zt_told (l : Launch) (dC : Nat → ClassId) (dI : Nat → Nat → Nat) (cI cZ cJ : ClassId) (a0 : Array Value) (s0 : State) (hfl : l.flags = Jvm.pinnedFlags ++ [Jvm.noTraceFlag]) (x : Nat) (b : Nat → Nat) (sz : Nat) (p0 p1 p2 : Int32) : tq_Met l yRG_told [Cond.code yRG_told bRG_told 4 (some .int)] ({ frames := 7, cells := 1, slots := 6, locals := 111 } : Room) (zP zCl dC dI (zTY cI cZ cJ) a0 s0 [.ref x, .int p0, .int p1, .int p2] sz [(x, .inr (0, [.ref (b 0), .ref (b 1), .ref (b 2), .ref (b 3), .ref (b 4), .ref (b 5), .int 0, .int 0, .int 0, .int 0, .int 0, .int 0, .int 0])), ((b 0), .inr (1, [.int 0, .int 0, .ref (b 10), .ref (b 11), .ref (b 12), .ref (b 13), .ref (b 14), .ref (b 15), .ref (b 16), .ref (b 17), .ref (b 18)]))]) (tq_Q "java/lang/IllegalArgumentException") 1 6 (zN sz) := by
  refine tq_ofW (cc := bRG_told) (maxL := 4) (ret := (some .int)) (by decide) rfl ?_
  intro p e s m args below meth c s₁ B hml htab hv
  obtain ⟨rfl, hsz, hP, hK, hD0, hB⟩ := hv
  have hx := B.exec
  have hb := B.bytes
  have hr := B.returns
  have hown : s.vm.findClass "RingGuard" = some m.cls := findClass_of_methodNamed B.named
  have hlocks := B.notSynchronized
  subst hsz
  have hD := hD0
  have hA0 : ∀ q, zN s.heap.size q → s0.heap.size ≤ q := zA1 hB
  have hAD : ∀ q, zN s0.heap.size q → s0.heap.size ≤ q := fun _ h => h
  have hA : ∀ q : Nat, s.heap.size ≤ q → zN s.heap.size q := fun _ h => h
  have hS : va_S (zN s.heap.size) s.heap s.heap [] := va_S.rf
  have hP : va_P (dC, dI) zCl [(x, .inr (0, [.ref (b 0), .ref (b 1), .ref (b 2), .ref (b 3), .ref (b 4), .ref (b 5), .int 0, .int 0, .int 0, .int 0, .int 0, .int 0, .int 0])), ((b 0), .inr (1, [.int 0, .int 0, .ref (b 10), .ref (b 11), .ref (b 12), .ref (b 13), .ref (b 14), .ref (b 15), .ref (b 16), .ref (b 17), .ref (b 18)]))] s.heap := hP
  have hl := lv_entry ([.ref x, .int p0, .int p1, .int p2]) (n := 4) (Nat.le_of_ble_eq_true rfl)
  rw [lg_entry_eq]
  generalize (lg_sl ([.ref x, .int p0, .int p1, .int p2]) ++ List.replicate (4 - (lg_sl ([.ref x, .int p0, .int p1, .int p2])).length) Slot.unset).toArray = ls at hl ⊢
  have hl : lv_has ls 4 [(0, .ref x), (1, .int p0), (2, .int p1), (3, .int p2)] := hl
  refine lv_aload_n hx hb dRG_told_0 rfl (lv_at hl 0 rfl) ?_
  refine lv_iload_n hx hb dRG_told_1 rfl (lv_at hl 1 rfl) ?_
  have hPc : va_P (dC, dI) zCl [(x, .inr (0, [.ref (b 0), .ref (b 1), .ref (b 2), .ref (b 3), .ref (b 4), .ref (b 5), .int 0, .int 0, .int 0, .int 0, .int 0, .int 0, .int 0])), ((b 0), .inr (1, [.int 0, .int 0, .ref (b 10), .ref (b 11), .ref (b 12), .ref (b 13), .ref (b 14), .ref (b 15), .ref (b 16), .ref (b 17), .ref (b 18)]))] s.heap := hP.sub [0, 1] rfl
  have hDc : va_D (zN s0.heap.size) [(x, .inr (0, [.ref (b 0), .ref (b 1), .ref (b 2), .ref (b 3), .ref (b 4), .ref (b 5), .int 0, .int 0, .int 0, .int 0, .int 0, .int 0, .int 0])), ((b 0), .inr (1, [.int 0, .int 0, .ref (b 10), .ref (b 11), .ref (b 12), .ref (b 13), .ref (b 14), .ref (b 15), .ref (b 16), .ref (b 17), .ref (b 18)]))] := hD.sub [0, 1] (by decide) rfl
  exact zpass (tq_runV (As := [.int p0]) (rest := []) ⟨hx, hb, hml, hown, zno⟩ (zt_requireBridge l dC dI cI cZ cJ a0 s0 hfl x b s.heap.size p0) (zcw 1 (hB.word (zm2 k2_150) rfl) (hB.word (zm1 k1_1) rfl) (hB.word (zm2 k2_147) rfl) (hB.word (zm2 k2_149) rfl) (k2_selects_private (by decide) (hB.word (zm1 k1_18) rfl) (hB.word (zm2 k2_148) rfl) (hB.word (zm2 k2_149) rfl)) rfl rfl (by decide +kernel) ⟨Nat.le_of_ble_eq_true rfl, Nat.le_of_ble_eq_true rfl⟩) ⟨zP_blind, va_recv hK hP (ci := 0) (q0 := 0) rfl rfl, zP_pre hPc hK hDc hAD (zB_on hB hA0 hS)⟩ rfl rfl hl.1 rfl (lv_room (Nat.le_of_ble_eq_true rfl)) dRG_told_2 ⟨Nat.le_of_ble_eq_true rfl, Nat.le_of_ble_eq_true rfl⟩) htab hlocks hS (Nat.le_of_ble_eq_true rfl) (Nat.le_of_ble_eq_true rfl)
set_option maxHeartbeats 4000000 in
set_option maxRecDepth 100000 in
theorem zt_learned (l : Launch) (dC : Nat → ClassId) (dI : Nat → Nat → Nat) (cI cZ cJ : ClassId) (a0 : Array Value) (s0 : State) (hfl : l.flags = Jvm.pinnedFlags ++ [Jvm.noTraceFlag]) (x : Nat) (b : Nat → Nat) (sz : Nat) (p0 p1 p2 : Int32) : tq_Met l yRG_learned [Cond.code yRG_learned bRG_learned 4 (some .int)] ({ frames := 7, cells := 1, slots := 6, locals := 111 } : Room) (zP zCl dC dI (zTY cI cZ cJ) a0 s0 [.ref x, .int p0, .int p1, .int p2] sz [(x, .inr (0, [.ref (b 0), .ref (b 1), .ref (b 2), .ref (b 3), .ref (b 4), .ref (b 5), .int 0, .int 0, .int 0, .int 0, .int 0, .int 0, .int 0])), ((b 0), .inr (1, [.int 0, .int 0, .ref (b 10), .ref (b 11), .ref (b 12), .ref (b 13), .ref (b 14), .ref (b 15), .ref (b 16), .ref (b 17), .ref (b 18)]))]) (tq_Q "java/lang/IllegalArgumentException") 1 6 (zN sz) := by
  refine tq_ofW (cc := bRG_learned) (maxL := 4) (ret := (some .int)) (by decide) rfl ?_
  intro p e s m args below meth c s₁ B hml htab hv
  obtain ⟨rfl, hsz, hP, hK, hD0, hB⟩ := hv
  have hx := B.exec
  have hb := B.bytes
  have hr := B.returns
  have hown : s.vm.findClass "RingGuard" = some m.cls := findClass_of_methodNamed B.named
  have hlocks := B.notSynchronized
  subst hsz
  have hD := hD0
  have hA0 : ∀ q, zN s.heap.size q → s0.heap.size ≤ q := zA1 hB
  have hAD : ∀ q, zN s0.heap.size q → s0.heap.size ≤ q := fun _ h => h
  have hA : ∀ q : Nat, s.heap.size ≤ q → zN s.heap.size q := fun _ h => h
  have hS : va_S (zN s.heap.size) s.heap s.heap [] := va_S.rf
  have hP : va_P (dC, dI) zCl [(x, .inr (0, [.ref (b 0), .ref (b 1), .ref (b 2), .ref (b 3), .ref (b 4), .ref (b 5), .int 0, .int 0, .int 0, .int 0, .int 0, .int 0, .int 0])), ((b 0), .inr (1, [.int 0, .int 0, .ref (b 10), .ref (b 11), .ref (b 12), .ref (b 13), .ref (b 14), .ref (b 15), .ref (b 16), .ref (b 17), .ref (b 18)]))] s.heap := hP
  have hl := lv_entry ([.ref x, .int p0, .int p1, .int p2]) (n := 4) (Nat.le_of_ble_eq_true rfl)
  rw [lg_entry_eq]
  generalize (lg_sl ([.ref x, .int p0, .int p1, .int p2]) ++ List.replicate (4 - (lg_sl ([.ref x, .int p0, .int p1, .int p2])).length) Slot.unset).toArray = ls at hl ⊢
  have hl : lv_has ls 4 [(0, .ref x), (1, .int p0), (2, .int p1), (3, .int p2)] := hl
  refine lv_aload_n hx hb dRG_learned_0 rfl (lv_at hl 0 rfl) ?_
  refine lv_iload_n hx hb dRG_learned_1 rfl (lv_at hl 1 rfl) ?_
  have hPc : va_P (dC, dI) zCl [(x, .inr (0, [.ref (b 0), .ref (b 1), .ref (b 2), .ref (b 3), .ref (b 4), .ref (b 5), .int 0, .int 0, .int 0, .int 0, .int 0, .int 0, .int 0])), ((b 0), .inr (1, [.int 0, .int 0, .ref (b 10), .ref (b 11), .ref (b 12), .ref (b 13), .ref (b 14), .ref (b 15), .ref (b 16), .ref (b 17), .ref (b 18)]))] s.heap := hP.sub [0, 1] rfl
  have hDc : va_D (zN s0.heap.size) [(x, .inr (0, [.ref (b 0), .ref (b 1), .ref (b 2), .ref (b 3), .ref (b 4), .ref (b 5), .int 0, .int 0, .int 0, .int 0, .int 0, .int 0, .int 0])), ((b 0), .inr (1, [.int 0, .int 0, .ref (b 10), .ref (b 11), .ref (b 12), .ref (b 13), .ref (b 14), .ref (b 15), .ref (b 16), .ref (b 17), .ref (b 18)]))] := hD.sub [0, 1] (by decide) rfl
  exact zpass (tq_runV (As := [.int p0]) (rest := []) ⟨hx, hb, hml, hown, zno⟩ (zt_requireBridge l dC dI cI cZ cJ a0 s0 hfl x b s.heap.size p0) (zcw 1 (hB.word (zm2 k2_150) rfl) (hB.word (zm1 k1_1) rfl) (hB.word (zm2 k2_147) rfl) (hB.word (zm2 k2_149) rfl) (k2_selects_private (by decide) (hB.word (zm1 k1_18) rfl) (hB.word (zm2 k2_148) rfl) (hB.word (zm2 k2_149) rfl)) rfl rfl (by decide +kernel) ⟨Nat.le_of_ble_eq_true rfl, Nat.le_of_ble_eq_true rfl⟩) ⟨zP_blind, va_recv hK hP (ci := 0) (q0 := 0) rfl rfl, zP_pre hPc hK hDc hAD (zB_on hB hA0 hS)⟩ rfl rfl hl.1 rfl (lv_room (Nat.le_of_ble_eq_true rfl)) dRG_learned_2 ⟨Nat.le_of_ble_eq_true rfl, Nat.le_of_ble_eq_true rfl⟩) htab hlocks hS (Nat.le_of_ble_eq_true rfl) (Nat.le_of_ble_eq_true rfl)
set_option maxHeartbeats 4000000 in
set_option maxRecDepth 100000 in
theorem zt_joined (l : Launch) (dC : Nat → ClassId) (dI : Nat → Nat → Nat) (cI cZ cJ : ClassId) (a0 : Array Value) (s0 : State) (hfl : l.flags = Jvm.pinnedFlags ++ [Jvm.noTraceFlag]) (x : Nat) (b : Nat → Nat) (sz : Nat) (p0 p1 : Int32) : tq_Met l yRG_joined [Cond.code yRG_joined bRG_joined 3 (some .boolean)] ({ frames := 7, cells := 1, slots := 6, locals := 111 } : Room) (zP zCl dC dI (zTY cI cZ cJ) a0 s0 [.ref x, .int p0, .int p1] sz [(x, .inr (0, [.ref (b 0), .ref (b 1), .ref (b 2), .ref (b 3), .ref (b 4), .ref (b 5), .int 0, .int 0, .int 0, .int 0, .int 0, .int 0, .int 0])), ((b 0), .inr (1, [.int 0, .int 0, .ref (b 10), .ref (b 11), .ref (b 12), .ref (b 13), .ref (b 14), .ref (b 15), .ref (b 16), .ref (b 17), .ref (b 18)]))]) (tq_Q "java/lang/IllegalArgumentException") 1 6 (zN sz) := by
  refine tq_ofW (cc := bRG_joined) (maxL := 3) (ret := (some .boolean)) (by decide) rfl ?_
  intro p e s m args below meth c s₁ B hml htab hv
  obtain ⟨rfl, hsz, hP, hK, hD0, hB⟩ := hv
  have hx := B.exec
  have hb := B.bytes
  have hr := B.returns
  have hown : s.vm.findClass "RingGuard" = some m.cls := findClass_of_methodNamed B.named
  have hlocks := B.notSynchronized
  subst hsz
  have hD := hD0
  have hA0 : ∀ q, zN s.heap.size q → s0.heap.size ≤ q := zA1 hB
  have hAD : ∀ q, zN s0.heap.size q → s0.heap.size ≤ q := fun _ h => h
  have hA : ∀ q : Nat, s.heap.size ≤ q → zN s.heap.size q := fun _ h => h
  have hS : va_S (zN s.heap.size) s.heap s.heap [] := va_S.rf
  have hP : va_P (dC, dI) zCl [(x, .inr (0, [.ref (b 0), .ref (b 1), .ref (b 2), .ref (b 3), .ref (b 4), .ref (b 5), .int 0, .int 0, .int 0, .int 0, .int 0, .int 0, .int 0])), ((b 0), .inr (1, [.int 0, .int 0, .ref (b 10), .ref (b 11), .ref (b 12), .ref (b 13), .ref (b 14), .ref (b 15), .ref (b 16), .ref (b 17), .ref (b 18)]))] s.heap := hP
  have hl := lv_entry ([.ref x, .int p0, .int p1]) (n := 3) (Nat.le_of_ble_eq_true rfl)
  rw [lg_entry_eq]
  generalize (lg_sl ([.ref x, .int p0, .int p1]) ++ List.replicate (3 - (lg_sl ([.ref x, .int p0, .int p1])).length) Slot.unset).toArray = ls at hl ⊢
  have hl : lv_has ls 3 [(0, .ref x), (1, .int p0), (2, .int p1)] := hl
  refine lv_aload_n hx hb dRG_joined_0 rfl (lv_at hl 0 rfl) ?_
  refine lv_iload_n hx hb dRG_joined_1 rfl (lv_at hl 1 rfl) ?_
  have hPc : va_P (dC, dI) zCl [(x, .inr (0, [.ref (b 0), .ref (b 1), .ref (b 2), .ref (b 3), .ref (b 4), .ref (b 5), .int 0, .int 0, .int 0, .int 0, .int 0, .int 0, .int 0])), ((b 0), .inr (1, [.int 0, .int 0, .ref (b 10), .ref (b 11), .ref (b 12), .ref (b 13), .ref (b 14), .ref (b 15), .ref (b 16), .ref (b 17), .ref (b 18)]))] s.heap := hP.sub [0, 1] rfl
  have hDc : va_D (zN s0.heap.size) [(x, .inr (0, [.ref (b 0), .ref (b 1), .ref (b 2), .ref (b 3), .ref (b 4), .ref (b 5), .int 0, .int 0, .int 0, .int 0, .int 0, .int 0, .int 0])), ((b 0), .inr (1, [.int 0, .int 0, .ref (b 10), .ref (b 11), .ref (b 12), .ref (b 13), .ref (b 14), .ref (b 15), .ref (b 16), .ref (b 17), .ref (b 18)]))] := hD.sub [0, 1] (by decide) rfl
  exact zpass (tq_runV (As := [.int p0]) (rest := []) ⟨hx, hb, hml, hown, zno⟩ (zt_requireBridge l dC dI cI cZ cJ a0 s0 hfl x b s.heap.size p0) (zcw 1 (hB.word (zm2 k2_150) rfl) (hB.word (zm1 k1_1) rfl) (hB.word (zm2 k2_147) rfl) (hB.word (zm2 k2_149) rfl) (k2_selects_private (by decide) (hB.word (zm1 k1_18) rfl) (hB.word (zm2 k2_148) rfl) (hB.word (zm2 k2_149) rfl)) rfl rfl (by decide +kernel) ⟨Nat.le_of_ble_eq_true rfl, Nat.le_of_ble_eq_true rfl⟩) ⟨zP_blind, va_recv hK hP (ci := 0) (q0 := 0) rfl rfl, zP_pre hPc hK hDc hAD (zB_on hB hA0 hS)⟩ rfl rfl hl.1 rfl (lv_room (Nat.le_of_ble_eq_true rfl)) dRG_joined_2 ⟨Nat.le_of_ble_eq_true rfl, Nat.le_of_ble_eq_true rfl⟩) htab hlocks hS (Nat.le_of_ble_eq_true rfl) (Nat.le_of_ble_eq_true rfl)
