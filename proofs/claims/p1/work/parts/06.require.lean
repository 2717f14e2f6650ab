set_option maxHeartbeats 4000000 in
set_option maxRecDepth 100000 in
theorem zt_requireBridge (l : Launch) (dC : Nat → ClassId) (dI : Nat → Nat → Nat) (cI cZ cJ : ClassId) (a0 : Array Value) (s0 : State) (hfl : l.flags = Jvm.pinnedFlags ++ [Jvm.noTraceFlag]) (x : Nat) (b : Nat → Nat) (sz : Nat) (v : Int32) : tq_Met l yRG_requireBridge [Cond.code yRG_requireBridge bRG_requireBridge 2 none] ({ frames := 6, cells := 1, slots := 6, locals := 90 } : Room) (zP zCl dC dI (zTY cI cZ cJ) a0 s0 [.ref x, .int v] sz [(x, .inr (0, [.ref (b 0), .ref (b 1), .ref (b 2), .ref (b 3), .ref (b 4), .ref (b 5), .int 0, .int 0, .int 0, .int 0, .int 0, .int 0, .int 0])), ((b 0), .inr (1, [.int 0, .int 0, .ref (b 10), .ref (b 11), .ref (b 12), .ref (b 13), .ref (b 14), .ref (b 15), .ref (b 16), .ref (b 17), .ref (b 18)]))]) (tq_Q "java/lang/IllegalArgumentException") 1 6 (zN sz) := by
  refine tq_ofW (cc := bRG_requireBridge) (maxL := 2) (ret := none) (by decide) rfl ?_
  intro p e s m args below meth c s₁ B hml htab hv
  obtain ⟨rfl, hsz, hP, hK, hD0, hB⟩ := hv
  have hx := B.exec
  have hb := B.bytes
  have hr := B.returns
  have hown : s.vm.findClass "RingGuard" = some m.cls := findClass_of_methodNamed B.named
  have hlocks := B.notSynchronized
  subst hsz
  have hD := hD0
  have hA0 : ∀ q, zN s.heap.size q → s0.heap.size ≤ q := zA1 hB
  have hAD : ∀ q, zN s0.heap.size q → s0.heap.size ≤ q := fun _ h => h
  have hA : ∀ q : Nat, s.heap.size ≤ q → zN s.heap.size q := fun _ h => h
  have hS : va_S (zN s.heap.size) s.heap s.heap [] := va_S.rf
  have hP : va_P (dC, dI) zCl [(x, .inr (0, [.ref (b 0), .ref (b 1), .ref (b 2), .ref (b 3), .ref (b 4), .ref (b 5), .int 0, .int 0, .int 0, .int 0, .int 0, .int 0, .int 0])), ((b 0), .inr (1, [.int 0, .int 0, .ref (b 10), .ref (b 11), .ref (b 12), .ref (b 13), .ref (b 14), .ref (b 15), .ref (b 16), .ref (b 17), .ref (b 18)]))] s.heap := hP
  have hl := lv_entry ([.ref x, .int v]) (n := 2) (Nat.le_of_ble_eq_true rfl)
  rw [lg_entry_eq]
  generalize (lg_sl ([.ref x, .int v]) ++ List.replicate (2 - (lg_sl ([.ref x, .int v])).length) Slot.unset).toArray = ls at hl ⊢
  have hl : lv_has ls 2 [(0, .ref x), (1, .int v)] := hl
  refine lv_iload_n hx hb dRG_requireBridge_0 rfl (lv_at hl 1 rfl) ?_
  refine lv_if_lt (tgt := 15) hx hb dRG_requireBridge_1 (by decide) (fun c_1 => ?_) (fun c_1 => ?_)
  · obtain ⟨qs, hZ⟩ := hB.str (zm2 k2_160)
    exact zthrow hfl hx hb hown (hB.word (zm2 k2_151) rfl) (hB.word (zm1 k1_14) rfl) hZ (by decide) (hB.words zO_80) (by rw [hml]; exact hl.1) htab hlocks dRG_requireBridge_15 dRG_requireBridge_18 dRG_requireBridge_19 dRG_requireBridge_21 dRG_requireBridge_24 (Nat.le_of_ble_eq_true rfl) (Nat.le_of_ble_eq_true rfl) (Nat.le_of_ble_eq_true rfl) (Nat.le_of_ble_eq_true rfl) hS rfl rfl
  · refine lv_iload_n hx hb dRG_requireBridge_4 rfl (lv_at hl 1 rfl) ?_
    refine lv_aload_n hx hb dRG_requireBridge_5 rfl (lv_at hl 0 rfl) ?_
    have hu0 : ∀ w ∈ u_ws "RingGuard" T_RG 13, w.before ([.ref x, .int v] : List Value).toArray s = true := hB.words zU_RG
    refine va_get (D := (dC, dI)) (ci := 0) (v := .ref (b 0)) (C := "RingGuard") (T := T_RG) (N := 13) hx hb hu0 zid hown hK hP 0 rfl rfl 0 (by decide) (hB.word (zm1 k1_235) rfl) (fun _ h9 => h9) rfl dRG_requireBridge_6 ?_
    have hu1 : ∀ w ∈ u_ws "RingGuard$Plan" T_PL 11, w.before ([.ref x, .int v] : List Value).toArray s = true := hB.words zU_PL
    refine va_get (D := (dC, dI)) (ci := 1) (v := .int 0) (C := "RingGuard$Plan") (T := T_PL) (N := 11) hx hb hu1 zid hown hK hP 1 rfl rfl 0 (by decide) (hB.word (zm1 k1_34) rfl) (fun _ h9 => h9) rfl dRG_requireBridge_9 ?_
    refine lv_icmp_lt (tgt := 25) hx hb dRG_requireBridge_12 (by decide) (fun c9 => absurd c9 c_1) (fun _ => ?_)
    obtain ⟨qs, hZ⟩ := hB.str (zm2 k2_160)
    exact zthrow hfl hx hb hown (hB.word (zm2 k2_151) rfl) (hB.word (zm1 k1_14) rfl) hZ (by decide) (hB.words zO_80) (by rw [hml]; exact hl.1) htab hlocks dRG_requireBridge_15 dRG_requireBridge_18 dRG_requireBridge_19 dRG_requireBridge_21 dRG_requireBridge_24 (Nat.le_of_ble_eq_true rfl) (Nat.le_of_ble_eq_true rfl) (Nat.le_of_ble_eq_true rfl) (Nat.le_of_ble_eq_true rfl) hS rfl rfl
set_option maxHeartbeats 4000000 in
set_option maxRecDepth 100000 in
theorem zt_requireLink (l : Launch) (dC : Nat → ClassId) (dI : Nat → Nat → Nat) (cI cZ cJ : ClassId) (a0 : Array Value) (s0 : State) (hfl : l.flags = Jvm.pinnedFlags ++ [Jvm.noTraceFlag]) (x : Nat) (b : Nat → Nat) (sz : Nat) (v : Int32) : tq_Met l yRG_requireLink [Cond.code yRG_requireLink bRG_requireLink 2 none] ({ frames := 6, cells := 1, slots := 6, locals := 90 } : Room) (zP zCl dC dI (zTY cI cZ cJ) a0 s0 [.ref x, .int v] sz [(x, .inr (0, [.ref (b 0), .ref (b 1), .ref (b 2), .ref (b 3), .ref (b 4), .ref (b 5), .int 0, .int 0, .int 0, .int 0, .int 0, .int 0, .int 0])), ((b 0), .inr (1, [.int 0, .int 0, .ref (b 10), .ref (b 11), .ref (b 12), .ref (b 13), .ref (b 14), .ref (b 15), .ref (b 16), .ref (b 17), .ref (b 18)]))]) (tq_Q "java/lang/IllegalArgumentException") 1 6 (zN sz) := by
  refine tq_ofW (cc := bRG_requireLink) (maxL := 2) (ret := none) (by decide) rfl ?_
  intro p e s m args below meth c s₁ B hml htab hv
  obtain ⟨rfl, hsz, hP, hK, hD0, hB⟩ := hv
  have hx := B.exec
  have hb := B.bytes
  have hr := B.returns
  have hown : s.vm.findClass "RingGuard" = some m.cls := findClass_of_methodNamed B.named
  have hlocks := B.notSynchronized
  subst hsz
  have hD := hD0
  have hA0 : ∀ q, zN s.heap.size q → s0.heap.size ≤ q := zA1 hB
  have hAD : ∀ q, zN s0.heap.size q → s0.heap.size ≤ q := fun _ h => h
  have hA : ∀ q : Nat, s.heap.size ≤ q → zN s.heap.size q := fun _ h => h
  have hS : va_S (zN s.heap.size) s.heap s.heap [] := va_S.rf
  have hP : va_P (dC, dI) zCl [(x, .inr (0, [.ref (b 0), .ref (b 1), .ref (b 2), .ref (b 3), .ref (b 4), .ref (b 5), .int 0, .int 0, .int 0, .int 0, .int 0, .int 0, .int 0])), ((b 0), .inr (1, [.int 0, .int 0, .ref (b 10), .ref (b 11), .ref (b 12), .ref (b 13), .ref (b 14), .ref (b 15), .ref (b 16), .ref (b 17), .ref (b 18)]))] s.heap := hP
  have hl := lv_entry ([.ref x, .int v]) (n := 2) (Nat.le_of_ble_eq_true rfl)
  rw [lg_entry_eq]
  generalize (lg_sl ([.ref x, .int v]) ++ List.replicate (2 - (lg_sl ([.ref x, .int v])).length) Slot.unset).toArray = ls at hl ⊢
  have hl : lv_has ls 2 [(0, .ref x), (1, .int v)] := hl
  refine lv_iload_n hx hb dRG_requireLink_0 rfl (lv_at hl 1 rfl) ?_
  refine lv_if_lt (tgt := 15) hx hb dRG_requireLink_1 (by decide) (fun c_1 => ?_) (fun c_1 => ?_)
  · obtain ⟨qs, hZ⟩ := hB.str (zm2 k2_189)
    exact zthrow hfl hx hb hown (hB.word (zm2 k2_151) rfl) (hB.word (zm1 k1_14) rfl) hZ (by decide) (hB.words zO_80) (by rw [hml]; exact hl.1) htab hlocks dRG_requireLink_15 dRG_requireLink_18 dRG_requireLink_19 dRG_requireLink_21 dRG_requireLink_24 (Nat.le_of_ble_eq_true rfl) (Nat.le_of_ble_eq_true rfl) (Nat.le_of_ble_eq_true rfl) (Nat.le_of_ble_eq_true rfl) hS rfl rfl
  · refine lv_iload_n hx hb dRG_requireLink_4 rfl (lv_at hl 1 rfl) ?_
    refine lv_aload_n hx hb dRG_requireLink_5 rfl (lv_at hl 0 rfl) ?_
    have hu0 : ∀ w ∈ u_ws "RingGuard" T_RG 13, w.before ([.ref x, .int v] : List Value).toArray s = true := hB.words zU_RG
    refine va_get (D := (dC, dI)) (ci := 0) (v := .ref (b 0)) (C := "RingGuard") (T := T_RG) (N := 13) hx hb hu0 zid hown hK hP 0 rfl rfl 0 (by decide) (hB.word (zm1 k1_235) rfl) (fun _ h9 => h9) rfl dRG_requireLink_6 ?_
    have hu1 : ∀ w ∈ u_ws "RingGuard$Plan" T_PL 11, w.before ([.ref x, .int v] : List Value).toArray s = true := hB.words zU_PL
    refine va_get (D := (dC, dI)) (ci := 1) (v := .int 0) (C := "RingGuard$Plan") (T := T_PL) (N := 11) hx hb hu1 zid hown hK hP 1 rfl rfl 1 (by decide) (hB.word (zm1 k1_39) rfl) (fun _ h9 => h9) rfl dRG_requireLink_9 ?_
    refine lv_icmp_lt (tgt := 25) hx hb dRG_requireLink_12 (by decide) (fun c9 => absurd c9 c_1) (fun _ => ?_)
    obtain ⟨qs, hZ⟩ := hB.str (zm2 k2_189)
    exact zthrow hfl hx hb hown (hB.word (zm2 k2_151) rfl) (hB.word (zm1 k1_14) rfl) hZ (by decide) (hB.words zO_80) (by rw [hml]; exact hl.1) htab hlocks dRG_requireLink_15 dRG_requireLink_18 dRG_requireLink_19 dRG_requireLink_21 dRG_requireLink_24 (Nat.le_of_ble_eq_true rfl) (Nat.le_of_ble_eq_true rfl) (Nat.le_of_ble_eq_true rfl) (Nat.le_of_ble_eq_true rfl) hS rfl rfl
set_option maxHeartbeats 4000000 in
set_option maxRecDepth 100000 in
theorem zt_requireRing (l : Launch) (dC : Nat → ClassId) (dI : Nat → Nat → Nat) (cI cZ cJ : ClassId) (a0 : Array Value) (s0 : State) (hfl : l.flags = Jvm.pinnedFlags ++ [Jvm.noTraceFlag]) (x : Nat) (b : Nat → Nat) (sz : Nat) (v : Int32) (hv : ¬ v < 0 → ¬ v < 6) : tq_Met l yRG_requireRing [Cond.code yRG_requireRing bRG_requireRing 2 none] ({ frames := 6, cells := 1, slots := 6, locals := 90 } : Room) (zP zCl dC dI (zTY cI cZ cJ) a0 s0 [.ref x, .int v] sz [(x, .inr (0, [.ref (b 0), .ref (b 1), .ref (b 2), .ref (b 3), .ref (b 4), .ref (b 5), .int 0, .int 0, .int 0, .int 0, .int 0, .int 0, .int 0]))]) (tq_Q "java/lang/IllegalArgumentException") 1 6 (zN sz) := by
  refine tq_ofW (cc := bRG_requireRing) (maxL := 2) (ret := none) (by decide) rfl ?_
  intro p e s m args below meth c s₁ B hml htab hv
  obtain ⟨rfl, hsz, hP, hK, hD0, hB⟩ := hv
  have hx := B.exec
  have hb := B.bytes
  have hr := B.returns
  have hown : s.vm.findClass "RingGuard" = some m.cls := findClass_of_methodNamed B.named
  have hlocks := B.notSynchronized
  subst hsz
  have hD := hD0
  have hA0 : ∀ q, zN s.heap.size q → s0.heap.size ≤ q := zA1 hB
  have hAD : ∀ q, zN s0.heap.size q → s0.heap.size ≤ q := fun _ h => h
  have hA : ∀ q : Nat, s.heap.size ≤ q → zN s.heap.size q := fun _ h => h
  have hS : va_S (zN s.heap.size) s.heap s.heap [] := va_S.rf
  have hP : va_P (dC, dI) zCl [(x, .inr (0, [.ref (b 0), .ref (b 1), .ref (b 2), .ref (b 3), .ref (b 4), .ref (b 5), .int 0, .int 0, .int 0, .int 0, .int 0, .int 0, .int 0]))] s.heap := hP
  have hl := lv_entry ([.ref x, .int v]) (n := 2) (Nat.le_of_ble_eq_true rfl)
  rw [lg_entry_eq]
  generalize (lg_sl ([.ref x, .int v]) ++ List.replicate (2 - (lg_sl ([.ref x, .int v])).length) Slot.unset).toArray = ls at hl ⊢
  have hl : lv_has ls 2 [(0, .ref x), (1, .int v)] := hl
  refine lv_iload_n hx hb dRG_requireRing_0 rfl (lv_at hl 1 rfl) ?_
  refine lv_if_lt (tgt := 10) hx hb dRG_requireRing_1 (by decide) (fun c_1 => ?_) (fun c_1 => ?_)
  · obtain ⟨qs, hZ⟩ := hB.str (zm2 k2_171)
    exact zthrow hfl hx hb hown (hB.word (zm2 k2_151) rfl) (hB.word (zm1 k1_14) rfl) hZ (by decide) (hB.words zO_80) (by rw [hml]; exact hl.1) htab hlocks dRG_requireRing_10 dRG_requireRing_13 dRG_requireRing_14 dRG_requireRing_16 dRG_requireRing_19 (Nat.le_of_ble_eq_true rfl) (Nat.le_of_ble_eq_true rfl) (Nat.le_of_ble_eq_true rfl) (Nat.le_of_ble_eq_true rfl) hS rfl rfl
  · refine lv_iload_n hx hb dRG_requireRing_4 rfl (lv_at hl 1 rfl) ?_
    refine lv_bipush (v := 6) hx hb dRG_requireRing_5 (by decide) ?_
    refine lv_icmp_lt (tgt := 20) hx hb dRG_requireRing_7 (by decide) (fun c9 => absurd c9 (hv c_1)) (fun _ => ?_)
    obtain ⟨qs, hZ⟩ := hB.str (zm2 k2_171)
    exact zthrow hfl hx hb hown (hB.word (zm2 k2_151) rfl) (hB.word (zm1 k1_14) rfl) hZ (by decide) (hB.words zO_80) (by rw [hml]; exact hl.1) htab hlocks dRG_requireRing_10 dRG_requireRing_13 dRG_requireRing_14 dRG_requireRing_16 dRG_requireRing_19 (Nat.le_of_ble_eq_true rfl) (Nat.le_of_ble_eq_true rfl) (Nat.le_of_ble_eq_true rfl) (Nat.le_of_ble_eq_true rfl) hS rfl rfl
set_option maxHeartbeats 4000000 in
set_option maxRecDepth 100000 in
theorem zo_requireRing (l : Launch) (dC : Nat → ClassId) (dI : Nat → Nat → Nat) (cI cZ cJ : ClassId) (a0 : Array Value) (s0 : State) (x : Nat) (b : Nat → Nat) (sz : Nat) (v : Int32) (h0 : ¬ v < 0) (h1 : v < 6) : Met l yRG_requireRing [Cond.code yRG_requireRing bRG_requireRing 2 none] ({ frames := 0, cells := 0, slots := 0, locals := 0 } : Room) (zP zCl dC dI (zTY cI cZ cJ) a0 s0 [.ref x, .int v] sz [(x, .inr (0, [.ref (b 0), .ref (b 1), .ref (b 2), .ref (b 3), .ref (b 4), .ref (b 5), .int 0, .int 0, .int 0, .int 0, .int 0, .int 0, .int 0]))]) (zQo sz) 0 0 (zN sz) := by
  refine Met.ofW (cc := bRG_requireRing) (maxL := 2) (ret := none) (by decide) rfl ?_
  intro p e s m args below meth c s₁ B hml hv
  obtain ⟨rfl, hsz, hP, hK, hD0, hB⟩ := hv
  have hx := B.exec
  have hb := B.bytes
  have hr := B.returns
  have hown : s.vm.findClass "RingGuard" = some m.cls := findClass_of_methodNamed B.named
  have hlocks := B.notSynchronized
  subst hsz
  have hD := hD0
  have hA0 : ∀ q, zN s.heap.size q → s0.heap.size ≤ q := zA1 hB
  have hAD : ∀ q, zN s0.heap.size q → s0.heap.size ≤ q := fun _ h => h
  have hA : ∀ q : Nat, s.heap.size ≤ q → zN s.heap.size q := fun _ h => h
  have hS : va_S (zN s.heap.size) s.heap s.heap [] := va_S.rf
  have hP : va_P (dC, dI) zCl [(x, .inr (0, [.ref (b 0), .ref (b 1), .ref (b 2), .ref (b 3), .ref (b 4), .ref (b 5), .int 0, .int 0, .int 0, .int 0, .int 0, .int 0, .int 0]))] s.heap := hP
  have hl := lv_entry ([.ref x, .int v]) (n := 2) (Nat.le_of_ble_eq_true rfl)
  rw [lg_entry_eq]
  generalize (lg_sl ([.ref x, .int v]) ++ List.replicate (2 - (lg_sl ([.ref x, .int v])).length) Slot.unset).toArray = ls at hl ⊢
  have hl : lv_has ls 2 [(0, .ref x), (1, .int v)] := hl
  refine lv_iload_n hx hb dRG_requireRing_0 rfl (lv_at hl 1 rfl) ?_
  refine lv_if_lt (tgt := 10) hx hb dRG_requireRing_1 (by decide) (fun c9 => absurd c9 h0) (fun _ => ?_)
  refine lv_iload_n hx hb dRG_requireRing_4 rfl (lv_at hl 1 rfl) ?_
  refine lv_bipush (v := 6) hx hb dRG_requireRing_5 (by decide) ?_
  refine lv_icmp_lt (tgt := 20) hx hb dRG_requireRing_7 (by decide) (fun _ => ?_) (fun c9 => absurd h1 c9)
  refine W.widen (k := 0) (n := 0) (Nat.le_of_ble_eq_true rfl) (Nat.le_of_ble_eq_true rfl) ?_
  exact W.vret hx hb hr (fun t ht hW => ⟨⟨(), rfl, trivial, trivial⟩, hS.F ht⟩) hS.2.2 dRG_requireRing_20
set_option maxHeartbeats 4000000 in
set_option maxRecDepth 100000 in
theorem zt_requireHost (l : Launch) (dC : Nat → ClassId) (dI : Nat → Nat → Nat) (cI cZ cJ : ClassId) (a0 : Array Value) (s0 : State) (hfl : l.flags = Jvm.pinnedFlags ++ [Jvm.noTraceFlag]) (x : Nat) (b : Nat → Nat) (sz : Nat) (v : Int32) (hv : ¬ v < 0 → ¬ v < 64) : tq_Met l yRG_requireHost [Cond.code yRG_requireHost bRG_requireHost 2 none] ({ frames := 6, cells := 1, slots := 6, locals := 90 } : Room) (zP zCl dC dI (zTY cI cZ cJ) a0 s0 [.ref x, .int v] sz [(x, .inr (0, [.ref (b 0), .ref (b 1), .ref (b 2), .ref (b 3), .ref (b 4), .ref (b 5), .int 0, .int 0, .int 0, .int 0, .int 0, .int 0, .int 0]))]) (tq_Q "java/lang/IllegalArgumentException") 1 6 (zN sz) := by
  refine tq_ofW (cc := bRG_requireHost) (maxL := 2) (ret := none) (by decide) rfl ?_
  intro p e s m args below meth c s₁ B hml htab hv
  obtain ⟨rfl, hsz, hP, hK, hD0, hB⟩ := hv
  have hx := B.exec
  have hb := B.bytes
  have hr := B.returns
  have hown : s.vm.findClass "RingGuard" = some m.cls := findClass_of_methodNamed B.named
  have hlocks := B.notSynchronized
  subst hsz
  have hD := hD0
  have hA0 : ∀ q, zN s.heap.size q → s0.heap.size ≤ q := zA1 hB
  have hAD : ∀ q, zN s0.heap.size q → s0.heap.size ≤ q := fun _ h => h
  have hA : ∀ q : Nat, s.heap.size ≤ q → zN s.heap.size q := fun _ h => h
  have hS : va_S (zN s.heap.size) s.heap s.heap [] := va_S.rf
  have hP : va_P (dC, dI) zCl [(x, .inr (0, [.ref (b 0), .ref (b 1), .ref (b 2), .ref (b 3), .ref (b 4), .ref (b 5), .int 0, .int 0, .int 0, .int 0, .int 0, .int 0, .int 0]))] s.heap := hP
  have hl := lv_entry ([.ref x, .int v]) (n := 2) (Nat.le_of_ble_eq_true rfl)
  rw [lg_entry_eq]
  generalize (lg_sl ([.ref x, .int v]) ++ List.replicate (2 - (lg_sl ([.ref x, .int v])).length) Slot.unset).toArray = ls at hl ⊢
  have hl : lv_has ls 2 [(0, .ref x), (1, .int v)] := hl
  refine lv_iload_n hx hb dRG_requireHost_0 rfl (lv_at hl 1 rfl) ?_
  refine lv_if_lt (tgt := 10) hx hb dRG_requireHost_1 (by decide) (fun c_1 => ?_) (fun c_1 => ?_)
  · obtain ⟨qs, hZ⟩ := hB.str (zm4 k4_31)
    exact zthrow hfl hx hb hown (hB.word (zm2 k2_151) rfl) (hB.word (zm1 k1_14) rfl) hZ (by decide) (hB.words zO_80) (by rw [hml]; exact hl.1) htab hlocks dRG_requireHost_10 dRG_requireHost_13 dRG_requireHost_14 dRG_requireHost_16 dRG_requireHost_19 (Nat.le_of_ble_eq_true rfl) (Nat.le_of_ble_eq_true rfl) (Nat.le_of_ble_eq_true rfl) (Nat.le_of_ble_eq_true rfl) hS rfl rfl
  · refine lv_iload_n hx hb dRG_requireHost_4 rfl (lv_at hl 1 rfl) ?_
    refine lv_bipush (v := 64) hx hb dRG_requireHost_5 (by decide) ?_
    refine lv_icmp_lt (tgt := 20) hx hb dRG_requireHost_7 (by decide) (fun c9 => absurd c9 (hv c_1)) (fun _ => ?_)
    obtain ⟨qs, hZ⟩ := hB.str (zm4 k4_31)
    exact zthrow hfl hx hb hown (hB.word (zm2 k2_151) rfl) (hB.word (zm1 k1_14) rfl) hZ (by decide) (hB.words zO_80) (by rw [hml]; exact hl.1) htab hlocks dRG_requireHost_10 dRG_requireHost_13 dRG_requireHost_14 dRG_requireHost_16 dRG_requireHost_19 (Nat.le_of_ble_eq_true rfl) (Nat.le_of_ble_eq_true rfl) (Nat.le_of_ble_eq_true rfl) (Nat.le_of_ble_eq_true rfl) hS rfl rfl
set_option maxHeartbeats 4000000 in
set_option maxRecDepth 100000 in
theorem zo_requireHost (l : Launch) (dC : Nat → ClassId) (dI : Nat → Nat → Nat) (cI cZ cJ : ClassId) (a0 : Array Value) (s0 : State) (x : Nat) (b : Nat → Nat) (sz : Nat) (v : Int32) (h0 : ¬ v < 0) (h1 : v < 64) : Met l yRG_requireHost [Cond.code yRG_requireHost bRG_requireHost 2 none] ({ frames := 0, cells := 0, slots := 0, locals := 0 } : Room) (zP zCl dC dI (zTY cI cZ cJ) a0 s0 [.ref x, .int v] sz [(x, .inr (0, [.ref (b 0), .ref (b 1), .ref (b 2), .ref (b 3), .ref (b 4), .ref (b 5), .int 0, .int 0, .int 0, .int 0, .int 0, .int 0, .int 0]))]) (zQo sz) 0 0 (zN sz) := by
  refine Met.ofW (cc := bRG_requireHost) (maxL := 2) (ret := none) (by decide) rfl ?_
  intro p e s m args below meth c s₁ B hml hv
  obtain ⟨rfl, hsz, hP, hK, hD0, hB⟩ := hv
  have hx := B.exec
  have hb := B.bytes
  have hr := B.returns
  have hown : s.vm.findClass "RingGuard" = some m.cls := findClass_of_methodNamed B.named
  have hlocks := B.notSynchronized
  subst hsz
  have hD := hD0
  have hA0 : ∀ q, zN s.heap.size q → s0.heap.size ≤ q := zA1 hB
  have hAD : ∀ q, zN s0.heap.size q → s0.heap.size ≤ q := fun _ h => h
  have hA : ∀ q : Nat, s.heap.size ≤ q → zN s.heap.size q := fun _ h => h
  have hS : va_S (zN s.heap.size) s.heap s.heap [] := va_S.rf
  have hP : va_P (dC, dI) zCl [(x, .inr (0, [.ref (b 0), .ref (b 1), .ref (b 2), .ref (b 3), .ref (b 4), .ref (b 5), .int 0, .int 0, .int 0, .int 0, .int 0, .int 0, .int 0]))] s.heap := hP
  have hl := lv_entry ([.ref x, .int v]) (n := 2) (Nat.le_of_ble_eq_true rfl)
  rw [lg_entry_eq]
  generalize (lg_sl ([.ref x, .int v]) ++ List.replicate (2 - (lg_sl ([.ref x, .int v])).length) Slot.unset).toArray = ls at hl ⊢
  have hl : lv_has ls 2 [(0, .ref x), (1, .int v)] := hl
  refine lv_iload_n hx hb dRG_requireHost_0 rfl (lv_at hl 1 rfl) ?_
  refine lv_if_lt (tgt := 10) hx hb dRG_requireHost_1 (by decide) (fun c9 => absurd c9 h0) (fun _ => ?_)
  refine lv_iload_n hx hb dRG_requireHost_4 rfl (lv_at hl 1 rfl) ?_
  refine lv_bipush (v := 64) hx hb dRG_requireHost_5 (by decide) ?_
  refine lv_icmp_lt (tgt := 20) hx hb dRG_requireHost_7 (by decide) (fun _ => ?_) (fun c9 => absurd h1 c9)
  refine W.widen (k := 0) (n := 0) (Nat.le_of_ble_eq_true rfl) (Nat.le_of_ble_eq_true rfl) ?_
  exact W.vret hx hb hr (fun t ht hW => ⟨⟨(), rfl, trivial, trivial⟩, hS.F ht⟩) hS.2.2 dRG_requireHost_20
set_option maxHeartbeats 4000000 in
set_option maxRecDepth 100000 in
theorem zt_requireTag (l : Launch) (dC : Nat → ClassId) (dI : Nat → Nat → Nat) (cI cZ cJ : ClassId) (a0 : Array Value) (s0 : State) (hfl : l.flags = Jvm.pinnedFlags ++ [Jvm.noTraceFlag]) (x : Nat) (b : Nat → Nat) (sz : Nat) (v : Int32) (hv : ¬ v < 0 → ¬ v < 4) : tq_Met l yRG_requireTag [Cond.code yRG_requireTag bRG_requireTag 2 none] ({ frames := 6, cells := 1, slots := 6, locals := 90 } : Room) (zP zCl dC dI (zTY cI cZ cJ) a0 s0 [.ref x, .int v] sz [(x, .inr (0, [.ref (b 0), .ref (b 1), .ref (b 2), .ref (b 3), .ref (b 4), .ref (b 5), .int 0, .int 0, .int 0, .int 0, .int 0, .int 0, .int 0]))]) (tq_Q "java/lang/IllegalArgumentException") 1 6 (zN sz) := by
  refine tq_ofW (cc := bRG_requireTag) (maxL := 2) (ret := none) (by decide) rfl ?_
  intro p e s m args below meth c s₁ B hml htab hv
  obtain ⟨rfl, hsz, hP, hK, hD0, hB⟩ := hv
  have hx := B.exec
  have hb := B.bytes
  have hr := B.returns
  have hown : s.vm.findClass "RingGuard" = some m.cls := findClass_of_methodNamed B.named
  have hlocks := B.notSynchronized
  subst hsz
  have hD := hD0
  have hA0 : ∀ q, zN s.heap.size q → s0.heap.size ≤ q := zA1 hB
  have hAD : ∀ q, zN s0.heap.size q → s0.heap.size ≤ q := fun _ h => h
  have hA : ∀ q : Nat, s.heap.size ≤ q → zN s.heap.size q := fun _ h => h
  have hS : va_S (zN s.heap.size) s.heap s.heap [] := va_S.rf
  have hP : va_P (dC, dI) zCl [(x, .inr (0, [.ref (b 0), .ref (b 1), .ref (b 2), .ref (b 3), .ref (b 4), .ref (b 5), .int 0, .int 0, .int 0, .int 0, .int 0, .int 0, .int 0]))] s.heap := hP
  have hl := lv_entry ([.ref x, .int v]) (n := 2) (Nat.le_of_ble_eq_true rfl)
  rw [lg_entry_eq]
  generalize (lg_sl ([.ref x, .int v]) ++ List.replicate (2 - (lg_sl ([.ref x, .int v])).length) Slot.unset).toArray = ls at hl ⊢
  have hl : lv_has ls 2 [(0, .ref x), (1, .int v)] := hl
  refine lv_iload_n hx hb dRG_requireTag_0 rfl (lv_at hl 1 rfl) ?_
  refine lv_if_lt (tgt := 9) hx hb dRG_requireTag_1 (by decide) (fun c_1 => ?_) (fun c_1 => ?_)
  · obtain ⟨qs, hZ⟩ := hB.str (zm4 k4_47)
    exact zthrow hfl hx hb hown (hB.word (zm2 k2_151) rfl) (hB.word (zm1 k1_14) rfl) hZ (by decide) (hB.words zO_80) (by rw [hml]; exact hl.1) htab hlocks dRG_requireTag_9 dRG_requireTag_12 dRG_requireTag_13 dRG_requireTag_15 dRG_requireTag_18 (Nat.le_of_ble_eq_true rfl) (Nat.le_of_ble_eq_true rfl) (Nat.le_of_ble_eq_true rfl) (Nat.le_of_ble_eq_true rfl) hS rfl rfl
  · refine lv_iload_n hx hb dRG_requireTag_4 rfl (lv_at hl 1 rfl) ?_
    refine lv_iconst (v := 4) hx hb dRG_requireTag_5 (by decide) ?_
    refine lv_icmp_lt (tgt := 19) hx hb dRG_requireTag_6 (by decide) (fun c9 => absurd c9 (hv c_1)) (fun _ => ?_)
    obtain ⟨qs, hZ⟩ := hB.str (zm4 k4_47)
    exact zthrow hfl hx hb hown (hB.word (zm2 k2_151) rfl) (hB.word (zm1 k1_14) rfl) hZ (by decide) (hB.words zO_80) (by rw [hml]; exact hl.1) htab hlocks dRG_requireTag_9 dRG_requireTag_12 dRG_requireTag_13 dRG_requireTag_15 dRG_requireTag_18 (Nat.le_of_ble_eq_true rfl) (Nat.le_of_ble_eq_true rfl) (Nat.le_of_ble_eq_true rfl) (Nat.le_of_ble_eq_true rfl) hS rfl rfl
set_option maxHeartbeats 4000000 in
set_option maxRecDepth 100000 in
theorem zo_requireTag (l : Launch) (dC : Nat → ClassId) (dI : Nat → Nat → Nat) (cI cZ cJ : ClassId) (a0 : Array Value) (s0 : State) (x : Nat) (b : Nat → Nat) (sz : Nat) (v : Int32) (h0 : ¬ v < 0) (h1 : v < 4) : Met l yRG_requireTag [Cond.code yRG_requireTag bRG_requireTag 2 none] ({ frames := 0, cells := 0, slots := 0, locals := 0 } : Room) (zP zCl dC dI (zTY cI cZ cJ) a0 s0 [.ref x, .int v] sz [(x, .inr (0, [.ref (b 0), .ref (b 1), .ref (b 2), .ref (b 3), .ref (b 4), .ref (b 5), .int 0, .int 0, .int 0, .int 0, .int 0, .int 0, .int 0]))]) (zQo sz) 0 0 (zN sz) := by
  refine Met.ofW (cc := bRG_requireTag) (maxL := 2) (ret := none) (by decide) rfl ?_
  intro p e s m args below meth c s₁ B hml hv
  obtain ⟨rfl, hsz, hP, hK, hD0, hB⟩ := hv
  have hx := B.exec
  have hb := B.bytes
  have hr := B.returns
  have hown : s.vm.findClass "RingGuard" = some m.cls := findClass_of_methodNamed B.named
  have hlocks := B.notSynchronized
  subst hsz
  have hD := hD0
  have hA0 : ∀ q, zN s.heap.size q → s0.heap.size ≤ q := zA1 hB
  have hAD : ∀ q, zN s0.heap.size q → s0.heap.size ≤ q := fun _ h => h
  have hA : ∀ q : Nat, s.heap.size ≤ q → zN s.heap.size q := fun _ h => h
  have hS : va_S (zN s.heap.size) s.heap s.heap [] := va_S.rf
  have hP : va_P (dC, dI) zCl [(x, .inr (0, [.ref (b 0), .ref (b 1), .ref (b 2), .ref (b 3), .ref (b 4), .ref (b 5), .int 0, .int 0, .int 0, .int 0, .int 0, .int 0, .int 0]))] s.heap := hP
  have hl := lv_entry ([.ref x, .int v]) (n := 2) (Nat.le_of_ble_eq_true rfl)
  rw [lg_entry_eq]
  generalize (lg_sl ([.ref x, .int v]) ++ List.replicate (2 - (lg_sl ([.ref x, .int v])).length) Slot.unset).toArray = ls at hl ⊢
  have hl : lv_has ls 2 [(0, .ref x), (1, .int v)] := hl
  refine lv_iload_n hx hb dRG_requireTag_0 rfl (lv_at hl 1 rfl) ?_
  refine lv_if_lt (tgt := 9) hx hb dRG_requireTag_1 (by decide) (fun c9 => absurd c9 h0) (fun _ => ?_)
  refine lv_iload_n hx hb dRG_requireTag_4 rfl (lv_at hl 1 rfl) ?_
  refine lv_iconst (v := 4) hx hb dRG_requireTag_5 (by decide) ?_
  refine lv_icmp_lt (tgt := 19) hx hb dRG_requireTag_6 (by decide) (fun _ => ?_) (fun c9 => absurd h1 c9)
  refine W.widen (k := 0) (n := 0) (Nat.le_of_ble_eq_true rfl) (Nat.le_of_ble_eq_true rfl) ?_
  exact W.vret hx hb hr (fun t ht hW => ⟨⟨(), rfl, trivial, trivial⟩, hS.F ht⟩) hS.2.2 dRG_requireTag_19
set_option maxHeartbeats 4000000 in
set_option maxRecDepth 100000 in
theorem zo_requireNotStarted (l : Launch) (dC : Nat → ClassId) (dI : Nat → Nat → Nat) (cI cZ cJ : ClassId) (a0 : Array Value) (s0 : State) (x : Nat) (b : Nat → Nat) (sz : Nat) : Met l yRG_requireNotStarted [Cond.code yRG_requireNotStarted bRG_requireNotStarted 1 none] ({ frames := 0, cells := 0, slots := 0, locals := 0 } : Room) (zP zCl dC dI (zTY cI cZ cJ) a0 s0 [.ref x] sz [(x, .inr (0, [.ref (b 0), .ref (b 1), .ref (b 2), .ref (b 3), .ref (b 4), .ref (b 5), .int 0, .int 0, .int 0, .int 0, .int 0, .int 0, .int 0]))]) (zQo sz) 0 0 (zN sz) := by
  refine Met.ofW (cc := bRG_requireNotStarted) (maxL := 1) (ret := none) (by decide) rfl ?_
  intro p e s m args below meth c s₁ B hml hv
  obtain ⟨rfl, hsz, hP, hK, hD0, hB⟩ := hv
  have hx := B.exec
  have hb := B.bytes
  have hr := B.returns
  have hown : s.vm.findClass "RingGuard" = some m.cls := findClass_of_methodNamed B.named
  have hlocks := B.notSynchronized
  subst hsz
  have hD := hD0
  have hA0 : ∀ q, zN s.heap.size q → s0.heap.size ≤ q := zA1 hB
  have hAD : ∀ q, zN s0.heap.size q → s0.heap.size ≤ q := fun _ h => h
  have hA : ∀ q : Nat, s.heap.size ≤ q → zN s.heap.size q := fun _ h => h
  have hS : va_S (zN s.heap.size) s.heap s.heap [] := va_S.rf
  have hP : va_P (dC, dI) zCl [(x, .inr (0, [.ref (b 0), .ref (b 1), .ref (b 2), .ref (b 3), .ref (b 4), .ref (b 5), .int 0, .int 0, .int 0, .int 0, .int 0, .int 0, .int 0]))] s.heap := hP
  have hl := lv_entry ([.ref x]) (n := 1) (Nat.le_of_ble_eq_true rfl)
  rw [lg_entry_eq]
  generalize (lg_sl ([.ref x]) ++ List.replicate (1 - (lg_sl ([.ref x])).length) Slot.unset).toArray = ls at hl ⊢
  have hl : lv_has ls 1 [(0, .ref x)] := hl
  refine lv_aload_n hx hb dRG_requireNotStarted_0 rfl (lv_at hl 0 rfl) ?_
  have hu0 : ∀ w ∈ u_ws "RingGuard" T_RG 13, w.before ([.ref x] : List Value).toArray s = true := hB.words zU_RG
  refine va_get (D := (dC, dI)) (ci := 0) (v := .int 0) (C := "RingGuard") (T := T_RG) (N := 13) hx hb hu0 zid hown hK hP 0 rfl rfl 6 (by decide) (hB.word (zm2 k2_1) rfl) (fun _ h9 => h9) rfl dRG_requireNotStarted_1 ?_
  refine lv_if_eq (tgt := 17) hx hb dRG_requireNotStarted_4 (by decide) (fun _ => ?_) (fun c9 => absurd (by decide) c9)
  refine W.widen (k := 0) (n := 0) (Nat.le_of_ble_eq_true rfl) (Nat.le_of_ble_eq_true rfl) ?_
  exact W.vret hx hb hr (fun t ht hW => ⟨⟨(), rfl, trivial, trivial⟩, hS.F ht⟩) hS.2.2 dRG_requireNotStarted_17
set_option maxHeartbeats 4000000 in
set_option maxRecDepth 100000 in
theorem zt_requireStarted (l : Launch) (dC : Nat → ClassId) (dI : Nat → Nat → Nat) (cI cZ cJ : ClassId) (a0 : Array Value) (s0 : State) (hfl : l.flags = Jvm.pinnedFlags ++ [Jvm.noTraceFlag]) (x : Nat) (b : Nat → Nat) (sz : Nat) : tq_Met l yRG_requireStarted [Cond.code yRG_requireStarted bRG_requireStarted 1 none] ({ frames := 6, cells := 1, slots := 6, locals := 90 } : Room) (zP zCl dC dI (zTY cI cZ cJ) a0 s0 [.ref x] sz [(x, .inr (0, [.ref (b 0), .ref (b 1), .ref (b 2), .ref (b 3), .ref (b 4), .ref (b 5), .int 0, .int 0, .int 0, .int 0, .int 0, .int 0, .int 0]))]) (tq_Q "java/lang/IllegalStateException") 1 6 (zN sz) := by
  refine tq_ofW (cc := bRG_requireStarted) (maxL := 1) (ret := none) (by decide) rfl ?_
  intro p e s m args below meth c s₁ B hml htab hv
  obtain ⟨rfl, hsz, hP, hK, hD0, hB⟩ := hv
  have hx := B.exec
  have hb := B.bytes
  have hr := B.returns
  have hown : s.vm.findClass "RingGuard" = some m.cls := findClass_of_methodNamed B.named
  have hlocks := B.notSynchronized
  subst hsz
  have hD := hD0
  have hA0 : ∀ q, zN s.heap.size q → s0.heap.size ≤ q := zA1 hB
  have hAD : ∀ q, zN s0.heap.size q → s0.heap.size ≤ q := fun _ h => h
  have hA : ∀ q : Nat, s.heap.size ≤ q → zN s.heap.size q := fun _ h => h
  have hS : va_S (zN s.heap.size) s.heap s.heap [] := va_S.rf
  have hP : va_P (dC, dI) zCl [(x, .inr (0, [.ref (b 0), .ref (b 1), .ref (b 2), .ref (b 3), .ref (b 4), .ref (b 5), .int 0, .int 0, .int 0, .int 0, .int 0, .int 0, .int 0]))] s.heap := hP
  have hl := lv_entry ([.ref x]) (n := 1) (Nat.le_of_ble_eq_true rfl)
  rw [lg_entry_eq]
  generalize (lg_sl ([.ref x]) ++ List.replicate (1 - (lg_sl ([.ref x])).length) Slot.unset).toArray = ls at hl ⊢
  have hl : lv_has ls 1 [(0, .ref x)] := hl
  refine lv_aload_n hx hb dRG_requireStarted_0 rfl (lv_at hl 0 rfl) ?_
  have hu0 : ∀ w ∈ u_ws "RingGuard" T_RG 13, w.before ([.ref x] : List Value).toArray s = true := hB.words zU_RG
  refine va_get (D := (dC, dI)) (ci := 0) (v := .int 0) (C := "RingGuard") (T := T_RG) (N := 13) hx hb hu0 zid hown hK hP 0 rfl rfl 6 (by decide) (hB.word (zm2 k2_1) rfl) (fun _ h9 => h9) rfl dRG_requireStarted_1 ?_
  refine lv_if_ne (tgt := 17) hx hb dRG_requireStarted_4 (by decide) (fun c9 => absurd (by decide) c9) (fun _ => ?_)
  obtain ⟨qs, hZ⟩ := hB.str (zm3 k3_59)
  exact zthrow hfl hx hb hown (hB.word (zm2 k2_71) rfl) (hB.word (zm1 k1_13) rfl) hZ (by decide) (hB.words zO_66) (by rw [hml]; exact hl.1) htab hlocks dRG_requireStarted_7 dRG_requireStarted_10 dRG_requireStarted_11 dRG_requireStarted_13 dRG_requireStarted_16 (Nat.le_of_ble_eq_true rfl) (Nat.le_of_ble_eq_true rfl) (Nat.le_of_ble_eq_true rfl) (Nat.le_of_ble_eq_true rfl) hS rfl rfl
set_option maxHeartbeats 4000000 in
set_option maxRecDepth 100000 in
theorem zt_requirePort (l : Launch) (dC : Nat → ClassId) (dI : Nat → Nat → Nat) (cI cZ cJ : ClassId) (a0 : Array Value) (s0 : State) (hfl : l.flags = Jvm.pinnedFlags ++ [Jvm.noTraceFlag]) (x : Nat) (b : Nat → Nat) (sz : Nat) (v u : Int32) : tq_Met l yRG_requirePort [Cond.code yRG_requirePort bRG_requirePort 3 none] ({ frames := 7, cells := 1, slots := 6, locals := 111 } : Room) (zP zCl dC dI (zTY cI cZ cJ) a0 s0 [.ref x, .int v, .int u] sz [(x, .inr (0, [.ref (b 0), .ref (b 1), .ref (b 2), .ref (b 3), .ref (b 4), .ref (b 5), .int 0, .int 0, .int 0, .int 0, .int 0, .int 0, .int 0])), ((b 0), .inr (1, [.int 0, .int 0, .ref (b 10), .ref (b 11), .ref (b 12), .ref (b 13), .ref (b 14), .ref (b 15), .ref (b 16), .ref (b 17), .ref (b 18)]))]) (tq_Q "java/lang/IllegalArgumentException") 1 6 (zN sz) := by
  refine tq_ofW (cc := bRG_requirePort) (maxL := 3) (ret := none) (by decide) rfl ?_
  intro p e s m args below meth c s₁ B hml htab hv
  obtain ⟨rfl, hsz, hP, hK, hD0, hB⟩ := hv
  have hx := B.exec
  have hb := B.bytes
  have hr := B.returns
  have hown : s.vm.findClass "RingGuard" = some m.cls := findClass_of_methodNamed B.named
  have hlocks := B.notSynchronized
  subst hsz
  have hD := hD0
  have hA0 : ∀ q, zN s.heap.size q → s0.heap.size ≤ q := zA1 hB
  have hAD : ∀ q, zN s0.heap.size q → s0.heap.size ≤ q := fun _ h => h
  have hA : ∀ q : Nat, s.heap.size ≤ q → zN s.heap.size q := fun _ h => h
  have hS : va_S (zN s.heap.size) s.heap s.heap [] := va_S.rf
  have hP : va_P (dC, dI) zCl [(x, .inr (0, [.ref (b 0), .ref (b 1), .ref (b 2), .ref (b 3), .ref (b 4), .ref (b 5), .int 0, .int 0, .int 0, .int 0, .int 0, .int 0, .int 0])), ((b 0), .inr (1, [.int 0, .int 0, .ref (b 10), .ref (b 11), .ref (b 12), .ref (b 13), .ref (b 14), .ref (b 15), .ref (b 16), .ref (b 17), .ref (b 18)]))] s.heap := hP
  have hl := lv_entry ([.ref x, .int v, .int u]) (n := 3) (Nat.le_of_ble_eq_true rfl)
  rw [lg_entry_eq]
  generalize (lg_sl ([.ref x, .int v, .int u]) ++ List.replicate (3 - (lg_sl ([.ref x, .int v, .int u])).length) Slot.unset).toArray = ls at hl ⊢
  have hl : lv_has ls 3 [(0, .ref x), (1, .int v), (2, .int u)] := hl
  refine lv_aload_n hx hb dRG_requirePort_0 rfl (lv_at hl 0 rfl) ?_
  refine lv_iload_n hx hb dRG_requirePort_1 rfl (lv_at hl 1 rfl) ?_
  have hPc : va_P (dC, dI) zCl [(x, .inr (0, [.ref (b 0), .ref (b 1), .ref (b 2), .ref (b 3), .ref (b 4), .ref (b 5), .int 0, .int 0, .int 0, .int 0, .int 0, .int 0, .int 0])), ((b 0), .inr (1, [.int 0, .int 0, .ref (b 10), .ref (b 11), .ref (b 12), .ref (b 13), .ref (b 14), .ref (b 15), .ref (b 16), .ref (b 17), .ref (b 18)]))] s.heap := hP.sub [0, 1] rfl
  have hDc : va_D (zN s0.heap.size) [(x, .inr (0, [.ref (b 0), .ref (b 1), .ref (b 2), .ref (b 3), .ref (b 4), .ref (b 5), .int 0, .int 0, .int 0, .int 0, .int 0, .int 0, .int 0])), ((b 0), .inr (1, [.int 0, .int 0, .ref (b 10), .ref (b 11), .ref (b 12), .ref (b 13), .ref (b 14), .ref (b 15), .ref (b 16), .ref (b 17), .ref (b 18)]))] := hD.sub [0, 1] (by decide) rfl
  exact zpass (tq_runV (As := [.int v]) (rest := []) ⟨hx, hb, hml, hown, zno⟩ (zt_requireBridge l dC dI cI cZ cJ a0 s0 hfl x b s.heap.size v) (zcw 1 (hB.word (zm2 k2_150) rfl) (hB.word (zm1 k1_1) rfl) (hB.word (zm2 k2_147) rfl) (hB.word (zm2 k2_149) rfl) (k2_selects_private (by decide) (hB.word (zm1 k1_18) rfl) (hB.word (zm2 k2_148) rfl) (hB.word (zm2 k2_149) rfl)) rfl rfl (by decide +kernel) ⟨Nat.le_of_ble_eq_true rfl, Nat.le_of_ble_eq_true rfl⟩) ⟨zP_blind, va_recv hK hP (ci := 0) (q0 := 0) rfl rfl, zP_pre hPc hK hDc hAD (zB_on hB hA0 hS)⟩ rfl rfl hl.1 rfl (lv_room (Nat.le_of_ble_eq_true rfl)) dRG_requirePort_2 ⟨Nat.le_of_ble_eq_true rfl, Nat.le_of_ble_eq_true rfl⟩) htab hlocks hS (Nat.le_of_ble_eq_true rfl) (Nat.le_of_ble_eq_true rfl)
