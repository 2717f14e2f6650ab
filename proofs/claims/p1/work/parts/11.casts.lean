set_option maxHeartbeats 4000000 in
set_option maxRecDepth 100000 in
theorem zp_countOnLinks (l : Launch) (dC : Nat → ClassId) (dI : Nat → Nat → Nat) (cI cZ cJ : ClassId) (a0 : Array Value) (s0 : State) (x : Nat) (b : Nat → Nat) (sz : Nat) : Met l yWI_countOnLinks [Cond.code yWI_countOnLinks bWI_countOnLinks 3 (some .int)] ({ frames := 0, cells := 0, slots := 0, locals := 0 } : Room) (zP zCl dC dI (zTY cI cZ cJ) a0 s0 [.ref (b 1)] sz [((b 1), .inr (2, [.ref (b 24), .ref (b 25), .ref (b 26), .ref (b 27), .ref (b 28), .int 0])), ((b 27), .inl (cI, 120, .inl (fun _ => 0)))]) (zQp (fun r => r = 0) sz) 0 0 (zN sz) := by
  refine Met.ofW (cc := bWI_countOnLinks) (maxL := 3) (ret := (some .int)) (by decide) rfl ?_
  intro p e s m args below meth c s₁ B hml hv
  obtain ⟨rfl, hsz, hP, hK, hD0, hB⟩ := hv
  have hx := B.exec
  have hb := B.bytes
  have hr := B.returns
  have hown : s.vm.findClass "RingGuard$Wires" = some m.cls := findClass_of_methodNamed B.named
  have hlocks := B.notSynchronized
  subst hsz
  have hD := hD0
  have hA0 : ∀ q, zN s.heap.size q → s0.heap.size ≤ q := zA1 hB
  have hAD : ∀ q, zN s0.heap.size q → s0.heap.size ≤ q := fun _ h => h
  have hA : ∀ q : Nat, s.heap.size ≤ q → zN s.heap.size q := fun _ h => h
  have hS : va_S (zN s.heap.size) s.heap s.heap [] := va_S.rf
  have hP : va_P (dC, dI) zCl [((b 1), .inr (2, [.ref (b 24), .ref (b 25), .ref (b 26), .ref (b 27), .ref (b 28), .int 0])), ((b 27), .inl (cI, 120, .inl (fun _ => 0)))] s.heap := hP
  have hl := lv_entry ([.ref (b 1)]) (n := 3) (Nat.le_of_ble_eq_true rfl)
  rw [lg_entry_eq]
  generalize (lg_sl ([.ref (b 1)]) ++ List.replicate (3 - (lg_sl ([.ref (b 1)])).length) Slot.unset).toArray = ls at hl ⊢
  have hl : lv_has ls 3 [(0, .ref (b 1))] := hl
  refine lv_iconst (v := 0) hx hb dWI_countOnLinks_0 (by decide) ?_
  refine lv_istore_n (lv' := [(1, .int 0), (0, .ref (b 1))]) hx hb dWI_countOnLinks_1 rfl hl (by decide) rfl (fun ls hl => ?_)
  refine lv_iconst (v := 0) hx hb dWI_countOnLinks_2 (by decide) ?_
  refine lv_istore_n (lv' := [(2, .int 0), (1, .int 0), (0, .ref (b 1))]) hx hb dWI_countOnLinks_3 rfl hl (by decide) rfl (fun ls hl => ?_)
  refine zfor (N := 120) (fun k => ∀ (H : Heap) (locs : List Loc) (ls : Array Slot), va_P (dC, dI) zCl [((b 1), .inr (2, [.ref (b 24), .ref (b 25), .ref (b 26), .ref (b 27), .ref (b 28), .int 0])), ((b 27), .inl (cI, 120, .inl (fun _ => 0)))] H → va_D (zN s0.heap.size) [((b 1), .inr (2, [.ref (b 24), .ref (b 25), .ref (b 26), .ref (b 27), .ref (b 28), .int 0])), ((b 27), .inl (cI, 120, .inl (fun _ => 0)))] → va_S (zN s.heap.size) s.heap H locs → lv_has ls 3 [(0, .ref (b 1)), (1, .int 0), (2, .int (nI k))] → W p l e _ s m _ below meth c H locs _ _ _ (F0 m 4 ls [])) ?_ ?_ s.heap [] ls hP hD hS (lv_sub hl [2, 1, 0] rfl)
  · intro k hk ih H locs ls   hP hD hS hl
    refine lv_iload_n hx hb dWI_countOnLinks_4 rfl (lv_at hl 2 rfl) ?_
    refine lv_bipush (v := 120) hx hb dWI_countOnLinks_5 (by decide) ?_
    refine lv_icmp_ge (tgt := 25) hx hb dWI_countOnLinks_7 (by decide) (fun c9 => absurd c9 (nI_ge (b := 120) hk (by decide))) (fun _ => ?_)
    refine lv_iload_n hx hb dWI_countOnLinks_10 rfl (lv_at hl 1 rfl) ?_
    refine lv_aload_n hx hb dWI_countOnLinks_11 rfl (lv_at hl 0 rfl) ?_
    have hu2 : ∀ w ∈ u_ws "RingGuard$Wires" T_WI 6, w.before ([.ref (b 1)] : List Value).toArray s = true := hB.words zU_WI
    refine va_get (D := (dC, dI)) (ci := 2) (v := .ref (b 27)) (C := "RingGuard$Wires") (T := T_WI) (N := 6) hx hb hu2 zid hown hK hP 0 rfl rfl 3 (by decide) (hB.word (zm1 k1_93) rfl) (fun _ h9 => h9) rfl dWI_countOnLinks_12 ?_
    refine lv_iload_n hx hb dWI_countOnLinks_15 rfl (lv_at hl 2 rfl) ?_
    refine va_iald hx hb hK hP 1 0 rfl rfl (i := nI k) (vp_in_nI hk (by decide)) dWI_countOnLinks_16 ?_
    refine lv_topi (fun k1 ek1 => ?_)
    have ek1 : k1 = 0 := ek1
    subst ek1
    refine lv_iadd hx hb dWI_countOnLinks_17 ?_
    refine lv_topi (fun k2 ek2 => ?_)
    have ek2 : k2 = 0 := ek2.trans (by decide)
    subst ek2
    refine lv_istore_n (lv' := [(1, .int 0), (0, .ref (b 1)), (2, .int (nI k))]) hx hb dWI_countOnLinks_18 rfl hl (by decide) rfl (fun ls hl => ?_)
    refine lv_iinc (v := nI (k + 1)) (lv' := [(2, .int (nI (k + 1))), (1, .int 0), (0, .ref (b 1))]) hx hb dWI_countOnLinks_19 hl (k := 2) rfl (nI_1 k) (by decide) rfl (fun ls hl => ?_)
    refine lv_goto (tgt := 4) hx hb dWI_countOnLinks_22 (by decide) ?_
    exact ih H locs ls hP hD hS (lv_sub hl [2, 1, 0] rfl)
  · intro H locs ls   hP hD hS hl
    refine lv_iload_n hx hb dWI_countOnLinks_4 rfl (lv_at hl 2 rfl) ?_
    refine lv_bipush (v := 120) hx hb dWI_countOnLinks_5 (by decide) ?_
    refine lv_icmp_ge (tgt := 25) hx hb dWI_countOnLinks_7 (by decide) (fun _ => ?_) (fun c9 => absurd (nI_le (a := 120) (b := 120) (Nat.le_refl _) (by decide)) c9)
    refine lv_iload_n hx hb dWI_countOnLinks_25 rfl (lv_at hl 1 rfl) ?_
    refine W.widen (k := 0) (n := 0) (Nat.le_of_ble_eq_true rfl) (Nat.le_of_ble_eq_true rfl) ?_
    exact W.iret (v := 0) hx hb hr (fun t ht hW => ⟨⟨0, (), rfl, rfl, trivial⟩, hS.F ht⟩) hS.2.2 dWI_countOnLinks_26
set_option maxHeartbeats 4000000 in
set_option maxRecDepth 100000 in
theorem zp_casts (l : Launch) (dC : Nat → ClassId) (dI : Nat → Nat → Nat) (cI cZ cJ : ClassId) (a0 : Array Value) (s0 : State) (x : Nat) (b : Nat → Nat) (sz : Nat) : Met l yRG_casts [Cond.code yRG_casts bRG_casts 1 (some .int)] ({ frames := 1, cells := 0, slots := 0, locals := 22 } : Room) (zP zCl dC dI (zTY cI cZ cJ) a0 s0 [.ref x] sz [(x, .inr (0, [.ref (b 0), .ref (b 1), .ref (b 2), .ref (b 3), .ref (b 4), .ref (b 5), .int 0, .int 0, .int 0, .int 0, .int 0, .int 0, .int 0])), ((b 1), .inr (2, [.ref (b 24), .ref (b 25), .ref (b 26), .ref (b 27), .ref (b 28), .int 0])), ((b 27), .inl (cI, 120, .inl (fun _ => 0)))]) (zQp (fun r => r = 0) sz) 0 0 (zN sz) := by
  refine Met.ofW (cc := bRG_casts) (maxL := 1) (ret := (some .int)) (by decide) rfl ?_
  intro p e s m args below meth c s₁ B hml hv
  obtain ⟨rfl, hsz, hP, hK, hD0, hB⟩ := hv
  have hx := B.exec
  have hb := B.bytes
  have hr := B.returns
  have hown : s.vm.findClass "RingGuard" = some m.cls := findClass_of_methodNamed B.named
  have hlocks := B.notSynchronized
  subst hsz
  have hD := hD0
  have hA0 : ∀ q, zN s.heap.size q → s0.heap.size ≤ q := zA1 hB
  have hAD : ∀ q, zN s0.heap.size q → s0.heap.size ≤ q := fun _ h => h
  have hA : ∀ q : Nat, s.heap.size ≤ q → zN s.heap.size q := fun _ h => h
  have hS : va_S (zN s.heap.size) s.heap s.heap [] := va_S.rf
  have hP : va_P (dC, dI) zCl [(x, .inr (0, [.ref (b 0), .ref (b 1), .ref (b 2), .ref (b 3), .ref (b 4), .ref (b 5), .int 0, .int 0, .int 0, .int 0, .int 0, .int 0, .int 0])), ((b 1), .inr (2, [.ref (b 24), .ref (b 25), .ref (b 26), .ref (b 27), .ref (b 28), .int 0])), ((b 27), .inl (cI, 120, .inl (fun _ => 0)))] s.heap := hP
  have hl := lv_entry ([.ref x]) (n := 1) (Nat.le_of_ble_eq_true rfl)
  rw [lg_entry_eq]
  generalize (lg_sl ([.ref x]) ++ List.replicate (1 - (lg_sl ([.ref x])).length) Slot.unset).toArray = ls at hl ⊢
  have hl : lv_has ls 1 [(0, .ref x)] := hl
  refine lv_aload_n hx hb dRG_casts_0 rfl (lv_at hl 0 rfl) ?_
  have hu0 : ∀ w ∈ u_ws "RingGuard" T_RG 13, w.before ([.ref x] : List Value).toArray s = true := hB.words zU_RG
  refine va_get (D := (dC, dI)) (ci := 0) (v := .ref (b 1)) (C := "RingGuard") (T := T_RG) (N := 13) hx hb hu0 zid hown hK hP 0 rfl rfl 1 (by decide) (hB.word (zm1 k1_236) rfl) (fun _ h9 => h9) rfl dRG_casts_1 ?_
  have hPc : va_P (dC, dI) zCl [((b 1), .inr (2, [.ref (b 24), .ref (b 25), .ref (b 26), .ref (b 27), .ref (b 28), .int 0])), ((b 27), .inl (cI, 120, .inl (fun _ => 0)))] s.heap := hP.sub [1, 2] rfl
  have hDc : va_D (zN s0.heap.size) [((b 1), .inr (2, [.ref (b 24), .ref (b 25), .ref (b 26), .ref (b 27), .ref (b 28), .int 0])), ((b 27), .inl (cI, 120, .inl (fun _ => 0)))] := hD.sub [1, 2] (by decide) rfl
  refine zcallp (va_runV (As := []) (rest := []) ⟨hx, hb, hml, hown, zno⟩ (zp_countOnLinks l dC dI cI cZ cJ a0 s0 x b s.heap.size) (zcw 0 (hB.word (zm2 k2_46) rfl) (hB.word (zm1 k1_4) rfl) (hB.word (zm2 k2_43) rfl) (hB.word (zm2 k2_44) rfl) (hB.word (zm2 k2_45) rfl) rfl rfl (by decide +kernel) ⟨Nat.le_of_ble_eq_true rfl, Nat.le_of_ble_eq_true rfl⟩) ⟨zP_blind, va_recv hK hP (ci := 2) (q0 := 1) rfl rfl, zP_pre hPc hK hDc hAD (zB_on hB hA0 hS)⟩ rfl rfl hl.1 rfl (lv_room (Nat.le_of_ble_eq_true rfl)) dRG_casts_4 ⟨Nat.le_of_ble_eq_true rfl, Nat.le_of_ble_eq_true rfl⟩) hS hA (fun r1 H1 locs hr1 hz1 hk1 hS => ?_)
  have hP := zKeep hP hk1
  generalize H1 = H at hP hS ⊢
  have hP : va_P (dC, dI) zCl [(x, .inr (0, [.ref (b 0), .ref (b 1), .ref (b 2), .ref (b 3), .ref (b 4), .ref (b 5), .int 0, .int 0, .int 0, .int 0, .int 0, .int 0, .int 0])), ((b 1), .inr (2, [.ref (b 24), .ref (b 25), .ref (b 26), .ref (b 27), .ref (b 28), .int 0])), ((b 27), .inl (cI, 120, .inl (fun _ => 0)))] H := hP
  subst hr1
  refine W.widen (k := 0) (n := 0) (Nat.le_of_ble_eq_true rfl) (Nat.le_of_ble_eq_true rfl) ?_
  exact W.iret (v := 0) hx hb hr (fun t ht hW => ⟨⟨0, (), rfl, rfl, trivial⟩, hS.F ht⟩) hS.2.2 dRG_casts_7
set_option maxHeartbeats 4000000 in
set_option maxRecDepth 100000 in
theorem zm_casts (l : Launch) (dC : Nat → ClassId) (dI : Nat → Nat → Nat) (cI cZ cJ : ClassId) (a0 : Array Value) (s0 : State) (mo : Nat) (mb : Nat → Nat) (sz : Nat) : Met l yMO_casts [Cond.code yMO_casts bMO_casts 3 (some .int)] ({ frames := 0, cells := 0, slots := 0, locals := 0 } : Room) (zP zCl dC dI (zTY cI cZ cJ) a0 s0 [.ref mo] sz [(mo, .inr (7, [.int 0, .int 0, .int 0, .int 0, .ref (mb 0), .ref (mb 1), .ref (mb 2), .ref (mb 3), .ref (mb 4), .ref (mb 5), .ref (mb 6), .ref (mb 7), .ref (mb 8), .ref (mb 9), .ref (mb 10), .ref (mb 11), .ref (mb 12), .ref (mb 13), .ref (mb 14), .ref (mb 15), .ref (mb 16), .ref (mb 17), .ref (mb 18), .ref (mb 19), .ref (mb 20), .ref (mb 21), .ref (mb 22), .ref (mb 23), .ref (mb 24), .ref (mb 25), .ref (mb 26), .ref (mb 27), .ref (mb 28), .ref (mb 29), .ref (mb 30), .ref (mb 31), .ref (mb 32), .int 0, .int 0, .int 0, .int 0, .int 0, .int 0, .int 0, .ref (mb 33), .ref (mb 34), .ref (mb 35), .ref (mb 36), .int 0, .int 0, .int 0, .int 0, .ref (mb 37)])), ((mb 23), .inl (cI, 120, .inl (fun _ => 0)))]) (zQi zCl dC dI (fun r => r = 0) [(mo, .inr (7, [.int 0, .int 0, .int 0, .int 0, .ref (mb 0), .ref (mb 1), .ref (mb 2), .ref (mb 3), .ref (mb 4), .ref (mb 5), .ref (mb 6), .ref (mb 7), .ref (mb 8), .ref (mb 9), .ref (mb 10), .ref (mb 11), .ref (mb 12), .ref (mb 13), .ref (mb 14), .ref (mb 15), .ref (mb 16), .ref (mb 17), .ref (mb 18), .ref (mb 19), .ref (mb 20), .ref (mb 21), .ref (mb 22), .ref (mb 23), .ref (mb 24), .ref (mb 25), .ref (mb 26), .ref (mb 27), .ref (mb 28), .ref (mb 29), .ref (mb 30), .ref (mb 31), .ref (mb 32), .int 0, .int 0, .int 0, .int 0, .int 0, .int 0, .int 0, .ref (mb 33), .ref (mb 34), .ref (mb 35), .ref (mb 36), .int 0, .int 0, .int 0, .int 0, .ref (mb 37)])), ((mb 23), .inl (cI, 120, .inl (fun _ => 0)))] (va_A [(mo, .inr (7, [.int 0, .int 0, .int 0, .int 0, .ref (mb 0), .ref (mb 1), .ref (mb 2), .ref (mb 3), .ref (mb 4), .ref (mb 5), .ref (mb 6), .ref (mb 7), .ref (mb 8), .ref (mb 9), .ref (mb 10), .ref (mb 11), .ref (mb 12), .ref (mb 13), .ref (mb 14), .ref (mb 15), .ref (mb 16), .ref (mb 17), .ref (mb 18), .ref (mb 19), .ref (mb 20), .ref (mb 21), .ref (mb 22), .ref (mb 23), .ref (mb 24), .ref (mb 25), .ref (mb 26), .ref (mb 27), .ref (mb 28), .ref (mb 29), .ref (mb 30), .ref (mb 31), .ref (mb 32), .int 0, .int 0, .int 0, .int 0, .int 0, .int 0, .int 0, .ref (mb 33), .ref (mb 34), .ref (mb 35), .ref (mb 36), .int 0, .int 0, .int 0, .int 0, .ref (mb 37)])), ((mb 23), .inl (cI, 120, .inl (fun _ => 0)))] sz)) 0 0 (va_A [(mo, .inr (7, [.int 0, .int 0, .int 0, .int 0, .ref (mb 0), .ref (mb 1), .ref (mb 2), .ref (mb 3), .ref (mb 4), .ref (mb 5), .ref (mb 6), .ref (mb 7), .ref (mb 8), .ref (mb 9), .ref (mb 10), .ref (mb 11), .ref (mb 12), .ref (mb 13), .ref (mb 14), .ref (mb 15), .ref (mb 16), .ref (mb 17), .ref (mb 18), .ref (mb 19), .ref (mb 20), .ref (mb 21), .ref (mb 22), .ref (mb 23), .ref (mb 24), .ref (mb 25), .ref (mb 26), .ref (mb 27), .ref (mb 28), .ref (mb 29), .ref (mb 30), .ref (mb 31), .ref (mb 32), .int 0, .int 0, .int 0, .int 0, .int 0, .int 0, .int 0, .ref (mb 33), .ref (mb 34), .ref (mb 35), .ref (mb 36), .int 0, .int 0, .int 0, .int 0, .ref (mb 37)])), ((mb 23), .inl (cI, 120, .inl (fun _ => 0)))] sz) := by
  refine Met.ofW (cc := bMO_casts) (maxL := 3) (ret := (some .int)) (by decide) rfl ?_
  intro p e s m args below meth c s₁ B hml hv
  obtain ⟨rfl, hsz, hP, hK, hD0, hB⟩ := hv
  have hx := B.exec
  have hb := B.bytes
  have hr := B.returns
  have hown : s.vm.findClass "RingGuardModel" = some m.cls := findClass_of_methodNamed B.named
  have hlocks := B.notSynchronized
  subst hsz
  have hD := hD0.self (sz := s.heap.size)
  have hA0 := zA0 hD0 hB
  generalize hAe : va_A [(mo, .inr (7, [.int 0, .int 0, .int 0, .int 0, .ref (mb 0), .ref (mb 1), .ref (mb 2), .ref (mb 3), .ref (mb 4), .ref (mb 5), .ref (mb 6), .ref (mb 7), .ref (mb 8), .ref (mb 9), .ref (mb 10), .ref (mb 11), .ref (mb 12), .ref (mb 13), .ref (mb 14), .ref (mb 15), .ref (mb 16), .ref (mb 17), .ref (mb 18), .ref (mb 19), .ref (mb 20), .ref (mb 21), .ref (mb 22), .ref (mb 23), .ref (mb 24), .ref (mb 25), .ref (mb 26), .ref (mb 27), .ref (mb 28), .ref (mb 29), .ref (mb 30), .ref (mb 31), .ref (mb 32), .int 0, .int 0, .int 0, .int 0, .int 0, .int 0, .int 0, .ref (mb 33), .ref (mb 34), .ref (mb 35), .ref (mb 36), .int 0, .int 0, .int 0, .int 0, .ref (mb 37)])), ((mb 23), .inl (cI, 120, .inl (fun _ => 0)))] s.heap.size = A at hD hA0 ⊢
  have hAD := hA0
  have hA : ∀ q : Nat, s.heap.size ≤ q → A q := fun q h => by rw [← hAe]; exact Or.inr h
  have hS : va_S A s.heap s.heap [] := va_S.rf
  have hP : va_P (dC, dI) zCl [(mo, .inr (7, [.int 0, .int 0, .int 0, .int 0, .ref (mb 0), .ref (mb 1), .ref (mb 2), .ref (mb 3), .ref (mb 4), .ref (mb 5), .ref (mb 6), .ref (mb 7), .ref (mb 8), .ref (mb 9), .ref (mb 10), .ref (mb 11), .ref (mb 12), .ref (mb 13), .ref (mb 14), .ref (mb 15), .ref (mb 16), .ref (mb 17), .ref (mb 18), .ref (mb 19), .ref (mb 20), .ref (mb 21), .ref (mb 22), .ref (mb 23), .ref (mb 24), .ref (mb 25), .ref (mb 26), .ref (mb 27), .ref (mb 28), .ref (mb 29), .ref (mb 30), .ref (mb 31), .ref (mb 32), .int 0, .int 0, .int 0, .int 0, .int 0, .int 0, .int 0, .ref (mb 33), .ref (mb 34), .ref (mb 35), .ref (mb 36), .int 0, .int 0, .int 0, .int 0, .ref (mb 37)])), ((mb 23), .inl (cI, 120, .inl (fun _ => 0)))] s.heap := hP
  have hl := lv_entry ([.ref mo]) (n := 3) (Nat.le_of_ble_eq_true rfl)
  rw [lg_entry_eq]
  generalize (lg_sl ([.ref mo]) ++ List.replicate (3 - (lg_sl ([.ref mo])).length) Slot.unset).toArray = ls at hl ⊢
  have hl : lv_has ls 3 [(0, .ref mo)] := hl
  refine lv_aload_n hx hb dMO_casts_0 rfl (lv_at hl 0 rfl) ?_
  refine lv_iconst (v := 0) hx hb dMO_casts_1 (by decide) ?_
  have hu7 : ∀ w ∈ u_ws "RingGuardModel" T_MO 53, w.before ([.ref mo] : List Value).toArray s = true := hB.words zU_MO
  refine va_put (D := (dC, dI)) (ci := 7) (v := .int 0) (ty := .int) (C := "RingGuardModel") (T := T_MO) (N := 53) hx hb hu7 zid ty_MO ok_MO nm_MO hown hK hP hD hS 0 rfl rfl 0 (by decide) (hB.word (zm4 k4_114) rfl) (fun _ h9 => h9) rfl (by decide +kernel) rfl rfl (Nat.le_of_ble_eq_true rfl) dMO_casts_2 (fun H locs hP hD hS => ?_)
  have hP : va_P (dC, dI) zCl [(mo, .inr (7, [.int 0, .int 0, .int 0, .int 0, .ref (mb 0), .ref (mb 1), .ref (mb 2), .ref (mb 3), .ref (mb 4), .ref (mb 5), .ref (mb 6), .ref (mb 7), .ref (mb 8), .ref (mb 9), .ref (mb 10), .ref (mb 11), .ref (mb 12), .ref (mb 13), .ref (mb 14), .ref (mb 15), .ref (mb 16), .ref (mb 17), .ref (mb 18), .ref (mb 19), .ref (mb 20), .ref (mb 21), .ref (mb 22), .ref (mb 23), .ref (mb 24), .ref (mb 25), .ref (mb 26), .ref (mb 27), .ref (mb 28), .ref (mb 29), .ref (mb 30), .ref (mb 31), .ref (mb 32), .int 0, .int 0, .int 0, .int 0, .int 0, .int 0, .int 0, .ref (mb 33), .ref (mb 34), .ref (mb 35), .ref (mb 36), .int 0, .int 0, .int 0, .int 0, .ref (mb 37)])), ((mb 23), .inl (cI, 120, .inl (fun _ => 0)))] H := hP
  have hD : va_D A [(mo, .inr (7, [.int 0, .int 0, .int 0, .int 0, .ref (mb 0), .ref (mb 1), .ref (mb 2), .ref (mb 3), .ref (mb 4), .ref (mb 5), .ref (mb 6), .ref (mb 7), .ref (mb 8), .ref (mb 9), .ref (mb 10), .ref (mb 11), .ref (mb 12), .ref (mb 13), .ref (mb 14), .ref (mb 15), .ref (mb 16), .ref (mb 17), .ref (mb 18), .ref (mb 19), .ref (mb 20), .ref (mb 21), .ref (mb 22), .ref (mb 23), .ref (mb 24), .ref (mb 25), .ref (mb 26), .ref (mb 27), .ref (mb 28), .ref (mb 29), .ref (mb 30), .ref (mb 31), .ref (mb 32), .int 0, .int 0, .int 0, .int 0, .int 0, .int 0, .int 0, .ref (mb 33), .ref (mb 34), .ref (mb 35), .ref (mb 36), .int 0, .int 0, .int 0, .int 0, .ref (mb 37)])), ((mb 23), .inl (cI, 120, .inl (fun _ => 0)))] := hD
  refine lv_iconst (v := 0) hx hb dMO_casts_5 (by decide) ?_
  refine lv_istore_n (lv' := [(1, .int 0), (0, .ref mo)]) hx hb dMO_casts_6 rfl hl (by decide) rfl (fun ls hl => ?_)
  refine lv_iconst (v := 0) hx hb dMO_casts_7 (by decide) ?_
  refine lv_istore_n (lv' := [(2, .int 0), (1, .int 0), (0, .ref mo)]) hx hb dMO_casts_8 rfl hl (by decide) rfl (fun ls hl => ?_)
  refine zfor (N := 120) (fun k => ∀ (H : Heap) (locs : List Loc) (ls : Array Slot), va_P (dC, dI) zCl [(mo, .inr (7, [.int 0, .int 0, .int 0, .int 0, .ref (mb 0), .ref (mb 1), .ref (mb 2), .ref (mb 3), .ref (mb 4), .ref (mb 5), .ref (mb 6), .ref (mb 7), .ref (mb 8), .ref (mb 9), .ref (mb 10), .ref (mb 11), .ref (mb 12), .ref (mb 13), .ref (mb 14), .ref (mb 15), .ref (mb 16), .ref (mb 17), .ref (mb 18), .ref (mb 19), .ref (mb 20), .ref (mb 21), .ref (mb 22), .ref (mb 23), .ref (mb 24), .ref (mb 25), .ref (mb 26), .ref (mb 27), .ref (mb 28), .ref (mb 29), .ref (mb 30), .ref (mb 31), .ref (mb 32), .int 0, .int 0, .int 0, .int 0, .int 0, .int 0, .int 0, .ref (mb 33), .ref (mb 34), .ref (mb 35), .ref (mb 36), .int 0, .int 0, .int 0, .int 0, .ref (mb 37)])), ((mb 23), .inl (cI, 120, .inl (fun _ => 0)))] H → va_D A [(mo, .inr (7, [.int 0, .int 0, .int 0, .int 0, .ref (mb 0), .ref (mb 1), .ref (mb 2), .ref (mb 3), .ref (mb 4), .ref (mb 5), .ref (mb 6), .ref (mb 7), .ref (mb 8), .ref (mb 9), .ref (mb 10), .ref (mb 11), .ref (mb 12), .ref (mb 13), .ref (mb 14), .ref (mb 15), .ref (mb 16), .ref (mb 17), .ref (mb 18), .ref (mb 19), .ref (mb 20), .ref (mb 21), .ref (mb 22), .ref (mb 23), .ref (mb 24), .ref (mb 25), .ref (mb 26), .ref (mb 27), .ref (mb 28), .ref (mb 29), .ref (mb 30), .ref (mb 31), .ref (mb 32), .int 0, .int 0, .int 0, .int 0, .int 0, .int 0, .int 0, .ref (mb 33), .ref (mb 34), .ref (mb 35), .ref (mb 36), .int 0, .int 0, .int 0, .int 0, .ref (mb 37)])), ((mb 23), .inl (cI, 120, .inl (fun _ => 0)))] → va_S A s.heap H locs → lv_has ls 3 [(0, .ref mo), (1, .int 0), (2, .int (nI k))] → W p l e _ s m _ below meth c H locs _ _ _ (F0 m 9 ls [])) ?_ ?_ H locs ls hP hD hS (lv_sub hl [2, 1, 0] rfl)
  · intro k hk ih H locs ls   hP hD hS hl
    refine lv_iload_n hx hb dMO_casts_9 rfl (lv_at hl 2 rfl) ?_
    refine lv_bipush (v := 120) hx hb dMO_casts_10 (by decide) ?_
    refine lv_icmp_ge (tgt := 30) hx hb dMO_casts_12 (by decide) (fun c9 => absurd c9 (nI_ge (b := 120) hk (by decide))) (fun _ => ?_)
    refine lv_iload_n hx hb dMO_casts_15 rfl (lv_at hl 1 rfl) ?_
    refine lv_aload_n hx hb dMO_casts_16 rfl (lv_at hl 0 rfl) ?_
    refine va_get (D := (dC, dI)) (ci := 7) (v := .ref (mb 23)) (C := "RingGuardModel") (T := T_MO) (N := 53) hx hb hu7 zid hown hK hP 0 rfl rfl 27 (by decide) (hB.word (zm4 k4_141) rfl) (fun _ h9 => h9) rfl dMO_casts_17 ?_
    refine lv_iload_n hx hb dMO_casts_20 rfl (lv_at hl 2 rfl) ?_
    refine va_iald hx hb hK hP 1 0 rfl rfl (i := nI k) (vp_in_nI hk (by decide)) dMO_casts_21 ?_
    refine lv_topi (fun k1 ek1 => ?_)
    have ek1 : k1 = 0 := ek1
    subst ek1
    refine lv_iadd hx hb dMO_casts_22 ?_
    refine lv_topi (fun k2 ek2 => ?_)
    have ek2 : k2 = 0 := ek2.trans (by decide)
    subst ek2
    refine lv_istore_n (lv' := [(1, .int 0), (0, .ref mo), (2, .int (nI k))]) hx hb dMO_casts_23 rfl hl (by decide) rfl (fun ls hl => ?_)
    refine lv_iinc (v := nI (k + 1)) (lv' := [(2, .int (nI (k + 1))), (1, .int 0), (0, .ref mo)]) hx hb dMO_casts_24 hl (k := 2) rfl (nI_1 k) (by decide) rfl (fun ls hl => ?_)
    refine lv_goto (tgt := 9) hx hb dMO_casts_27 (by decide) ?_
    exact ih H locs ls hP hD hS (lv_sub hl [2, 1, 0] rfl)
  · intro H locs ls   hP hD hS hl
    refine lv_iload_n hx hb dMO_casts_9 rfl (lv_at hl 2 rfl) ?_
    refine lv_bipush (v := 120) hx hb dMO_casts_10 (by decide) ?_
    refine lv_icmp_ge (tgt := 30) hx hb dMO_casts_12 (by decide) (fun _ => ?_) (fun c9 => absurd (nI_le (a := 120) (b := 120) (Nat.le_refl _) (by decide)) c9)
    refine lv_iload_n hx hb dMO_casts_30 rfl (lv_at hl 1 rfl) ?_
    refine W.widen (k := 0) (n := 0) (Nat.le_of_ble_eq_true rfl) (Nat.le_of_ble_eq_true rfl) ?_
    have hP9 : va_P (dC, dI) zCl [(mo, .inr (7, [.int 0, .int 0, .int 0, .int 0, .ref (mb 0), .ref (mb 1), .ref (mb 2), .ref (mb 3), .ref (mb 4), .ref (mb 5), .ref (mb 6), .ref (mb 7), .ref (mb 8), .ref (mb 9), .ref (mb 10), .ref (mb 11), .ref (mb 12), .ref (mb 13), .ref (mb 14), .ref (mb 15), .ref (mb 16), .ref (mb 17), .ref (mb 18), .ref (mb 19), .ref (mb 20), .ref (mb 21), .ref (mb 22), .ref (mb 23), .ref (mb 24), .ref (mb 25), .ref (mb 26), .ref (mb 27), .ref (mb 28), .ref (mb 29), .ref (mb 30), .ref (mb 31), .ref (mb 32), .int 0, .int 0, .int 0, .int 0, .int 0, .int 0, .int 0, .ref (mb 33), .ref (mb 34), .ref (mb 35), .ref (mb 36), .int 0, .int 0, .int 0, .int 0, .ref (mb 37)])), ((mb 23), .inl (cI, 120, .inl (fun _ => 0)))] H := hP.sub [0, 1] rfl
    have hD9 : va_D A [(mo, .inr (7, [.int 0, .int 0, .int 0, .int 0, .ref (mb 0), .ref (mb 1), .ref (mb 2), .ref (mb 3), .ref (mb 4), .ref (mb 5), .ref (mb 6), .ref (mb 7), .ref (mb 8), .ref (mb 9), .ref (mb 10), .ref (mb 11), .ref (mb 12), .ref (mb 13), .ref (mb 14), .ref (mb 15), .ref (mb 16), .ref (mb 17), .ref (mb 18), .ref (mb 19), .ref (mb 20), .ref (mb 21), .ref (mb 22), .ref (mb 23), .ref (mb 24), .ref (mb 25), .ref (mb 26), .ref (mb 27), .ref (mb 28), .ref (mb 29), .ref (mb 30), .ref (mb 31), .ref (mb 32), .int 0, .int 0, .int 0, .int 0, .int 0, .int 0, .int 0, .ref (mb 33), .ref (mb 34), .ref (mb 35), .ref (mb 36), .int 0, .int 0, .int 0, .int 0, .ref (mb 37)])), ((mb 23), .inl (cI, 120, .inl (fun _ => 0)))] := hD.sub [0, 1] (by decide) rfl
    exact W.iret (v := 0) hx hb hr (fun t ht hW => ⟨⟨0, (), rfl, rfl, by rw [ht]; exact hP9, hD9⟩, hS.F ht⟩) hS.2.2 dMO_casts_31
