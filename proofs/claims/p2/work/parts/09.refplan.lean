set_option maxHeartbeats 4000000 in
set_option maxRecDepth 100000 in
theorem zm_isEnd (l : Launch) (dC : Nat → ClassId) (dI : Nat → Nat → Nat) (cI cZ cJ : ClassId) (a0 : Array Value) (s0 : State) (mo : Nat) (mb : Nat → Nat) (iM : Nat → Int32) (nb nl sz : Nat) (fA fB : Nat → Nat) (br lk : Nat) (hlk : lk < 60) (hbr : br < 48) (gA : ∀ j, fA j < 48) (gB : ∀ j, fB j < 48) : Met l yMO_isEnd [Cond.code yMO_isEnd bMO_isEnd 3 (some .boolean)] ({ frames := 0, cells := 0, slots := 0, locals := 0 } : Room) (zP zCl dC dI (zTY cI cZ cJ) a0 s0 [.ref mo, .int (nI br), .int (nI lk)] sz [(mo, .inr (7, [.int (iM 0), .int (iM 1), .int (nI nb), .int (nI nl), .ref (mb 0), .ref (mb 1), .ref (mb 2), .ref (mb 3), .ref (mb 4), .ref (mb 5), .ref (mb 6), .ref (mb 7), .ref (mb 8), .ref (mb 9), .ref (mb 10), .ref (mb 11), .ref (mb 12), .ref (mb 13), .ref (mb 14), .ref (mb 15), .ref (mb 16), .ref (mb 17), .ref (mb 18), .ref (mb 19), .ref (mb 20), .ref (mb 21), .ref (mb 22), .ref (mb 23), .ref (mb 24), .ref (mb 25), .ref (mb 26), .ref (mb 27), .ref (mb 28), .ref (mb 29), .ref (mb 30), .ref (mb 31), .ref (mb 32), .int (iM 4), .int (iM 5), .int (iM 6), .int (iM 7), .int (iM 8), .int (iM 9), .int (iM 10), .ref (mb 33), .ref (mb 34), .ref (mb 35), .ref (mb 36), .int (iM 11), .int (iM 12), .int (iM 13), .int (iM 14), .ref (mb 37)])), ((mb 0), .inl (cI, 60, .inl (fun j => nI (fA j)))), ((mb 1), .inl (cI, 60, .inl (fun j => nI (fB j))))]) (zQp (fun r => (r = 1 ∧ (fA lk = br ∨ fB lk = br)) ∨ (r = 0 ∧ ¬ (fA lk = br ∨ fB lk = br))) sz) 0 0 (zN sz) := by
  refine Met.ofW (cc := bMO_isEnd) (maxL := 3) (ret := (some .boolean)) (by decide) rfl ?_
  intro p e s m args below meth c s₁ B hml hv
  obtain ⟨rfl, hsz, hP, hK, hD0, hB⟩ := hv
  have hx := B.exec
  have hb := B.bytes
  have hr := B.returns
  have hown : s.vm.findClass "RingGuardModel" = some m.cls := findClass_of_methodNamed B.named
  have hlocks := B.notSynchronized
  subst hsz
  have hD := hD0
  have hA0 : ∀ q, zN s.heap.size q → s0.heap.size ≤ q := zA1 hB
  have hAD : ∀ q, zN s0.heap.size q → s0.heap.size ≤ q := fun _ h => h
  have hA : ∀ q : Nat, s.heap.size ≤ q → zN s.heap.size q := fun _ h => h
  have hS : va_S (zN s.heap.size) s.heap s.heap [] := va_S.rf
  have hP : va_P (dC, dI) zCl [(mo, .inr (7, [.int (iM 0), .int (iM 1), .int (nI nb), .int (nI nl), .ref (mb 0), .ref (mb 1), .ref (mb 2), .ref (mb 3), .ref (mb 4), .ref (mb 5), .ref (mb 6), .ref (mb 7), .ref (mb 8), .ref (mb 9), .ref (mb 10), .ref (mb 11), .ref (mb 12), .ref (mb 13), .ref (mb 14), .ref (mb 15), .ref (mb 16), .ref (mb 17), .ref (mb 18), .ref (mb 19), .ref (mb 20), .ref (mb 21), .ref (mb 22), .ref (mb 23), .ref (mb 24), .ref (mb 25), .ref (mb 26), .ref (mb 27), .ref (mb 28), .ref (mb 29), .ref (mb 30), .ref (mb 31), .ref (mb 32), .int (iM 4), .int (iM 5), .int (iM 6), .int (iM 7), .int (iM 8), .int (iM 9), .int (iM 10), .ref (mb 33), .ref (mb 34), .ref (mb 35), .ref (mb 36), .int (iM 11), .int (iM 12), .int (iM 13), .int (iM 14), .ref (mb 37)])), ((mb 0), .inl (cI, 60, .inl (fun j => nI (fA j)))), ((mb 1), .inl (cI, 60, .inl (fun j => nI (fB j))))] s.heap := hP
  have hl := lv_entry ([.ref mo, .int (nI br), .int (nI lk)]) (n := 3) (Nat.le_of_ble_eq_true rfl)
  rw [lg_entry_eq]
  generalize (lg_sl ([.ref mo, .int (nI br), .int (nI lk)]) ++ List.replicate (3 - (lg_sl ([.ref mo, .int (nI br), .int (nI lk)])).length) Slot.unset).toArray = ls at hl ⊢
  have hl : lv_has ls 3 [(0, .ref mo), (1, .int (nI br)), (2, .int (nI lk))] := hl
  refine lv_aload_n hx hb dMO_isEnd_0 rfl (lv_at hl 0 rfl) ?_
  have hu7 : ∀ w ∈ u_ws "RingGuardModel" T_MO 53, w.before ([.ref mo, .int (nI br), .int (nI lk)] : List Value).toArray s = true := hB.words zU_MO
  refine va_get (D := (dC, dI)) (ci := 7) (v := .ref (mb 0)) (C := "RingGuardModel") (T := T_MO) (N := 53) hx hb hu7 zid hown hK hP 0 rfl rfl 4 (by decide) (hB.word (zm4 k4_118) rfl) (fun _ h9 => h9) rfl dMO_isEnd_1 ?_
  refine lv_iload_n hx hb dMO_isEnd_4 rfl (lv_at hl 2 rfl) ?_
  refine va_iald hx hb hK hP 1 0 rfl rfl (i := nI lk) (vp_in_nI (by omega) (by decide)) dMO_isEnd_5 ?_
  refine lv_topi (fun k1 ek1 => ?_)
  have ek1 : k1 = nI (fA lk) := by rw [ek1]; show nI (fA (nI _).toNatClampNeg) = _; rw [nI_clamp (by omega)]
  subst ek1
  refine lv_iload_n hx hb dMO_isEnd_6 rfl (lv_at hl 1 rfl) ?_
  refine lv_icmp_eq (tgt := 20) hx hb dMO_isEnd_7 (by decide) (fun c_7 => ?_) (fun c_7 => ?_)
  · refine lv_iconst (v := 1) hx hb dMO_isEnd_20 (by decide) ?_
    refine lv_goto (tgt := 25) hx hb dMO_isEnd_21 (by decide) ?_
    refine W.widen (k := 0) (n := 0) (Nat.le_of_ble_eq_true rfl) (Nat.le_of_ble_eq_true rfl) ?_
    exact W.zret (v := 1) (ty := .boolean) hx hb hr rfl (fun t ht hW => ⟨⟨1, (), rfl, (Or.inl ⟨rfl, zend (gA lk) (gB lk) hbr (by first | exact Or.inl c_7 | exact Or.inr c_17)⟩), trivial⟩, hS.F ht⟩) hS.2.2 dMO_isEnd_25
  · refine lv_aload_n hx hb dMO_isEnd_10 rfl (lv_at hl 0 rfl) ?_
    refine va_get (D := (dC, dI)) (ci := 7) (v := .ref (mb 1)) (C := "RingGuardModel") (T := T_MO) (N := 53) hx hb hu7 zid hown hK hP 0 rfl rfl 5 (by decide) (hB.word (zm4 k4_119) rfl) (fun _ h9 => h9) rfl dMO_isEnd_11 ?_
    refine lv_iload_n hx hb dMO_isEnd_14 rfl (lv_at hl 2 rfl) ?_
    refine va_iald hx hb hK hP 2 0 rfl rfl (i := nI lk) (vp_in_nI (by omega) (by decide)) dMO_isEnd_15 ?_
    refine lv_topi (fun k2 ek2 => ?_)
    have ek2 : k2 = nI (fB lk) := by rw [ek2]; show nI (fB (nI _).toNatClampNeg) = _; rw [nI_clamp (by omega)]
    subst ek2
    refine lv_iload_n hx hb dMO_isEnd_16 rfl (lv_at hl 1 rfl) ?_
    refine lv_icmp_ne (tgt := 24) hx hb dMO_isEnd_17 (by decide) (fun c_17 => ?_) (fun c_17 => ?_)
    · refine lv_iconst (v := 0) hx hb dMO_isEnd_24 (by decide) ?_
      refine W.widen (k := 0) (n := 0) (Nat.le_of_ble_eq_true rfl) (Nat.le_of_ble_eq_true rfl) ?_
      exact W.zret (v := 0) (ty := .boolean) hx hb hr rfl (fun t ht hW => ⟨⟨0, (), rfl, (Or.inr ⟨rfl, fun q9 => q9.elim (fun e9 => c_7 (by rw [e9])) (fun e9 => c_17 (by rw [e9]))⟩), trivial⟩, hS.F ht⟩) hS.2.2 dMO_isEnd_25
    · refine lv_iconst (v := 1) hx hb dMO_isEnd_20 (by decide) ?_
      refine lv_goto (tgt := 25) hx hb dMO_isEnd_21 (by decide) ?_
      refine W.widen (k := 0) (n := 0) (Nat.le_of_ble_eq_true rfl) (Nat.le_of_ble_eq_true rfl) ?_
      exact W.zret (v := 1) (ty := .boolean) hx hb hr rfl (fun t ht hW => ⟨⟨1, (), rfl, (Or.inl ⟨rfl, zend (gA lk) (gB lk) hbr (by first | exact Or.inl c_7 | exact Or.inr c_17)⟩), trivial⟩, hS.F ht⟩) hS.2.2 dMO_isEnd_25
set_option maxHeartbeats 4000000 in
set_option maxRecDepth 100000 in
theorem zm_degreeIn (l : Launch) (dC : Nat → ClassId) (dI : Nat → Nat → Nat) (cI cZ cJ : ClassId) (a0 : Array Value) (s0 : State) (mo : Nat) (mb : Nat → Nat) (iM : Nat → Int32) (nb nl sz : Nat) (fA fB fR : Nat → Nat) (br rg : Nat) (hnl : nl ≤ 60) (hbr : br < 48) (hrg : rg < 6) (gA : ∀ j, fA j < 48) (gB : ∀ j, fB j < 48) (gR : ∀ j, fR j < 6) : Met l yMO_degreeIn [Cond.code yMO_degreeIn bMO_degreeIn 5 (some .int)] ({ frames := 1, cells := 0, slots := 0, locals := 22 } : Room) (zP zCl dC dI (zTY cI cZ cJ) a0 s0 [.ref mo, .int (nI br), .int (nI rg)] sz [(mo, .inr (7, [.int (iM 0), .int (iM 1), .int (nI nb), .int (nI nl), .ref (mb 0), .ref (mb 1), .ref (mb 2), .ref (mb 3), .ref (mb 4), .ref (mb 5), .ref (mb 6), .ref (mb 7), .ref (mb 8), .ref (mb 9), .ref (mb 10), .ref (mb 11), .ref (mb 12), .ref (mb 13), .ref (mb 14), .ref (mb 15), .ref (mb 16), .ref (mb 17), .ref (mb 18), .ref (mb 19), .ref (mb 20), .ref (mb 21), .ref (mb 22), .ref (mb 23), .ref (mb 24), .ref (mb 25), .ref (mb 26), .ref (mb 27), .ref (mb 28), .ref (mb 29), .ref (mb 30), .ref (mb 31), .ref (mb 32), .int (iM 4), .int (iM 5), .int (iM 6), .int (iM 7), .int (iM 8), .int (iM 9), .int (iM 10), .ref (mb 33), .ref (mb 34), .ref (mb 35), .ref (mb 36), .int (iM 11), .int (iM 12), .int (iM 13), .int (iM 14), .ref (mb 37)])), ((mb 0), .inl (cI, 60, .inl (fun j => nI (fA j)))), ((mb 1), .inl (cI, 60, .inl (fun j => nI (fB j)))), ((mb 2), .inl (cI, 60, .inl (fun j => nI (fR j))))]) (zQp (fun r => r = nI (zdeg fA fB fR br rg nl)) sz) 0 0 (zN sz) := by
  refine Met.ofW (cc := bMO_degreeIn) (maxL := 5) (ret := (some .int)) (by decide) rfl ?_
  intro p e s m args below meth c s₁ B hml hv
  obtain ⟨rfl, hsz, hP, hK, hD0, hB⟩ := hv
  have hx := B.exec
  have hb := B.bytes
  have hr := B.returns
  have hown : s.vm.findClass "RingGuardModel" = some m.cls := findClass_of_methodNamed B.named
  have hlocks := B.notSynchronized
  subst hsz
  have hD := hD0
  have hA0 : ∀ q, zN s.heap.size q → s0.heap.size ≤ q := zA1 hB
  have hAD : ∀ q, zN s0.heap.size q → s0.heap.size ≤ q := fun _ h => h
  have hA : ∀ q : Nat, s.heap.size ≤ q → zN s.heap.size q := fun _ h => h
  have hS : va_S (zN s.heap.size) s.heap s.heap [] := va_S.rf
  have hP : va_P (dC, dI) zCl [(mo, .inr (7, [.int (iM 0), .int (iM 1), .int (nI nb), .int (nI nl), .ref (mb 0), .ref (mb 1), .ref (mb 2), .ref (mb 3), .ref (mb 4), .ref (mb 5), .ref (mb 6), .ref (mb 7), .ref (mb 8), .ref (mb 9), .ref (mb 10), .ref (mb 11), .ref (mb 12), .ref (mb 13), .ref (mb 14), .ref (mb 15), .ref (mb 16), .ref (mb 17), .ref (mb 18), .ref (mb 19), .ref (mb 20), .ref (mb 21), .ref (mb 22), .ref (mb 23), .ref (mb 24), .ref (mb 25), .ref (mb 26), .ref (mb 27), .ref (mb 28), .ref (mb 29), .ref (mb 30), .ref (mb 31), .ref (mb 32), .int (iM 4), .int (iM 5), .int (iM 6), .int (iM 7), .int (iM 8), .int (iM 9), .int (iM 10), .ref (mb 33), .ref (mb 34), .ref (mb 35), .ref (mb 36), .int (iM 11), .int (iM 12), .int (iM 13), .int (iM 14), .ref (mb 37)])), ((mb 0), .inl (cI, 60, .inl (fun j => nI (fA j)))), ((mb 1), .inl (cI, 60, .inl (fun j => nI (fB j)))), ((mb 2), .inl (cI, 60, .inl (fun j => nI (fR j))))] s.heap := hP
  have hl := lv_entry ([.ref mo, .int (nI br), .int (nI rg)]) (n := 5) (Nat.le_of_ble_eq_true rfl)
  rw [lg_entry_eq]
  generalize (lg_sl ([.ref mo, .int (nI br), .int (nI rg)]) ++ List.replicate (5 - (lg_sl ([.ref mo, .int (nI br), .int (nI rg)])).length) Slot.unset).toArray = ls at hl ⊢
  have hl : lv_has ls 5 [(0, .ref mo), (1, .int (nI br)), (2, .int (nI rg))] := hl
  refine lv_iconst (v := 0) hx hb dMO_degreeIn_0 (by decide) ?_
  refine lv_istore_n (lv' := [(3, .int 0), (0, .ref mo), (1, .int (nI br)), (2, .int (nI rg))]) hx hb dMO_degreeIn_1 rfl hl (by decide) rfl (fun ls hl => ?_)
  refine lv_iconst (v := 0) hx hb dMO_degreeIn_2 (by decide) ?_
  refine lv_istore (lv' := [(4, .int 0), (3, .int 0), (0, .ref mo), (1, .int (nI br)), (2, .int (nI rg))]) hx hb dMO_degreeIn_3 hl (by decide) rfl (fun ls hl => ?_)
  refine zfor (N := nl) (fun k => ∀ (H : Heap) (locs : List Loc) (ls : Array Slot), va_P (dC, dI) zCl [(mo, .inr (7, [.int (iM 0), .int (iM 1), .int (nI nb), .int (nI nl), .ref (mb 0), .ref (mb 1), .ref (mb 2), .ref (mb 3), .ref (mb 4), .ref (mb 5), .ref (mb 6), .ref (mb 7), .ref (mb 8), .ref (mb 9), .ref (mb 10), .ref (mb 11), .ref (mb 12), .ref (mb 13), .ref (mb 14), .ref (mb 15), .ref (mb 16), .ref (mb 17), .ref (mb 18), .ref (mb 19), .ref (mb 20), .ref (mb 21), .ref (mb 22), .ref (mb 23), .ref (mb 24), .ref (mb 25), .ref (mb 26), .ref (mb 27), .ref (mb 28), .ref (mb 29), .ref (mb 30), .ref (mb 31), .ref (mb 32), .int (iM 4), .int (iM 5), .int (iM 6), .int (iM 7), .int (iM 8), .int (iM 9), .int (iM 10), .ref (mb 33), .ref (mb 34), .ref (mb 35), .ref (mb 36), .int (iM 11), .int (iM 12), .int (iM 13), .int (iM 14), .ref (mb 37)])), ((mb 0), .inl (cI, 60, .inl (fun j => nI (fA j)))), ((mb 1), .inl (cI, 60, .inl (fun j => nI (fB j)))), ((mb 2), .inl (cI, 60, .inl (fun j => nI (fR j))))] H → va_D (zN s0.heap.size) [(mo, .inr (7, [.int (iM 0), .int (iM 1), .int (nI nb), .int (nI nl), .ref (mb 0), .ref (mb 1), .ref (mb 2), .ref (mb 3), .ref (mb 4), .ref (mb 5), .ref (mb 6), .ref (mb 7), .ref (mb 8), .ref (mb 9), .ref (mb 10), .ref (mb 11), .ref (mb 12), .ref (mb 13), .ref (mb 14), .ref (mb 15), .ref (mb 16), .ref (mb 17), .ref (mb 18), .ref (mb 19), .ref (mb 20), .ref (mb 21), .ref (mb 22), .ref (mb 23), .ref (mb 24), .ref (mb 25), .ref (mb 26), .ref (mb 27), .ref (mb 28), .ref (mb 29), .ref (mb 30), .ref (mb 31), .ref (mb 32), .int (iM 4), .int (iM 5), .int (iM 6), .int (iM 7), .int (iM 8), .int (iM 9), .int (iM 10), .ref (mb 33), .ref (mb 34), .ref (mb 35), .ref (mb 36), .int (iM 11), .int (iM 12), .int (iM 13), .int (iM 14), .ref (mb 37)])), ((mb 0), .inl (cI, 60, .inl (fun j => nI (fA j)))), ((mb 1), .inl (cI, 60, .inl (fun j => nI (fB j)))), ((mb 2), .inl (cI, 60, .inl (fun j => nI (fR j))))] → va_S (zN s.heap.size) s.heap H locs → lv_has ls 5 [(0, .ref mo), (1, .int (nI br)), (2, .int (nI rg)), (3, .int (nI (zdeg fA fB fR br rg k))), (4, .int (nI k))] → W p l e _ s m _ below meth c H locs _ _ _ (F0 m 5 ls [])) ?_ ?_ s.heap [] ls hP hD hS (lv_sub hl [2, 3, 4, 1, 0] rfl)
  · intro k hk ih H locs ls   hP hD hS hl
    refine lv_iload hx hb dMO_degreeIn_5 (lv_at hl 4 rfl) ?_
    refine lv_aload_n hx hb dMO_degreeIn_7 rfl (lv_at hl 0 rfl) ?_
    have hu7 : ∀ w ∈ u_ws "RingGuardModel" T_MO 53, w.before ([.ref mo, .int (nI br), .int (nI rg)] : List Value).toArray s = true := hB.words zU_MO
    refine va_get (D := (dC, dI)) (ci := 7) (v := .int (nI nl)) (C := "RingGuardModel") (T := T_MO) (N := 53) hx hb hu7 zid hown hK hP 0 rfl rfl 3 (by decide) (hB.word (zm4 k4_117) rfl) (fun _ h9 => h9) rfl dMO_degreeIn_8 ?_
    refine lv_icmp_ge (tgt := 49) hx hb dMO_degreeIn_11 (by decide) (fun c9 => absurd c9 (nI_ge (b := nl) hk (by omega))) (fun _ => ?_)
    refine lv_iload_n hx hb dMO_degreeIn_14 rfl (lv_at hl 3 rfl) ?_
    refine lv_aload_n hx hb dMO_degreeIn_15 rfl (lv_at hl 0 rfl) ?_
    refine va_get (D := (dC, dI)) (ci := 7) (v := .ref (mb 2)) (C := "RingGuardModel") (T := T_MO) (N := 53) hx hb hu7 zid hown hK hP 0 rfl rfl 6 (by decide) (hB.word (zm4 k4_120) rfl) (fun _ h9 => h9) rfl dMO_degreeIn_16 ?_
    refine lv_iload hx hb dMO_degreeIn_19 (lv_at hl 4 rfl) ?_
    refine va_iald hx hb hK hP 3 0 rfl rfl (i := nI k) (vp_in_nI (by omega) (by decide)) dMO_degreeIn_21 ?_
    refine lv_topi (fun k1 ek1 => ?_)
    have ek1 : k1 = nI (fR k) := by rw [ek1]; show nI (fR (nI _).toNatClampNeg) = _; rw [nI_clamp (by omega)]
    subst ek1
    refine lv_iload_n hx hb dMO_degreeIn_22 rfl (lv_at hl 2 rfl) ?_
    refine lv_icmp_ne (tgt := 40) hx hb dMO_degreeIn_23 (by decide) (fun c_23 => ?_) (fun c_23 => ?_)
    · refine lv_iconst (v := 0) hx hb dMO_degreeIn_40 (by decide) ?_
      refine lv_iadd hx hb dMO_degreeIn_41 ?_
      refine lv_topi (fun k2 ek2 => ?_)
      have ek2 : k2 = nI ((zdeg fA fB fR br rg k) + 0) := ek2.trans (nI_add (zdeg fA fB fR br rg k) 0)
      subst ek2
      refine lv_istore_n (lv' := [(3, .int (nI ((zdeg fA fB fR br rg k) + 0))), (0, .ref mo), (1, .int (nI br)), (2, .int (nI rg)), (4, .int (nI k))]) hx hb dMO_degreeIn_42 rfl hl (by decide) rfl (fun ls hl => ?_)
      refine lv_iinc (v := nI (k + 1)) (lv' := [(4, .int (nI (k + 1))), (3, .int (nI ((zdeg fA fB fR br rg k) + 0))), (0, .ref mo), (1, .int (nI br)), (2, .int (nI rg))]) hx hb dMO_degreeIn_43 hl (k := 4) rfl (nI_1 k) (by decide) rfl (fun ls hl => ?_)
      refine lv_goto (tgt := 5) hx hb dMO_degreeIn_46 (by decide) ?_
      have e9_3 : nI ((zdeg fA fB fR br rg k) + 0) = nI (zdeg fA fB fR br rg (k + 1)) := (by first | exact zdegm_0 c_23 | exact zdegm_1 (zb1 hx c_33) | exact zdegm_2 (gR k) hrg c_23 (zb0 hx c_33))
      exact ih H locs ls hP hD hS (by rw [← e9_3]; exact lv_sub hl [2, 3, 4, 1, 0] rfl)
    · refine lv_aload_n hx hb dMO_degreeIn_26 rfl (lv_at hl 0 rfl) ?_
      refine lv_iload_n hx hb dMO_degreeIn_27 rfl (lv_at hl 1 rfl) ?_
      refine lv_iload hx hb dMO_degreeIn_28 (lv_at hl 4 rfl) ?_
      have hPc : va_P (dC, dI) zCl [(mo, .inr (7, [.int (iM 0), .int (iM 1), .int (nI nb), .int (nI nl), .ref (mb 0), .ref (mb 1), .ref (mb 2), .ref (mb 3), .ref (mb 4), .ref (mb 5), .ref (mb 6), .ref (mb 7), .ref (mb 8), .ref (mb 9), .ref (mb 10), .ref (mb 11), .ref (mb 12), .ref (mb 13), .ref (mb 14), .ref (mb 15), .ref (mb 16), .ref (mb 17), .ref (mb 18), .ref (mb 19), .ref (mb 20), .ref (mb 21), .ref (mb 22), .ref (mb 23), .ref (mb 24), .ref (mb 25), .ref (mb 26), .ref (mb 27), .ref (mb 28), .ref (mb 29), .ref (mb 30), .ref (mb 31), .ref (mb 32), .int (iM 4), .int (iM 5), .int (iM 6), .int (iM 7), .int (iM 8), .int (iM 9), .int (iM 10), .ref (mb 33), .ref (mb 34), .ref (mb 35), .ref (mb 36), .int (iM 11), .int (iM 12), .int (iM 13), .int (iM 14), .ref (mb 37)])), ((mb 0), .inl (cI, 60, .inl (fun j => nI (fA j)))), ((mb 1), .inl (cI, 60, .inl (fun j => nI (fB j))))] H := hP.sub [0, 1, 2] rfl
      have hDc : va_D (zN s0.heap.size) [(mo, .inr (7, [.int (iM 0), .int (iM 1), .int (nI nb), .int (nI nl), .ref (mb 0), .ref (mb 1), .ref (mb 2), .ref (mb 3), .ref (mb 4), .ref (mb 5), .ref (mb 6), .ref (mb 7), .ref (mb 8), .ref (mb 9), .ref (mb 10), .ref (mb 11), .ref (mb 12), .ref (mb 13), .ref (mb 14), .ref (mb 15), .ref (mb 16), .ref (mb 17), .ref (mb 18), .ref (mb 19), .ref (mb 20), .ref (mb 21), .ref (mb 22), .ref (mb 23), .ref (mb 24), .ref (mb 25), .ref (mb 26), .ref (mb 27), .ref (mb 28), .ref (mb 29), .ref (mb 30), .ref (mb 31), .ref (mb 32), .int (iM 4), .int (iM 5), .int (iM 6), .int (iM 7), .int (iM 8), .int (iM 9), .int (iM 10), .ref (mb 33), .ref (mb 34), .ref (mb 35), .ref (mb 36), .int (iM 11), .int (iM 12), .int (iM 13), .int (iM 14), .ref (mb 37)])), ((mb 0), .inl (cI, 60, .inl (fun j => nI (fA j)))), ((mb 1), .inl (cI, 60, .inl (fun j => nI (fB j))))] := hD.sub [0, 1, 2] (by decide) rfl
      refine zcallp (va_runV (As := [.int (nI br), .int (nI k)]) (rest := [.int (nI (zdeg fA fB fR br rg k))]) ⟨hx, hb, hml, hown, zno⟩ (zm_isEnd l dC dI cI cZ cJ a0 s0 mo mb iM nb nl H.size fA fB br k (by omega) hbr gA gB) (zcw 2 (hB.word (zm5 k5_80) rfl) (hB.word (zm1 k1_9) rfl) (hB.word (zm5 k5_77) rfl) (hB.word (zm5 k5_79) rfl) (k2_selects_private (by decide) (hB.word (zm4 k4_109) rfl) (hB.word (zm5 k5_78) rfl) (hB.word (zm5 k5_79) rfl)) rfl rfl (by decide +kernel) ⟨Nat.le_of_ble_eq_true rfl, Nat.le_of_ble_eq_true rfl⟩) ⟨zP_blind, va_recv hK hP (ci := 7) (q0 := 0) rfl rfl, zP_pre hPc hK hDc hAD (zB_on hB hA0 hS)⟩ rfl rfl hl.1 rfl (lv_room (Nat.le_of_ble_eq_true rfl)) dMO_degreeIn_30 ⟨Nat.le_of_ble_eq_true rfl, Nat.le_of_ble_eq_true rfl⟩) hS hA (fun r3 H1 locs hr3 hz1 hk1 hS => ?_)
      have hP := zKeep hP hk1
      generalize H1 = H at hP hS ⊢
      have hP : va_P (dC, dI) zCl [(mo, .inr (7, [.int (iM 0), .int (iM 1), .int (nI nb), .int (nI nl), .ref (mb 0), .ref (mb 1), .ref (mb 2), .ref (mb 3), .ref (mb 4), .ref (mb 5), .ref (mb 6), .ref (mb 7), .ref (mb 8), .ref (mb 9), .ref (mb 10), .ref (mb 11), .ref (mb 12), .ref (mb 13), .ref (mb 14), .ref (mb 15), .ref (mb 16), .ref (mb 17), .ref (mb 18), .ref (mb 19), .ref (mb 20), .ref (mb 21), .ref (mb 22), .ref (mb 23), .ref (mb 24), .ref (mb 25), .ref (mb 26), .ref (mb 27), .ref (mb 28), .ref (mb 29), .ref (mb 30), .ref (mb 31), .ref (mb 32), .int (iM 4), .int (iM 5), .int (iM 6), .int (iM 7), .int (iM 8), .int (iM 9), .int (iM 10), .ref (mb 33), .ref (mb 34), .ref (mb 35), .ref (mb 36), .int (iM 11), .int (iM 12), .int (iM 13), .int (iM 14), .ref (mb 37)])), ((mb 0), .inl (cI, 60, .inl (fun j => nI (fA j)))), ((mb 1), .inl (cI, 60, .inl (fun j => nI (fB j)))), ((mb 2), .inl (cI, 60, .inl (fun j => nI (fR j))))] H := hP
      refine lv_if_eq (tgt := 40) hx hb dMO_degreeIn_33 (by decide) (fun c_33 => ?_) (fun c_33 => ?_)
      · refine lv_iconst (v := 0) hx hb dMO_degreeIn_40 (by decide) ?_
        refine lv_iadd hx hb dMO_degreeIn_41 ?_
        refine lv_topi (fun k4 ek4 => ?_)
        have ek4 : k4 = nI ((zdeg fA fB fR br rg k) + 0) := ek4.trans (nI_add (zdeg fA fB fR br rg k) 0)
        subst ek4
        refine lv_istore_n (lv' := [(3, .int (nI ((zdeg fA fB fR br rg k) + 0))), (0, .ref mo), (1, .int (nI br)), (2, .int (nI rg)), (4, .int (nI k))]) hx hb dMO_degreeIn_42 rfl hl (by decide) rfl (fun ls hl => ?_)
        refine lv_iinc (v := nI (k + 1)) (lv' := [(4, .int (nI (k + 1))), (3, .int (nI ((zdeg fA fB fR br rg k) + 0))), (0, .ref mo), (1, .int (nI br)), (2, .int (nI rg))]) hx hb dMO_degreeIn_43 hl (k := 4) rfl (nI_1 k) (by decide) rfl (fun ls hl => ?_)
        refine lv_goto (tgt := 5) hx hb dMO_degreeIn_46 (by decide) ?_
        have e9_3 : nI ((zdeg fA fB fR br rg k) + 0) = nI (zdeg fA fB fR br rg (k + 1)) := (by first | exact zdegm_0 c_23 | exact zdegm_1 (zb1 hr3 c_33) | exact zdegm_2 (gR k) hrg c_23 (zb0 hr3 c_33))
        exact ih H locs ls hP hD hS (by rw [← e9_3]; exact lv_sub hl [2, 3, 4, 1, 0] rfl)
      · refine lv_iconst (v := 1) hx hb dMO_degreeIn_36 (by decide) ?_
        refine lv_goto (tgt := 41) hx hb dMO_degreeIn_37 (by decide) ?_
        refine lv_iadd hx hb dMO_degreeIn_41 ?_
        refine lv_topi (fun k5 ek5 => ?_)
        have ek5 : k5 = nI ((zdeg fA fB fR br rg k) + 1) := ek5.trans (nI_add (zdeg fA fB fR br rg k) 1)
        subst ek5
        refine lv_istore_n (lv' := [(3, .int (nI ((zdeg fA fB fR br rg k) + 1))), (0, .ref mo), (1, .int (nI br)), (2, .int (nI rg)), (4, .int (nI k))]) hx hb dMO_degreeIn_42 rfl hl (by decide) rfl (fun ls hl => ?_)
        refine lv_iinc (v := nI (k + 1)) (lv' := [(4, .int (nI (k + 1))), (3, .int (nI ((zdeg fA fB fR br rg k) + 1))), (0, .ref mo), (1, .int (nI br)), (2, .int (nI rg))]) hx hb dMO_degreeIn_43 hl (k := 4) rfl (nI_1 k) (by decide) rfl (fun ls hl => ?_)
        refine lv_goto (tgt := 5) hx hb dMO_degreeIn_46 (by decide) ?_
        have e9_3 : nI ((zdeg fA fB fR br rg k) + 1) = nI (zdeg fA fB fR br rg (k + 1)) := (by first | exact zdegm_0 c_23 | exact zdegm_1 (zb1 hr3 c_33) | exact zdegm_2 (gR k) hrg c_23 (zb0 hr3 c_33))
        exact ih H locs ls hP hD hS (by rw [← e9_3]; exact lv_sub hl [2, 3, 4, 1, 0] rfl)
  · intro H locs ls   hP hD hS hl
    refine lv_iload hx hb dMO_degreeIn_5 (lv_at hl 4 rfl) ?_
    refine lv_aload_n hx hb dMO_degreeIn_7 rfl (lv_at hl 0 rfl) ?_
    have hu7 : ∀ w ∈ u_ws "RingGuardModel" T_MO 53, w.before ([.ref mo, .int (nI br), .int (nI rg)] : List Value).toArray s = true := hB.words zU_MO
    refine va_get (D := (dC, dI)) (ci := 7) (v := .int (nI nl)) (C := "RingGuardModel") (T := T_MO) (N := 53) hx hb hu7 zid hown hK hP 0 rfl rfl 3 (by decide) (hB.word (zm4 k4_117) rfl) (fun _ h9 => h9) rfl dMO_degreeIn_8 ?_
    refine lv_icmp_ge (tgt := 49) hx hb dMO_degreeIn_11 (by decide) (fun _ => ?_) (fun c9 => absurd (nI_le (a := nl) (b := nl) (Nat.le_refl _) (by omega)) c9)
    refine lv_iload_n hx hb dMO_degreeIn_49 rfl (lv_at hl 3 rfl) ?_
    refine W.widen (k := 0) (n := 0) (Nat.le_of_ble_eq_true rfl) (Nat.le_of_ble_eq_true rfl) ?_
    exact W.iret (v := nI (zdeg fA fB fR br rg nl)) hx hb hr (fun t ht hW => ⟨⟨nI (zdeg fA fB fR br rg nl), (), rfl, rfl, trivial⟩, hS.F ht⟩) hS.2.2 dMO_degreeIn_50
set_option maxHeartbeats 4000000 in
set_option maxRecDepth 100000 in
theorem zm_linksIn (l : Launch) (dC : Nat → ClassId) (dI : Nat → Nat → Nat) (cI cZ cJ : ClassId) (a0 : Array Value) (s0 : State) (mo : Nat) (mb : Nat → Nat) (iM : Nat → Int32) (nb nl sz : Nat) (fR : Nat → Nat) (rg : Nat) (hnl : nl ≤ 60) (hrg : rg < 6) (gR : ∀ j, fR j < 6) : Met l yMO_linksIn [Cond.code yMO_linksIn bMO_linksIn 4 (some .int)] ({ frames := 0, cells := 0, slots := 0, locals := 0 } : Room) (zP zCl dC dI (zTY cI cZ cJ) a0 s0 [.ref mo, .int (nI rg)] sz [(mo, .inr (7, [.int (iM 0), .int (iM 1), .int (nI nb), .int (nI nl), .ref (mb 0), .ref (mb 1), .ref (mb 2), .ref (mb 3), .ref (mb 4), .ref (mb 5), .ref (mb 6), .ref (mb 7), .ref (mb 8), .ref (mb 9), .ref (mb 10), .ref (mb 11), .ref (mb 12), .ref (mb 13), .ref (mb 14), .ref (mb 15), .ref (mb 16), .ref (mb 17), .ref (mb 18), .ref (mb 19), .ref (mb 20), .ref (mb 21), .ref (mb 22), .ref (mb 23), .ref (mb 24), .ref (mb 25), .ref (mb 26), .ref (mb 27), .ref (mb 28), .ref (mb 29), .ref (mb 30), .ref (mb 31), .ref (mb 32), .int (iM 4), .int (iM 5), .int (iM 6), .int (iM 7), .int (iM 8), .int (iM 9), .int (iM 10), .ref (mb 33), .ref (mb 34), .ref (mb 35), .ref (mb 36), .int (iM 11), .int (iM 12), .int (iM 13), .int (iM 14), .ref (mb 37)])), ((mb 2), .inl (cI, 60, .inl (fun j => nI (fR j))))]) (zQp (fun r => r = nI (zcnt fR rg nl)) sz) 0 0 (zN sz) := by
  refine Met.ofW (cc := bMO_linksIn) (maxL := 4) (ret := (some .int)) (by decide) rfl ?_
  intro p e s m args below meth c s₁ B hml hv
  obtain ⟨rfl, hsz, hP, hK, hD0, hB⟩ := hv
  have hx := B.exec
  have hb := B.bytes
  have hr := B.returns
  have hown : s.vm.findClass "RingGuardModel" = some m.cls := findClass_of_methodNamed B.named
  have hlocks := B.notSynchronized
  subst hsz
  have hD := hD0
  have hA0 : ∀ q, zN s.heap.size q → s0.heap.size ≤ q := zA1 hB
  have hAD : ∀ q, zN s0.heap.size q → s0.heap.size ≤ q := fun _ h => h
  have hA : ∀ q : Nat, s.heap.size ≤ q → zN s.heap.size q := fun _ h => h
  have hS : va_S (zN s.heap.size) s.heap s.heap [] := va_S.rf
  have hP : va_P (dC, dI) zCl [(mo, .inr (7, [.int (iM 0), .int (iM 1), .int (nI nb), .int (nI nl), .ref (mb 0), .ref (mb 1), .ref (mb 2), .ref (mb 3), .ref (mb 4), .ref (mb 5), .ref (mb 6), .ref (mb 7), .ref (mb 8), .ref (mb 9), .ref (mb 10), .ref (mb 11), .ref (mb 12), .ref (mb 13), .ref (mb 14), .ref (mb 15), .ref (mb 16), .ref (mb 17), .ref (mb 18), .ref (mb 19), .ref (mb 20), .ref (mb 21), .ref (mb 22), .ref (mb 23), .ref (mb 24), .ref (mb 25), .ref (mb 26), .ref (mb 27), .ref (mb 28), .ref (mb 29), .ref (mb 30), .ref (mb 31), .ref (mb 32), .int (iM 4), .int (iM 5), .int (iM 6), .int (iM 7), .int (iM 8), .int (iM 9), .int (iM 10), .ref (mb 33), .ref (mb 34), .ref (mb 35), .ref (mb 36), .int (iM 11), .int (iM 12), .int (iM 13), .int (iM 14), .ref (mb 37)])), ((mb 2), .inl (cI, 60, .inl (fun j => nI (fR j))))] s.heap := hP
  have hl := lv_entry ([.ref mo, .int (nI rg)]) (n := 4) (Nat.le_of_ble_eq_true rfl)
  rw [lg_entry_eq]
  generalize (lg_sl ([.ref mo, .int (nI rg)]) ++ List.replicate (4 - (lg_sl ([.ref mo, .int (nI rg)])).length) Slot.unset).toArray = ls at hl ⊢
  have hl : lv_has ls 4 [(0, .ref mo), (1, .int (nI rg))] := hl
  refine lv_iconst (v := 0) hx hb dMO_linksIn_0 (by decide) ?_
  refine lv_istore_n (lv' := [(2, .int 0), (0, .ref mo), (1, .int (nI rg))]) hx hb dMO_linksIn_1 rfl hl (by decide) rfl (fun ls hl => ?_)
  refine lv_iconst (v := 0) hx hb dMO_linksIn_2 (by decide) ?_
  refine lv_istore_n (lv' := [(3, .int 0), (2, .int 0), (0, .ref mo), (1, .int (nI rg))]) hx hb dMO_linksIn_3 rfl hl (by decide) rfl (fun ls hl => ?_)
  refine zfor (N := nl) (fun k => ∀ (H : Heap) (locs : List Loc) (ls : Array Slot), va_P (dC, dI) zCl [(mo, .inr (7, [.int (iM 0), .int (iM 1), .int (nI nb), .int (nI nl), .ref (mb 0), .ref (mb 1), .ref (mb 2), .ref (mb 3), .ref (mb 4), .ref (mb 5), .ref (mb 6), .ref (mb 7), .ref (mb 8), .ref (mb 9), .ref (mb 10), .ref (mb 11), .ref (mb 12), .ref (mb 13), .ref (mb 14), .ref (mb 15), .ref (mb 16), .ref (mb 17), .ref (mb 18), .ref (mb 19), .ref (mb 20), .ref (mb 21), .ref (mb 22), .ref (mb 23), .ref (mb 24), .ref (mb 25), .ref (mb 26), .ref (mb 27), .ref (mb 28), .ref (mb 29), .ref (mb 30), .ref (mb 31), .ref (mb 32), .int (iM 4), .int (iM 5), .int (iM 6), .int (iM 7), .int (iM 8), .int (iM 9), .int (iM 10), .ref (mb 33), .ref (mb 34), .ref (mb 35), .ref (mb 36), .int (iM 11), .int (iM 12), .int (iM 13), .int (iM 14), .ref (mb 37)])), ((mb 2), .inl (cI, 60, .inl (fun j => nI (fR j))))] H → va_D (zN s0.heap.size) [(mo, .inr (7, [.int (iM 0), .int (iM 1), .int (nI nb), .int (nI nl), .ref (mb 0), .ref (mb 1), .ref (mb 2), .ref (mb 3), .ref (mb 4), .ref (mb 5), .ref (mb 6), .ref (mb 7), .ref (mb 8), .ref (mb 9), .ref (mb 10), .ref (mb 11), .ref (mb 12), .ref (mb 13), .ref (mb 14), .ref (mb 15), .ref (mb 16), .ref (mb 17), .ref (mb 18), .ref (mb 19), .ref (mb 20), .ref (mb 21), .ref (mb 22), .ref (mb 23), .ref (mb 24), .ref (mb 25), .ref (mb 26), .ref (mb 27), .ref (mb 28), .ref (mb 29), .ref (mb 30), .ref (mb 31), .ref (mb 32), .int (iM 4), .int (iM 5), .int (iM 6), .int (iM 7), .int (iM 8), .int (iM 9), .int (iM 10), .ref (mb 33), .ref (mb 34), .ref (mb 35), .ref (mb 36), .int (iM 11), .int (iM 12), .int (iM 13), .int (iM 14), .ref (mb 37)])), ((mb 2), .inl (cI, 60, .inl (fun j => nI (fR j))))] → va_S (zN s.heap.size) s.heap H locs → lv_has ls 4 [(0, .ref mo), (1, .int (nI rg)), (2, .int (nI (zcnt fR rg k))), (3, .int (nI k))] → W p l e _ s m _ below meth c H locs _ _ _ (F0 m 4 ls [])) ?_ ?_ s.heap [] ls hP hD hS (lv_sub hl [2, 3, 1, 0] rfl)
  · intro k hk ih H locs ls   hP hD hS hl
    refine lv_iload_n hx hb dMO_linksIn_4 rfl (lv_at hl 3 rfl) ?_
    refine lv_aload_n hx hb dMO_linksIn_5 rfl (lv_at hl 0 rfl) ?_
    have hu7 : ∀ w ∈ u_ws "RingGuardModel" T_MO 53, w.before ([.ref mo, .int (nI rg)] : List Value).toArray s = true := hB.words zU_MO
    refine va_get (D := (dC, dI)) (ci := 7) (v := .int (nI nl)) (C := "RingGuardModel") (T := T_MO) (N := 53) hx hb hu7 zid hown hK hP 0 rfl rfl 3 (by decide) (hB.word (zm4 k4_117) rfl) (fun _ h9 => h9) rfl dMO_linksIn_6 ?_
    refine lv_icmp_ge (tgt := 36) hx hb dMO_linksIn_9 (by decide) (fun c9 => absurd c9 (nI_ge (b := nl) hk (by omega))) (fun _ => ?_)
    refine lv_iload_n hx hb dMO_linksIn_12 rfl (lv_at hl 2 rfl) ?_
    refine lv_aload_n hx hb dMO_linksIn_13 rfl (lv_at hl 0 rfl) ?_
    refine va_get (D := (dC, dI)) (ci := 7) (v := .ref (mb 2)) (C := "RingGuardModel") (T := T_MO) (N := 53) hx hb hu7 zid hown hK hP 0 rfl rfl 6 (by decide) (hB.word (zm4 k4_120) rfl) (fun _ h9 => h9) rfl dMO_linksIn_14 ?_
    refine lv_iload_n hx hb dMO_linksIn_17 rfl (lv_at hl 3 rfl) ?_
    refine va_iald hx hb hK hP 1 0 rfl rfl (i := nI k) (vp_in_nI (by omega) (by decide)) dMO_linksIn_18 ?_
    refine lv_topi (fun k1 ek1 => ?_)
    have ek1 : k1 = nI (fR k) := by rw [ek1]; show nI (fR (nI _).toNatClampNeg) = _; rw [nI_clamp (by omega)]
    subst ek1
    refine lv_iload_n hx hb dMO_linksIn_19 rfl (lv_at hl 1 rfl) ?_
    refine lv_icmp_ne (tgt := 27) hx hb dMO_linksIn_20 (by decide) (fun c_20 => ?_) (fun c_20 => ?_)
    · refine lv_iconst (v := 0) hx hb dMO_linksIn_27 (by decide) ?_
      refine lv_iadd hx hb dMO_linksIn_28 ?_
      refine lv_topi (fun k2 ek2 => ?_)
      have ek2 : k2 = nI ((zcnt fR rg k) + 0) := ek2.trans (nI_add (zcnt fR rg k) 0)
      subst ek2
      refine lv_istore_n (lv' := [(2, .int (nI ((zcnt fR rg k) + 0))), (0, .ref mo), (1, .int (nI rg)), (3, .int (nI k))]) hx hb dMO_linksIn_29 rfl hl (by decide) rfl (fun ls hl => ?_)
      refine lv_iinc (v := nI (k + 1)) (lv' := [(3, .int (nI (k + 1))), (2, .int (nI ((zcnt fR rg k) + 0))), (0, .ref mo), (1, .int (nI rg))]) hx hb dMO_linksIn_30 hl (k := 3) rfl (nI_1 k) (by decide) rfl (fun ls hl => ?_)
      refine lv_goto (tgt := 4) hx hb dMO_linksIn_33 (by decide) ?_
      have e9_2 : nI ((zcnt fR rg k) + 0) = nI (zcnt fR rg (k + 1)) := (by first | exact zcnt_0 c_20 | exact zcnt_1 (gR k) hrg c_20)
      exact ih H locs ls hP hD hS (by rw [← e9_2]; exact lv_sub hl [2, 3, 1, 0] rfl)
    · refine lv_iconst (v := 1) hx hb dMO_linksIn_23 (by decide) ?_
      refine lv_goto (tgt := 28) hx hb dMO_linksIn_24 (by decide) ?_
      refine lv_iadd hx hb dMO_linksIn_28 ?_
      refine lv_topi (fun k3 ek3 => ?_)
      have ek3 : k3 = nI ((zcnt fR rg k) + 1) := ek3.trans (nI_add (zcnt fR rg k) 1)
      subst ek3
      refine lv_istore_n (lv' := [(2, .int (nI ((zcnt fR rg k) + 1))), (0, .ref mo), (1, .int (nI rg)), (3, .int (nI k))]) hx hb dMO_linksIn_29 rfl hl (by decide) rfl (fun ls hl => ?_)
      refine lv_iinc (v := nI (k + 1)) (lv' := [(3, .int (nI (k + 1))), (2, .int (nI ((zcnt fR rg k) + 1))), (0, .ref mo), (1, .int (nI rg))]) hx hb dMO_linksIn_30 hl (k := 3) rfl (nI_1 k) (by decide) rfl (fun ls hl => ?_)
      refine lv_goto (tgt := 4) hx hb dMO_linksIn_33 (by decide) ?_
      have e9_2 : nI ((zcnt fR rg k) + 1) = nI (zcnt fR rg (k + 1)) := (by first | exact zcnt_0 c_20 | exact zcnt_1 (gR k) hrg c_20)
      exact ih H locs ls hP hD hS (by rw [← e9_2]; exact lv_sub hl [2, 3, 1, 0] rfl)
  · intro H locs ls   hP hD hS hl
    refine lv_iload_n hx hb dMO_linksIn_4 rfl (lv_at hl 3 rfl) ?_
    refine lv_aload_n hx hb dMO_linksIn_5 rfl (lv_at hl 0 rfl) ?_
    have hu7 : ∀ w ∈ u_ws "RingGuardModel" T_MO 53, w.before ([.ref mo, .int (nI rg)] : List Value).toArray s = true := hB.words zU_MO
    refine va_get (D := (dC, dI)) (ci := 7) (v := .int (nI nl)) (C := "RingGuardModel") (T := T_MO) (N := 53) hx hb hu7 zid hown hK hP 0 rfl rfl 3 (by decide) (hB.word (zm4 k4_117) rfl) (fun _ h9 => h9) rfl dMO_linksIn_6 ?_
    refine lv_icmp_ge (tgt := 36) hx hb dMO_linksIn_9 (by decide) (fun _ => ?_) (fun c9 => absurd (nI_le (a := nl) (b := nl) (Nat.le_refl _) (by omega)) c9)
    refine lv_iload_n hx hb dMO_linksIn_36 rfl (lv_at hl 2 rfl) ?_
    refine W.widen (k := 0) (n := 0) (Nat.le_of_ble_eq_true rfl) (Nat.le_of_ble_eq_true rfl) ?_
    exact W.iret (v := nI (zcnt fR rg nl)) hx hb hr (fun t ht hW => ⟨⟨nI (zcnt fR rg nl), (), rfl, rfl, trivial⟩, hS.F ht⟩) hS.2.2 dMO_linksIn_37
