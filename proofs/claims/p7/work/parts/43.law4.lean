theorem dLA_law_23 : decode bLA_law 23 = .ok (.iload 4, 2) := by decide +kernel
theorem dLA_law_25 : decode bLA_law 25 = .ok (.aload_n 0, 1) := by decide +kernel
theorem dLA_law_26 : decode bLA_law 26 = .ok (.arraylength, 1) := by decide +kernel
theorem dLA_law_27 : decode bLA_law 27 = .ok (.iconst 4, 1) := by decide +kernel
theorem dLA_law_28 : decode bLA_law 28 = .ok (.isub, 1) := by decide +kernel
theorem dLA_law_29 : decode bLA_law 29 = .ok (.if_icmp .gt 854, 3) := by decide +kernel
theorem dLA_law_32 : decode bLA_law 32 = .ok (.aload_n 0, 1) := by decide +kernel
theorem dLA_law_33 : decode bLA_law 33 = .ok (.iload 4, 2) := by decide +kernel
theorem dLA_law_35 : decode bLA_law 35 = .ok (.iaload, 1) := by decide +kernel
theorem dLA_law_36 : decode bLA_law 36 = .ok (.bipush 31, 2) := by decide +kernel
theorem dLA_law_38 : decode bLA_law 38 = .ok (.iand, 1) := by decide +kernel
theorem dLA_law_39 : decode bLA_law 39 = .ok (.tableswitch 838 0 20 #[97, 113, 165, 214, 230, 258, 321, 361, 429, 469, 497, 537, 589, 602, 642, 694, 746, 786, 799, 812, 825], 97) := by decide +kernel
theorem dLA_law_877 : decode bLA_law 877 = .ok (.iinc 4 4, 3) := by decide +kernel
theorem dLA_law_880 : decode bLA_law 880 = .ok (.goto (-857), 3) := by decide +kernel
theorem dLA_law_883 : decode bLA_law 883 = .ok (.iconst 1, 1) := by decide +kernel
theorem dLA_law_884 : decode bLA_law 884 = .ok (.ireturn, 1) := by decide +kernel
theorem zswt (t : Int32) : t = 0 ∨ t = 1 ∨ t = 2 ∨ t = 3 ∨ t = 4 ∨ t = 5 ∨ t = 6 ∨ t = 7 ∨ t = 8 ∨ t = 9 ∨ t = 10 ∨ t = 11 ∨ t = 12 ∨ t = 13 ∨ t = 14 ∨ t = 15 ∨ t = 16 ∨ t = 17 ∨ t = 18 ∨ t = 19 ∨ t = 20 ∨ (t.toInt < 0 ∨ 20 < t.toInt) := by
  by_cases h0 : t = 0
  · exact Or.inl h0
  by_cases h1 : t = 1
  · exact Or.inr (Or.inl h1)
  by_cases h2 : t = 2
  · exact Or.inr (Or.inr (Or.inl h2))
  by_cases h3 : t = 3
  · exact Or.inr (Or.inr (Or.inr (Or.inl h3)))
  by_cases h4 : t = 4
  · exact Or.inr (Or.inr (Or.inr (Or.inr (Or.inl h4))))
  by_cases h5 : t = 5
  · exact Or.inr (Or.inr (Or.inr (Or.inr (Or.inr (Or.inl h5)))))
  by_cases h6 : t = 6
  · exact Or.inr (Or.inr (Or.inr (Or.inr (Or.inr (Or.inr (Or.inl h6))))))
  by_cases h7 : t = 7
  · exact Or.inr (Or.inr (Or.inr (Or.inr (Or.inr (Or.inr (Or.inr (Or.inl h7)))))))
  by_cases h8 : t = 8
  · exact Or.inr (Or.inr (Or.inr (Or.inr (Or.inr (Or.inr (Or.inr (Or.inr (Or.inl h8))))))))
  by_cases h9 : t = 9
  · exact Or.inr (Or.inr (Or.inr (Or.inr (Or.inr (Or.inr (Or.inr (Or.inr (Or.inr (Or.inl h9)))))))))
  by_cases h10 : t = 10
  · exact Or.inr (Or.inr (Or.inr (Or.inr (Or.inr (Or.inr (Or.inr (Or.inr (Or.inr (Or.inr (Or.inl h10))))))))))
  by_cases h11 : t = 11
  · exact Or.inr (Or.inr (Or.inr (Or.inr (Or.inr (Or.inr (Or.inr (Or.inr (Or.inr (Or.inr (Or.inr (Or.inl h11)))))))))))
  by_cases h12 : t = 12
  · exact Or.inr (Or.inr (Or.inr (Or.inr (Or.inr (Or.inr (Or.inr (Or.inr (Or.inr (Or.inr (Or.inr (Or.inr (Or.inl h12))))))))))))
  by_cases h13 : t = 13
  · exact Or.inr (Or.inr (Or.inr (Or.inr (Or.inr (Or.inr (Or.inr (Or.inr (Or.inr (Or.inr (Or.inr (Or.inr (Or.inr (Or.inl h13)))))))))))))
  by_cases h14 : t = 14
  · exact Or.inr (Or.inr (Or.inr (Or.inr (Or.inr (Or.inr (Or.inr (Or.inr (Or.inr (Or.inr (Or.inr (Or.inr (Or.inr (Or.inr (Or.inl h14))))))))))))))
  by_cases h15 : t = 15
  · exact Or.inr (Or.inr (Or.inr (Or.inr (Or.inr (Or.inr (Or.inr (Or.inr (Or.inr (Or.inr (Or.inr (Or.inr (Or.inr (Or.inr (Or.inr (Or.inl h15)))))))))))))))
  by_cases h16 : t = 16
  · exact Or.inr (Or.inr (Or.inr (Or.inr (Or.inr (Or.inr (Or.inr (Or.inr (Or.inr (Or.inr (Or.inr (Or.inr (Or.inr (Or.inr (Or.inr (Or.inr (Or.inl h16))))))))))))))))
  by_cases h17 : t = 17
  · exact Or.inr (Or.inr (Or.inr (Or.inr (Or.inr (Or.inr (Or.inr (Or.inr (Or.inr (Or.inr (Or.inr (Or.inr (Or.inr (Or.inr (Or.inr (Or.inr (Or.inr (Or.inl h17)))))))))))))))))
  by_cases h18 : t = 18
  · exact Or.inr (Or.inr (Or.inr (Or.inr (Or.inr (Or.inr (Or.inr (Or.inr (Or.inr (Or.inr (Or.inr (Or.inr (Or.inr (Or.inr (Or.inr (Or.inr (Or.inr (Or.inr (Or.inl h18))))))))))))))))))
  by_cases h19 : t = 19
  · exact Or.inr (Or.inr (Or.inr (Or.inr (Or.inr (Or.inr (Or.inr (Or.inr (Or.inr (Or.inr (Or.inr (Or.inr (Or.inr (Or.inr (Or.inr (Or.inr (Or.inr (Or.inr (Or.inr (Or.inl h19)))))))))))))))))))
  by_cases h20 : t = 20
  · exact Or.inr (Or.inr (Or.inr (Or.inr (Or.inr (Or.inr (Or.inr (Or.inr (Or.inr (Or.inr (Or.inr (Or.inr (Or.inr (Or.inr (Or.inr (Or.inr (Or.inr (Or.inr (Or.inr (Or.inr (Or.inl h20))))))))))))))))))))
  have g0 := lv_neT h0 (a := 0) (by decide)
  have g1 := lv_neT h1 (a := 1) (by decide)
  have g2 := lv_neT h2 (a := 2) (by decide)
  have g3 := lv_neT h3 (a := 3) (by decide)
  have g4 := lv_neT h4 (a := 4) (by decide)
  have g5 := lv_neT h5 (a := 5) (by decide)
  have g6 := lv_neT h6 (a := 6) (by decide)
  have g7 := lv_neT h7 (a := 7) (by decide)
  have g8 := lv_neT h8 (a := 8) (by decide)
  have g9 := lv_neT h9 (a := 9) (by decide)
  have g10 := lv_neT h10 (a := 10) (by decide)
  have g11 := lv_neT h11 (a := 11) (by decide)
  have g12 := lv_neT h12 (a := 12) (by decide)
  have g13 := lv_neT h13 (a := 13) (by decide)
  have g14 := lv_neT h14 (a := 14) (by decide)
  have g15 := lv_neT h15 (a := 15) (by decide)
  have g16 := lv_neT h16 (a := 16) (by decide)
  have g17 := lv_neT h17 (a := 17) (by decide)
  have g18 := lv_neT h18 (a := 18) (by decide)
  have g19 := lv_neT h19 (a := 19) (by decide)
  have g20 := lv_neT h20 (a := 20) (by decide)
  exact Or.inr (Or.inr (Or.inr (Or.inr (Or.inr (Or.inr (Or.inr (Or.inr (Or.inr (Or.inr (Or.inr (Or.inr (Or.inr (Or.inr (Or.inr (Or.inr (Or.inr (Or.inr (Or.inr (Or.inr (Or.inr ((by omega))))))))))))))))))))))
set_option maxHeartbeats 4000000 in
set_option maxRecDepth 100000 in
theorem law_next {p : Program} {e : Env} {s : State} {m : MethodId} {below : List Frame} {meth : Method} {c : Code} (l : Launch) (hfl : l.flags = Jvm.pinnedFlags ++ [Jvm.noTraceFlag]) {sb L : Nat} {xs : Nat → Int32} (C0 : zAt p s m meth c sb L xs) (dC : Nat → ClassId) (dI : Nat → Nat → Nat) (cI cZ cJ cA : ClassId) (hK : va_K (dC, dI) zCl (zTZ cI cZ cJ cA) s) {o mo mb : Nat → Nat} {qo : Nat} {k cs ss : Nat} (hL : L ≤ 2048) (hcs : cs + 1 ≤ 601024) (hss : ss + 6 ≤ 7293034) (NX : zGo p l e s m below meth c dC dI cI cZ cJ cA sb qo o mo mb (k + 1) (nI (4 * (k + 1))) 23 (cs + 1) (ss + 6)) : zGo p l e s m below meth c dC dI cI cZ cJ cA sb qo o mo mb (k + 1) (nI (4 * k)) 877 (cs + 1) (ss + 6) := by
  intro H locs ls b P S P' S' f hR hP hD hS hl
  have C1 := C0
  obtain ⟨hx, hb, hr, hml, hown, hB, hX, hbl, hlocks⟩ := C0
  have hA0 : ∀ q, zN s.heap.size q → s.heap.size ≤ q := fun _ h => h
  have hAD := hA0
  have hA : ∀ q : Nat, s.heap.size ≤ q → zN s.heap.size q := fun _ h => h
  have hbA : ¬ zN s.heap.size sb := Nat.not_le.mpr hbl
  refine lv_iinc (v := nI (4 * (k + 1))) (lv' := [(4, .int (nI (4 * (k + 1)))), (3, .ref qo), (2, .ref (mo 0)), (1, .ref (o 0)), (0, .ref sb)]) hx hb dLA_law_877 hl (k := 0) rfl (nI_add (4 * k) 4) (by decide) rfl (fun ls hl => ?_)
  refine lv_goto (tgt := 23) hx hb dLA_law_880 (by decide) ?_
  exact NX H locs ls b P S P' S' f hR hP hD hS hl
set_option maxHeartbeats 4000000 in
set_option maxRecDepth 100000 in
theorem law_head {p : Program} {e : Env} {s : State} {m : MethodId} {below : List Frame} {meth : Method} {c : Code} (l : Launch) (hfl : l.flags = Jvm.pinnedFlags ++ [Jvm.noTraceFlag]) {sb L : Nat} {xs : Nat → Int32} (C0 : zAt p s m meth c sb L xs) (dC : Nat → ClassId) (dI : Nat → Nat → Nat) (cI cZ cJ cA : ClassId) (hK : va_K (dC, dI) zCl (zTZ cI cZ cJ cA) s) {o mo mb : Nat → Nat} {qo : Nat} {k cs ss : Nat} (hL : L ≤ 2048) (hcs : cs + 1 ≤ 601024) (hss : ss + 6 ≤ 7293034) (hk0 : 4 * k ≤ L) (NX : 4 * k + 4 ≤ L → zGo p l e s m below meth c dC dI cI cZ cJ cA sb qo o mo mb (k + 1) (nI (4 * k)) 877 (cs + 1) (ss + 6)) : zGo p l e s m below meth c dC dI cI cZ cJ cA sb qo o mo mb (k) (nI (4 * k)) 23 (cs) (ss) := by
  intro H locs ls b P S P' S' f hR hP hD hS hl
  have C1 := C0
  obtain ⟨hx, hb, hr, hml, hown, hB, hX, hbl, hlocks⟩ := C0
  have hA0 : ∀ q, zN s.heap.size q → s.heap.size ≤ q := fun _ h => h
  have hAD := hA0
  have hA : ∀ q : Nat, s.heap.size ≤ q → zN s.heap.size q := fun _ h => h
  have hbA : ¬ zN s.heap.size sb := Nat.not_le.mpr hbl
  refine lv_iload hx hb dLA_law_23 (lv_at hl 0 rfl) ?_
  refine lv_aload_n hx hb dLA_law_25 rfl (lv_at hl 4 rfl) ?_
  refine va_slen hx hb hX hbl hbA hS dLA_law_26 ?_
  refine lv_iconst (v := 4) hx hb dLA_law_27 (by decide) ?_
  refine lv_isub hx hb dLA_law_28 ?_
  refine lv_topi (fun n8 en8 => ?_)
  refine lv_icmp_gt (tgt := 883) hx hb dLA_law_29 (by decide) (fun c_29 => ?_) (fun c_29 => ?_)
  · refine lv_iconst (v := 1) hx hb dLA_law_883 (by decide) ?_
    refine va_forget (fun q hq => hS.2.2 q hq) ?_
    refine W.widen (k := 601024) (n := 7293034) (by omega) (by omega) ?_
    exact lw_ret hx hb hr hlocks dLA_law_884
  · have hk : 4 * k + 4 ≤ L := zL4 hL hk0 en8 c_29
    have NX := NX hk
    refine lv_aload_n hx hb dLA_law_32 rfl (lv_at hl 4 rfl) ?_
    refine lv_iload hx hb dLA_law_33 (lv_at hl 0 rfl) ?_
    refine va_sld hx hb hX hbl hbA hS (i := nI (4 * k)) (vp_in_nI (by omega) (by omega)) dLA_law_35 ?_
    refine lv_bipush (v := 31) hx hb dLA_law_36 (by decide) ?_
    refine lv_iand hx hb dLA_law_38 ?_
    refine lv_topi (fun t9 et9 => ?_)
    rcases zswt t9 with rfl | rfl | rfl | rfl | rfl | rfl | rfl | rfl | rfl | rfl | rfl | rfl | rfl | rfl | rfl | rfl | rfl | rfl | rfl | rfl | rfl | h9
    · refine lv_tableIn (off := 97) (tgt := 136) hx hb dLA_law_39 (by decide) (by decide) rfl (by decide) ?_
      exact law_0 l hfl C1 dC dI cI cZ cJ cA hK hL hcs hss hk NX H locs ls b P S P' S' f hR hP hD hS hl
    · refine lv_tableIn (off := 113) (tgt := 152) hx hb dLA_law_39 (by decide) (by decide) rfl (by decide) ?_
      exact law_1 l hfl C1 dC dI cI cZ cJ cA hK hL hcs hss hk NX H locs ls b P S P' S' f hR hP hD hS hl
    · refine lv_tableIn (off := 165) (tgt := 204) hx hb dLA_law_39 (by decide) (by decide) rfl (by decide) ?_
      exact law_2 l hfl C1 dC dI cI cZ cJ cA hK hL hcs hss hk NX H locs ls b P S P' S' f hR hP hD hS hl
    · refine lv_tableIn (off := 214) (tgt := 253) hx hb dLA_law_39 (by decide) (by decide) rfl (by decide) ?_
      exact law_3 l hfl C1 dC dI cI cZ cJ cA hK hL hcs hss hk NX H locs ls b P S P' S' f hR hP hD hS hl
    · refine lv_tableIn (off := 230) (tgt := 269) hx hb dLA_law_39 (by decide) (by decide) rfl (by decide) ?_
      exact law_4 l hfl C1 dC dI cI cZ cJ cA hK hL hcs hss hk NX H locs ls b P S P' S' f hR hP hD hS hl
    · refine lv_tableIn (off := 258) (tgt := 297) hx hb dLA_law_39 (by decide) (by decide) rfl (by decide) ?_
      exact law_5 l hfl C1 dC dI cI cZ cJ cA hK hL hcs hss hk NX H locs ls b P S P' S' f hR hP hD hS hl
    · refine lv_tableIn (off := 321) (tgt := 360) hx hb dLA_law_39 (by decide) (by decide) rfl (by decide) ?_
      exact law_6 l hfl C1 dC dI cI cZ cJ cA hK hL hcs hss hk NX H locs ls b P S P' S' f hR hP hD hS hl
    · refine lv_tableIn (off := 361) (tgt := 400) hx hb dLA_law_39 (by decide) (by decide) rfl (by decide) ?_
      exact law_7 l hfl C1 dC dI cI cZ cJ cA hK hL hcs hss hk NX H locs ls b P S P' S' f hR hP hD hS hl
    · refine lv_tableIn (off := 429) (tgt := 468) hx hb dLA_law_39 (by decide) (by decide) rfl (by decide) ?_
      exact law_8 l hfl C1 dC dI cI cZ cJ cA hK hL hcs hss hk NX H locs ls b P S P' S' f hR hP hD hS hl
    · refine lv_tableIn (off := 469) (tgt := 508) hx hb dLA_law_39 (by decide) (by decide) rfl (by decide) ?_
      exact law_9 l hfl C1 dC dI cI cZ cJ cA hK hL hcs hss hk NX H locs ls b P S P' S' f hR hP hD hS hl
    · refine lv_tableIn (off := 497) (tgt := 536) hx hb dLA_law_39 (by decide) (by decide) rfl (by decide) ?_
      exact law_10 l hfl C1 dC dI cI cZ cJ cA hK hL hcs hss hk NX H locs ls b P S P' S' f hR hP hD hS hl
    · refine lv_tableIn (off := 537) (tgt := 576) hx hb dLA_law_39 (by decide) (by decide) rfl (by decide) ?_
      exact law_11 l hfl C1 dC dI cI cZ cJ cA hK hL hcs hss hk NX H locs ls b P S P' S' f hR hP hD hS hl
    · refine lv_tableIn (off := 589) (tgt := 628) hx hb dLA_law_39 (by decide) (by decide) rfl (by decide) ?_
      exact law_12 l hfl C1 dC dI cI cZ cJ cA hK hL hcs hss hk NX H locs ls b P S P' S' f hR hP hD hS hl
    · refine lv_tableIn (off := 602) (tgt := 641) hx hb dLA_law_39 (by decide) (by decide) rfl (by decide) ?_
      exact law_13 l hfl C1 dC dI cI cZ cJ cA hK hL hcs hss hk NX H locs ls b P S P' S' f hR hP hD hS hl
    · refine lv_tableIn (off := 642) (tgt := 681) hx hb dLA_law_39 (by decide) (by decide) rfl (by decide) ?_
      exact law_14 l hfl C1 dC dI cI cZ cJ cA hK hL hcs hss hk NX H locs ls b P S P' S' f hR hP hD hS hl
    · refine lv_tableIn (off := 694) (tgt := 733) hx hb dLA_law_39 (by decide) (by decide) rfl (by decide) ?_
      exact law_15 l hfl C1 dC dI cI cZ cJ cA hK hL hcs hss hk NX H locs ls b P S P' S' f hR hP hD hS hl
    · refine lv_tableIn (off := 746) (tgt := 785) hx hb dLA_law_39 (by decide) (by decide) rfl (by decide) ?_
      exact law_16 l hfl C1 dC dI cI cZ cJ cA hK hL hcs hss hk NX H locs ls b P S P' S' f hR hP hD hS hl
    · refine lv_tableIn (off := 786) (tgt := 825) hx hb dLA_law_39 (by decide) (by decide) rfl (by decide) ?_
      exact law_17 l hfl C1 dC dI cI cZ cJ cA hK hL hcs hss hk NX H locs ls b P S P' S' f hR hP hD hS hl
    · refine lv_tableIn (off := 799) (tgt := 838) hx hb dLA_law_39 (by decide) (by decide) rfl (by decide) ?_
      exact law_18 l hfl C1 dC dI cI cZ cJ cA hK hL hcs hss hk NX H locs ls b P S P' S' f hR hP hD hS hl
    · refine lv_tableIn (off := 812) (tgt := 851) hx hb dLA_law_39 (by decide) (by decide) rfl (by decide) ?_
      exact law_19 l hfl C1 dC dI cI cZ cJ cA hK hL hcs hss hk NX H locs ls b P S P' S' f hR hP hD hS hl
    · refine lv_tableIn (off := 825) (tgt := 864) hx hb dLA_law_39 (by decide) (by decide) rfl (by decide) ?_
      exact law_20 l hfl C1 dC dI cI cZ cJ cA hK hL hcs hss hk NX H locs ls b P S P' S' f hR hP hD hS hl
    · refine lv_tableOut (tgt := 877) hx hb dLA_law_39 h9 (by decide) ?_
      refine W.widen (k := cs + 1) (n := ss + 6) (Nat.le_add_right _ _) (Nat.le_add_right _ _) ?_
      exact NX H locs ls b P S P' S' f ⟨hR.1, hR.2.1, hR.2.2.1, hR.2.2.2.up (Nat.le_succ _)⟩ hP hD hS hl
theorem law_loop {p : Program} {e : Env} {s : State} {m : MethodId} {below : List Frame} {meth : Method} {c : Code} (l : Launch) (hfl : l.flags = Jvm.pinnedFlags ++ [Jvm.noTraceFlag]) {sb L : Nat} {xs : Nat → Int32} (C0 : zAt p s m meth c sb L xs) (dC : Nat → ClassId) (dI : Nat → Nat → Nat) (cI cZ cJ cA : ClassId) (hK : va_K (dC, dI) zCl (zTZ cI cZ cJ cA) s) {o mo mb : Nat → Nat} {qo : Nat} (hL : L ≤ 2048) : zGo p l e s m below meth c dC dI cI cZ cJ cA sb qo o mo mb (0) (nI (4 * 0)) 23 (124) (138909) := by
  have h : ∀ cs ss, cs = 124 + 0 → ss = 138909 + 6 * 0 → 4 * 0 ≤ L → zGo p l e s m below meth c dC dI cI cZ cJ cA sb qo o mo mb (0) (nI (4 * 0)) 23 (cs) (ss) := by
    refine zfor (N := 513) (fun k => ∀ cs ss, cs = 124 + k → ss = 138909 + 6 * k → 4 * k ≤ L → zGo p l e s m below meth c dC dI cI cZ cJ cA sb qo o mo mb (k) (nI (4 * k)) 23 (cs) (ss)) ?_ ?_
    · intro k hk ih cs ss e1 e2 h4
      have hcs : cs + 1 ≤ 601024 := by omega
      have hss : ss + 6 ≤ 7293034 := by omega
      exact law_head l hfl C0 dC dI cI cZ cJ cA hK hL hcs hss h4 (fun h8 => law_next l hfl C0 dC dI cI cZ cJ cA hK hL hcs hss (ih (cs + 1) (ss + 6) (by omega) (by omega) (by omega)))
    · intro cs ss e1 e2 h4
      omega
  exact h 124 138909 rfl rfl (Nat.zero_le _)
