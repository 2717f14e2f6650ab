theorem zsw (t : Int32) : t = 0 ∨ t = 1 ∨ t = 2 ∨ t = 3 ∨ t = 4 ∨ t = 5 ∨ t = 6 ∨ t = 7 ∨ t = 8 ∨ t = 9 ∨ t = 10 ∨ t = 11 ∨ t = 12 ∨ t = 13 ∨ t = 14 ∨ t = 15 ∨ t = 16 ∨ t = 17 ∨ t = 18 ∨ t = 19 ∨ t = 20 ∨ (t.toInt < 0 ∨ 20 < t.toInt) := by
  by_cases h0 : t = 0
  · exact Or.inl h0
  by_cases h1 : t = 1
  · exact Or.inr (Or.inl h1)
  by_cases h2 : t = 2
  · exact Or.inr (Or.inr (Or.inl h2))
  by_cases h3 : t = 3
  · exact Or.inr (Or.inr (Or.inr (Or.inl h3)))
  by_cases h4 : t = 4
  · exact Or.inr (Or.inr (Or.inr (Or.inr (Or.inl h4))))
  by_cases h5 : t = 5
  · exact Or.inr (Or.inr (Or.inr (Or.inr (Or.inr (Or.inl h5)))))
  by_cases h6 : t = 6
  · exact Or.inr (Or.inr (Or.inr (Or.inr (Or.inr (Or.inr (Or.inl h6))))))
  by_cases h7 : t = 7
  · exact Or.inr (Or.inr (Or.inr (Or.inr (Or.inr (Or.inr (Or.inr (Or.inl h7)))))))
  by_cases h8 : t = 8
  · exact Or.inr (Or.inr (Or.inr (Or.inr (Or.inr (Or.inr (Or.inr (Or.inr (Or.inl h8))))))))
  by_cases h9 : t = 9
  · exact Or.inr (Or.inr (Or.inr (Or.inr (Or.inr (Or.inr (Or.inr (Or.inr (Or.inr (Or.inl h9)))))))))
  by_cases h10 : t = 10
  · exact Or.inr (Or.inr (Or.inr (Or.inr (Or.inr (Or.inr (Or.inr (Or.inr (Or.inr (Or.inr (Or.inl h10))))))))))
  by_cases h11 : t = 11
  · exact Or.inr (Or.inr (Or.inr (Or.inr (Or.inr (Or.inr (Or.inr (Or.inr (Or.inr (Or.inr (Or.inr (Or.inl h11)))))))))))
  by_cases h12 : t = 12
  · exact Or.inr (Or.inr (Or.inr (Or.inr (Or.inr (Or.inr (Or.inr (Or.inr (Or.inr (Or.inr (Or.inr (Or.inr (Or.inl h12))))))))))))
  by_cases h13 : t = 13
  · exact Or.inr (Or.inr (Or.inr (Or.inr (Or.inr (Or.inr (Or.inr (Or.inr (Or.inr (Or.inr (Or.inr (Or.inr (Or.inr (Or.inl h13)))))))))))))
  by_cases h14 : t = 14
  · exact Or.inr (Or.inr (Or.inr (Or.inr (Or.inr (Or.inr (Or.inr (Or.inr (Or.inr (Or.inr (Or.inr (Or.inr (Or.inr (Or.inr (Or.inl h14))))))))))))))
  by_cases h15 : t = 15
  · exact Or.inr (Or.inr (Or.inr (Or.inr (Or.inr (Or.inr (Or.inr (Or.inr (Or.inr (Or.inr (Or.inr (Or.inr (Or.inr (Or.inr (Or.inr (Or.inl h15)))))))))))))))
  by_cases h16 : t = 16
  · exact Or.inr (Or.inr (Or.inr (Or.inr (Or.inr (Or.inr (Or.inr (Or.inr (Or.inr (Or.inr (Or.inr (Or.inr (Or.inr (Or.inr (Or.inr (Or.inr (Or.inl h16))))))))))))))))
  by_cases h17 : t = 17
  · exact Or.inr (Or.inr (Or.inr (Or.inr (Or.inr (Or.inr (Or.inr (Or.inr (Or.inr (Or.inr (Or.inr (Or.inr (Or.inr (Or.inr (Or.inr (Or.inr (Or.inr (Or.inl h17)))))))))))))))))
  by_cases h18 : t = 18
  · exact Or.inr (Or.inr (Or.inr (Or.inr (Or.inr (Or.inr (Or.inr (Or.inr (Or.inr (Or.inr (Or.inr (Or.inr (Or.inr (Or.inr (Or.inr (Or.inr (Or.inr (Or.inr (Or.inl h18))))))))))))))))))
  by_cases h19 : t = 19
  · exact Or.inr (Or.inr (Or.inr (Or.inr (Or.inr (Or.inr (Or.inr (Or.inr (Or.inr (Or.inr (Or.inr (Or.inr (Or.inr (Or.inr (Or.inr (Or.inr (Or.inr (Or.inr (Or.inr (Or.inl h19)))))))))))))))))))
  by_cases h20 : t = 20
  · exact Or.inr (Or.inr (Or.inr (Or.inr (Or.inr (Or.inr (Or.inr (Or.inr (Or.inr (Or.inr (Or.inr (Or.inr (Or.inr (Or.inr (Or.inr (Or.inr (Or.inr (Or.inr (Or.inr (Or.inr (Or.inl h20))))))))))))))))))))
  have g0 := lv_neT h0 (a := 0) (by decide)
  have g1 := lv_neT h1 (a := 1) (by decide)
  have g2 := lv_neT h2 (a := 2) (by decide)
  have g3 := lv_neT h3 (a := 3) (by decide)
  have g4 := lv_neT h4 (a := 4) (by decide)
  have g5 := lv_neT h5 (a := 5) (by decide)
  have g6 := lv_neT h6 (a := 6) (by decide)
  have g7 := lv_neT h7 (a := 7) (by decide)
  have g8 := lv_neT h8 (a := 8) (by decide)
  have g9 := lv_neT h9 (a := 9) (by decide)
  have g10 := lv_neT h10 (a := 10) (by decide)
  have g11 := lv_neT h11 (a := 11) (by decide)
  have g12 := lv_neT h12 (a := 12) (by decide)
  have g13 := lv_neT h13 (a := 13) (by decide)
  have g14 := lv_neT h14 (a := 14) (by decide)
  have g15 := lv_neT h15 (a := 15) (by decide)
  have g16 := lv_neT h16 (a := 16) (by decide)
  have g17 := lv_neT h17 (a := 17) (by decide)
  have g18 := lv_neT h18 (a := 18) (by decide)
  have g19 := lv_neT h19 (a := 19) (by decide)
  have g20 := lv_neT h20 (a := 20) (by decide)
  exact Or.inr (Or.inr (Or.inr (Or.inr (Or.inr (Or.inr (Or.inr (Or.inr (Or.inr (Or.inr (Or.inr (Or.inr (Or.inr (Or.inr (Or.inr (Or.inr (Or.inr (Or.inr (Or.inr (Or.inr (Or.inr ((by omega))))))))))))))))))))))
theorem zL4 {L : Nat} {n : Int32} (hL : L ≤ 4) (en : n = Int32.ofNat L - 4) (c : ¬ n < 0) : L = 4 := by
  rcases (show L = 0 ∨ L = 1 ∨ L = 2 ∨ L = 3 ∨ L = 4 by omega) with rfl | rfl | rfl | rfl | rfl
  · exact absurd (by rw [en]; decide) c
  · exact absurd (by rw [en]; decide) c
  · exact absurd (by rw [en]; decide) c
  · exact absurd (by rw [en]; decide) c
  · rfl
theorem zarr {a0 : Array Value} {s0 s : State} (hB : tq_B zT a0 s0 s) {ty : FieldType} (hob : ∀ C, ty ≠ .object C) (hm : Cond.arrayClass ty ∈ zT) : ∃ cA : ClassId, ArrOfT s cA ty ∧ va_RA s cA ty := by
  obtain ⟨cA, kA, comp, h1, h2, h3⟩ := Cond.arrayClass_spec (zac (args := #[]) hB hm)
  refine ⟨cA, fun n z => ⟨fun k h => (by cases h), kA, h2, comp, h3⟩, ?_⟩
  cases ty with
  | object C => exact absurd rfl (hob C)
  | _ => exact h1
set_option maxHeartbeats 4000000 in
set_option maxRecDepth 100000 in
/-- THE LAW, from its entry -/
theorem whole_start {p : Program} {e : Env} {s : State} {m : MethodId} {below : List Frame} {meth : Method} {c : Code} (l : Launch) (hfl : l.flags = Jvm.pinnedFlags ++ [Jvm.noTraceFlag]) {sb L : Nat} {xs : Nat → Int32} (hL : L ≤ 4) (C0 : zAt p s m meth c sb L xs) : W p l e room_1 s m #[Value.ref sb] below meth c s.heap [] 0 0 (lw_Z below #[Value.ref sb] s) (entryFrame m ([Value.ref sb] : List Value).toArray 7) := by
  obtain ⟨hx, hb, hr, hml, hown, hB, hX, hbl, hlocks⟩ := id C0
  have hA0 : ∀ q, zN s.heap.size q → s.heap.size ≤ q := fun _ h => h
  have hAD := hA0
  have hA : ∀ q : Nat, s.heap.size ≤ q → zN s.heap.size q := fun _ h => h
  have hbA : ¬ zN s.heap.size sb := Nat.not_le.mpr hbl
  obtain ⟨c0, iS0, hKn0⟩ := u_known (C := "RingGuard") (T := T_RG) (N := 13) (n := 13) (args := #[Value.ref sb]) (hB.words zU_RG) zid (hB.word (zm1 k1_18) rfl)
  obtain ⟨c1, iS1, hKn1⟩ := u_known (C := "RingGuard$Plan") (T := T_PL) (N := 11) (n := 11) (args := #[Value.ref sb]) (hB.words zU_PL) zid (hB.word (zm1 k1_26) rfl)
  obtain ⟨c2, iS2, hKn2⟩ := u_known (C := "RingGuard$Wires") (T := T_WI) (N := 6) (n := 6) (args := #[Value.ref sb]) (hB.words zU_WI) zid (hB.word (zm1 k1_85) rfl)
  obtain ⟨c3, iS3, hKn3⟩ := u_known (C := "RingGuard$Tables") (T := T_TA) (N := 1) (n := 1) (args := #[Value.ref sb]) (hB.words zU_TA) zid (hB.word (zm1 k1_112) rfl)
  obtain ⟨c4, iS4, hKn4⟩ := u_known (C := "RingGuard$Protocol") (T := T_PR) (N := 14) (n := 14) (args := #[Value.ref sb]) (hB.words zU_PR) zid (hB.word (zm1 k1_125) rfl)
  obtain ⟨c5, iS5, hKn5⟩ := u_known (C := "RingGuard$Frames") (T := T_FR) (N := 9) (n := 9) (args := #[Value.ref sb]) (hB.words zU_FR) zid (hB.word (zm1 k1_180) rfl)
  obtain ⟨c6, iS6, hKn6⟩ := u_known (C := "RingGuard$Groups") (T := T_GR) (N := 3) (n := 3) (args := #[Value.ref sb]) (hB.words zU_GR) zid (hB.word (zm1 k1_217) rfl)
  obtain ⟨c7, iS7, hKn7⟩ := u_known (C := "RingGuardModel") (T := T_MO) (N := 53) (n := 53) (args := #[Value.ref sb]) (hB.words zU_MO) zid (hB.word (zm4 k4_109) rfl)
  obtain ⟨dC, dI, hKc⟩ : ∃ (dC : Nat → ClassId) (dI : Nat → Nat → Nat), ∀ (k : Nat) (q : vw_C), zCl[k]? = some q → u_Kn s q.1 q.2.1 q.2.2 (dC k) (dI k) := by
    refine ⟨fun k => if k = 0 then c0 else if k = 1 then c1 else if k = 2 then c2 else if k = 3 then c3 else if k = 4 then c4 else if k = 5 then c5 else if k = 6 then c6 else c7, fun k => if k = 0 then iS0 else if k = 1 then iS1 else if k = 2 then iS2 else if k = 3 then iS3 else if k = 4 then iS4 else if k = 5 then iS5 else if k = 6 then iS6 else iS7, ?_⟩
    intro k q hq
    match k, hq with
    | 0, hq => cases hq; exact hKn0
    | 1, hq => cases hq; exact hKn1
    | 2, hq => cases hq; exact hKn2
    | 3, hq => cases hq; exact hKn3
    | 4, hq => cases hq; exact hKn4
    | 5, hq => cases hq; exact hKn5
    | 6, hq => cases hq; exact hKn6
    | 7, hq => cases hq; exact hKn7
    | k + 8, hq => simp [zCl] at hq
  obtain ⟨cI, hcI⟩ := zarr hB (ty := .int) (fun _ h => by cases h) (zm1 (i := 82) rfl)
  obtain ⟨cZ, hcZ⟩ := zarr hB (ty := .boolean) (fun _ h => by cases h) (zm1 (i := 83) rfl)
  obtain ⟨cJ, hcJ⟩ := zarr hB (ty := .long) (fun _ h => by cases h) (zm6 (i := 36) rfl)
  have hK : va_K (dC, dI) zCl (zTY cI cZ cJ) s := ⟨hKc, fun k q h => by
    match k, h with
    | 0, h => cases h; exact hcI
    | 1, h => cases h; exact hcZ
    | 2, h => cases h; exact hcJ
    | k + 3, h => simp [zTY] at h⟩
  have hS : va_S (zN s.heap.size) s.heap s.heap [] := va_S.rf
  have hP : va_P (dC, dI) zCl [] s.heap := fun k q h => by simp at h
  have hD : va_D (zN s.heap.size) [] := ⟨fun i j p q h => by simp at h, fun k q h => by simp at h⟩
  have hl := lv_entry ([.ref sb]) (n := 7) (Nat.le_of_ble_eq_true rfl)
  rw [lg_entry_eq]
  generalize (lg_sl ([.ref sb]) ++ List.replicate (7 - (lg_sl ([.ref sb])).length) Slot.unset).toArray = ls at hl ⊢
  have hl : lv_has ls 7 [(0, .ref sb)] := hl
  have hu0 : ∀ w ∈ u_ws "RingGuard" T_RG 13, w.before ([.ref sb] : List Value).toArray s = true := hB.words zU_RG
  refine va_new (ci := 0) (fs := [.null, .null, .null, .null, .null, .null, .int 0, .int 0, .int 0, .int 0, .int 0, .int 0, .int 0]) (C := "RingGuard") (T := T_RG) (N := 13) hx hb hu0 zid ty_RG ok_RG hown (hB.word (zm1 k1_17) rfl) (hB.word (zm1 k1_18) rfl) (hB.word (zm1 k1_1) rfl) hK hP hD hS hA rfl zd_RG (Nat.le_of_ble_eq_true rfl) (Nat.le_of_ble_eq_true rfl) dLA_law_0 (fun q0 H hP hD hS => ?_)
  have hP : va_P (dC, dI) zCl [(q0, .inr (0, [.null, .null, .null, .null, .null, .null, .int 0, .int 0, .int 0, .int 0, .int 0, .int 0, .int 0]))] H := hP
  have hD : va_D (zN s.heap.size) [(q0, .inr (0, [.null, .null, .null, .null, .null, .null, .int 0, .int 0, .int 0, .int 0, .int 0, .int 0, .int 0]))] := hD
  refine lv_dup hx hb dLA_law_3 rfl ?_
  have hPc : va_P (dC, dI) zCl [(q0, .inr (0, [.null, .null, .null, .null, .null, .null, .int 0, .int 0, .int 0, .int 0, .int 0, .int 0, .int 0]))] H := hP.sub [0] rfl
  have hDc : va_D (zN s.heap.size) [(q0, .inr (0, [.null, .null, .null, .null, .null, .null, .int 0, .int 0, .int 0, .int 0, .int 0, .int 0, .int 0]))] := hD.sub [0] (by decide) rfl
  refine zcallw (wr := []) (va_runI (As := []) (rest := [.ref q0]) ⟨hx, hb, hml, hown, zno⟩ (zc_RingGuard l dC dI cI cZ cJ #[Value.ref sb] s q0 H.size) ⟨zcb 0 (hB.word (zm1 k1_21) rfl) (hB.word (zm1 k1_1) rfl) (hB.word (zm1 k1_19) rfl) rfl rfl (by decide +kernel) ⟨Nat.le_of_ble_eq_true rfl, Nat.le_of_ble_eq_true rfl⟩, rfl, hB.word (zm1 k1_20) rfl⟩ ⟨zP_blind, zP_pre hPc hK hDc hAD (zB_on hB hA0 hS)⟩ rfl rfl hl.1 rfl (lv_room (Nat.le_of_ble_eq_true rfl)) dLA_law_4 ⟨Nat.le_of_ble_eq_true rfl, Nat.le_of_ble_eq_true rfl⟩) hP hD hS hA [0] [] rfl rfl (by decide) (by decide) (fun wo H1 locs hwo hP hD hS => ?_)
  obtain ⟨b, fh, hfh, rfl⟩ := hwo
  generalize H1 = H at hP hS ⊢
  have hP : va_P (dC, dI) zCl [(q0, .inr (0, [.ref (b 0), .ref (b 1), .ref (b 2), .ref (b 3), .ref (b 4), .ref (b 5), .int 0, .int 0, .int 0, .int 0, .int 0, .int 0, .int 0])), ((b 0), .inr (1, [.int 0, .int 0, .ref (b 10), .ref (b 11), .ref (b 12), .ref (b 13), .ref (b 14), .ref (b 15), .ref (b 16), .ref (b 17), .ref (b 18)])), ((b 4), .inr (5, [.ref (b 0), .ref (b 3), .ref (b 2), .ref (b 20), .ref (b 21), .ref (b 22), .int 0, .ref (b 23), .int 0])), ((b 20), .inl (cI, 64, .inl fh)), ((b 1), .inr (2, [.ref (b 24), .ref (b 25), .ref (b 26), .ref (b 27), .ref (b 28), .int 0])), ((b 27), .inl (cI, 120, .inl (fun _ => 0)))] H := hP
  have hD : va_D (zN s.heap.size) [(q0, .inr (0, [.ref (b 0), .ref (b 1), .ref (b 2), .ref (b 3), .ref (b 4), .ref (b 5), .int 0, .int 0, .int 0, .int 0, .int 0, .int 0, .int 0])), ((b 0), .inr (1, [.int 0, .int 0, .ref (b 10), .ref (b 11), .ref (b 12), .ref (b 13), .ref (b 14), .ref (b 15), .ref (b 16), .ref (b 17), .ref (b 18)])), ((b 4), .inr (5, [.ref (b 0), .ref (b 3), .ref (b 2), .ref (b 20), .ref (b 21), .ref (b 22), .int 0, .ref (b 23), .int 0])), ((b 20), .inl (cI, 64, .inl fh)), ((b 1), .inr (2, [.ref (b 24), .ref (b 25), .ref (b 26), .ref (b 27), .ref (b 28), .int 0])), ((b 27), .inl (cI, 120, .inl (fun _ => 0)))] := hD
  refine lv_astore_n (lv' := [(1, .ref q0), (0, .ref sb)]) hx hb dLA_law_7 rfl hl (by decide) rfl (fun ls hl => ?_)
  have hu7 : ∀ w ∈ u_ws "RingGuardModel" T_MO 53, w.before ([.ref sb] : List Value).toArray s = true := hB.words zU_MO
  refine va_new (ci := 7) (fs := [.int 0, .int 0, .int 0, .int 0, .null, .null, .null, .null, .null, .null, .null, .null, .null, .null, .null, .null, .null, .null, .null, .null, .null, .null, .null, .null, .null, .null, .null, .null, .null, .null, .null, .null, .null, .null, .null, .null, .null, .int 0, .int 0, .int 0, .int 0, .int 0, .int 0, .int 0, .null, .null, .null, .null, .int 0, .int 0, .int 0, .int 0, .null]) (C := "RingGuardModel") (T := T_MO) (N := 53) hx hb hu7 zid ty_MO ok_MO hown (hB.word (zm4 k4_108) rfl) (hB.word (zm4 k4_109) rfl) (hB.word (zm1 k1_9) rfl) hK hP hD hS hA rfl zd_MO (Nat.le_of_ble_eq_true rfl) (Nat.le_of_ble_eq_true rfl) dLA_law_8 (fun q8 H hP hD hS => ?_)
  have hP : va_P (dC, dI) zCl [(q0, .inr (0, [.ref (b 0), .ref (b 1), .ref (b 2), .ref (b 3), .ref (b 4), .ref (b 5), .int 0, .int 0, .int 0, .int 0, .int 0, .int 0, .int 0])), ((b 0), .inr (1, [.int 0, .int 0, .ref (b 10), .ref (b 11), .ref (b 12), .ref (b 13), .ref (b 14), .ref (b 15), .ref (b 16), .ref (b 17), .ref (b 18)])), ((b 4), .inr (5, [.ref (b 0), .ref (b 3), .ref (b 2), .ref (b 20), .ref (b 21), .ref (b 22), .int 0, .ref (b 23), .int 0])), ((b 20), .inl (cI, 64, .inl fh)), ((b 1), .inr (2, [.ref (b 24), .ref (b 25), .ref (b 26), .ref (b 27), .ref (b 28), .int 0])), ((b 27), .inl (cI, 120, .inl (fun _ => 0))), (q8, .inr (7, [.int 0, .int 0, .int 0, .int 0, .null, .null, .null, .null, .null, .null, .null, .null, .null, .null, .null, .null, .null, .null, .null, .null, .null, .null, .null, .null, .null, .null, .null, .null, .null, .null, .null, .null, .null, .null, .null, .null, .null, .int 0, .int 0, .int 0, .int 0, .int 0, .int 0, .int 0, .null, .null, .null, .null, .int 0, .int 0, .int 0, .int 0, .null]))] H := hP
  have hD : va_D (zN s.heap.size) [(q0, .inr (0, [.ref (b 0), .ref (b 1), .ref (b 2), .ref (b 3), .ref (b 4), .ref (b 5), .int 0, .int 0, .int 0, .int 0, .int 0, .int 0, .int 0])), ((b 0), .inr (1, [.int 0, .int 0, .ref (b 10), .ref (b 11), .ref (b 12), .ref (b 13), .ref (b 14), .ref (b 15), .ref (b 16), .ref (b 17), .ref (b 18)])), ((b 4), .inr (5, [.ref (b 0), .ref (b 3), .ref (b 2), .ref (b 20), .ref (b 21), .ref (b 22), .int 0, .ref (b 23), .int 0])), ((b 20), .inl (cI, 64, .inl fh)), ((b 1), .inr (2, [.ref (b 24), .ref (b 25), .ref (b 26), .ref (b 27), .ref (b 28), .int 0])), ((b 27), .inl (cI, 120, .inl (fun _ => 0))), (q8, .inr (7, [.int 0, .int 0, .int 0, .int 0, .null, .null, .null, .null, .null, .null, .null, .null, .null, .null, .null, .null, .null, .null, .null, .null, .null, .null, .null, .null, .null, .null, .null, .null, .null, .null, .null, .null, .null, .null, .null, .null, .null, .int 0, .int 0, .int 0, .int 0, .int 0, .int 0, .int 0, .null, .null, .null, .null, .int 0, .int 0, .int 0, .int 0, .null]))] := hD
  refine lv_dup hx hb dLA_law_11 rfl ?_
  have hPc : va_P (dC, dI) zCl [(q8, .inr (7, [.int 0, .int 0, .int 0, .int 0, .null, .null, .null, .null, .null, .null, .null, .null, .null, .null, .null, .null, .null, .null, .null, .null, .null, .null, .null, .null, .null, .null, .null, .null, .null, .null, .null, .null, .null, .null, .null, .null, .null, .int 0, .int 0, .int 0, .int 0, .int 0, .int 0, .int 0, .null, .null, .null, .null, .int 0, .int 0, .int 0, .int 0, .null]))] H := hP.sub [6] rfl
  have hDc : va_D (zN s.heap.size) [(q8, .inr (7, [.int 0, .int 0, .int 0, .int 0, .null, .null, .null, .null, .null, .null, .null, .null, .null, .null, .null, .null, .null, .null, .null, .null, .null, .null, .null, .null, .null, .null, .null, .null, .null, .null, .null, .null, .null, .null, .null, .null, .null, .int 0, .int 0, .int 0, .int 0, .int 0, .int 0, .int 0, .null, .null, .null, .null, .int 0, .int 0, .int 0, .int 0, .null]))] := hD.sub [6] (by decide) rfl
  refine zcallw (wr := [(q0, .inr (0, [.ref (b 0), .ref (b 1), .ref (b 2), .ref (b 3), .ref (b 4), .ref (b 5), .int 0, .int 0, .int 0, .int 0, .int 0, .int 0, .int 0])), ((b 0), .inr (1, [.int 0, .int 0, .ref (b 10), .ref (b 11), .ref (b 12), .ref (b 13), .ref (b 14), .ref (b 15), .ref (b 16), .ref (b 17), .ref (b 18)])), ((b 4), .inr (5, [.ref (b 0), .ref (b 3), .ref (b 2), .ref (b 20), .ref (b 21), .ref (b 22), .int 0, .ref (b 23), .int 0])), ((b 20), .inl (cI, 64, .inl fh)), ((b 1), .inr (2, [.ref (b 24), .ref (b 25), .ref (b 26), .ref (b 27), .ref (b 28), .int 0])), ((b 27), .inl (cI, 120, .inl (fun _ => 0)))]) (va_runI (As := []) (rest := [.ref q8]) ⟨hx, hb, hml, hown, zno⟩ (zc_Model l dC dI cI cZ cJ #[Value.ref sb] s q8 H.size) ⟨zcb 0 (hB.word (zm4 k4_112) rfl) (hB.word (zm1 k1_9) rfl) (hB.word (zm4 k4_110) rfl) rfl rfl (by decide +kernel) ⟨Nat.le_of_ble_eq_true rfl, Nat.le_of_ble_eq_true rfl⟩, rfl, hB.word (zm4 k4_111) rfl⟩ ⟨zP_blind, zP_pre hPc hK hDc hAD (zB_on hB hA0 hS)⟩ rfl rfl hl.1 rfl (lv_room (Nat.le_of_ble_eq_true rfl)) dLA_law_12 ⟨Nat.le_of_ble_eq_true rfl, Nat.le_of_ble_eq_true rfl⟩) hP hD hS hA [6] [0, 1, 2, 3, 4, 5] rfl rfl (by decide) (by decide) (fun wo H1 locs hwo hP hD hS => ?_)
  obtain ⟨mb, fp, hfp, rfl⟩ := hwo
  generalize H1 = H at hP hS ⊢
  have hP : va_P (dC, dI) zCl [(q0, .inr (0, [.ref (b 0), .ref (b 1), .ref (b 2), .ref (b 3), .ref (b 4), .ref (b 5), .int 0, .int 0, .int 0, .int 0, .int 0, .int 0, .int 0])), ((b 0), .inr (1, [.int 0, .int 0, .ref (b 10), .ref (b 11), .ref (b 12), .ref (b 13), .ref (b 14), .ref (b 15), .ref (b 16), .ref (b 17), .ref (b 18)])), ((b 4), .inr (5, [.ref (b 0), .ref (b 3), .ref (b 2), .ref (b 20), .ref (b 21), .ref (b 22), .int 0, .ref (b 23), .int 0])), ((b 20), .inl (cI, 64, .inl fh)), ((b 1), .inr (2, [.ref (b 24), .ref (b 25), .ref (b 26), .ref (b 27), .ref (b 28), .int 0])), ((b 27), .inl (cI, 120, .inl (fun _ => 0))), (q8, .inr (7, [.int 0, .int 0, .int 0, .int 0, .ref (mb 0), .ref (mb 1), .ref (mb 2), .ref (mb 3), .ref (mb 4), .ref (mb 5), .ref (mb 6), .ref (mb 7), .ref (mb 8), .ref (mb 9), .ref (mb 10), .ref (mb 11), .ref (mb 12), .ref (mb 13), .ref (mb 14), .ref (mb 15), .ref (mb 16), .ref (mb 17), .ref (mb 18), .ref (mb 19), .ref (mb 20), .ref (mb 21), .ref (mb 22), .ref (mb 23), .ref (mb 24), .ref (mb 25), .ref (mb 26), .ref (mb 27), .ref (mb 28), .ref (mb 29), .ref (mb 30), .ref (mb 31), .ref (mb 32), .int 0, .int 0, .int 0, .int 0, .int 0, .int 0, .int 0, .ref (mb 33), .ref (mb 34), .ref (mb 35), .ref (mb 36), .int 0, .int 0, .int 0, .int 0, .ref (mb 37)])), ((mb 22), .inl (cI, 64, .inl fp)), ((mb 23), .inl (cI, 120, .inl (fun _ => 0)))] H := hP
  have hD : va_D (zN s.heap.size) [(q0, .inr (0, [.ref (b 0), .ref (b 1), .ref (b 2), .ref (b 3), .ref (b 4), .ref (b 5), .int 0, .int 0, .int 0, .int 0, .int 0, .int 0, .int 0])), ((b 0), .inr (1, [.int 0, .int 0, .ref (b 10), .ref (b 11), .ref (b 12), .ref (b 13), .ref (b 14), .ref (b 15), .ref (b 16), .ref (b 17), .ref (b 18)])), ((b 4), .inr (5, [.ref (b 0), .ref (b 3), .ref (b 2), .ref (b 20), .ref (b 21), .ref (b 22), .int 0, .ref (b 23), .int 0])), ((b 20), .inl (cI, 64, .inl fh)), ((b 1), .inr (2, [.ref (b 24), .ref (b 25), .ref (b 26), .ref (b 27), .ref (b 28), .int 0])), ((b 27), .inl (cI, 120, .inl (fun _ => 0))), (q8, .inr (7, [.int 0, .int 0, .int 0, .int 0, .ref (mb 0), .ref (mb 1), .ref (mb 2), .ref (mb 3), .ref (mb 4), .ref (mb 5), .ref (mb 6), .ref (mb 7), .ref (mb 8), .ref (mb 9), .ref (mb 10), .ref (mb 11), .ref (mb 12), .ref (mb 13), .ref (mb 14), .ref (mb 15), .ref (mb 16), .ref (mb 17), .ref (mb 18), .ref (mb 19), .ref (mb 20), .ref (mb 21), .ref (mb 22), .ref (mb 23), .ref (mb 24), .ref (mb 25), .ref (mb 26), .ref (mb 27), .ref (mb 28), .ref (mb 29), .ref (mb 30), .ref (mb 31), .ref (mb 32), .int 0, .int 0, .int 0, .int 0, .int 0, .int 0, .int 0, .ref (mb 33), .ref (mb 34), .ref (mb 35), .ref (mb 36), .int 0, .int 0, .int 0, .int 0, .ref (mb 37)])), ((mb 22), .inl (cI, 64, .inl fp)), ((mb 23), .inl (cI, 120, .inl (fun _ => 0)))] := hD
  refine lv_astore_n (lv' := [(2, .ref q8), (1, .ref q0), (0, .ref sb)]) hx hb dLA_law_15 rfl hl (by decide) rfl (fun ls hl => ?_)
  refine lv_iconst (v := 1) hx hb dLA_law_16 (by decide) ?_
  refine znew (a0 := (1, .inr (.inl (fun _ => 0)))) hx hb (zac_long hB) rfl (fun _ h9 => by cases h9) hK 2 rfl hP hD hS hA (fun _ => rfl) (by decide) (by decide) (by decide) (Nat.le_of_ble_eq_true rfl) (Nat.le_of_ble_eq_true rfl) dLA_law_17 (fun q17 H hP hD hS => ?_)
  have hP : va_P (dC, dI) zCl [(q0, .inr (0, [.ref (b 0), .ref (b 1), .ref (b 2), .ref (b 3), .ref (b 4), .ref (b 5), .int 0, .int 0, .int 0, .int 0, .int 0, .int 0, .int 0])), ((b 0), .inr (1, [.int 0, .int 0, .ref (b 10), .ref (b 11), .ref (b 12), .ref (b 13), .ref (b 14), .ref (b 15), .ref (b 16), .ref (b 17), .ref (b 18)])), ((b 4), .inr (5, [.ref (b 0), .ref (b 3), .ref (b 2), .ref (b 20), .ref (b 21), .ref (b 22), .int 0, .ref (b 23), .int 0])), ((b 20), .inl (cI, 64, .inl fh)), ((b 1), .inr (2, [.ref (b 24), .ref (b 25), .ref (b 26), .ref (b 27), .ref (b 28), .int 0])), ((b 27), .inl (cI, 120, .inl (fun _ => 0))), (q8, .inr (7, [.int 0, .int 0, .int 0, .int 0, .ref (mb 0), .ref (mb 1), .ref (mb 2), .ref (mb 3), .ref (mb 4), .ref (mb 5), .ref (mb 6), .ref (mb 7), .ref (mb 8), .ref (mb 9), .ref (mb 10), .ref (mb 11), .ref (mb 12), .ref (mb 13), .ref (mb 14), .ref (mb 15), .ref (mb 16), .ref (mb 17), .ref (mb 18), .ref (mb 19), .ref (mb 20), .ref (mb 21), .ref (mb 22), .ref (mb 23), .ref (mb 24), .ref (mb 25), .ref (mb 26), .ref (mb 27), .ref (mb 28), .ref (mb 29), .ref (mb 30), .ref (mb 31), .ref (mb 32), .int 0, .int 0, .int 0, .int 0, .int 0, .int 0, .int 0, .ref (mb 33), .ref (mb 34), .ref (mb 35), .ref (mb 36), .int 0, .int 0, .int 0, .int 0, .ref (mb 37)])), ((mb 22), .inl (cI, 64, .inl fp)), ((mb 23), .inl (cI, 120, .inl (fun _ => 0))), (q17, .inl (cJ, 1, .inr (.inl (fun _ => 0))))] H := hP
  have hD : va_D (zN s.heap.size) [(q0, .inr (0, [.ref (b 0), .ref (b 1), .ref (b 2), .ref (b 3), .ref (b 4), .ref (b 5), .int 0, .int 0, .int 0, .int 0, .int 0, .int 0, .int 0])), ((b 0), .inr (1, [.int 0, .int 0, .ref (b 10), .ref (b 11), .ref (b 12), .ref (b 13), .ref (b 14), .ref (b 15), .ref (b 16), .ref (b 17), .ref (b 18)])), ((b 4), .inr (5, [.ref (b 0), .ref (b 3), .ref (b 2), .ref (b 20), .ref (b 21), .ref (b 22), .int 0, .ref (b 23), .int 0])), ((b 20), .inl (cI, 64, .inl fh)), ((b 1), .inr (2, [.ref (b 24), .ref (b 25), .ref (b 26), .ref (b 27), .ref (b 28), .int 0])), ((b 27), .inl (cI, 120, .inl (fun _ => 0))), (q8, .inr (7, [.int 0, .int 0, .int 0, .int 0, .ref (mb 0), .ref (mb 1), .ref (mb 2), .ref (mb 3), .ref (mb 4), .ref (mb 5), .ref (mb 6), .ref (mb 7), .ref (mb 8), .ref (mb 9), .ref (mb 10), .ref (mb 11), .ref (mb 12), .ref (mb 13), .ref (mb 14), .ref (mb 15), .ref (mb 16), .ref (mb 17), .ref (mb 18), .ref (mb 19), .ref (mb 20), .ref (mb 21), .ref (mb 22), .ref (mb 23), .ref (mb 24), .ref (mb 25), .ref (mb 26), .ref (mb 27), .ref (mb 28), .ref (mb 29), .ref (mb 30), .ref (mb 31), .ref (mb 32), .int 0, .int 0, .int 0, .int 0, .int 0, .int 0, .int 0, .ref (mb 33), .ref (mb 34), .ref (mb 35), .ref (mb 36), .int 0, .int 0, .int 0, .int 0, .ref (mb 37)])), ((mb 22), .inl (cI, 64, .inl fp)), ((mb 23), .inl (cI, 120, .inl (fun _ => 0))), (q17, .inl (cJ, 1, .inr (.inl (fun _ => 0))))] := hD
  refine lv_astore_n (lv' := [(3, .ref q17), (2, .ref q8), (1, .ref q0), (0, .ref sb)]) hx hb dLA_law_19 rfl hl (by decide) rfl (fun ls hl => ?_)
  refine lv_iconst (v := 0) hx hb dLA_law_20 (by decide) ?_
  refine lv_istore (lv' := [(4, .int 0), (3, .ref q17), (2, .ref q8), (1, .ref q0), (0, .ref sb)]) hx hb dLA_law_21 hl (by decide) rfl (fun ls hl => ?_)
  refine lv_iload hx hb dLA_law_23 (lv_at hl 0 rfl) ?_
  refine lv_aload_n hx hb dLA_law_25 rfl (lv_at hl 4 rfl) ?_
  refine va_slen hx hb hX hbl hbA hS dLA_law_26 ?_
  refine lv_iconst (v := 4) hx hb dLA_law_27 (by decide) ?_
  refine lv_isub hx hb dLA_law_28 ?_
  refine lv_topi (fun n8 en8 => ?_)
  refine lv_icmp_gt (tgt := 1314) hx hb dLA_law_29 (by decide) (fun c_29 => ?_) (fun c_29 => ?_)
  · refine lv_iconst (v := 1) hx hb dLA_law_1314 (by decide) ?_
    refine va_forget (fun q hq => hS.2.2 q hq) ?_
    refine W.widen (k := 600002) (n := 7302232) (Nat.le_of_ble_eq_true rfl) (Nat.le_of_ble_eq_true rfl) ?_
    exact lw_ret hx hb hr hlocks dLA_law_1315
  · have hL4 : L = 4 := zL4 hL en8 c_29
    subst hL4
    refine lv_aload_n hx hb dLA_law_32 rfl (lv_at hl 4 rfl) ?_
    refine lv_iload hx hb dLA_law_33 (lv_at hl 0 rfl) ?_
    refine va_sld hx hb hX hbl hbA hS (i := 0) (by unfold vp_in; decide) dLA_law_35 ?_
    refine lv_bipush (v := 31) hx hb dLA_law_36 (by decide) ?_
    refine lv_iand hx hb dLA_law_38 ?_
    refine lv_topi (fun t9 et9 => ?_)
    rcases zsw t9 with rfl | rfl | rfl | rfl | rfl | rfl | rfl | rfl | rfl | rfl | rfl | rfl | rfl | rfl | rfl | rfl | rfl | rfl | rfl | rfl | rfl | h9
    · refine lv_tableIn (off := 97) (tgt := 136) hx hb dLA_law_39 (by decide) (by decide) rfl (by decide) ?_
      exact law_0 (x := q0) (b := b) (fh := fh) (mo := q8) (mb := mb) (fp := fp) (o := q17) l hfl C0 dC dI cI cZ cJ hK hfh hfp hP hD hS (lv_sub hl [0, 1, 2, 3, 4] rfl) rfl
    · refine lv_tableIn (off := 141) (tgt := 180) hx hb dLA_law_39 (by decide) (by decide) rfl (by decide) ?_
      exact law_1 (x := q0) (b := b) (fh := fh) (mo := q8) (mb := mb) (fp := fp) (o := q17) l hfl C0 dC dI cI cZ cJ hK hfh hfp hP hD hS (lv_sub hl [0, 1, 2, 3, 4] rfl) rfl
    · refine lv_tableIn (off := 221) (tgt := 260) hx hb dLA_law_39 (by decide) (by decide) rfl (by decide) ?_
      exact law_2 (x := q0) (b := b) (fh := fh) (mo := q8) (mb := mb) (fp := fp) (o := q17) l hfl C0 dC dI cI cZ cJ hK hfh hfp hP hD hS (lv_sub hl [0, 1, 2, 3, 4] rfl) rfl
    · refine lv_tableIn (off := 281) (tgt := 320) hx hb dLA_law_39 (by decide) (by decide) rfl (by decide) ?_
      exact law_3 (x := q0) (b := b) (fh := fh) (mo := q8) (mb := mb) (fp := fp) (o := q17) l hfl C0 dC dI cI cZ cJ hK hfh hfp hP hD hS (lv_sub hl [0, 1, 2, 3, 4] rfl) rfl
    · refine lv_tableIn (off := 325) (tgt := 364) hx hb dLA_law_39 (by decide) (by decide) rfl (by decide) ?_
      exact law_4 (x := q0) (b := b) (fh := fh) (mo := q8) (mb := mb) (fp := fp) (o := q17) l hfl C0 dC dI cI cZ cJ hK hfh hfp hP hD hS (lv_sub hl [0, 1, 2, 3, 4] rfl) rfl
    · refine lv_tableIn (off := 388) (tgt := 427) hx hb dLA_law_39 (by decide) (by decide) rfl (by decide) ?_
      exact law_5 (x := q0) (b := b) (fh := fh) (mo := q8) (mb := mb) (fp := fp) (o := q17) l hfl C0 dC dI cI cZ cJ hK hfh hfp hP hD hS (lv_sub hl [0, 1, 2, 3, 4] rfl) rfl
    · refine lv_tableIn (off := 451) (tgt := 490) hx hb dLA_law_39 (by decide) (by decide) rfl (by decide) ?_
      exact law_6 (x := q0) (b := b) (fh := fh) (mo := q8) (mb := mb) (fp := fp) (o := q17) l hfl C0 dC dI cI cZ cJ hK hfh hfp hP hD hS (lv_sub hl [0, 1, 2, 3, 4] rfl) rfl
    · refine lv_tableIn (off := 519) (tgt := 558) hx hb dLA_law_39 (by decide) (by decide) rfl (by decide) ?_
      exact law_7 (x := q0) (b := b) (fh := fh) (mo := q8) (mb := mb) (fp := fp) (o := q17) l hfl C0 dC dI cI cZ cJ hK hfh hfp hP hD hS (lv_sub hl [0, 1, 2, 3, 4] rfl) rfl
    · refine lv_tableIn (off := 622) (tgt := 661) hx hb dLA_law_39 (by decide) (by decide) rfl (by decide) ?_
      exact law_8 (x := q0) (b := b) (fh := fh) (mo := q8) (mb := mb) (fp := fp) (o := q17) l hfl C0 dC dI cI cZ cJ hK hfh hfp hP hD hS (lv_sub hl [0, 1, 2, 3, 4] rfl) rfl
    · refine lv_tableIn (off := 697) (tgt := 736) hx hb dLA_law_39 (by decide) (by decide) rfl (by decide) ?_
      exact law_9 (x := q0) (b := b) (fh := fh) (mo := q8) (mb := mb) (fp := fp) (o := q17) l hfl C0 dC dI cI cZ cJ hK hfh hfp hP hD hS (lv_sub hl [0, 1, 2, 3, 4] rfl) rfl
    · refine lv_tableIn (off := 753) (tgt := 792) hx hb dLA_law_39 (by decide) (by decide) rfl (by decide) ?_
      exact law_10 (x := q0) (b := b) (fh := fh) (mo := q8) (mb := mb) (fp := fp) (o := q17) l hfl C0 dC dI cI cZ cJ hK hfh hfp hP hD hS (lv_sub hl [0, 1, 2, 3, 4] rfl) rfl
    · refine lv_tableIn (off := 821) (tgt := 860) hx hb dLA_law_39 (by decide) (by decide) rfl (by decide) ?_
      exact law_11 (x := q0) (b := b) (fh := fh) (mo := q8) (mb := mb) (fp := fp) (o := q17) l hfl C0 dC dI cI cZ cJ hK hfh hfp hP hD hS (lv_sub hl [0, 1, 2, 3, 4] rfl) rfl
    · refine lv_tableIn (off := 901) (tgt := 940) hx hb dLA_law_39 (by decide) (by decide) rfl (by decide) ?_
      exact law_12 (x := q0) (b := b) (fh := fh) (mo := q8) (mb := mb) (fp := fp) (o := q17) l hfl C0 dC dI cI cZ cJ hK hfh hfp hP hD hS (lv_sub hl [0, 1, 2, 3, 4] rfl) rfl
    · refine lv_tableIn (off := 914) (tgt := 953) hx hb dLA_law_39 (by decide) (by decide) rfl (by decide) ?_
      exact law_13 (x := q0) (b := b) (fh := fh) (mo := q8) (mb := mb) (fp := fp) (o := q17) l hfl C0 dC dI cI cZ cJ hK hfh hfp hP hD hS (lv_sub hl [0, 1, 2, 3, 4] rfl) rfl
    · refine lv_tableIn (off := 982) (tgt := 1021) hx hb dLA_law_39 (by decide) (by decide) rfl (by decide) ?_
      exact law_14 (x := q0) (b := b) (fh := fh) (mo := q8) (mb := mb) (fp := fp) (o := q17) l hfl C0 dC dI cI cZ cJ hK hfh hfp hP hD hS (lv_sub hl [0, 1, 2, 3, 4] rfl) rfl
    · refine lv_tableIn (off := 1062) (tgt := 1101) hx hb dLA_law_39 (by decide) (by decide) rfl (by decide) ?_
      exact law_15 (x := q0) (b := b) (fh := fh) (mo := q8) (mb := mb) (fp := fp) (o := q17) l hfl C0 dC dI cI cZ cJ hK hfh hfp hP hD hS (lv_sub hl [0, 1, 2, 3, 4] rfl) rfl
    · refine lv_tableIn (off := 1142) (tgt := 1181) hx hb dLA_law_39 (by decide) (by decide) rfl (by decide) ?_
      exact law_16 (x := q0) (b := b) (fh := fh) (mo := q8) (mb := mb) (fp := fp) (o := q17) l hfl C0 dC dI cI cZ cJ hK hfh hfp hP hD hS (lv_sub hl [0, 1, 2, 3, 4] rfl) rfl
    · refine lv_tableIn (off := 1217) (tgt := 1256) hx hb dLA_law_39 (by decide) (by decide) rfl (by decide) ?_
      exact law_17 (x := q0) (b := b) (fh := fh) (mo := q8) (mb := mb) (fp := fp) (o := q17) l hfl C0 dC dI cI cZ cJ hK hfh hfp hP hD hS (lv_sub hl [0, 1, 2, 3, 4] rfl) rfl
    · refine lv_tableIn (off := 1230) (tgt := 1269) hx hb dLA_law_39 (by decide) (by decide) rfl (by decide) ?_
      exact law_18 (x := q0) (b := b) (fh := fh) (mo := q8) (mb := mb) (fp := fp) (o := q17) l hfl C0 dC dI cI cZ cJ hK hfh hfp hP hD hS (lv_sub hl [0, 1, 2, 3, 4] rfl) rfl
    · refine lv_tableIn (off := 1243) (tgt := 1282) hx hb dLA_law_39 (by decide) (by decide) rfl (by decide) ?_
      exact law_19 (x := q0) (b := b) (fh := fh) (mo := q8) (mb := mb) (fp := fp) (o := q17) l hfl C0 dC dI cI cZ cJ hK hfh hfp hP hD hS (lv_sub hl [0, 1, 2, 3, 4] rfl) rfl
    · refine lv_tableIn (off := 1256) (tgt := 1295) hx hb dLA_law_39 (by decide) (by decide) rfl (by decide) ?_
      exact law_20 (x := q0) (b := b) (fh := fh) (mo := q8) (mb := mb) (fp := fp) (o := q17) l hfl C0 dC dI cI cZ cJ hK hfh hfp hP hD hS (lv_sub hl [0, 1, 2, 3, 4] rfl) rfl
    · refine lv_tableOut (tgt := 1308) hx hb dLA_law_39 h9 (by decide) ?_
      exact law_21 (x := q0) (b := b) (fh := fh) (mo := q8) (mb := mb) (fp := fp) (o := q17) l hfl C0 dC dI cI cZ cJ hK hfh hfp hP hD hS (lv_sub hl [0, 1, 2, 3, 4] rfl) rfl
