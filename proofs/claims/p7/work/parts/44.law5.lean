theorem k1_17 : tables_1_1[17]? = some (Jvm.Cond.classLink "RingGuardLaw" (8 : Nat) "RingGuard") := by decide +kernel
theorem k1_19 : tables_1_1[19]? = some (Jvm.Cond.methodLink "RingGuardLaw" (69 : Nat) ({ cls := "RingGuard", name := "<init>", desc := "()V" } : Jvm.MethodName)) := by decide +kernel
theorem k1_20 : tables_1_1[20]? = some (Jvm.Cond.instanceMethod ({ cls := "RingGuard", name := "<init>", desc := "()V" } : Jvm.MethodName)) := by decide +kernel
theorem k1_21 : tables_1_1[21]? = some (Jvm.Cond.code ({ cls := "RingGuard", name := "<init>", desc := "()V" } : Jvm.MethodName) prog_1_method_1_code (1 : Nat) (Option.none : Option Jvm.ClassFile.FieldType)) := rfl
theorem k4_108 : tables_1_4[108]? = some (Jvm.Cond.classLink "RingGuardLaw" (70 : Nat) "RingGuardModel") := by decide +kernel
theorem k4_110 : tables_1_4[110]? = some (Jvm.Cond.methodLink "RingGuardLaw" (72 : Nat) ({ cls := "RingGuardModel", name := "<init>", desc := "()V" } : Jvm.MethodName)) := by decide +kernel
theorem k4_111 : tables_1_4[111]? = some (Jvm.Cond.instanceMethod ({ cls := "RingGuardModel", name := "<init>", desc := "()V" } : Jvm.MethodName)) := by decide +kernel
theorem k4_112 : tables_1_4[112]? = some (Jvm.Cond.code ({ cls := "RingGuardModel", name := "<init>", desc := "()V" } : Jvm.MethodName) prog_10_method_1_code (2 : Nat) (Option.none : Option Jvm.ClassFile.FieldType)) := rfl
theorem dLA_law_0 : decode bLA_law 0 = .ok (.new 8, 3) := by decide +kernel
theorem dLA_law_3 : decode bLA_law 3 = .ok (.dup, 1) := by decide +kernel
theorem dLA_law_4 : decode bLA_law 4 = .ok (.invokespecial 69, 3) := by decide +kernel
theorem dLA_law_7 : decode bLA_law 7 = .ok (.astore_n 1, 1) := by decide +kernel
theorem dLA_law_8 : decode bLA_law 8 = .ok (.new 70, 3) := by decide +kernel
theorem dLA_law_11 : decode bLA_law 11 = .ok (.dup, 1) := by decide +kernel
theorem dLA_law_12 : decode bLA_law 12 = .ok (.invokespecial 72, 3) := by decide +kernel
theorem dLA_law_15 : decode bLA_law 15 = .ok (.astore_n 2, 1) := by decide +kernel
theorem dLA_law_16 : decode bLA_law 16 = .ok (.iconst 1, 1) := by decide +kernel
theorem dLA_law_17 : decode bLA_law 17 = .ok (.newarray .long, 2) := by decide +kernel
theorem dLA_law_19 : decode bLA_law 19 = .ok (.astore_n 3, 1) := by decide +kernel
theorem dLA_law_20 : decode bLA_law 20 = .ok (.iconst 0, 1) := by decide +kernel
theorem dLA_law_21 : decode bLA_law 21 = .ok (.istore 4, 2) := by decide +kernel
theorem zarr {a0 : Array Value} {s0 s : State} (hB : tq_B zT a0 s0 s) {ty : FieldType} (hob : ∀ C, ty ≠ .object C) (hm : Cond.arrayClass ty ∈ zT) : ∃ cA : ClassId, ArrOfT s cA ty ∧ va_RA s cA ty := by
  obtain ⟨cA, kA, comp, h1, h2, h3⟩ := Cond.arrayClass_spec (zac (args := #[]) hB hm)
  refine ⟨cA, fun n z => ⟨fun k h => (by cases h), kA, h2, comp, h3⟩, ?_⟩
  cases ty with
  | object C => exact absurd rfl (hob C)
  | _ => exact h1
set_option maxHeartbeats 4000000 in
set_option maxRecDepth 100000 in
/-- THE LAW, from its entry -/
theorem whole_start {p : Program} {e : Env} {s : State} {m : MethodId} {below : List Frame} {meth : Method} {c : Code} (l : Launch) (hfl : l.flags = Jvm.pinnedFlags ++ [Jvm.noTraceFlag]) {sb L : Nat} {xs : Nat → Int32} (hL : L ≤ 2048) (C0 : zAt p s m meth c sb L xs) : W p l e room_1 s m #[Value.ref sb] below meth c s.heap [] 0 0 (lw_Z below #[Value.ref sb] s) (entryFrame m ([Value.ref sb] : List Value).toArray 7) := by
  have C1 := C0
  obtain ⟨hx, hb, hr, hml, hown, hB, hX, hbl, hlocks⟩ := C0
  have hA0 : ∀ q, zN s.heap.size q → s.heap.size ≤ q := fun _ h => h
  have hAD := hA0
  have hA : ∀ q : Nat, s.heap.size ≤ q → zN s.heap.size q := fun _ h => h
  have hbA : ¬ zN s.heap.size sb := Nat.not_le.mpr hbl
  obtain ⟨c0, iS0, hKn0⟩ := u_known (C := "RingGuard") (T := T_RG) (N := 13) (n := 13) (args := #[Value.ref sb]) (hB.words zU_RG) zid (hB.word (zm1 k1_18) rfl)
  obtain ⟨c1, iS1, hKn1⟩ := u_known (C := "RingGuard$Plan") (T := T_PL) (N := 11) (n := 11) (args := #[Value.ref sb]) (hB.words zU_PL) zid (hB.word (zm1 k1_26) rfl)
  obtain ⟨c2, iS2, hKn2⟩ := u_known (C := "RingGuard$Wires") (T := T_WI) (N := 6) (n := 6) (args := #[Value.ref sb]) (hB.words zU_WI) zid (hB.word (zm1 k1_85) rfl)
  obtain ⟨c3, iS3, hKn3⟩ := u_known (C := "RingGuard$Tables") (T := T_TA) (N := 1) (n := 1) (args := #[Value.ref sb]) (hB.words zU_TA) zid (hB.word (zm1 k1_112) rfl)
  obtain ⟨c4, iS4, hKn4⟩ := u_known (C := "RingGuard$Protocol") (T := T_PR) (N := 14) (n := 14) (args := #[Value.ref sb]) (hB.words zU_PR) zid (hB.word (zm1 k1_125) rfl)
  obtain ⟨c5, iS5, hKn5⟩ := u_known (C := "RingGuard$Frames") (T := T_FR) (N := 9) (n := 9) (args := #[Value.ref sb]) (hB.words zU_FR) zid (hB.word (zm1 k1_180) rfl)
  obtain ⟨c6, iS6, hKn6⟩ := u_known (C := "RingGuard$Groups") (T := T_GR) (N := 3) (n := 3) (args := #[Value.ref sb]) (hB.words zU_GR) zid (hB.word (zm1 k1_217) rfl)
  obtain ⟨c7, iS7, hKn7⟩ := u_known (C := "RingGuardModel") (T := T_MO) (N := 53) (n := 53) (args := #[Value.ref sb]) (hB.words zU_MO) zid (hB.word (zm4 k4_109) rfl)
  obtain ⟨dC, dI, hKc⟩ : ∃ (dC : Nat → ClassId) (dI : Nat → Nat → Nat), ∀ (k : Nat) (q : vw_C), zCl[k]? = some q → u_Kn s q.1 q.2.1 q.2.2 (dC k) (dI k) := by
    refine ⟨fun k => if k = 0 then c0 else if k = 1 then c1 else if k = 2 then c2 else if k = 3 then c3 else if k = 4 then c4 else if k = 5 then c5 else if k = 6 then c6 else c7, fun k => if k = 0 then iS0 else if k = 1 then iS1 else if k = 2 then iS2 else if k = 3 then iS3 else if k = 4 then iS4 else if k = 5 then iS5 else if k = 6 then iS6 else iS7, ?_⟩
    intro k q hq
    match k, hq with
    | 0, hq => cases hq; exact hKn0
    | 1, hq => cases hq; exact hKn1
    | 2, hq => cases hq; exact hKn2
    | 3, hq => cases hq; exact hKn3
    | 4, hq => cases hq; exact hKn4
    | 5, hq => cases hq; exact hKn5
    | 6, hq => cases hq; exact hKn6
    | 7, hq => cases hq; exact hKn7
    | k + 8, hq => simp [zCl] at hq
  obtain ⟨cI, hcI⟩ := zarr hB (ty := .int) (fun _ h => by cases h) (zm1 (i := 82) rfl)
  obtain ⟨cZ, hcZ⟩ := zarr hB (ty := .boolean) (fun _ h => by cases h) (zm1 (i := 83) rfl)
  obtain ⟨cJ, hcJ⟩ := zarr hB (ty := .long) (fun _ h => by cases h) (zm6 (i := 36) rfl)
  obtain ⟨ci9, cA, kA, -, hkA, hkindA, hnameA⟩ := zover hB (zm1 (i := 118) rfl)
  have hK : va_K (dC, dI) zCl (zTZ cI cZ cJ cA) s := ⟨hKc, fun k q h => by
    match k, h with
    | 0, h => cases h; exact hcI
    | 1, h => cases h; exact hcZ
    | 2, h => cases h; exact hcJ
    | 3, h => cases h; exact ⟨fun n z => ⟨fun k h => (by cases h), kA, hkA, ci9, hkindA⟩, hnameA⟩
    | k + 4, h => simp [zTZ] at h⟩
  have hS : va_S (zN s.heap.size) s.heap s.heap [] := va_S.rf
  have hP : va_P (dC, dI) zCl [] s.heap := fun k q h => by simp at h
  have hD : va_D (zN s.heap.size) [] := ⟨fun i j p q h => by simp at h, fun k q h => by simp at h⟩
  have hl := lv_entry ([.ref sb]) (n := 7) (Nat.le_of_ble_eq_true rfl)
  rw [lg_entry_eq]
  generalize (lg_sl ([.ref sb]) ++ List.replicate (7 - (lg_sl ([.ref sb])).length) Slot.unset).toArray = ls at hl ⊢
  have hl : lv_has ls 7 [(0, .ref sb)] := hl
  have hu0 : ∀ w ∈ u_ws "RingGuard" T_RG 13, w.before ([.ref sb] : List Value).toArray s = true := hB.words zU_RG
  refine va_new (ci := 0) (fs := [.null, .null, .null, .null, .null, .null, .int 0, .int 0, .int 0, .int 0, .int 0, .int 0, .int 0]) (C := "RingGuard") (T := T_RG) (N := 13) hx hb hu0 zid ty_RG ok_RG hown (hB.word (zm1 k1_17) rfl) (hB.word (zm1 k1_18) rfl) (hB.word (zm1 k1_1) rfl) hK hP hD hS hA rfl zd_RG (Nat.le_of_ble_eq_true rfl) (Nat.le_of_ble_eq_true rfl) dLA_law_0 (fun q0 H hP hD hS => ?_)
  refine lv_dup hx hb dLA_law_3 rfl ?_
  have hPc : va_P (dC, dI) zCl [(q0, .inr (0, [.null, .null, .null, .null, .null, .null, .int 0, .int 0, .int 0, .int 0, .int 0, .int 0, .int 0]))] H := hP.sub [0] rfl
  have hDc : va_D (zN s.heap.size) [(q0, .inr (0, [.null, .null, .null, .null, .null, .null, .int 0, .int 0, .int 0, .int 0, .int 0, .int 0, .int 0]))] := hD.sub [0] (by decide) rfl
  refine zcallw (wr := []) (va_runI (As := []) (rest := [.ref q0]) ⟨hx, hb, hml, hown, zno⟩ (zc_RingGuard l dC dI cI cZ cJ cA #[Value.ref sb] s q0 H.size) ⟨zcb 0 (hB.word (zm1 k1_21) rfl) (hB.word (zm1 k1_1) rfl) (hB.word (zm1 k1_19) rfl) rfl rfl (by decide +kernel) ⟨Nat.le_of_ble_eq_true rfl, Nat.le_of_ble_eq_true rfl⟩, rfl, hB.word (zm1 k1_20) rfl⟩ ⟨zP_blind, zP_pre hPc hK hDc hAD (zB_on hB hA0 hS)⟩ rfl rfl hl.1 rfl (lv_room (Nat.le_of_ble_eq_true rfl)) dLA_law_4 ⟨Nat.le_of_ble_eq_true rfl, Nat.le_of_ble_eq_true rfl⟩) hP hD hS hA [0] [] rfl rfl (by decide) (by decide) (fun wo H1 locs hwo hP hD hS => ?_)
  obtain ⟨qT, ad, f3, f4, f6, f7, f23, FT, hf3, hf4, hf6, hf7, hf23, hFT, rfl⟩ := hwo
  generalize H1 = H at hP hS ⊢
  rw [List.nil_append] at hP hD
  have hY := zEX_alike (cI := cI) (cZ := cZ) (cA := cA) (x := q0) (q := qT) (a := ad) hf3 hf4 hf6 hf7 hf23 hFT
  replace hP := hY.P hP
  replace hD := hY.D hD
  clear hY hPc hDc
  refine lv_astore_n (lv' := [(1, .ref q0), (0, .ref sb)]) hx hb dLA_law_7 rfl hl (by decide) rfl (fun ls hl => ?_)
  have hu7 : ∀ w ∈ u_ws "RingGuardModel" T_MO 53, w.before ([.ref sb] : List Value).toArray s = true := hB.words zU_MO
  refine va_new (ci := 7) (fs := [.int 0, .int 0, .int 0, .int 0, .null, .null, .null, .null, .null, .null, .null, .null, .null, .null, .null, .null, .null, .null, .null, .null, .null, .null, .null, .null, .null, .null, .null, .null, .null, .null, .null, .null, .null, .null, .null, .null, .null, .int 0, .int 0, .int 0, .int 0, .int 0, .int 0, .int 0, .null, .null, .null, .null, .int 0, .int 0, .int 0, .int 0, .null]) (C := "RingGuardModel") (T := T_MO) (N := 53) hx hb hu7 zid ty_MO ok_MO hown (hB.word (zm4 k4_108) rfl) (hB.word (zm4 k4_109) rfl) (hB.word (zm1 k1_9) rfl) hK hP hD hS hA rfl zd_MO (Nat.le_of_ble_eq_true rfl) (Nat.le_of_ble_eq_true rfl) dLA_law_8 (fun q8 H hP hD hS => ?_)
  refine lv_dup hx hb dLA_law_11 rfl ?_
  replace hP : va_P (dC, dI) zCl (CW cI cZ cA (zo q0 qT ad) (zb qT ad) zP0 zS0 ++ [(q8, .inr (7, [.int 0, .int 0, .int 0, .int 0, .null, .null, .null, .null, .null, .null, .null, .null, .null, .null, .null, .null, .null, .null, .null, .null, .null, .null, .null, .null, .null, .null, .null, .null, .null, .null, .null, .null, .null, .null, .null, .null, .null, .int 0, .int 0, .int 0, .int 0, .int 0, .int 0, .int 0, .null, .null, .null, .null, .int 0, .int 0, .int 0, .int 0, .null]))]) H := hP
  replace hD : va_D (zN s.heap.size) (CW cI cZ cA (zo q0 qT ad) (zb qT ad) zP0 zS0 ++ [(q8, .inr (7, [.int 0, .int 0, .int 0, .int 0, .null, .null, .null, .null, .null, .null, .null, .null, .null, .null, .null, .null, .null, .null, .null, .null, .null, .null, .null, .null, .null, .null, .null, .null, .null, .null, .null, .null, .null, .null, .null, .null, .null, .int 0, .int 0, .int 0, .int 0, .int 0, .int 0, .int 0, .null, .null, .null, .null, .int 0, .int 0, .int 0, .int 0, .null]))]) := hD
  replace hP := zPC hP
  replace hD := zDC hD
  refine zcVL (Wf := fun w9 : va_W => w9) (va_runI (As := []) (rest := [.ref q8]) ⟨hx, hb, hml, hown, zno⟩ (zc_Model l dC dI cI cZ cJ cA #[Value.ref sb] s q8 H.size) ⟨zcb 0 (hB.word (zm4 k4_112) rfl) (hB.word (zm1 k1_9) rfl) (hB.word (zm4 k4_110) rfl) rfl rfl (by decide +kernel) ⟨Nat.le_of_ble_eq_true rfl, Nat.le_of_ble_eq_true rfl⟩, rfl, hB.word (zm4 k4_111) rfl⟩ ⟨zP_blind, zP_pre (zPL hP) hK (zDL hD) hAD (zB_on hB hA0 hS)⟩ rfl rfl hl.1 rfl (lv_room (Nat.le_of_ble_eq_true rfl)) dLA_law_12 ⟨Nat.le_of_ble_eq_true rfl, Nat.le_of_ble_eq_true rfl⟩) hP hD hS hA (fun wo H locs hwo hP hD hS => ?_)
  obtain ⟨mb, fo, fq, fl, fp, fv, h9fo, h9fq, h9fl, h9fp, h9fv, rfl⟩ := hwo
  replace hP : va_P (dC, dI) zCl ([(q8, .inr (7, [.int 0, .int 0, .int 0, .int 0, .ref (mb 0), .ref (mb 1), .ref (mb 2), .ref (mb 3), .ref (mb 4), .ref (mb 5), .ref (mb 6), .ref (mb 7), .ref (mb 8), .ref (mb 9), .ref (mb 10), .ref (mb 11), .ref (mb 12), .ref (mb 13), .ref (mb 14), .ref (mb 15), .ref (mb 16), .ref (mb 17), .ref (mb 18), .ref (mb 19), .ref (mb 20), .ref (mb 21), .ref (mb 22), .ref (mb 23), .ref (mb 24), .ref (mb 25), .ref (mb 26), .ref (mb 27), .ref (mb 28), .ref (mb 29), .ref (mb 30), .ref (mb 31), .ref (mb 32), .int 0, .int 0, .int 0, .int 0, .int 0, .int 0, .int 0, .ref (mb 33), .ref (mb 34), .ref (mb 35), .ref (mb 36), .int 0, .int 0, .int 0, .int 0, .ref (mb 37)])), ((mb 0), .inl (cI, 60, .inl (fun _ => 0))), ((mb 1), .inl (cI, 60, .inl (fun _ => 0))), ((mb 2), .inl (cI, 60, .inl (fun _ => 0))), ((mb 3), .inl (cZ, 60, .inl (fun _ => 0))), ((mb 4), .inl (cI, 60, .inl (fun _ => 0))), ((mb 5), .inl (cI, 60, .inl (fun _ => 0))), ((mb 6), .inl (cI, 120, .inl (fun _ => 0))), ((mb 7), .inl (cI, 6, .inl fo)), ((mb 8), .inl (cI, 6, .inl fq)), ((mb 9), .inl (cZ, 6, .inl (fun _ => 0))), ((mb 10), .inl (cI, 6, .inl (fun _ => 0))), ((mb 11), .inl (cI, 6, .inl (fun _ => 0))), ((mb 12), .inl (cI, 576, .inl fl)), ((mb 13), .inl (cI, 288, .inl (fun _ => 0))), ((mb 14), .inl (cI, 288, .inl (fun _ => 0))), ((mb 15), .inl (cI, 288, .inl (fun _ => 0))), ((mb 16), .inl (cI, 288, .inl (fun _ => 0))), ((mb 17), .inl (cI, 48, .inl (fun _ => 0))), ((mb 18), .inl (cI, 48, .inl (fun _ => 0))), ((mb 19), .inl (cI, 5472, .inl (fun _ => 0))), ((mb 20), .inl (cI, 12288, .inl fv)), ((mb 21), .inl (cI, 12288, .inl (fun _ => 0))), ((mb 22), .inl (cI, 64, .inl fp)), ((mb 23), .inl (cI, 120, .inl (fun _ => 0))), ((mb 24), .inl (cI, 7680, .inl (fun _ => 0))), ((mb 25), .inl (cI, 7680, .inl (fun _ => 0))), ((mb 26), .inl (cI, 7680, .inl (fun _ => 0))), ((mb 27), .inl (cI, 7680, .inl (fun _ => 0))), ((mb 28), .inl (cI, 120, .inl (fun _ => 0))), ((mb 29), .inl (cI, 7680, .inl (fun _ => 0))), ((mb 30), .inl (cI, 7680, .inl (fun _ => 0))), ((mb 31), .inl (cI, 7680, .inl (fun _ => 0))), ((mb 32), .inl (cI, 7680, .inl (fun _ => 0))), ((mb 33), .inl (cI, 48, .inl (fun _ => 0))), ((mb 34), .inl (cI, 48, .inl (fun _ => 0))), ((mb 35), .inl (cI, 4096, .inl (fun _ => 0))), ((mb 36), .inl (cI, 4096, .inl (fun _ => 0))), ((mb 37), .inl (cI, 120, .inl (fun _ => 0)))] ++ CW cI cZ cA (zo q0 qT ad) (zb qT ad) zP0 zS0) H := hP
  replace hD : va_D (zN s.heap.size) ([(q8, .inr (7, [.int 0, .int 0, .int 0, .int 0, .ref (mb 0), .ref (mb 1), .ref (mb 2), .ref (mb 3), .ref (mb 4), .ref (mb 5), .ref (mb 6), .ref (mb 7), .ref (mb 8), .ref (mb 9), .ref (mb 10), .ref (mb 11), .ref (mb 12), .ref (mb 13), .ref (mb 14), .ref (mb 15), .ref (mb 16), .ref (mb 17), .ref (mb 18), .ref (mb 19), .ref (mb 20), .ref (mb 21), .ref (mb 22), .ref (mb 23), .ref (mb 24), .ref (mb 25), .ref (mb 26), .ref (mb 27), .ref (mb 28), .ref (mb 29), .ref (mb 30), .ref (mb 31), .ref (mb 32), .int 0, .int 0, .int 0, .int 0, .int 0, .int 0, .int 0, .ref (mb 33), .ref (mb 34), .ref (mb 35), .ref (mb 36), .int 0, .int 0, .int 0, .int 0, .ref (mb 37)])), ((mb 0), .inl (cI, 60, .inl (fun _ => 0))), ((mb 1), .inl (cI, 60, .inl (fun _ => 0))), ((mb 2), .inl (cI, 60, .inl (fun _ => 0))), ((mb 3), .inl (cZ, 60, .inl (fun _ => 0))), ((mb 4), .inl (cI, 60, .inl (fun _ => 0))), ((mb 5), .inl (cI, 60, .inl (fun _ => 0))), ((mb 6), .inl (cI, 120, .inl (fun _ => 0))), ((mb 7), .inl (cI, 6, .inl fo)), ((mb 8), .inl (cI, 6, .inl fq)), ((mb 9), .inl (cZ, 6, .inl (fun _ => 0))), ((mb 10), .inl (cI, 6, .inl (fun _ => 0))), ((mb 11), .inl (cI, 6, .inl (fun _ => 0))), ((mb 12), .inl (cI, 576, .inl fl)), ((mb 13), .inl (cI, 288, .inl (fun _ => 0))), ((mb 14), .inl (cI, 288, .inl (fun _ => 0))), ((mb 15), .inl (cI, 288, .inl (fun _ => 0))), ((mb 16), .inl (cI, 288, .inl (fun _ => 0))), ((mb 17), .inl (cI, 48, .inl (fun _ => 0))), ((mb 18), .inl (cI, 48, .inl (fun _ => 0))), ((mb 19), .inl (cI, 5472, .inl (fun _ => 0))), ((mb 20), .inl (cI, 12288, .inl fv)), ((mb 21), .inl (cI, 12288, .inl (fun _ => 0))), ((mb 22), .inl (cI, 64, .inl fp)), ((mb 23), .inl (cI, 120, .inl (fun _ => 0))), ((mb 24), .inl (cI, 7680, .inl (fun _ => 0))), ((mb 25), .inl (cI, 7680, .inl (fun _ => 0))), ((mb 26), .inl (cI, 7680, .inl (fun _ => 0))), ((mb 27), .inl (cI, 7680, .inl (fun _ => 0))), ((mb 28), .inl (cI, 120, .inl (fun _ => 0))), ((mb 29), .inl (cI, 7680, .inl (fun _ => 0))), ((mb 30), .inl (cI, 7680, .inl (fun _ => 0))), ((mb 31), .inl (cI, 7680, .inl (fun _ => 0))), ((mb 32), .inl (cI, 7680, .inl (fun _ => 0))), ((mb 33), .inl (cI, 48, .inl (fun _ => 0))), ((mb 34), .inl (cI, 48, .inl (fun _ => 0))), ((mb 35), .inl (cI, 4096, .inl (fun _ => 0))), ((mb 36), .inl (cI, 4096, .inl (fun _ => 0))), ((mb 37), .inl (cI, 120, .inl (fun _ => 0)))] ++ CW cI cZ cA (zo q0 qT ad) (zb qT ad) zP0 zS0) := hD
  replace hP : va_P (dC, dI) zCl (zEM cI cZ q8 mb fo fq fl fp fv ++ CW cI cZ cA (zo q0 qT ad) (zb qT ad) zP0 zS0) H := zsubP hP [0, 1, 2, 3, 8, 9, 10, 13, 4, 5, 6, 7, 11, 12, 14, 15, 16, 17, 18, 19, 20, 21, 22, 23, 24, 25, 26, 27, 28, 29, 30, 31, 32, 33, 34, 35, 36, 37, 38] rfl
  replace hD : va_D (zN s.heap.size) (zEM cI cZ q8 mb fo fq fl fp fv ++ CW cI cZ cA (zo q0 qT ad) (zb qT ad) zP0 zS0) := zsubD hD [0, 1, 2, 3, 8, 9, 10, 13, 4, 5, 6, 7, 11, 12, 14, 15, 16, 17, 18, 19, 20, 21, 22, 23, 24, 25, 26, 27, 28, 29, 30, 31, 32, 33, 34, 35, 36, 37, 38] rfl (by decide)
  have hY := (zEM_alike (cI := cI) (cZ := cZ) (cA := cA) (mo := q8) (mb := mb) h9fo h9fq h9fl h9fp h9fv).app (v := CW cI cZ cA (zo q0 qT ad) (zb qT ad) zP0 zS0)
  replace hP := hY.P hP
  replace hD := hY.D hD
  clear hY
  refine lv_astore_n (lv' := [(2, .ref q8), (1, .ref q0), (0, .ref sb)]) hx hb dLA_law_15 rfl hl (by decide) rfl (fun ls hl => ?_)
  refine lv_iconst (v := 1) hx hb dLA_law_16 (by decide) ?_
  refine znew (a0 := (1, .inr (.inl (fun _ => 0)))) hx hb (zac_long hB) rfl (fun _ h9 => by cases h9) hK 2 rfl hP hD hS hA (fun _ => rfl) (by decide) (by decide) (by decide) (Nat.le_of_ble_eq_true rfl) (Nat.le_of_ble_eq_true rfl) dLA_law_17 (fun q17 H hP hD hS => ?_)
  rw [List.append_assoc] at hP hD
  have hP := zPC hP
  have hD := zDC hD
  refine lv_astore_n (lv' := [(3, .ref q17), (2, .ref q8), (1, .ref q0), (0, .ref sb)]) hx hb dLA_law_19 rfl hl (by decide) rfl (fun ls hl => ?_)
  refine lv_iconst (v := 0) hx hb dLA_law_20 (by decide) ?_
  refine lv_istore (lv' := [(4, .int 0), (3, .ref q17), (2, .ref q8), (1, .ref q0), (0, .ref sb)]) hx hb dLA_law_21 hl (by decide) rfl (fun ls hl => ?_)
  have hl : lv_has ls 7 [(4, .int (nI (4 * 0))), (3, .ref q17), (2, .ref q8), (1, .ref q0), (0, .ref sb)] := lv_sub hl [0, 1, 2, 3, 4] rfl
  refine W.widen (k := 124) (n := 138909) (Nat.le_of_ble_eq_true rfl) (Nat.le_of_ble_eq_true rfl) ?_
  have hG := law_loop (e := e) (below := below) (o := zo q0 qT ad) (mo := fun _ => q8) (mb := fun k => mb (zmp k)) (qo := q17) l hfl C1 dC dI cI cZ cJ cA hK hL
  unfold zGo at hG
  exact hG H locs ls (zb qT ad) zP0 zS0 zPm zSm (fun _ => 0) ⟨zIv0, zS0_ok, zSm_ok, zX0⟩ hP hD hS hl
