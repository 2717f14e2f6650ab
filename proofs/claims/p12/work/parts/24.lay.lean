theorem k1_54 : tables_1_1[54]? = some (Jvm.Cond.fieldLink "RingGuard$Plan" (30 : Nat) "RingGuard$Plan" "ownerPort" "[I") := by decide +kernel
abbrev yPL_layPorts : MethodName := ⟨"RingGuard$Plan", "layPorts", "()V"⟩
abbrev bPL_layPorts : ByteArray := prog_5_method_6_code
theorem dPL_layPorts_0 : decode bPL_layPorts 0 = .ok (.iconst 0, 1) := by decide +kernel
theorem dPL_layPorts_1 : decode bPL_layPorts 1 = .ok (.istore_n 1, 1) := by decide +kernel
theorem dPL_layPorts_2 : decode bPL_layPorts 2 = .ok (.iload_n 1, 1) := by decide +kernel
theorem dPL_layPorts_3 : decode bPL_layPorts 3 = .ok (.iconst 2, 1) := by decide +kernel
theorem dPL_layPorts_4 : decode bPL_layPorts 4 = .ok (.aload_n 0, 1) := by decide +kernel
theorem dPL_layPorts_5 : decode bPL_layPorts 5 = .ok (.getfield 46, 3) := by decide +kernel
theorem dPL_layPorts_8 : decode bPL_layPorts 8 = .ok (.imul, 1) := by decide +kernel
theorem dPL_layPorts_9 : decode bPL_layPorts 9 = .ok (.if_icmp .ge 41, 3) := by decide +kernel
theorem dPL_layPorts_12 : decode bPL_layPorts 12 = .ok (.iconst 2, 1) := by decide +kernel
theorem dPL_layPorts_13 : decode bPL_layPorts 13 = .ok (.aload_n 0, 1) := by decide +kernel
theorem dPL_layPorts_14 : decode bPL_layPorts 14 = .ok (.getfield 27, 3) := by decide +kernel
theorem dPL_layPorts_17 : decode bPL_layPorts 17 = .ok (.iload_n 1, 1) := by decide +kernel
theorem dPL_layPorts_18 : decode bPL_layPorts 18 = .ok (.iaload, 1) := by decide +kernel
theorem dPL_layPorts_19 : decode bPL_layPorts 19 = .ok (.imul, 1) := by decide +kernel
theorem dPL_layPorts_20 : decode bPL_layPorts 20 = .ok (.istore_n 2, 1) := by decide +kernel
theorem dPL_layPorts_21 : decode bPL_layPorts 21 = .ok (.aload_n 0, 1) := by decide +kernel
theorem dPL_layPorts_22 : decode bPL_layPorts 22 = .ok (.getfield 33, 3) := by decide +kernel
theorem dPL_layPorts_25 : decode bPL_layPorts 25 = .ok (.aload_n 0, 1) := by decide +kernel
theorem dPL_layPorts_26 : decode bPL_layPorts 26 = .ok (.getfield 33, 3) := by decide +kernel
theorem dPL_layPorts_29 : decode bPL_layPorts 29 = .ok (.iload_n 2, 1) := by decide +kernel
theorem dPL_layPorts_30 : decode bPL_layPorts 30 = .ok (.iaload, 1) := by decide +kernel
theorem dPL_layPorts_31 : decode bPL_layPorts 31 = .ok (.iconst (-1), 1) := by decide +kernel
theorem dPL_layPorts_32 : decode bPL_layPorts 32 = .ok (.if_icmp .ne 7, 3) := by decide +kernel
theorem dPL_layPorts_35 : decode bPL_layPorts 35 = .ok (.iload_n 2, 1) := by decide +kernel
theorem dPL_layPorts_36 : decode bPL_layPorts 36 = .ok (.goto 6, 3) := by decide +kernel
theorem dPL_layPorts_39 : decode bPL_layPorts 39 = .ok (.iload_n 2, 1) := by decide +kernel
theorem dPL_layPorts_40 : decode bPL_layPorts 40 = .ok (.iconst 1, 1) := by decide +kernel
theorem dPL_layPorts_41 : decode bPL_layPorts 41 = .ok (.iadd, 1) := by decide +kernel
theorem dPL_layPorts_42 : decode bPL_layPorts 42 = .ok (.iload_n 1, 1) := by decide +kernel
theorem dPL_layPorts_43 : decode bPL_layPorts 43 = .ok (.iastore, 1) := by decide +kernel
theorem dPL_layPorts_44 : decode bPL_layPorts 44 = .ok (.iinc 1 1, 3) := by decide +kernel
theorem dPL_layPorts_47 : decode bPL_layPorts 47 = .ok (.goto (-45), 3) := by decide +kernel
theorem dPL_layPorts_50 : decode bPL_layPorts 50 = .ok (.iconst 0, 1) := by decide +kernel
theorem dPL_layPorts_51 : decode bPL_layPorts 51 = .ok (.istore_n 1, 1) := by decide +kernel
theorem dPL_layPorts_52 : decode bPL_layPorts 52 = .ok (.iload_n 1, 1) := by decide +kernel
theorem dPL_layPorts_53 : decode bPL_layPorts 53 = .ok (.bipush 6, 2) := by decide +kernel
theorem dPL_layPorts_55 : decode bPL_layPorts 55 = .ok (.if_icmp .ge 43, 3) := by decide +kernel
theorem dPL_layPorts_58 : decode bPL_layPorts 58 = .ok (.aload_n 0, 1) := by decide +kernel
theorem dPL_layPorts_59 : decode bPL_layPorts 59 = .ok (.getfield 30, 3) := by decide +kernel
theorem dPL_layPorts_62 : decode bPL_layPorts 62 = .ok (.iload_n 1, 1) := by decide +kernel
theorem dPL_layPorts_63 : decode bPL_layPorts 63 = .ok (.aload_n 0, 1) := by decide +kernel
theorem dPL_layPorts_64 : decode bPL_layPorts 64 = .ok (.iload_n 1, 1) := by decide +kernel
theorem dPL_layPorts_65 : decode bPL_layPorts 65 = .ok (.invokevirtual 50, 3) := by decide +kernel
theorem dPL_layPorts_68 : decode bPL_layPorts 68 = .ok (.ifCond .eq 22, 3) := by decide +kernel
theorem dPL_layPorts_71 : decode bPL_layPorts 71 = .ok (.aload_n 0, 1) := by decide +kernel
theorem dPL_layPorts_72 : decode bPL_layPorts 72 = .ok (.aload_n 0, 1) := by decide +kernel
theorem dPL_layPorts_73 : decode bPL_layPorts 73 = .ok (.getfield 21, 3) := by decide +kernel
theorem dPL_layPorts_76 : decode bPL_layPorts 76 = .ok (.iload_n 1, 1) := by decide +kernel
theorem dPL_layPorts_77 : decode bPL_layPorts 77 = .ok (.iaload, 1) := by decide +kernel
theorem dPL_layPorts_78 : decode bPL_layPorts 78 = .ok (.aload_n 0, 1) := by decide +kernel
theorem dPL_layPorts_79 : decode bPL_layPorts 79 = .ok (.getfield 24, 3) := by decide +kernel
theorem dPL_layPorts_82 : decode bPL_layPorts 82 = .ok (.iload_n 1, 1) := by decide +kernel
theorem dPL_layPorts_83 : decode bPL_layPorts 83 = .ok (.iaload, 1) := by decide +kernel
theorem dPL_layPorts_84 : decode bPL_layPorts 84 = .ok (.invokevirtual 54, 3) := by decide +kernel
theorem dPL_layPorts_87 : decode bPL_layPorts 87 = .ok (.goto 4, 3) := by decide +kernel
theorem dPL_layPorts_90 : decode bPL_layPorts 90 = .ok (.iconst (-1), 1) := by decide +kernel
theorem dPL_layPorts_91 : decode bPL_layPorts 91 = .ok (.iastore, 1) := by decide +kernel
theorem dPL_layPorts_92 : decode bPL_layPorts 92 = .ok (.iinc 1 1, 3) := by decide +kernel
theorem dPL_layPorts_95 : decode bPL_layPorts 95 = .ok (.goto (-43), 3) := by decide +kernel
theorem dPL_layPorts_98 : decode bPL_layPorts 98 = .ok (.return_, 1) := by decide +kernel
def zLP (P : ZS) : Prop := ∀ (S : ZS) (r : Int32), zr 0 5 r → ¬ fPL_hasLinks P S r = 0 → zr 0 59 (P.F 4 r.toNatClampNeg)
theorem zLP_7 {P : ZS} {i : Nat} {v : Int32} (h : zLP P) : zLP (P.setF 7 i v) := h
theorem zLP_6 {P : ZS} {i : Nat} {v : Int32} (h : zLP P) : zLP (P.setF 6 i v) := h
theorem zLP_I {P : ZS} {v : Int32} (h : zLP P) : zLP (P.setI 2 v) := h
noncomputable def fPL_layPorts_91 (rc52 : ZS → ZS → Int32 → (ZS × ZS)) (P_91 : ZS) (S_91 : ZS) (x91_1 : Int32) (y91_0 : Int32) (y91_1 : Int32) : ZS × ZS := zl (P_91.setF 6 (y91_1 : Int32).toNatClampNeg y91_0) (fun P1 => zl (x91_1 + 1) (fun k3 => rc52 P1 S_91 k3))
noncomputable def fPL_layPorts_52 (rc52 : ZS → ZS → Int32 → (ZS × ZS)) (P_52 : ZS) (S_52 : ZS) (x52_1 : Int32) : ZS × ZS := (if 6 ≤ x52_1 then (P_52, S_52) else zl (fPL_hasLinks P_52 S_52 x52_1) (fun k5 => (if k5 = 0 then fPL_layPorts_91 rc52 P_52 S_52 x52_1 (-1) x52_1 else zl (P_52.F 3 (x52_1 : Int32).toNatClampNeg) (fun k6 => zl (P_52.F 4 (x52_1 : Int32).toNatClampNeg) (fun k7 => zl (fPL_portOf P_52 S_52 k6 k7) (fun k9 => fPL_layPorts_91 rc52 P_52 S_52 x52_1 k9 x52_1))))))
noncomputable def fPL_layPorts_42 (rc2 : ZS → ZS → Int32 → (ZS × ZS)) (P_42 : ZS) (S_42 : ZS) (x42_1 : Int32) (y42_0 : Int32) : ZS × ZS := zl (P_42.setF 7 (y42_0 : Int32).toNatClampNeg x42_1) (fun P10 => zl (x42_1 + 1) (fun k12 => rc2 P10 S_42 k12))
noncomputable def fPL_layPorts_2 (rc2 : ZS → ZS → Int32 → (ZS × ZS)) (P_2 : ZS) (S_2 : ZS) (x2_1 : Int32) : ZS × ZS := zl (P_2.I 1) (fun k13 => zl (2 * k13) (fun k14 => (if k14 ≤ x2_1 then zfix (fun P9 S9 _ => (P9, S9)) (fPL_layPorts_52 ) 7 P_2 S_2 0 else zl (P_2.F 5 (x2_1 : Int32).toNatClampNeg) (fun k15 => zl (2 * k15) (fun k16 => zl (P_2.F 7 (k16 : Int32).toNatClampNeg) (fun k17 => (if k17 = (-1) then fPL_layPorts_42 rc2 P_2 S_2 x2_1 k16 else zl (k16 + 1) (fun k18 => fPL_layPorts_42 rc2 P_2 S_2 x2_1 k18))))))))
noncomputable def fPL_layPorts (P S : ZS) : ZS × ZS := zfix (fun P9 S9 _ => (P9, S9)) (fPL_layPorts_2 ) 121 P S 0
set_option maxHeartbeats 4000000 in
set_option maxRecDepth 100000 in
theorem tPL_layPorts (l : Launch) (dC : Nat → ClassId) (dI : Nat → Nat → Nat) (cI cZ cJ cA : ClassId) (a0 : Array Value) (s0 : State) (o b : Nat → Nat) (P S : ZS) (sz : Nat) (gP : cok P) (gS : cok S) (iL : zLP P) : Met l yPL_layPorts [Cond.code yPL_layPorts bPL_layPorts 3 none] ({ frames := 1, cells := 0, slots := 0, locals := 22 } : Room) (zP zCl dC dI (zTZ cI cZ cJ cA) a0 s0 [.ref (o 1)] sz (CW cI cZ cA o b P S)) (zQG zCl dC dI (fun (x9 : ZS × ZS) => x9 = fPL_layPorts P S  ∧ cok x9.1 ∧ cok x9.2 ∧ (zLP x9.1)) (fun x9 : ZS × ZS => (CW cI cZ cA o b x9.1 x9.2)) (va_A (CW cI cZ cA o b P S) sz)) 0 0 (va_A (CW cI cZ cA o b P S) sz) := by
  refine Met.ofW (cc := bPL_layPorts) (maxL := 3) (ret := none) (by decide) rfl ?_
  intro p e s m args below meth c s₁ B hml hv
  obtain ⟨rfl, hsz, hP, hK, hD0, hB⟩ := hv
  have hx := B.exec
  have hb := B.bytes
  have hr := B.returns
  have hown : s.vm.findClass "RingGuard$Plan" = some m.cls := findClass_of_methodNamed B.named
  have hlocks := B.notSynchronized
  subst hsz
  have hD := hD0.self (sz := s.heap.size)
  have hA0 := zA0 hD0 hB
  generalize hAe : va_A (CW cI cZ cA o b P S) s.heap.size = A at hD hA0 ⊢
  have hAD := hA0
  have hA : ∀ q : Nat, s.heap.size ≤ q → A q := fun q h => by rw [← hAe]; exact Or.inr h
  have hS : va_S A s.heap s.heap [] := va_S.rf
  have hl := lv_entry ([.ref (o 1)]) (n := 3) (Nat.le_of_ble_eq_true rfl)
  rw [lg_entry_eq]
  generalize (lg_sl ([.ref (o 1)]) ++ List.replicate (3 - (lg_sl ([.ref (o 1)])).length) Slot.unset).toArray = ls at hl ⊢
  have hl : lv_has ls 3 [(0, .ref (o 1))] := hl
  refine zgenQ (fun Q hQe => ?_)
  obtain ⟨tg, etg⟩ : ∃ z, z = fPL_layPorts P S  := ⟨_, rfl⟩
  have E := etg
  unfold fPL_layPorts at E
  have hL2 : ∀ (n2 : Nat) (H : Heap) (locs : List Loc) (ls : Array Slot) (P_2 : ZS) (S_2 : ZS) (x2_1 : Int32), zr 0 120 x2_1 → cok P_2 → cok S_2 → (zLP P_2) → 120 + 1 - x2_1.toInt ≤ (n2 : Int) → tg = zfix (fun P9 S9 _ => (P9, S9)) (fPL_layPorts_2 ) n2 P_2 S_2 x2_1 → va_P (dC, dI) zCl (CW cI cZ cA o b P_2 S_2) H → va_D A (CW cI cZ cA o b P_2 S_2) → va_S A s.heap H locs → lv_has ls 3 [(0, .ref (o 1)), (1, .int x2_1)] → W p l e ({ frames := 1, cells := 0, slots := 0, locals := 22 } : Room) s m ([.ref (o 1)] : List Value).toArray below meth c H locs 0 0 Q (F0 m 2 ls []) := by
    intro n2
    induction n2 with
    | zero => intro H locs ls P_2 S_2 x2_1 r_x2_1 gP_2 gS_2 iL_2 hm2 E hP hD hS hl; exact absurd hm2 (zfuel0U r_x2_1)
    | succ n2 ih2 =>
      intro H locs ls P_2 S_2 x2_1 r_x2_1 gP_2 gS_2 iL_2 hm2 E hP hD hS hl
      rw [zfix_s] at E
      generalize zfix (fun P9 S9 _ => (P9, S9)) (fPL_layPorts_2 ) n2 = rc2 at ih2 E
      unfold fPL_layPorts_2 at E
      have hL52 : ∀ (n52 : Nat) (H : Heap) (locs : List Loc) (ls : Array Slot) (P_52 : ZS) (S_52 : ZS) (x52_1 : Int32), zr 0 6 x52_1 → cok P_52 → cok S_52 → (zLP P_52) → 6 + 1 - x52_1.toInt ≤ (n52 : Int) → tg = zfix (fun P9 S9 _ => (P9, S9)) (fPL_layPorts_52 ) n52 P_52 S_52 x52_1 → va_P (dC, dI) zCl (CW cI cZ cA o b P_52 S_52) H → va_D A (CW cI cZ cA o b P_52 S_52) → va_S A s.heap H locs → lv_has ls 3 [(0, .ref (o 1)), (1, .int x52_1)] → W p l e ({ frames := 1, cells := 0, slots := 0, locals := 22 } : Room) s m ([.ref (o 1)] : List Value).toArray below meth c H locs 0 0 Q (F0 m 52 ls []) := by
        intro n52
        induction n52 with
        | zero => intro H locs ls P_52 S_52 x52_1 r_x52_1 gP_52 gS_52 iL_52 hm52 E hP hD hS hl; exact absurd hm52 (zfuel0U r_x52_1)
        | succ n52 ih52 =>
          intro H locs ls P_52 S_52 x52_1 r_x52_1 gP_52 gS_52 iL_52 hm52 E hP hD hS hl
          rw [zfix_s] at E
          generalize zfix (fun P9 S9 _ => (P9, S9)) (fPL_layPorts_52 ) n52 = rc52 at ih52 E
          unfold fPL_layPorts_52 at E
          have hJ91 : ∀ (H : Heap) (locs : List Loc) (ls : Array Slot) (P_91 : ZS) (S_91 : ZS) (x91_1 : Int32) (y91_0 : Int32) (y91_1 : Int32), zr 0 5 x91_1 → zr (-1) 119 y91_0 → zr 0 5 y91_1 → cok P_91 → cok S_91 → 6 + 1 - x91_1.toInt ≤ ((n52 + 1 : Nat) : Int) → (zLP P_91) → tg = fPL_layPorts_91 rc52 P_91 S_91 x91_1 y91_0 y91_1 → va_P (dC, dI) zCl (CW cI cZ cA o b P_91 S_91) H → va_D A (CW cI cZ cA o b P_91 S_91) → va_S A s.heap H locs → lv_has ls 3 [(0, .ref (o 1)), (1, .int x91_1)] → W p l e ({ frames := 1, cells := 0, slots := 0, locals := 22 } : Room) s m ([.ref (o 1)] : List Value).toArray below meth c H locs 0 0 Q (F0 m 91 ls [.int y91_0, .int y91_1, .ref (b 6)]) := by
            intro H locs ls P_91 S_91 x91_1 y91_0 y91_1 r_x91_1 r_y91_0 r_y91_1 gP_91 gS_91 hm52_91 iL_91 E hP hD hS hl
            unfold fPL_layPorts_91 at E
            refine c_astP hx hb hK hP hD hS 6 (by decide) rfl r_y91_1 (by decide) dPL_layPorts_91 E (fun P1 H2 locs eP1 E hP hD hS => ?_)
            have gP1 : cok P1 := by rw [eP1]; exact gP_91.setF (k := 6) r_y91_0 (Or.inl (by decide))
            have iL_P1 : zLP P1 := by rw [eP1]; exact zLP_6 iL_91
            refine z_iinc (lv' := fun v9 => [(1, .int v9), (0, .ref (o 1))]) (cst := 1) hx hb dPL_layPorts_92 hl (k := 1) rfl (by decide) (by decide) (fun _ => rfl) E (fun k3 ls ek3 E hl => ?_)
            have r_k3 : zr 1 6 k3 := zr_add r_x91_1 (show zr 1 1 1 from by decide) ek3 (by decide)
            refine lv_goto (tgt := 52) hx hb dPL_layPorts_95 (by decide) ?_
            exact ih52 H2 locs ls P1 S_91 k3 (zr_mono r_k3 (by decide)) gP1 gS_91 iL_P1 (zstepU ek3 r_x91_1 (by decide) hm52_91) E hP hD hS (lv_sub hl [1, 0] rfl)
          refine lv_iload_n hx hb dPL_layPorts_52 rfl (lv_at hl 1 rfl) ?_
          refine lv_bipush (v := 6) hx hb dPL_layPorts_53 (by decide) ?_
          refine z_icmp_ge (tgt := 98) hx hb dPL_layPorts_55 (by decide) E (fun c_55 E => ?_) (fun c_55 E => ?_)
          · have r_x52_1 : zr 6 6 x52_1 := zle_y (show zr 6 6 6 from by decide) r_x52_1 c_55 (by decide)
            rw [hQe]
            exact W.vret hx hb hr (fun t ht hW => ⟨⟨(P_52, S_52), rfl, ⟨E.symm.trans etg, gP_52, gS_52, iL_52⟩, by rw [ht]; exact hP, hD⟩, hS.F ht⟩) hS.2.2 dPL_layPorts_98
          · have r_x52_1 : zr 0 5 x52_1 := zlt_x r_x52_1 (show zr 6 6 6 from by decide) (znle c_55) (by decide)
            refine lv_aload_n hx hb dPL_layPorts_58 rfl (lv_at hl 0 rfl) ?_
            refine c_getA_6 hx hb (hB.words zU_PL) hown hK hP (hB.word (zm1 k1_54) rfl) dPL_layPorts_59 ?_
            refine lv_iload_n hx hb dPL_layPorts_62 rfl (lv_at hl 1 rfl) ?_
            refine lv_aload_n hx hb dPL_layPorts_63 rfl (lv_at hl 0 rfl) ?_
            refine lv_iload_n hx hb dPL_layPorts_64 rfl (lv_at hl 1 rfl) ?_
            refine zcallp (va_runV (As := [.int x52_1]) (rest := [.int x52_1, .ref (b 6)]) ⟨hx, hb, hml, hown, zno⟩ (tPL_hasLinks l dC dI cI cZ cJ cA a0 s0 o b P_52 S_52 H.size x52_1 gP_52 gS_52) (zcw 1 (hB.word (zm2 k2_216) rfl) (hB.word (zm1 k1_2) rfl) (hB.word (zm2 k2_213) rfl) (hB.word (zm2 k2_215) rfl) (k2_selects_private (by decide) (hB.word (zm1 k1_26) rfl) (hB.word (zm2 k2_214) rfl) (hB.word (zm2 k2_215) rfl)) rfl rfl (by decide +kernel) ⟨Nat.le_of_ble_eq_true rfl, Nat.le_of_ble_eq_true rfl⟩) ⟨zP_blind, va_recv hK hP (ci := 1) (q0 := 1) rfl rfl, zP_pre hP hK hD hAD (zB_on hB hA0 hS)⟩ rfl rfl hl.1 rfl (lv_room (Nat.le_of_ble_eq_true rfl)) dPL_layPorts_65 ⟨Nat.le_of_ble_eq_true rfl, Nat.le_of_ble_eq_true rfl⟩) hS hA (fun k5 H4 locs hk5 hz1 hk1 hS => ?_)
            have hP := zKeep hP hk1
            have E := zl_s E hk5.1
            refine z_if_eq (tgt := 90) hx hb dPL_layPorts_68 (by decide) E (fun c_68 E => ?_) (fun c_68 E => ?_)
            · have r_k5 : zr 0 0 k5 := zeq_x (show zr 0 0 0 from by decide) c_68
              refine lv_iconst (v := (-1)) hx hb dPL_layPorts_90 (by decide) ?_
              exact hJ91 H4 locs ls P_52 S_52 x52_1 (-1) x52_1 r_x52_1 (show zr (-1) 119 (-1) from by decide) r_x52_1 gP_52 gS_52 hm52 iL_52 E hP hD hS (lv_sub hl [0, 1] rfl)
            · have r_k5 : zr 1 1 k5 := zne_lo hk5.2 c_68 (by decide)
              refine lv_aload_n hx hb dPL_layPorts_71 rfl (lv_at hl 0 rfl) ?_
              refine lv_aload_n hx hb dPL_layPorts_72 rfl (lv_at hl 0 rfl) ?_
              refine c_getA_3 hx hb (hB.words zU_PL) hown hK hP (hB.word (zm1 k1_47) rfl) dPL_layPorts_73 ?_
              refine lv_iload_n hx hb dPL_layPorts_76 rfl (lv_at hl 1 rfl) ?_
              refine c_aldP hx hb hK hP 3 (by decide) rfl r_x52_1 (by decide) dPL_layPorts_77 E (fun k6 ek6 E => ?_)
              have r_k6 : zr (-1) 47 k6 := by rw [ek6]; exact gP_52.1 3 _
              refine lv_aload_n hx hb dPL_layPorts_78 rfl (lv_at hl 0 rfl) ?_
              refine c_getA_4 hx hb (hB.words zU_PL) hown hK hP (hB.word (zm1 k1_49) rfl) dPL_layPorts_79 ?_
              refine lv_iload_n hx hb dPL_layPorts_82 rfl (lv_at hl 1 rfl) ?_
              refine c_aldP hx hb hK hP 4 (by decide) rfl r_x52_1 (by decide) dPL_layPorts_83 E (fun k7 ek7 E => ?_)
              have r_k7 : zr (-1) 59 k7 := by rw [ek7]; exact gP_52.1 4 _
              have r_k72 : zr 0 59 k7 := by rw [ek7]; exact iL_52 _ _ r_x52_1 (fun h8 => c_68 (hk5.1.trans h8))
              refine zcallp (va_runV (As := [.int k6, .int k7]) (rest := [.int x52_1, .ref (b 6)]) ⟨hx, hb, hml, hown, zno⟩ (tPL_portOf l dC dI cI cZ cJ cA a0 s0 o b P_52 S_52 H4.size k6 k7 gP_52 gS_52 r_k72) (zcw 2 (hB.word (zm2 k2_212) rfl) (hB.word (zm1 k1_2) rfl) (hB.word (zm2 k2_209) rfl) (hB.word (zm2 k2_210) rfl) (hB.word (zm2 k2_211) rfl) rfl rfl (by decide +kernel) ⟨Nat.le_of_ble_eq_true rfl, Nat.le_of_ble_eq_true rfl⟩) ⟨zP_blind, va_recv hK hP (ci := 1) (q0 := 1) rfl rfl, zP_pre hP hK hD hAD (zB_on hB hA0 hS)⟩ rfl rfl hl.1 rfl (lv_room (Nat.le_of_ble_eq_true rfl)) dPL_layPorts_84 ⟨Nat.le_of_ble_eq_true rfl, Nat.le_of_ble_eq_true rfl⟩) hS hA (fun k9 H8 locs hk9 hz1 hk1 hS => ?_)
              have hP := zKeep hP hk1
              have E := zl_s E hk9.1
              refine lv_goto (tgt := 91) hx hb dPL_layPorts_87 (by decide) ?_
              exact hJ91 H8 locs ls P_52 S_52 x52_1 k9 x52_1 r_x52_1 hk9.2 r_x52_1 gP_52 gS_52 hm52 iL_52 E hP hD hS (lv_sub hl [0, 1] rfl)
      have hJ42 : ∀ (H : Heap) (locs : List Loc) (ls : Array Slot) (P_42 : ZS) (S_42 : ZS) (x42_1 : Int32) (y42_0 : Int32), zr 0 119 x42_1 → zr 0 575 y42_0 → cok P_42 → cok S_42 → 120 + 1 - x42_1.toInt ≤ ((n2 + 1 : Nat) : Int) → (zLP P_42) → tg = fPL_layPorts_42 rc2 P_42 S_42 x42_1 y42_0 → va_P (dC, dI) zCl (CW cI cZ cA o b P_42 S_42) H → va_D A (CW cI cZ cA o b P_42 S_42) → va_S A s.heap H locs → lv_has ls 3 [(0, .ref (o 1)), (1, .int x42_1)] → W p l e ({ frames := 1, cells := 0, slots := 0, locals := 22 } : Room) s m ([.ref (o 1)] : List Value).toArray below meth c H locs 0 0 Q (F0 m 42 ls [.int y42_0, .ref (b 7)]) := by
        intro H locs ls P_42 S_42 x42_1 y42_0 r_x42_1 r_y42_0 gP_42 gS_42 hm2_42 iL_42 E hP hD hS hl
        unfold fPL_layPorts_42 at E
        refine lv_iload_n hx hb dPL_layPorts_42 rfl (lv_at hl 1 rfl) ?_
        refine c_astP hx hb hK hP hD hS 7 (by decide) rfl r_y42_0 (by decide) dPL_layPorts_43 E (fun P10 H11 locs eP10 E hP hD hS => ?_)
        have gP10 : cok P10 := by rw [eP10]; exact gP_42.setF (k := 7) (zr_mono r_x42_1 (by decide)) (Or.inl (by decide))
        have iL_P10 : zLP P10 := by rw [eP10]; exact zLP_7 iL_42
        refine z_iinc (lv' := fun v9 => [(1, .int v9), (0, .ref (o 1))]) (cst := 1) hx hb dPL_layPorts_44 hl (k := 1) rfl (by decide) (by decide) (fun _ => rfl) E (fun k12 ls ek12 E hl => ?_)
        have r_k12 : zr 1 120 k12 := zr_add r_x42_1 (show zr 1 1 1 from by decide) ek12 (by decide)
        refine lv_goto (tgt := 2) hx hb dPL_layPorts_47 (by decide) ?_
        exact ih2 H11 locs ls P10 S_42 k12 (zr_mono r_k12 (by decide)) gP10 gS_42 iL_P10 (zstepU ek12 r_x42_1 (by decide) hm2_42) E hP hD hS (lv_sub hl [1, 0] rfl)
      refine lv_iload_n hx hb dPL_layPorts_2 rfl (lv_at hl 1 rfl) ?_
      refine lv_iconst (v := 2) hx hb dPL_layPorts_3 (by decide) ?_
      refine lv_aload_n hx hb dPL_layPorts_4 rfl (lv_at hl 0 rfl) ?_
      refine c_get_1 hx hb (hB.words zU_PL) hown hK hP (hB.word (zm1 k1_37) rfl) dPL_layPorts_5 E (fun k13 ek13 E => ?_)
      have r_k13 : zr 0 60 k13 := by rw [ek13]; exact gP_2.2.1 1
      refine z_imul hx hb dPL_layPorts_8 E (fun k14 ek14 E => ?_)
      have r_k14 : zr 0 120 k14 := zr_mul (show zr 2 2 2 from by decide) r_k13 ek14 (by decide)
      refine z_icmp_ge (tgt := 50) hx hb dPL_layPorts_9 (by decide) E (fun c_9 E => ?_) (fun c_9 E => ?_)
      · refine lv_iconst (v := 0) hx hb dPL_layPorts_50 (by decide) ?_
        refine lv_istore_n (lv' := [(1, .int 0), (0, .ref (o 1))]) hx hb dPL_layPorts_51 rfl hl (by decide) rfl (fun ls hl => ?_)
        exact hL52 7 H locs ls P_2 S_2 0 (show zr 0 6 0 from by decide) gP_2 gS_2 iL_2 (by have h9 := (show zr 0 0 0 from by decide); exact zfuelU h9 (by decide)) E hP hD hS (lv_sub hl [1, 0] rfl)
      · have r_x2_1 : zr 0 119 x2_1 := zlt_x r_x2_1 r_k14 (znle c_9) (by decide)
        have r_k14 : zr 1 120 k14 := zlt_y r_x2_1 r_k14 (znle c_9) (by decide)
        refine lv_iconst (v := 2) hx hb dPL_layPorts_12 (by decide) ?_
        refine lv_aload_n hx hb dPL_layPorts_13 rfl (lv_at hl 0 rfl) ?_
        refine c_getA_5 hx hb (hB.words zU_PL) hown hK hP (hB.word (zm1 k1_51) rfl) dPL_layPorts_14 ?_
        refine lv_iload_n hx hb dPL_layPorts_17 rfl (lv_at hl 1 rfl) ?_
        refine c_aldP hx hb hK hP 5 (by decide) rfl r_x2_1 (by decide) dPL_layPorts_18 E (fun k15 ek15 E => ?_)
        have r_k15 : zr 0 287 k15 := by rw [ek15]; exact gP_2.1 5 _
        refine z_imul hx hb dPL_layPorts_19 E (fun k16 ek16 E => ?_)
        have r_k16 : zr 0 574 k16 := zr_mul (show zr 2 2 2 from by decide) r_k15 ek16 (by decide)
        refine lv_istore_n (lv' := [(2, .int k16), (0, .ref (o 1)), (1, .int x2_1)]) hx hb dPL_layPorts_20 rfl hl (by decide) rfl (fun ls hl => ?_)
        refine lv_aload_n hx hb dPL_layPorts_21 rfl (lv_at hl 1 rfl) ?_
        refine c_getA_7 hx hb (hB.words zU_PL) hown hK hP (hB.word (zm1 k1_56) rfl) dPL_layPorts_22 ?_
        refine lv_aload_n hx hb dPL_layPorts_25 rfl (lv_at hl 1 rfl) ?_
        refine c_getA_7 hx hb (hB.words zU_PL) hown hK hP (hB.word (zm1 k1_56) rfl) dPL_layPorts_26 ?_
        refine lv_iload_n hx hb dPL_layPorts_29 rfl (lv_at hl 0 rfl) ?_
        refine c_aldP hx hb hK hP 7 (by decide) rfl r_k16 (by decide) dPL_layPorts_30 E (fun k17 ek17 E => ?_)
        have r_k17 : zr (-1) 119 k17 := by rw [ek17]; exact gP_2.1 7 _
        refine lv_iconst (v := (-1)) hx hb dPL_layPorts_31 (by decide) ?_
        refine z_icmp_ne (tgt := 39) hx hb dPL_layPorts_32 (by decide) E (fun c_32 E => ?_) (fun c_32 E => ?_)
        · have r_k17 : zr 0 119 k17 := zne_lo r_k17 c_32 (by decide)
          refine lv_iload_n hx hb dPL_layPorts_39 rfl (lv_at hl 0 rfl) ?_
          refine lv_iconst (v := 1) hx hb dPL_layPorts_40 (by decide) ?_
          refine z_iadd hx hb dPL_layPorts_41 E (fun k18 ek18 E => ?_)
          have r_k18 : zr 1 575 k18 := zr_add r_k16 (show zr 1 1 1 from by decide) ek18 (by decide)
          exact hJ42 H locs ls P_2 S_2 x2_1 k18 r_x2_1 (zr_mono r_k18 (by decide)) gP_2 gS_2 hm2 iL_2 E hP hD hS (lv_sub hl [1, 2] rfl)
        · have r_k17 : zr (-1) (-1) k17 := zeq_x (show zr (-1) (-1) (-1) from by decide) c_32
          refine lv_iload_n hx hb dPL_layPorts_35 rfl (lv_at hl 0 rfl) ?_
          refine lv_goto (tgt := 42) hx hb dPL_layPorts_36 (by decide) ?_
          exact hJ42 H locs ls P_2 S_2 x2_1 k16 r_x2_1 (zr_mono r_k16 (by decide)) gP_2 gS_2 hm2 iL_2 E hP hD hS (lv_sub hl [1, 2] rfl)
  refine lv_iconst (v := 0) hx hb dPL_layPorts_0 (by decide) ?_
  refine lv_istore_n (lv' := [(1, .int 0), (0, .ref (o 1))]) hx hb dPL_layPorts_1 rfl hl (by decide) rfl (fun ls hl => ?_)
  exact hL2 121 s.heap [] ls P S 0 (show zr 0 120 0 from by decide) gP gS iL (by have h9 := (show zr 0 0 0 from by decide); exact zfuelU h9 (by decide)) E hP hD hS (lv_sub hl [1, 0] rfl)
