theorem k1_54 : tables_1_1[54]? = some (Jvm.Cond.fieldLink "RingGuard$Plan" (30 : Nat) "RingGuard$Plan" "ownerPort" "[I") := by decide +kernel
abbrev yPL_layPorts : MethodName := ⟨"RingGuard$Plan", "layPorts", "()V"⟩
abbrev bPL_layPorts : ByteArray := prog_5_method_6_code
theorem dPL_layPorts_0 : decode bPL_layPorts 0 = .ok (.iconst 0, 1) := by decide +kernel
theorem dPL_layPorts_1 : decode bPL_layPorts 1 = .ok (.istore_n 1, 1) := by decide +kernel
theorem dPL_layPorts_2 : decode bPL_layPorts 2 = .ok (.iload_n 1, 1) := by decide +kernel
theorem dPL_layPorts_3 : decode bPL_layPorts 3 = .ok (.iconst 2, 1) := by decide +kernel
theorem dPL_layPorts_4 : decode bPL_layPorts 4 = .ok (.aload_n 0, 1) := by decide +kernel
theorem dPL_layPorts_5 : decode bPL_layPorts 5 = .ok (.getfield 46, 3) := by decide +kernel
theorem dPL_layPorts_8 : decode bPL_layPorts 8 = .ok (.imul, 1) := by decide +kernel
theorem dPL_layPorts_9 : decode bPL_layPorts 9 = .ok (.if_icmp .ge 41, 3) := by decide +kernel
theorem dPL_layPorts_12 : decode bPL_layPorts 12 = .ok (.iconst 2, 1) := by decide +kernel
theorem dPL_layPorts_13 : decode bPL_layPorts 13 = .ok (.aload_n 0, 1) := by decide +kernel
theorem dPL_layPorts_14 : decode bPL_layPorts 14 = .ok (.getfield 27, 3) := by decide +kernel
theorem dPL_layPorts_17 : decode bPL_layPorts 17 = .ok (.iload_n 1, 1) := by decide +kernel
theorem dPL_layPorts_18 : decode bPL_layPorts 18 = .ok (.iaload, 1) := by decide +kernel
theorem dPL_layPorts_19 : decode bPL_layPorts 19 = .ok (.imul, 1) := by decide +kernel
theorem dPL_layPorts_20 : decode bPL_layPorts 20 = .ok (.istore_n 2, 1) := by decide +kernel
theorem dPL_layPorts_21 : decode bPL_layPorts 21 = .ok (.aload_n 0, 1) := by decide +kernel
theorem dPL_layPorts_22 : decode bPL_layPorts 22 = .ok (.getfield 33, 3) := by decide +kernel
theorem dPL_layPorts_25 : decode bPL_layPorts 25 = .ok (.aload_n 0, 1) := by decide +kernel
theorem dPL_layPorts_26 : decode bPL_layPorts 26 = .ok (.getfield 33, 3) := by decide +kernel
theorem dPL_layPorts_29 : decode bPL_layPorts 29 = .ok (.iload_n 2, 1) := by decide +kernel
theorem dPL_layPorts_30 : decode bPL_layPorts 30 = .ok (.iaload, 1) := by decide +kernel
theorem dPL_layPorts_31 : decode bPL_layPorts 31 = .ok (.iconst (-1), 1) := by decide +kernel
theorem dPL_layPorts_32 : decode bPL_layPorts 32 = .ok (.if_icmp .ne 7, 3) := by decide +kernel
theorem dPL_layPorts_35 : decode bPL_layPorts 35 = .ok (.iload_n 2, 1) := by decide +kernel
theorem dPL_layPorts_36 : decode bPL_layPorts 36 = .ok (.goto 6, 3) := by decide +kernel
theorem dPL_layPorts_39 : decode bPL_layPorts 39 = .ok (.iload_n 2, 1) := by decide +kernel
theorem dPL_layPorts_40 : decode bPL_layPorts 40 = .ok (.iconst 1, 1) := by decide +kernel
theorem dPL_layPorts_41 : decode bPL_layPorts 41 = .ok (.iadd, 1) := by decide +kernel
theorem dPL_layPorts_42 : decode bPL_layPorts 42 = .ok (.iload_n 1, 1) := by decide +kernel
theorem dPL_layPorts_43 : decode bPL_layPorts 43 = .ok (.iastore, 1) := by decide +kernel
theorem dPL_layPorts_44 : decode bPL_layPorts 44 = .ok (.iinc 1 1, 3) := by decide +kernel
theorem dPL_layPorts_47 : decode bPL_layPorts 47 = .ok (.goto (-45), 3) := by decide +kernel
theorem dPL_layPorts_50 : decode bPL_layPorts 50 = .ok (.iconst 0, 1) := by decide +kernel
theorem dPL_layPorts_51 : decode bPL_layPorts 51 = .ok (.istore_n 1, 1) := by decide +kernel
theorem dPL_layPorts_52 : decode bPL_layPorts 52 = .ok (.iload_n 1, 1) := by decide +kernel
theorem dPL_layPorts_53 : decode bPL_layPorts 53 = .ok (.bipush 6, 2) := by decide +kernel
theorem dPL_layPorts_55 : decode bPL_layPorts 55 = .ok (.if_icmp .ge 43, 3) := by decide +kernel
theorem dPL_layPorts_58 : decode bPL_layPorts 58 = .ok (.aload_n 0, 1) := by decide +kernel
theorem dPL_layPorts_59 : decode bPL_layPorts 59 = .ok (.getfield 30, 3) := by decide +kernel
theorem dPL_layPorts_62 : decode bPL_layPorts 62 = .ok (.iload_n 1, 1) := by decide +kernel
theorem dPL_layPorts_63 : decode bPL_layPorts 63 = .ok (.aload_n 0, 1) := by decide +kernel
theorem dPL_layPorts_64 : decode bPL_layPorts 64 = .ok (.iload_n 1, 1) := by decide +kernel
theorem dPL_layPorts_65 : decode bPL_layPorts 65 = .ok (.invokevirtual 50, 3) := by decide +kernel
theorem dPL_layPorts_68 : decode bPL_layPorts 68 = .ok (.ifCond .eq 22, 3) := by decide +kernel
theorem dPL_layPorts_71 : decode bPL_layPorts 71 = .ok (.aload_n 0, 1) := by decide +kernel
theorem dPL_layPorts_72 : decode bPL_layPorts 72 = .ok (.aload_n 0, 1) := by decide +kernel
theorem dPL_layPorts_73 : decode bPL_layPorts 73 = .ok (.getfield 21, 3) := by decide +kernel
theorem dPL_layPorts_76 : decode bPL_layPorts 76 = .ok (.iload_n 1, 1) := by decide +kernel
theorem dPL_layPorts_77 : decode bPL_layPorts 77 = .ok (.iaload, 1) := by decide +kernel
theorem dPL_layPorts_78 : decode bPL_layPorts 78 = .ok (.aload_n 0, 1) := by decide +kernel
theorem dPL_layPorts_79 : decode bPL_layPorts 79 = .ok (.getfield 24, 3) := by decide +kernel
theorem dPL_layPorts_82 : decode bPL_layPorts 82 = .ok (.iload_n 1, 1) := by decide +kernel
theorem dPL_layPorts_83 : decode bPL_layPorts 83 = .ok (.iaload, 1) := by decide +kernel
theorem dPL_layPorts_84 : decode bPL_layPorts 84 = .ok (.invokevirtual 54, 3) := by decide +kernel
theorem dPL_layPorts_87 : decode bPL_layPorts 87 = .ok (.goto 4, 3) := by decide +kernel
theorem dPL_layPorts_90 : decode bPL_layPorts 90 = .ok (.iconst (-1), 1) := by decide +kernel
theorem dPL_layPorts_91 : decode bPL_layPorts 91 = .ok (.iastore, 1) := by decide +kernel
theorem dPL_layPorts_92 : decode bPL_layPorts 92 = .ok (.iinc 1 1, 3) := by decide +kernel
theorem dPL_layPorts_95 : decode bPL_layPorts 95 = .ok (.goto (-43), 3) := by decide +kernel
theorem dPL_layPorts_98 : decode bPL_layPorts 98 = .ok (.return_, 1) := by decide +kernel
def zLP (P : ZS) : Prop := ∀ (S : ZS) (r : Int32), zr 0 5 r → ¬ fPL_hasLinks P S r = 0 → zr 0 59 (P.F 4 r.toNatClampNeg)
theorem zLP_7 {P : ZS} {i : Nat} {v : Int32} (h : zLP P) : zLP (P.setF 7 i v) := h
theorem zLP_6 {P : ZS} {i : Nat} {v : Int32} (h : zLP P) : zLP (P.setF 6 i v) := h
theorem zLP_I {P : ZS} {v : Int32} (h : zLP P) : zLP (P.setI 2 v) := h
noncomputable def fPL_layPorts_91 (rc52 : ZS → ZS → Int32 → (ZS × ZS)) (P_91 : ZS) (S_91 : ZS) (x91_1 : Int32) (y91_0 : Int32) (y91_1 : Int32) : ZS × ZS := zl (P_91.setF 6 (y91_1 : Int32).toNatClampNeg y91_0) (fun P1 => zl (x91_1 + 1) (fun k3 => rc52 P1 S_91 k3))
noncomputable def fPL_layPorts_52 (rc52 : ZS → ZS → Int32 → (ZS × ZS)) (P_52 : ZS) (S_52 : ZS) (x52_1 : Int32) : ZS × ZS := (if 6 ≤ x52_1 then (P_52, S_52) else zl (fPL_hasLinks P_52 S_52 x52_1) (fun k5 => (if k5 = 0 then fPL_layPorts_91 rc52 P_52 S_52 x52_1 (-1) x52_1 else zl (P_52.F 3 (x52_1 : Int32).toNatClampNeg) (fun k6 => zl (P_52.F 4 (x52_1 : Int32).toNatClampNeg) (fun k7 => zl (fPL_portOf P_52 S_52 k6 k7) (fun k9 => fPL_layPorts_91 rc52 P_52 S_52 x52_1 k9 x52_1))))))
noncomputable def fPL_layPorts_42 (rc2 : ZS → ZS → Int32 → (ZS × ZS)) (P_42 : ZS) (S_42 : ZS) (x42_1 : Int32) (y42_0 : Int32) : ZS × ZS := zl (P_42.setF 7 (y42_0 : Int32).toNatClampNeg x42_1) (fun P10 => zl (x42_1 + 1) (fun k12 => rc2 P10 S_42 k12))
noncomputable def fPL_layPorts_2 (rc2 : ZS → ZS → Int32 → (ZS × ZS)) (P_2 : ZS) (S_2 : ZS) (x2_1 : Int32) : ZS × ZS := zl (P_2.I 1) (fun k13 => zl (2 * k13) (fun k14 => (if k14 ≤ x2_1 then zfix (fun P9 S9 _ => (P9, S9)) (fPL_layPorts_52 ) 7 P_2 S_2 0 else zl (P_2.F 5 (x2_1 : Int32).toNatClampNeg) (fun k15 => zl (2 * k15) (fun k16 => zl (P_2.F 7 (k16 : Int32).toNatClampNeg) (fun k17 => (if k17 = (-1) then fPL_layPorts_42 rc2 P_2 S_2 x2_1 k16 else zl (k16 + 1) (fun k18 => fPL_layPorts_42 rc2 P_2 S_2 x2_1 k18))))))))
noncomputable def fPL_layPorts (P S : ZS) : ZS × ZS := zfix (fun P9 S9 _ => (P9, S9)) (fPL_layPorts_2 ) 121 P S 0
set_option maxHeartbeats 4000000 in
set_option maxRecDepth 100000 in
theorem tPL_layPorts (l : Launch) (dC : Nat → ClassId) (dI : Nat → Nat → Nat) (cI cZ cJ cA : ClassId) (a0 : Array Value) (s0 : State) (o b : Nat → Nat) (P S : ZS) (sz : Nat) (gP : cok P) (gS : cok S) (iL : zLP P) : Met l yPL_layPorts [Cond.code yPL_layPorts bPL_layPorts 3 none] ({ frames := 1, cells := 0, slots := 0, locals := 22 } : Room) (zP zCl dC dI (zTZ cI cZ cJ cA) a0 s0 [.ref (o 1)] sz (CW cI cZ cA o b P S)) (zQG zCl dC dI (fun (x9 : ZS × ZS) => x9 = fPL_layPorts P S  ∧ cok x9.1 ∧ cok x9.2 ∧ (zLP x9.1)) (fun x9 : ZS × ZS => (CW cI cZ cA o b x9.1 x9.2)) (va_A (CW cI cZ cA o b P S) sz)) 0 0 (va_A (CW cI cZ cA o b P S) sz) := by
  refine Met.ofW (cc := bPL_layPorts) (maxL := 3) (ret := none) (by decide) rfl ?_
  intro p e s m args below meth c s₁ B hml hv
  obtain ⟨rfl, hsz, hP, hK, hD0, hB⟩ := hv
  have hx := B.exec
  have hb := B.bytes
  have hr := B.returns
  have hown : s.vm.findClass "RingGuard$Plan" = some m.cls := findClass_of_methodNamed B.named
  have hlocks := B.notSynchronized
  subst hsz
  have hD := hD0.self (sz := s.heap.size)
  have hA0 := zA0 hD0 hB
  generalize hAe : va_A (CW cI cZ cA o b P S) s.heap.size = A at hD hA0 ⊢
  have hAD := hA0
  have hA : ∀ q : Nat, s.heap.size ≤ q → A q := fun q h => by rw [← hAe]; exact Or.inr h
  have hS : va_S A s.heap s.heap [] := va_S.rf
  have hl := lv_entry ([.ref (o 1)]) (n := 3) (Nat.le_of_ble_eq_true rfl)
  rw [lg_entry_eq]
  generalize (lg_sl ([.ref (o 1)]) ++ List.replicate (3 - (lg_sl ([.ref (o 1)])).length) Slot.unset).toArray = ls at hl ⊢
  have hl : lv_has ls 3 [(0, .ref (o 1))] := hl
  refine zgenQ (fun Q hQe => ?_)
  obtain ⟨tg, etg⟩ : ∃ z, z = fPL_layPorts P S  := ⟨_, rfl⟩
  have E := etg
  unfold fPL_layPorts at E
  have hL2 : ∀ (n2 : Nat) (H : Heap) (locs : List Loc) (ls : Array Slot) (P_2 : ZS) (S_2 : ZS) (x2_1 : Int32), zr 0 120 x2_1 → cok P_2 → cok S_2 → (zLP P_2) → 120 + 1 - x2_1.toInt ≤ (n2 : Int) → tg = zfix (fun P9 S9 _ => (P9, S9)) (fPL_layPorts_2 ) n2 P_2 S_2 x2_1 → va_P (dC, dI) zCl (CW cI cZ cA o b P_2 S_2) H → va_D A (CW cI cZ cA o b P_2 S_2) → va_S A s.heap H locs → lv_has ls 3 [(0, .ref (o 1)), (1, .int x2_1)] → W p l e ({ frames := 1, cells := 0, slots := 0, locals := 22 } : Room) s m ([.ref (o 1)] : List Value).toArray below meth c H locs 0 0 Q (F0 m 2 ls []) := by
    intro n2
    induction n2 with
    | zero => intro H locs ls P_2 S_2 x2_1 r_x2_1 gP_2 gS_2 iL_2 hm2 E hP hD hS hl; exact absurd hm2 (zfuel0U r_x2_1)
    | succ n2 ih2 =>
      intro H locs ls P_2 S_2 x2_1 r_x2_1 gP_2 gS_2 iL_2 hm2 E hP hD hS hl
      rw [zfix_s] at E
      generalize zfix (fun P9 S9 _ => (P9, S9)) (fPL_layPorts_2 ) n2 = rc2 at ih2 E
      unfold fPL_layPorts_2 at E
      have hL52 : ∀ (n52 : Nat) (H : Heap) (locs : List Loc) (ls : Array Slot) (P_52 : ZS) (S_52 : ZS) (x52_1 : Int32), zr 0 6 x52_1 → cok P_52 → cok S_52 → (zLP P_52) → 6 + 1 - x52_1.toInt ≤ (n52 : Int) → tg = zfix (fun P9 S9 _ => (P9, S9)) (fPL_layPorts_52 ) n52 P_52 S_52 x52_1 → va_P (dC, dI) zCl (CW cI cZ cA o b P_52 S_52) H → va_D A (CW cI cZ cA o b P_52 S_52) → va_S A s.heap H locs → lv_has ls 3 [(0, .ref (o 1)), (1, .int x52_1)] → W p l e ({ frames := 1, cells := 0, slots := 0, locals := 22 } : Room) s m ([.ref (o 1)] : List Value).toArray below meth c H locs 0 0 Q (F0 m 52 ls []) := by
        intro n52
        induction n52 with
        | zero => intro H locs ls P_52 S_52 x52_1 r_x52_1 gP_52 gS_52 iL_52 hm52 E hP hD hS hl; exact absurd hm52 (zfuel0U r_x52_1)
        | succ n52 ih52 =>
          intro H locs ls P_52 S_52 x52_1 r_x52_1 gP_52 gS_52 iL_52 hm52 E hP hD hS hl
          rw [zfix_s] at E
          generalize zfix (fun P9 S9 _ => (P9, S9)) (fPL_layPorts_52 ) n52 = rc52 at ih52 E
          unfold fPL_layPorts_52 at E
          have hJ91 : ∀ (H : Heap) (locs : List Loc) (ls : Array Slot) (P_91 : ZS) (S_91 : ZS) (x91_1 : Int32) (y91_0 : Int32) (y91_1 : Int32), zr 0 5 x91_1 → zr (-1) 119 y91_0 → zr 0 5 y91_1 → cok P_91 → cok S_91 → 6 + 1 - x91_1.toInt ≤ ((n52 + 1 : Nat) : Int) → (zLP P_91) → tg = fPL_layPorts_91 rc52 P_91 S_91 x91_1 y91_0 y91_1 → va_P (dC, dI) zCl (CW cI cZ cA o b P_91 S_91) H → va_D A (CW cI cZ cA o b P_91 S_91) → va_S A s.heap H locs → lv_has ls 3 [(0, .ref (o 1)), (1, .int x91_1)] → W p l e ({ frames := 1, cells := 0, slots := 0, locals := 22 } : Room) s m ([.ref (o 1)] : List Value).toArray below meth c H locs 0 0 Q (F0 m 91 ls [.int y91_0, .int y91_1, .ref (b 6)]) := by
            intro H locs ls P_91 S_91 x91_1 y91_0 y91_1 r_x91_1 r_y91_0 r_y91_1 gP_91 gS_91 hm52_91 iL_91 E hP hD hS hl
            unfold fPL_layPorts_91 at E
            refine c_astP hx hb hK hP hD hS 6 (by decide) rfl r_y91_1 (by decide) dPL_layPorts_91 E (fun P1 H2 locs eP1 E hP hD hS => ?_)
            have gP1 : cok P1 := by rw [eP1]; exact gP_91.setF (k := 6) r_y91_0 (Or.inl (by decide))
            have iL_P1 : zLP P1 := by rw [eP1]; exact zLP_6 iL_91
            refine z_iinc (lv' := fun v9 => [(1, .int v9), (0, .ref (o 1))]) (cst := 1) hx hb dPL_layPorts_92 hl (k := 1) rfl (by decide) (by decide) (fun _ => rfl) E (fun k3 ls ek3 E hl => ?_)
            have r_k3 : zr 1 6 k3 := zr_add r_x91_1 (show zr 1 1 1 from by decide) ek3 (by decide)
            refine lv_goto (tgt := 52) hx hb dPL_layPorts_95 (by decide) ?_
            exact ih52 H2 locs ls P1 S_91 k3 (zr_mono r_k3 (by decide)) gP1 gS_91 iL_P1 (zstepU ek3 r_x91_1 (by decide) hm52_91) E hP hD hS (lv_sub hl [1, 0] rfl)
          refine lv_iload_n hx hb dPL_layPorts_52 rfl (lv_at hl 1 rfl) ?_
          refine lv_bipush (v := 6) hx hb dPL_layPorts_53 (by decide) ?_
          refine z_icmp_ge (tgt := 98) hx hb dPL_layPorts_55 (by decide) E (fun c_55 E => ?_) (fun c_55 E => ?_)
          · have r_x52_1 : zr 6 6 x52_1 := zle_y (show zr 6 6 6 from by decide) r_x52_1 c_55 (by decide)
            rw [hQe]
            exact W.vret hx hb hr (fun t ht hW => ⟨⟨(P_52, S_52), rfl, ⟨E.symm.trans etg, gP_52, gS_52, iL_52⟩, by rw [ht]; exact hP, hD⟩, hS.F ht⟩) hS.2.2 dPL_layPorts_98
          · have r_x52_1 : zr 0 5 x52_1 := zlt_x r_x52_1 (show zr 6 6 6 from by decide) (znle c_55) (by decide)
            refine lv_aload_n hx hb dPL_layPorts_58 rfl (lv_at hl 0 rfl) ?_
            refine c_getA_6 hx hb (hB.words zU_PL) hown hK hP (hB.word (zm1 k1_54) rfl) dPL_layPorts_59 ?_
            refine lv_iload_n hx hb dPL_layPorts_62 rfl (lv_at hl 1 rfl) ?_
            refine lv_aload_n hx hb dPL_layPorts_63 rfl (lv_at hl 0 rfl) ?_
            refine lv_iload_n hx hb dPL_layPorts_64 rfl (lv_at hl 1 rfl) ?_
            refine zcallp (va_runV (As := [.int x52_1]) (rest := [.int x52_1, .ref (b 6)]) ⟨hx, hb, hml, hown, zno⟩ (tPL_hasLinks l dC dI cI cZ cJ cA a0 s0 o b P_52 S_52 H.size x52_1 gP_52 gS_52) (zcw 1 (hB.word (zm2 k2_216) rfl) (hB.word (zm1 k1_2) rfl) (hB.word (zm2 k2_213) rfl) (hB.word (zm2 k2_215) rfl) (k2_selects_private (by decide) (hB.word (zm1 k1_26) rfl) (hB.word (zm2 k2_214) rfl) (hB.word (zm2 k2_215) rfl)) rfl rfl (by decide +kernel) ⟨Nat.le_of_ble_eq_true rfl, Nat.le_of_ble_eq_true rfl⟩) ⟨zP_blind, va_recv hK hP (ci := 1) (q0 := 1) rfl rfl, zP_pre hP hK hD hAD (zB_on hB hA0 hS)⟩ rfl rfl hl.1 rfl (lv_room (Nat.le_of_ble_eq_true rfl)) dPL_layPorts_65 ⟨Nat.le_of_ble_eq_true rfl, Nat.le_of_ble_eq_true rfl⟩) hS hA (fun k5 H4 locs hk5 hz1 hk1 hS => ?_)
            have hP := zKeep hP hk1
            have E := zl_s E hk5.1
            refine z_if_eq (tgt := 90) hx hb dPL_layPorts_68 (by decide) E (fun c_68 E => ?_) (fun c_68 E => ?_)
            · have r_k5 : zr 0 0 k5 := zeq_x (show zr 0 0 0 from by decide) c_68
              refine lv_iconst (v := (-1)) hx hb dPL_layPorts_90 (by decide) ?_
              exact hJ91 H4 locs ls P_52 S_52 x52_1 (-1) x52_1 r_x52_1 (show zr (-1) 119 (-1) from by decide) r_x52_1 gP_52 gS_52 hm52 iL_52 E hP hD hS (lv_sub hl [0, 1] rfl)
            · have r_k5 : zr 1 1 k5 := zne_lo hk5.2 c_68 (by decide)
              refine lv_aload_n hx hb dPL_layPorts_71 rfl (lv_at hl 0 rfl) ?_
              refine lv_aload_n hx hb dPL_layPorts_72 rfl (lv_at hl 0 rfl) ?_
              refine c_getA_3 hx hb (hB.words zU_PL) hown hK hP (hB.word (zm1 k1_47) rfl) dPL_layPorts_73 ?_
              refine lv_iload_n hx hb dPL_layPorts_76 rfl (lv_at hl 1 rfl) ?_
              refine c_aldP hx hb hK hP 3 (by decide) rfl r_x52_1 (by decide) dPL_layPorts_77 E (fun k6 ek6 E => ?_)
              have r_k6 : zr (-1) 47 k6 := by rw [ek6]; exact gP_52.1 3 _
              refine lv_aload_n hx hb dPL_layPorts_78 rfl (lv_at hl 0 rfl) ?_
              refine c_getA_4 hx hb (hB.words zU_PL) hown hK hP (hB.word (zm1 k1_49) rfl) dPL_layPorts_79 ?_
              refine lv_iload_n hx hb dPL_layPorts_82 rfl (lv_at hl 1 rfl) ?_
              refine c_aldP hx hb hK hP 4 (by decide) rfl r_x52_1 (by decide) dPL_layPorts_83 E (fun k7 ek7 E => ?_)
              have r_k7 : zr (-1) 59 k7 := by rw [ek7]; exact gP_52.1 4 _
              have r_k72 : zr 0 59 k7 := by rw [ek7]; exact iL_52 _ _ r_x52_1 (fun h8 => c_68 (hk5.1.trans h8))
              refine zcallp (va_runV (As := [.int k6, .int k7]) (rest := [.int x52_1, .ref (b 6)]) ⟨hx, hb, hml, hown, zno⟩ (tPL_portOf l dC dI cI cZ cJ cA a0 s0 o b P_52 S_52 H4.size k6 k7 gP_52 gS_52 r_k72) (zcw 2 (hB.word (zm2 k2_212) rfl) (hB.word (zm1 k1_2) rfl) (hB.word (zm2 k2_209) rfl) (hB.word (zm2 k2_210) rfl) (hB.word (zm2 k2_211) rfl) rfl rfl (by decide +kernel) ⟨Nat.le_of_ble_eq_true rfl, Nat.le_of_ble_eq_true rfl⟩) ⟨zP_blind, va_recv hK hP (ci := 1) (q0 := 1) rfl rfl, zP_pre hP hK hD hAD (zB_on hB hA0 hS)⟩ rfl rfl hl.1 rfl (lv_room (Nat.le_of_ble_eq_true rfl)) dPL_layPorts_84 ⟨Nat.le_of_ble_eq_true rfl, Nat.le_of_ble_eq_true rfl⟩) hS hA (fun k9 H8 locs hk9 hz1 hk1 hS => ?_)
              have hP := zKeep hP hk1
              have E := zl_s E hk9.1
              refine lv_goto (tgt := 91) hx hb dPL_layPorts_87 (by decide) ?_
              exact hJ91 H8 locs ls P_52 S_52 x52_1 k9 x52_1 r_x52_1 hk9.2 r_x52_1 gP_52 gS_52 hm52 iL_52 E hP hD hS (lv_sub hl [0, 1] rfl)
      have hJ42 : ∀ (H : Heap) (locs : List Loc) (ls : Array Slot) (P_42 : ZS) (S_42 : ZS) (x42_1 : Int32) (y42_0 : Int32), zr 0 119 x42_1 → zr 0 575 y42_0 → cok P_42 → cok S_42 → 120 + 1 - x42_1.toInt ≤ ((n2 + 1 : Nat) : Int) → (zLP P_42) → tg = fPL_layPorts_42 rc2 P_42 S_42 x42_1 y42_0 → va_P (dC, dI) zCl (CW cI cZ cA o b P_42 S_42) H → va_D A (CW cI cZ cA o b P_42 S_42) → va_S A s.heap H locs → lv_has ls 3 [(0, .ref (o 1)), (1, .int x42_1)] → W p l e ({ frames := 1, cells := 0, slots := 0, locals := 22 } : Room) s m ([.ref (o 1)] : List Value).toArray below meth c H locs 0 0 Q (F0 m 42 ls [.int y42_0, .ref (b 7)]) := by
        intro H locs ls P_42 S_42 x42_1 y42_0 r_x42_1 r_y42_0 gP_42 gS_42 hm2_42 iL_42 E hP hD hS hl
        unfold fPL_layPorts_42 at E
        refine lv_iload_n hx hb dPL_layPorts_42 rfl (lv_at hl 1 rfl) ?_
        refine c_astP hx hb hK hP hD hS 7 (by decide) rfl r_y42_0 (by decide) dPL_layPorts_43 E (fun P10 H11 locs eP10 E hP hD hS => ?_)
        have gP10 : cok P10 := by rw [eP10]; exact gP_42.setF (k := 7) (zr_mono r_x42_1 (by decide)) (Or.inl (by decide))
        have iL_P10 : zLP P10 := by rw [eP10]; exact zLP_7 iL_42
        refine z_iinc (lv' := fun v9 => [(1, .int v9), (0, .ref (o 1))]) (cst := 1) hx hb dPL_layPorts_44 hl (k := 1) rfl (by decide) (by decide) (fun _ => rfl) E (fun k12 ls ek12 E hl => ?_)
        have r_k12 : zr 1 120 k12 := zr_add r_x42_1 (show zr 1 1 1 from by decide) ek12 (by decide)
        refine lv_goto (tgt := 2) hx hb dPL_layPorts_47 (by decide) ?_
        exact ih2 H11 locs ls P10 S_42 k12 (zr_mono r_k12 (by decide)) gP10 gS_42 iL_P10 (zstepU ek12 r_x42_1 (by decide) hm2_42) E hP hD hS (lv_sub hl [1, 0] rfl)
      refine lv_iload_n hx hb dPL_layPorts_2 rfl (lv_at hl 1 rfl) ?_
      refine lv_iconst (v := 2) hx hb dPL_layPorts_3 (by decide) ?_
      refine lv_aload_n hx hb dPL_layPorts_4 rfl (lv_at hl 0 rfl) ?_
      refine c_get_1 hx hb (hB.words zU_PL) hown hK hP (hB.word (zm1 k1_37) rfl) dPL_layPorts_5 E (fun k13 ek13 E => ?_)
      have r_k13 : zr 0 60 k13 := by rw [ek13]; exact gP_2.2.1 1
      refine z_imul hx hb dPL_layPorts_8 E (fun k14 ek14 E => ?_)
      have r_k14 : zr 0 120 k14 := zr_mul (show zr 2 2 2 from by decide) r_k13 ek14 (by decide)
      refine z_icmp_ge (tgt := 50) hx hb dPL_layPorts_9 (by decide) E (fun c_9 E => ?_) (fun c_9 E => ?_)
      · refine lv_iconst (v := 0) hx hb dPL_layPorts_50 (by decide) ?_
        refine lv_istore_n (lv' := [(1, .int 0), (0, .ref (o 1))]) hx hb dPL_layPorts_51 rfl hl (by decide) rfl (fun ls hl => ?_)
        exact hL52 7 H locs ls P_2 S_2 0 (show zr 0 6 0 from by decide) gP_2 gS_2 iL_2 (by have h9 := (show zr 0 0 0 from by decide); exact zfuelU h9 (by decide)) E hP hD hS (lv_sub hl [1, 0] rfl)
      · have r_x2_1 : zr 0 119 x2_1 := zlt_x r_x2_1 r_k14 (znle c_9) (by decide)
        have r_k14 : zr 1 120 k14 := zlt_y r_x2_1 r_k14 (znle c_9) (by decide)
        refine lv_iconst (v := 2) hx hb dPL_layPorts_12 (by decide) ?_
        refine lv_aload_n hx hb dPL_layPorts_13 rfl (lv_at hl 0 rfl) ?_
        refine c_getA_5 hx hb (hB.words zU_PL) hown hK hP (hB.word (zm1 k1_51) rfl) dPL_layPorts_14 ?_
        refine lv_iload_n hx hb dPL_layPorts_17 rfl (lv_at hl 1 rfl) ?_
        refine c_aldP hx hb hK hP 5 (by decide) rfl r_x2_1 (by decide) dPL_layPorts_18 E (fun k15 ek15 E => ?_)
        have r_k15 : zr 0 287 k15 := by rw [ek15]; exact gP_2.1 5 _
        refine z_imul hx hb dPL_layPorts_19 E (fun k16 ek16 E => ?_)
        have r_k16 : zr 0 574 k16 := zr_mul (show zr 2 2 2 from by decide) r_k15 ek16 (by decide)
        refine lv_istore_n (lv' := [(2, .int k16), (0, .ref (o 1)), (1, .int x2_1)]) hx hb dPL_layPorts_20 rfl hl (by decide) rfl (fun ls hl => ?_)
        refine lv_aload_n hx hb dPL_layPorts_21 rfl (lv_at hl 1 rfl) ?_
        refine c_getA_7 hx hb (hB.words zU_PL) hown hK hP (hB.word (zm1 k1_56) rfl) dPL_layPorts_22 ?_
        refine lv_aload_n hx hb dPL_layPorts_25 rfl (lv_at hl 1 rfl) ?_
        refine c_getA_7 hx hb (hB.words zU_PL) hown hK hP (hB.word (zm1 k1_56) rfl) dPL_layPorts_26 ?_
        refine lv_iload_n hx hb dPL_layPorts_29 rfl (lv_at hl 0 rfl) ?_
        refine c_aldP hx hb hK hP 7 (by decide) rfl r_k16 (by decide) dPL_layPorts_30 E (fun k17 ek17 E => ?_)
        have r_k17 : zr (-1) 119 k17 := by rw [ek17]; exact gP_2.1 7 _
        refine lv_iconst (v := (-1)) hx hb dPL_layPorts_31 (by decide) ?_
        refine z_icmp_ne (tgt := 39) hx hb dPL_layPorts_32 (by decide) E (fun c_32 E => ?_) (fun c_32 E => ?_)
        · have r_k17 : zr 0 119 k17 := zne_lo r_k17 c_32 (by decide)
          refine lv_iload_n hx hb dPL_layPorts_39 rfl (lv_at hl 0 rfl) ?_
          refine lv_iconst (v := 1) hx hb dPL_layPorts_40 (by decide) ?_
          refine z_iadd hx hb dPL_layPorts_41 E (fun k18 ek18 E => ?_)
          have r_k18 : zr 1 575 k18 := zr_add r_k16 (show zr 1 1 1 from by decide) ek18 (by decide)
          exact hJ42 H locs ls P_2 S_2 x2_1 k18 r_x2_1 (zr_mono r_k18 (by decide)) gP_2 gS_2 hm2 iL_2 E hP hD hS (lv_sub hl [1, 2] rfl)
        · have r_k17 : zr (-1) (-1) k17 := zeq_x (show zr (-1) (-1) (-1) from by decide) c_32
          refine lv_iload_n hx hb dPL_layPorts_35 rfl (lv_at hl 0 rfl) ?_
          refine lv_goto (tgt := 42) hx hb dPL_layPorts_36 (by decide) ?_
          exact hJ42 H locs ls P_2 S_2 x2_1 k16 r_x2_1 (zr_mono r_k16 (by decide)) gP_2 gS_2 hm2 iL_2 E hP hD hS (lv_sub hl [1, 2] rfl)
  refine lv_iconst (v := 0) hx hb dPL_layPorts_0 (by decide) ?_
  refine lv_istore_n (lv' := [(1, .int 0), (0, .ref (o 1))]) hx hb dPL_layPorts_1 rfl hl (by decide) rfl (fun ls hl => ?_)
  exact hL2 121 s.heap [] ls P S 0 (show zr 0 120 0 from by decide) gP gS iL (by have h9 := (show zr 0 0 0 from by decide); exact zfuelU h9 (by decide)) E hP hD hS (lv_sub hl [1, 0] rfl)
theorem k2_197 : tables_1_2[197]? = some (Jvm.Cond.methodLink "RingGuard" (100 : Nat) ({ cls := "RingGuard$Plan", name := "firstFault", desc := "(LRingGuard$Groups;)I" } : Jvm.MethodName)) := by decide +kernel
theorem k2_198 : tables_1_2[198]? = some (Jvm.Cond.instanceMethod ({ cls := "RingGuard$Plan", name := "firstFault", desc := "(LRingGuard$Groups;)I" } : Jvm.MethodName)) := by decide +kernel
theorem k2_199 : tables_1_2[199]? = some (Jvm.Cond.selects "RingGuard$Plan" ({ cls := "RingGuard$Plan", name := "firstFault", desc := "(LRingGuard$Groups;)I" } : Jvm.MethodName) ({ cls := "RingGuard$Plan", name := "firstFault", desc := "(LRingGuard$Groups;)I" } : Jvm.MethodName)) := by decide +kernel
theorem k2_200 : tables_1_2[200]? = some (Jvm.Cond.code ({ cls := "RingGuard$Plan", name := "firstFault", desc := "(LRingGuard$Groups;)I" } : Jvm.MethodName) prog_5_method_7_code (4 : Nat) (Option.some Jvm.ClassFile.FieldType.int)) := rfl
theorem k3_9 : tables_1_3[9]? = some (Jvm.Cond.methodLink "RingGuard" (108 : Nat) ({ cls := "RingGuard$Plan", name := "layPorts", desc := "()V" } : Jvm.MethodName)) := by decide +kernel
theorem k3_10 : tables_1_3[10]? = some (Jvm.Cond.instanceMethod ({ cls := "RingGuard$Plan", name := "layPorts", desc := "()V" } : Jvm.MethodName)) := by decide +kernel
theorem k3_11 : tables_1_3[11]? = some (Jvm.Cond.selects "RingGuard$Plan" ({ cls := "RingGuard$Plan", name := "layPorts", desc := "()V" } : Jvm.MethodName) ({ cls := "RingGuard$Plan", name := "layPorts", desc := "()V" } : Jvm.MethodName)) := by decide +kernel
theorem k3_12 : tables_1_3[12]? = some (Jvm.Cond.code ({ cls := "RingGuard$Plan", name := "layPorts", desc := "()V" } : Jvm.MethodName) prog_5_method_6_code (3 : Nat) (Option.none : Option Jvm.ClassFile.FieldType)) := rfl
theorem k3_13 : tables_1_3[13]? = some (Jvm.Cond.methodLink "RingGuard" (111 : Nat) ({ cls := "RingGuard$Protocol", name := "takeAllHolds", desc := "()V" } : Jvm.MethodName)) := by decide +kernel
theorem k3_14 : tables_1_3[14]? = some (Jvm.Cond.instanceMethod ({ cls := "RingGuard$Protocol", name := "takeAllHolds", desc := "()V" } : Jvm.MethodName)) := by decide +kernel
theorem k3_15 : tables_1_3[15]? = some (Jvm.Cond.selects "RingGuard$Protocol" ({ cls := "RingGuard$Protocol", name := "takeAllHolds", desc := "()V" } : Jvm.MethodName) ({ cls := "RingGuard$Protocol", name := "takeAllHolds", desc := "()V" } : Jvm.MethodName)) := by decide +kernel
theorem k3_16 : tables_1_3[16]? = some (Jvm.Cond.code ({ cls := "RingGuard$Protocol", name := "takeAllHolds", desc := "()V" } : Jvm.MethodName) prog_6_method_5_code (2 : Nat) (Option.none : Option Jvm.ClassFile.FieldType)) := rfl
abbrev yRG_start : MethodName := ⟨"RingGuard", "start", "()I"⟩
abbrev bRG_start : ByteArray := prog_1_method_5_code
theorem dRG_start_0 : decode bRG_start 0 = .ok (.aload_n 0, 1) := by decide +kernel
theorem dRG_start_1 : decode bRG_start 1 = .ok (.invokevirtual 55, 3) := by decide +kernel
theorem dRG_start_4 : decode bRG_start 4 = .ok (.aload_n 0, 1) := by decide +kernel
theorem dRG_start_5 : decode bRG_start 5 = .ok (.getfield 12, 3) := by decide +kernel
theorem dRG_start_8 : decode bRG_start 8 = .ok (.aload_n 0, 1) := by decide +kernel
theorem dRG_start_9 : decode bRG_start 9 = .ok (.getfield 51, 3) := by decide +kernel
theorem dRG_start_12 : decode bRG_start 12 = .ok (.invokevirtual 100, 3) := by decide +kernel
theorem dRG_start_15 : decode bRG_start 15 = .ok (.istore_n 1, 1) := by decide +kernel
theorem dRG_start_16 : decode bRG_start 16 = .ok (.iload_n 1, 1) := by decide +kernel
theorem dRG_start_17 : decode bRG_start 17 = .ok (.ifCond .ne 22, 3) := by decide +kernel
theorem dRG_start_20 : decode bRG_start 20 = .ok (.aload_n 0, 1) := by decide +kernel
theorem dRG_start_21 : decode bRG_start 21 = .ok (.iconst 1, 1) := by decide +kernel
theorem dRG_start_22 : decode bRG_start 22 = .ok (.putfield 104, 3) := by decide +kernel
theorem dRG_start_25 : decode bRG_start 25 = .ok (.aload_n 0, 1) := by decide +kernel
theorem dRG_start_26 : decode bRG_start 26 = .ok (.getfield 12, 3) := by decide +kernel
theorem dRG_start_29 : decode bRG_start 29 = .ok (.invokevirtual 108, 3) := by decide +kernel
theorem dRG_start_32 : decode bRG_start 32 = .ok (.aload_n 0, 1) := by decide +kernel
theorem dRG_start_33 : decode bRG_start 33 = .ok (.getfield 35, 3) := by decide +kernel
theorem dRG_start_36 : decode bRG_start 36 = .ok (.invokevirtual 111, 3) := by decide +kernel
theorem dRG_start_39 : decode bRG_start 39 = .ok (.iload_n 1, 1) := by decide +kernel
theorem dRG_start_40 : decode bRG_start 40 = .ok (.ireturn, 1) := by decide +kernel
/-! what an accepted plan says; what layPorts lays -/
theorem zfix_0 {α : Type} (d : α) (f : α → α) : zfix d f 0 = d := (Classical.choose_spec (zfix_ex d f)).1
/-- all but row k is the same -/
def zk (k : Nat) (P P' : ZS) : Prop := P'.I = P.I ∧ ∀ q, q ≠ k → P'.F q = P.F q
theorem zk.rf {k : Nat} {P : ZS} : zk k P P := ⟨rfl, fun _ _ => rfl⟩
theorem zk.tr {k : Nat} {P P' Q : ZS} (h : zk k P P') (h2 : zk k P' Q) : zk k P Q := ⟨h2.1.trans h.1, fun q hq => (h2.2 q hq).trans (h.2 q hq)⟩
theorem zk.set {k : Nat} {P : ZS} {i : Nat} {v : Int32} : zk k P (P.setF k i v) := ⟨rfl, fun _ hq => ZS.row_ne P _ hq⟩
theorem zk_hl {k : Nat} {P P' S S' : ZS} {r : Int32} (h : zk k P P') (h2 : 2 ≠ k) : fPL_hasLinks P' S' r = fPL_hasLinks P S r := by
  have e : fPL_hasLinks_2 P' S' = fPL_hasLinks_2 P S := by
    funext rc x y
    unfold fPL_hasLinks_2
    rw [h.1, h.2 2 h2]
  unfold fPL_hasLinks
  rw [e]
theorem zk_po {k : Nat} {P P' S S' : ZS} {x y : Int32} (h : zk k P P') (h0 : 0 ≠ k) (h1 : 1 ≠ k) : fPL_portOf P' S' x y = fPL_portOf P S x y := by
  unfold fPL_portOf
  rw [h.2 0 h0, h.2 1 h1]
theorem zk_ho {P P' S S' : ZS} {r : Int32} (h : zk 8 P P') : fPL_hasRightOwner P' S' r = fPL_hasRightOwner P S r := by
  unfold fPL_hasRightOwner fPL_hasRightOwner_41
  simp only [zl]
  rw [h.2 4 (by decide), h.2 2 (by decide), h.2 3 (by decide), zk_po (S := S) (S' := S') h (by decide) (by decide)]
theorem zshape_k : ∀ (n : Nat) (P S : ZS) (x1 x2 x3 x4 x5 x6 : Int32), zk 8 P (zfix (fun P9 S9 _ _ _ _ _ _ => (P9, S9, 0)) fPL_hasRightShape_12 n P S x1 x2 x3 x4 x5 x6).1 := by
  intro n
  induction n with
  | zero => intro P S x1 x2 x3 x4 x5 x6; rw [zfix_0]; exact zk.rf
  | succ n ih =>
    intro P S x1 x2 x3 x4 x5 x6
    rw [zfix_s]
    simp only [fPL_hasRightShape_12, fPL_hasRightShape_50, fPL_hasRightShape_66, fPL_hasRightShape_90, fPL_hasRightShape_91, fPL_hasRightShape_117, fPL_hasRightShape_134, fPL_hasRightShape_151, fPL_hasRightShape_178, zl, zl2]
    repeat' split
    all_goals first | exact zk.rf | exact zk.set | exact ih _ _ _ _ _ _ _ _
theorem zshape_P {P S : ZS} {x y : Int32} : zk 8 P (fPL_hasRightShape P S x y).1 := zshape_k _ _ _ _ _ _ _ _ _
/-- an accepted plan: a ring with links has a right owner -/
def zOwned (P : ZS) : Prop := ∀ (S : ZS) (r : Int32), zr 0 5 r → ¬ fPL_hasLinks P S r = 0 → ¬ fPL_hasRightOwner P S r = 0
theorem zff_loop : ∀ (n : Nat) (P S : ZS) (f r : Int32), zr 0 6 r → 6 - r.toInt < (n : Int) →
    zk 8 P (zfix (fun P9 S9 _ _ => (P9, S9, 0)) fPL_firstFault_21 n P S f r).1 ∧
    ((zfix (fun P9 S9 _ _ => (P9, S9, 0)) fPL_firstFault_21 n P S f r).2.2 = 0 → ∀ (S' : ZS) (q : Int32), zr r.toInt 5 q → ¬ fPL_hasLinks P S' q = 0 → ¬ fPL_hasRightOwner P S' q = 0) := by
  intro n
  induction n with
  | zero => intro P S f r h1 h2; have := h1.2; omega
  | succ n ih =>
    intro P S f r h1 h2
    have q0 := h1.1
    have q6 := h1.2
    rw [zfix_s]
    unfold fPL_firstFault_21
    by_cases c : 6 ≤ r
    · rw [if_pos c]
      refine ⟨zk.rf, fun _ S' q hq => ?_⟩
      have c' := Int32.le_iff_toInt_le.mp c
      have z6 : (6 : Int32).toInt = 6 := by decide
      have := hq.1
      have := hq.2
      omega
    · rw [if_neg c]
      have c' : r.toInt < 6 := by
        have := Int32.lt_iff_toInt_lt.mp (znle c)
        have z6 : (6 : Int32).toInt = 6 := by decide
        omega
      have e1 : (r + 1).toInt = r.toInt + 1 := zx1 (a := 0) (b := 6) h1 (by decide)
      have e2 : (1 + r).toInt = r.toInt + 1 := by rw [Int32.add_comm]; exact e1
      have ne0 : ¬ (1 + r : Int32) = 0 := fun h => by
        have := congrArg Int32.toInt h
        have z0 : (0 : Int32).toInt = 0 := by decide
        omega
      have rn : zr 0 6 (r + 1) := ⟨by omega, by omega⟩
      simp only [zl, zl3, fPL_firstFault_62, fPL_firstFault_56]
      by_cases k4 : fPL_hasLinks P S r = 0
      · rw [if_pos k4]
        obtain ⟨a1, a2⟩ := ih P S f (r + 1) rn (by omega)
        refine ⟨a1, fun h S' q hq hl => ?_⟩
        by_cases e : q = r
        · subst e
          exact absurd ((zk_hl (S := S) (S' := S') zk.rf (by decide : (2 : Nat) ≠ 8)).trans k4) hl
        · have hne : q.toInt ≠ r.toInt := fun h => e (Int32.toInt_inj.mp h)
          have g1 := hq.1
          exact a2 h S' q ⟨by omega, hq.2⟩ hl
      · rw [if_neg k4]
        have hs := zshape_P (P := P) (S := S) (x := r) (y := f)
        by_cases k6 : (fPL_hasRightShape P S r f).2.2 = 0
        · rw [if_pos k6]
          exact ⟨hs, fun h => absurd h ne0⟩
        · rw [if_neg k6]
          by_cases k11 : fPL_hasRightOwner (fPL_hasRightShape P S r f).1 (fPL_hasRightShape P S r f).2.1 r = 0
          · rw [if_pos k11]
            exact ⟨hs, fun h => absurd h ne0⟩
          · rw [if_neg k11]
            obtain ⟨a1, a2⟩ := ih (fPL_hasRightShape P S r f).1 (fPL_hasRightShape P S r f).2.1 0 (r + 1) rn (by omega)
            refine ⟨hs.tr a1, fun h S' q hq hl => ?_⟩
            by_cases e : q = r
            · subst e
              rw [zk_ho (S := S') (S' := (fPL_hasRightShape P S q f).2.1) hs] at k11
              exact k11
            · have hne : q.toInt ≠ r.toInt := fun h => e (Int32.toInt_inj.mp h)
              have g1 := hq.1
              have a3 := a2 h S' q ⟨by omega, hq.2⟩ (by rw [zk_hl (S := S') hs (by decide)]; exact hl)
              rw [zk_ho (S := S') hs] at a3
              exact a3
theorem zff {P S P1 S1 : ZS} {k : Int32} (h : (P1, S1, k) = fPL_firstFault P S) : zk 8 P P1 ∧ (k = 0 → zOwned P1) := by
  simp only [fPL_firstFault, fPL_firstFault_14, zl] at h
  have ne7 : ¬ (7 : Int32) = 0 := by decide
  split at h
  · cases h
    exact ⟨zk.rf, fun q => absurd q ne7⟩
  · split at h
    · obtain ⟨a1, a2⟩ := zff_loop 7 P S 1 0 (by decide) (by decide)
      rw [← h] at a1 a2
      refine ⟨a1, fun q S' r hr hl => ?_⟩
      have b := a2 q S' r hr (by rw [← zk_hl (S := S') (S' := S') a1 (by decide)]; exact hl)
      rw [← zk_ho (S := S') (S' := S') a1] at b
      exact b
    · cases h
      exact ⟨zk.rf, fun q => absurd q ne7⟩
theorem zho_of {P S : ZS} {r : Int32} (h : ¬ fPL_hasRightOwner P S r = 0) : ¬ P.F 4 r.toNatClampNeg = -1 ∧ P.F 2 (P.F 4 r.toNatClampNeg).toNatClampNeg = r ∧ ¬ fPL_portOf P S (P.F 3 r.toNatClampNeg) (P.F 4 r.toNatClampNeg) = -1 := by
  simp only [fPL_hasRightOwner, fPL_hasRightOwner_41, zl] at h
  split at h
  · exact absurd rfl h
  · rename_i c1
    split at h
    · rename_i c2
      split at h
      · exact absurd rfl h
      · rename_i c3
        exact ⟨c1, c2, c3⟩
    · exact absurd rfl h
theorem zLP_of {P1 : ZS} (g : cok P1) (ho : zOwned P1) : zLP P1 := fun S' r hr hl => by
  have q : zr (-1) 59 (P1.F 4 r.toNatClampNeg) := g.1 4 _
  exact zne_lo q (zho_of (ho S' r hr hl)).1 (by decide)
theorem zOwned_I {P : ZS} {v : Int32} (h : zOwned P) : zOwned (P.setI 2 v) := h
/-- the plan before the start -/
def zPre (P : ZS) : Prop := (∀ j, P.F 7 j = -1) ∧ (∀ j, P.F 6 j = -1) ∧ (∀ q : Int32, zr 0 119 q → q.toInt < 2 * (P.I 1).toInt → P.F 5 q.toNatClampNeg - P.F 5 q.toNatClampNeg / 6 * 6 = P.F 2 (q / 2).toNatClampNeg) ∧ (∀ j, P.F 4 j = -1 ∨ (P.F 4 j).toInt < (P.I 1).toInt)
theorem zPre_I {P : ZS} {v : Int32} (h : zPre P) : zPre (P.setI 2 v) := h
theorem zPre_k {P P' : ZS} (h : zPre P) (hk : zk 8 P P') : zPre P' := by
  obtain ⟨h1, h2, h3, h4⟩ := h
  refine ⟨?_, ?_, ?_, ?_⟩
  · rw [hk.2 7 (by decide)]; exact h1
  · rw [hk.2 6 (by decide)]; exact h2
  · rw [hk.1, hk.2 5 (by decide), hk.2 2 (by decide)]; exact h3
  · rw [hk.1, hk.2 4 (by decide)]; exact h4
theorem zPre_of {P S P1 S1 : ZS} {k : Int32} (h : zPre P) (e : (P1, S1, k) = fPL_firstFault P S) : zPre P1 := zPre_k h (zff e).1
theorem zhl_ex {P S : ZS} (g : cok P) {r l : Int32} (hl0 : 0 ≤ l.toInt) (hl : l.toInt < (P.I 1).toInt) (hr : P.F 2 l.toNatClampNeg = r) : ¬ fPL_hasLinks P S r = 0 := by
  have rI : zr 0 60 (P.I 1) := g.2.1 1
  have r2 := rI.2
  have key : ∀ (n : Nat) (x : Int32), 0 ≤ x.toInt → x.toInt ≤ l.toInt → l.toInt - x.toInt < (n : Int) → zfix (fun _ _ => 0) (fPL_hasLinks_2 P S) n r x = 1 := by
    intro n
    induction n with
    | zero => intro x h0 h1 h2; omega
    | succ n ih =>
      intro x h0 h1 h2
      rw [zfix_s]
      have c1 : ¬ P.I 1 ≤ x := fun h => by have := Int32.le_iff_toInt_le.mp h; omega
      simp only [fPL_hasLinks_2, zl, if_neg c1]
      split
      · rfl
      · rename_i c2
        have e : (x + 1).toInt = x.toInt + 1 := zx1 (a := 0) (b := 60) ⟨h0, by omega⟩ (by decide)
        have hne : x.toInt ≠ l.toInt := fun h => c2 (by rw [Int32.toInt_inj.mp h]; exact hr)
        exact ih (x + 1) (by omega) (by omega) (by omega)
  have z0 : (0 : Int32).toInt = 0 := by decide
  unfold fPL_hasLinks
  rw [key 61 0 (by decide) (by omega) (by omega)]
  decide
/-- an entry of portsAt: a port of that place -/
def zentry (P : ZS) (j : Nat) (v : Int32) : Prop := v = -1 ∨ (zr 0 119 v ∧ v.toInt < 2 * (P.I 1).toInt ∧ (P.F 5 v.toNatClampNeg).toNatClampNeg = j / 2)
theorem zent_set {P0 P : ZS} {i : Nat} {v : Int32} (h : ∀ j, zentry P0 j (P.F 7 j)) (hv : zentry P0 i v) : ∀ j, zentry P0 j ((P.setF 7 i v).F 7 j) := fun j => by
  rw [show (P.setF 7 i v).F 7 = upd (P.F 7) i v from ZS.row_self _ _ _]
  unfold upd
  by_cases e : j = i
  · rw [if_pos e, e]; exact hv
  · rw [if_neg e]; exact h j
theorem zlay1 {P0 : ZS} (g0 : cok P0) : ∀ (n : Nat) (P S : ZS) (x : Int32), zk 7 P0 P → (∀ j, zentry P0 j (P.F 7 j)) → 0 ≤ x.toInt → x.toInt ≤ 2 * (P0.I 1).toInt → 2 * (P0.I 1).toInt - x.toInt + 1 ≤ (n : Int) →
    ∃ P1 : ZS, zk 7 P0 P1 ∧ (∀ j, zentry P0 j (P1.F 7 j)) ∧ zfix (fun P9 S9 _ => (P9, S9)) fPL_layPorts_2 n P S x = zfix (fun P9 S9 _ => (P9, S9)) fPL_layPorts_52 7 P1 S 0 := by
  have rI : zr 0 60 (P0.I 1) := g0.2.1 1
  have rI1 := rI.1
  have rI2 := rI.2
  have z2 : (2 : Int32).toInt = 2 := by decide
  have e2 : (2 * P0.I 1).toInt = 2 * (P0.I 1).toInt := by rw [Int32.toInt_mul, z2, zbm ⟨by omega, by omega⟩]
  intro n
  induction n with
  | zero => intro P S x hk hent h0 h1 hn; omega
  | succ n ih =>
    intro P S x hk hent h0 h1 hn
    rw [zfix_s]
    unfold fPL_layPorts_2
    simp only [zl]
    rw [hk.1]
    by_cases c : 2 * P0.I 1 ≤ x
    · rw [if_pos c]
      exact ⟨P, hk, hent, rfl⟩
    · rw [if_neg c]
      have c' := Int32.lt_iff_toInt_lt.mp (znle c)
      have ex : (x + 1).toInt = x.toInt + 1 := zx1 (a := 0) (b := 200) ⟨h0, by omega⟩ (by decide)
      have rx : zr 0 119 x := ⟨h0, by omega⟩
      rw [hk.2 5 (by decide)]
      have rp : zr 0 287 (P0.F 5 x.toNatClampNeg) := g0.1 5 _
      have ep := z2x rp
      have rp1 := rp.1
      have rp2 := rp.2
      have tp := ztn rp (by decide)
      have ra : zr 0 1000 (2 * P0.F 5 x.toNatClampNeg) := ⟨by omega, by omega⟩
      have ta := ztn ra (by decide)
      have ea : (2 * P0.F 5 x.toNatClampNeg + 1).toInt = 2 * (P0.F 5 x.toNatClampNeg).toInt + 1 := by rw [zx1 ra (by decide), ep]
      have rb : zr 0 1000 (2 * P0.F 5 x.toNatClampNeg + 1) := ⟨by omega, by omega⟩
      have tb := ztn rb (by decide)
      simp only [fPL_layPorts_42, zl]
      split
      · exact ih _ S (x + 1) (hk.tr zk.set) (zent_set hent (Or.inr ⟨rx, by omega, by omega⟩)) (by omega) (by omega) (by omega)
      · exact ih _ S (x + 1) (hk.tr zk.set) (zent_set hent (Or.inr ⟨rx, by omega, by omega⟩)) (by omega) (by omega) (by omega)
/-- what layPorts lays as a ring's owner's port -/
noncomputable def zGi (P S : ZS) (r : Int32) : Int32 := if fPL_hasLinks P S r = 0 then -1 else fPL_portOf P S (P.F 3 r.toNatClampNeg) (P.F 4 r.toNatClampNeg)
theorem zlay2 {P1 S0 : ZS} : ∀ (n : Nat) (P S : ZS) (x : Int32), zk 6 P1 P → (∀ j, P.F 6 j = -1 ∨ ∃ r, zr 0 5 r ∧ j = r.toNatClampNeg ∧ P.F 6 j = zGi P1 S0 r) → (∀ r : Int32, zr 0 5 r → r.toInt < x.toInt → P.F 6 r.toNatClampNeg = zGi P1 S0 r) → zr 0 6 x → 6 - x.toInt + 1 ≤ (n : Int) →
    ∃ P2 : ZS, zk 6 P1 P2 ∧ (∀ j, P2.F 6 j = -1 ∨ ∃ r, zr 0 5 r ∧ j = r.toNatClampNeg ∧ P2.F 6 j = zGi P1 S0 r) ∧ (∀ r : Int32, zr 0 5 r → P2.F 6 r.toNatClampNeg = zGi P1 S0 r) ∧ zfix (fun P9 S9 _ => (P9, S9)) fPL_layPorts_52 n P S x = (P2, S) := by
  have z6 : (6 : Int32).toInt = 6 := by decide
  intro n
  induction n with
  | zero => intro P S x hk h1 h2 hx hn; have := hx.2; omega
  | succ n ih =>
    intro P S x hk h1 h2 hx hn
    have x0 := hx.1
    have x6 := hx.2
    rw [zfix_s]
    unfold fPL_layPorts_52
    by_cases c : 6 ≤ x
    · rw [if_pos c]
      have c' := Int32.le_iff_toInt_le.mp c
      exact ⟨P, hk, h1, fun r hr => h2 r hr (by have := hr.2; omega), rfl⟩
    · rw [if_neg c]
      have c' := Int32.lt_iff_toInt_lt.mp (znle c)
      have ex : (x + 1).toInt = x.toInt + 1 := zx1 (a := 0) (b := 200) ⟨x0, by omega⟩ (by decide)
      have rx : zr 0 5 x := ⟨x0, by omega⟩
      have tx := ztn rx (by decide)
      have step : ∀ v : Int32, v = zGi P1 S0 x → ∃ P2 : ZS, zk 6 P1 P2 ∧ (∀ j, P2.F 6 j = -1 ∨ ∃ r, zr 0 5 r ∧ j = r.toNatClampNeg ∧ P2.F 6 j = zGi P1 S0 r) ∧ (∀ r : Int32, zr 0 5 r → P2.F 6 r.toNatClampNeg = zGi P1 S0 r) ∧ zfix (fun P9 S9 _ => (P9, S9)) fPL_layPorts_52 n (P.setF 6 x.toNatClampNeg v) S (x + 1) = (P2, S) := by
        intro v hv
        have hF : ∀ j, (P.setF 6 x.toNatClampNeg v).F 6 j = if j = x.toNatClampNeg then v else P.F 6 j := fun j => by
          rw [show (P.setF 6 x.toNatClampNeg v).F 6 = upd (P.F 6) x.toNatClampNeg v from ZS.row_self _ _ _]
          rfl
        refine ih _ S (x + 1) (hk.tr zk.set) (fun j => ?_) (fun r hr hrx => ?_) ⟨by omega, by omega⟩ (by omega)
        · rw [hF j]
          by_cases e : j = x.toNatClampNeg
          · rw [if_pos e]
            exact Or.inr ⟨x, rx, e, hv⟩
          · rw [if_neg e]
            exact h1 j
        · rw [hF]
          have tr := ztn hr (by decide)
          by_cases e : r = x
          · subst e
            rw [if_pos rfl]
            exact hv
          · have hne : r.toInt ≠ x.toInt := fun h => e (Int32.toInt_inj.mp h)
            rw [if_neg (by omega)]
            exact h2 r hr (by omega)
      simp only [fPL_layPorts_91, zl]
      rw [zk_hl (S := S0) hk (by decide), hk.2 3 (by decide), hk.2 4 (by decide), zk_po (S := S0) hk (by decide) (by decide)]
      by_cases k5 : fPL_hasLinks P1 S0 x = 0
      · rw [if_pos k5]
        exact step _ (by unfold zGi; rw [if_pos k5])
      · rw [if_neg k5]
        exact step _ (by unfold zGi; rw [if_neg k5])
theorem zQ_lay {P S P2 S2 : ZS} (g : cok P) (hp : zPre P) (ho : zOwned P) (h : (P2, S2) = fPL_layPorts P S) : zQ P2 := by
  obtain ⟨hp1, hp2, hp3, hp4⟩ := hp
  have rI : zr 0 60 (P.I 1) := g.2.1 1
  have rI1 := rI.1
  have rI2 := rI.2
  have z0 : (0 : Int32).toInt = 0 := by decide
  have z2 : (2 : Int32).toInt = 2 := by decide
  obtain ⟨P1, k1, en, e1⟩ := zlay1 g 121 P S 0 zk.rf (fun j => Or.inl (hp1 j)) (by omega) (by omega) (by omega)
  obtain ⟨P3, k2, o1, o2, e2⟩ := zlay2 (P1 := P1) (S0 := S) 7 P1 S 0 zk.rf (fun j => Or.inl (by rw [k1.2 6 (by decide)]; exact hp2 j)) (fun r hr hx => by have := hr.1; omega) (by decide) (by decide)
  unfold fPL_layPorts at h
  rw [e1, e2] at h
  cases h
  have kI : P2.I = P.I := k2.1.trans k1.1
  have kF : ∀ q, q ≠ 6 → q ≠ 7 → P2.F q = P.F q := fun q h6 h7 => (k2.2 q h6).trans (k1.2 q h7)
  -- a ring with links has its owner's port
  have own : ∀ r : Int32, zr 0 5 r → ¬ fPL_hasLinks P S r = 0 → zr 0 119 (P2.F 6 r.toNatClampNeg) ∧ (P2.F 6 r.toNatClampNeg).toInt < 2 * (P.I 1).toInt := fun r hr hl => by
    obtain ⟨b1, b2, b3⟩ := zho_of (ho S r hr hl)
    have rl : zr (-1) 59 (P.F 4 r.toNatClampNeg) := g.1 4 _
    have rl2 : zr 0 59 (P.F 4 r.toNatClampNeg) := zne_lo rl b1 (by decide)
    have hG : P2.F 6 r.toNatClampNeg = fPL_portOf P S (P.F 3 r.toNatClampNeg) (P.F 4 r.toNatClampNeg) := by
      rw [o2 r hr]
      unfold zGi
      rw [zk_hl (S := S) k1 (by decide), if_neg hl, k1.2 3 (by decide), k1.2 4 (by decide), zk_po (S := S) k1 (by decide) (by decide)]
    have hpr := zport_r rl2 b3 hG
    have h4 := (hp4 r.toNatClampNeg).resolve_left b1
    exact ⟨hpr.1, by omega⟩
  -- a port of a link is a good one
  have q3 : ∀ q : Int32, zr 0 119 q → q.toInt < 2 * (P.I 1).toInt → zgt P2 q := fun q hq hl => by
    have q1 := hq.1
    have ed : (q / 2).toInt = q.toInt / 2 := by
      have hne : (2 : Int32) ≠ -1 := by decide
      first
        | rw [Int32.toInt_div_of_ne_right (Or.inr hne)]
        | rw [Int32.toInt_div_of_ne_right _ _ hne]
      rw [z2, Int.tdiv_eq_ediv_of_nonneg (by omega)]
    have hr : zr 0 5 (P.F 2 (q / 2).toNatClampNeg) := g.1 2 _
    have hx := own _ hr (zhl_ex (l := q / 2) g (by omega) (by omega) rfl)
    unfold zgt zgp zgr
    rw [kF 5 (by decide) (by decide), hp3 q hq hl]
    exact hx.1
  have en2 : ∀ j, P2.F 7 j = P1.F 7 j := fun j => by rw [k2.2 7 (by decide)]
  refine ⟨fun j => ?_, fun j => ?_, fun q hq hl => q3 q hq (by rw [kI] at hl; exact hl), fun q hq hne => ?_⟩
  · rw [en2 j]
    rcases en j with h | ⟨h1, h2, -⟩
    · exact Or.inl h
    · exact Or.inr (q3 _ h1 h2)
  · rcases o1 j with h | ⟨r, hr, rfl, h⟩
    · exact Or.inl h
    · by_cases hl : fPL_hasLinks P S r = 0
      · refine Or.inl ?_
        rw [h]
        unfold zGi
        rw [zk_hl (S := S) k1 (by decide), if_pos hl]
      · have hx := own r hr hl
        exact Or.inr (q3 _ hx.1 hx.2)
  · rw [en2] at hne
    rcases en (2 * q).toNatClampNeg with h | ⟨h1, h2, h3⟩
    · exact absurd h hne
    · have hg := q3 _ h1 h2
      have eq2 := z2x hq
      have qq1 := hq.1
      have qq2 := hq.2
      have ra : zr 0 1000 (2 * q) := ⟨by omega, by omega⟩
      have ta := ztn ra (by decide)
      have tq := ztn hq (by decide)
      have rp : zr 0 287 (P.F 5 (P1.F 7 (2 * q).toNatClampNeg).toNatClampNeg) := g.1 5 _
      have tp := ztn rp (by decide)
      have e : P2.F 5 (P1.F 7 (2 * q).toNatClampNeg).toNatClampNeg = q := by
        rw [kF 5 (by decide) (by decide)]
        apply Int32.toInt_inj.mp
        omega
      unfold zgt at hg
      rw [e] at hg
      exact hg
noncomputable def fRG_start_39 (P_39 : ZS) (S_39 : ZS) (x39_1 : Int32) : ZS × ZS × Int32 := (P_39, S_39, x39_1)
noncomputable def fRG_start (P S : ZS) : Except Nat (ZS × ZS × Int32) := zbind (fRG_requireNotStarted P S) (fun u1 => .ok (zl3 (fPL_firstFault P S) (fun P7 S6 k5 => (if k5 = 0 then zl (P7.setI 2 1) (fun P9 => zl2 (fPL_layPorts P9 S6) (fun P13 S12 => zl (fPR_takeAllHolds P13 S12) (fun S16 => fRG_start_39 P13 S16 k5))) else fRG_start_39 P7 S6 k5))))
set_option maxHeartbeats 4000000 in
set_option maxRecDepth 100000 in
theorem tRG_start (l : Launch) (dC : Nat → ClassId) (dI : Nat → Nat → Nat) (cI cZ cJ cA : ClassId) (a0 : Array Value) (s0 : State) (o b : Nat → Nat) (P S : ZS) (sz : Nat) (gP : cok P) (gS : cok S) (hPre : zPre P) (y : ZS × ZS × Int32) (hc : fRG_start P S  = .ok y) : Met l yRG_start [Cond.code yRG_start bRG_start 2 (some .int)] ({ frames := 6, cells := 0, slots := 0, locals := 142 } : Room) (zP zCl dC dI (zTZ cI cZ cJ cA) a0 s0 [.ref (o 0)] sz (CW cI cZ cA o b P S)) (zQH zCl dC dI (fun (r : Int32) (x9 : ZS × ZS) => (x9.1, x9.2, r) = y ∧ cok x9.1 ∧ cok x9.2 ∧ zr 0 7 r) (fun x9 : ZS × ZS => (CW cI cZ cA o b x9.1 x9.2)) (va_A (CW cI cZ cA o b P S) sz)) 0 0 (va_A (CW cI cZ cA o b P S) sz) := by
  refine Met.ofW (cc := bRG_start) (maxL := 2) (ret := (some .int)) (by decide) rfl ?_
  intro p e s m args below meth c s₁ B hml hv
  obtain ⟨rfl, hsz, hP, hK, hD0, hB⟩ := hv
  have hx := B.exec
  have hb := B.bytes
  have hr := B.returns
  have hown : s.vm.findClass "RingGuard" = some m.cls := findClass_of_methodNamed B.named
  have hlocks := B.notSynchronized
  subst hsz
  have hD := hD0.self (sz := s.heap.size)
  have hA0 := zA0 hD0 hB
  generalize hAe : va_A (CW cI cZ cA o b P S) s.heap.size = A at hD hA0 ⊢
  have hAD := hA0
  have hA : ∀ q : Nat, s.heap.size ≤ q → A q := fun q h => by rw [← hAe]; exact Or.inr h
  have hS : va_S A s.heap s.heap [] := va_S.rf
  have hl := lv_entry ([.ref (o 0)]) (n := 2) (Nat.le_of_ble_eq_true rfl)
  rw [lg_entry_eq]
  generalize (lg_sl ([.ref (o 0)]) ++ List.replicate (2 - (lg_sl ([.ref (o 0)])).length) Slot.unset).toArray = ls at hl ⊢
  have hl : lv_has ls 2 [(0, .ref (o 0))] := hl
  refine zgenQ (fun Q hQe => ?_)
  obtain ⟨tg, etg⟩ : ∃ z, z = fRG_start P S  := ⟨_, rfl⟩
  have E := etg
  unfold fRG_start at E
  have hJ39 : ∀ (H : Heap) (locs : List Loc) (ls : Array Slot) (P_39 : ZS) (S_39 : ZS) (x39_1 : Int32), zr 0 7 x39_1 → cok P_39 → cok S_39 → y = fRG_start_39  P_39 S_39 x39_1 → va_P (dC, dI) zCl (CW cI cZ cA o b P_39 S_39) H → va_D A (CW cI cZ cA o b P_39 S_39) → va_S A s.heap H locs → lv_has ls 2 [(1, .int x39_1)] → W p l e ({ frames := 6, cells := 0, slots := 0, locals := 142 } : Room) s m ([.ref (o 0)] : List Value).toArray below meth c H locs 0 0 Q (F0 m 39 ls []) := by
    intro H locs ls P_39 S_39 x39_1 r_x39_1 gP_39 gS_39 E hP hD hS hl
    unfold fRG_start_39 at E
    refine lv_iload_n hx hb dRG_start_39 rfl (lv_at hl 0 rfl) ?_
    rw [hQe]
    exact W.iret (v := x39_1) hx hb hr (fun t ht hW => ⟨⟨x39_1, (P_39, S_39), rfl, ⟨E.symm, gP_39, gS_39, r_x39_1⟩, by rw [ht]; exact hP, hD⟩, hS.F ht⟩) hS.2.2 dRG_start_40
  refine lv_aload_n hx hb dRG_start_0 rfl (lv_at hl 0 rfl) ?_
  refine z_bind E (fun k9 h2 E => ?_) (fun u1 h2 E => ?_)
  · cases E.symm.trans (etg.trans hc)
  · skip
    refine zcallo (va_runV (As := []) (rest := []) ⟨hx, hb, hml, hown, zno⟩ (tRG_requireNotStarted l dC dI cI cZ cJ cA a0 s0 o b P S s.heap.size gP gS u1 h2) (zcw 0 (hB.word (zm2 k2_70) rfl) (hB.word (zm1 k1_1) rfl) (hB.word (zm2 k2_67) rfl) (hB.word (zm2 k2_69) rfl) (k2_selects_private (by decide) (hB.word (zm1 k1_18) rfl) (hB.word (zm2 k2_68) rfl) (hB.word (zm2 k2_69) rfl)) rfl rfl (by decide +kernel) ⟨Nat.le_of_ble_eq_true rfl, Nat.le_of_ble_eq_true rfl⟩) ⟨zP_blind, va_recv hK hP (ci := 0) (q0 := 0) rfl rfl, zP_pre hP hK hD hAD (zB_on hB hA0 hS)⟩ rfl rfl hl.1 rfl (lv_room (Nat.le_of_ble_eq_true rfl)) dRG_start_1 ⟨Nat.le_of_ble_eq_true rfl, Nat.le_of_ble_eq_true rfl⟩) hS hA (fun H3 locs hz1 hk1 hS => ?_)
    have hP := zKeep hP hk1
    have E := zokE E (etg.trans hc)
    refine lv_aload_n hx hb dRG_start_4 rfl (lv_at hl 0 rfl) ?_
    refine c_getO_RG_plan hx hb (hB.words zU_RG) hown hK hP (hB.word (zm1 k1_235) rfl) dRG_start_5 ?_
    refine lv_aload_n hx hb dRG_start_8 rfl (lv_at hl 0 rfl) ?_
    refine c_getO_RG_groups hx hb (hB.words zU_RG) hown hK hP (hB.word (zm2 k2_0) rfl) dRG_start_9 ?_
    refine zcI (va_runV (As := [.ref (o 6)]) (rest := []) ⟨hx, hb, hml, hown, zno⟩ (tPL_firstFault l dC dI cI cZ cJ cA a0 s0 o b P S H3.size gP gS) (zcw 1 (hB.word (zm2 k2_200) rfl) (hB.word (zm1 k1_2) rfl) (hB.word (zm2 k2_197) rfl) (hB.word (zm2 k2_198) rfl) (hB.word (zm2 k2_199) rfl) rfl rfl (by decide +kernel) ⟨Nat.le_of_ble_eq_true rfl, Nat.le_of_ble_eq_true rfl⟩) ⟨zP_blind, va_recv hK hP (ci := 1) (q0 := 1) rfl rfl, zP_pre hP hK hD hAD (zB_on hB hA0 hS)⟩ rfl rfl hl.1 rfl (lv_room (Nat.le_of_ble_eq_true rfl)) dRG_start_12 ⟨Nat.le_of_ble_eq_true rfl, Nat.le_of_ble_eq_true rfl⟩) hD hS hA (fun k5 x9 H4 locs h8 hP hD hS => ?_)
    obtain ⟨P7, S6⟩ := x9
    have hP : va_P (dC, dI) zCl (CW cI cZ cA o b P7 S6) H4 := hP
    have hD : va_D A (CW cI cZ cA o b P7 S6) := hD
    have E := zl3_s E h8.1
    have gP7 := h8.2.1
    have gS6 := h8.2.2.1
    refine lv_istore_n (lv' := [(1, .int k5), (0, .ref (o 0))]) hx hb dRG_start_15 rfl hl (by decide) rfl (fun ls hl => ?_)
    refine lv_iload_n hx hb dRG_start_16 rfl (lv_at hl 0 rfl) ?_
    refine z_if_ne (tgt := 39) hx hb dRG_start_17 (by decide) E (fun c_17 E => ?_) (fun c_17 E => ?_)
    · have r_k5 : zr 1 7 k5 := zne_lo h8.2.2.2 c_17 (by decide)
      exact hJ39 H4 locs ls P7 S6 k5 (zr_mono r_k5 (by decide)) gP7 gS6 E hP hD hS (lv_sub hl [0] rfl)
    · have r_k5 : zr 0 0 k5 := zeq_x (show zr 0 0 0 from by decide) c_17
      have hOw : zOwned P7 := (zff h8.1).2 c_17
      have iL9 : zLP P7 := zLP_of gP7 hOw
      have hPre9 : zPre P7 := zPre_of hPre h8.1
      refine lv_aload_n hx hb dRG_start_20 rfl (lv_at hl 1 rfl) ?_
      refine lv_iconst (v := 1) hx hb dRG_start_21 (by decide) ?_
      refine c_put_2 hx hb (hB.words zU_RG) hown hK hP hD hS (hB.word (zm2 k2_1) rfl) (show zr 0 1 1 from by decide) dRG_start_22 E (fun P9 H10 locs eP9 E hP hD hS => ?_)
      have gP9 : cok P9 := by rw [eP9]; exact gP7.setI (t := 2) (show zr 0 1 1 from by decide)
      have iL_P9 : zLP P9 := by rw [eP9]; exact zLP_I iL9
      refine lv_aload_n hx hb dRG_start_25 rfl (lv_at hl 1 rfl) ?_
      refine c_getO_RG_plan hx hb (hB.words zU_RG) hown hK hP (hB.word (zm1 k1_235) rfl) dRG_start_26 ?_
      have hPre8 : zPre P9 := by rw [eP9]; exact zPre_I hPre9
      have hOw8 : zOwned P9 := by rw [eP9]; exact zOwned_I hOw
      refine zcV (va_runV (As := []) (rest := []) ⟨hx, hb, hml, hown, zno⟩ (tPL_layPorts l dC dI cI cZ cJ cA a0 s0 o b P9 S6 H10.size gP9 gS6 iL_P9) (zcw 0 (hB.word (zm3 k3_12) rfl) (hB.word (zm1 k1_2) rfl) (hB.word (zm3 k3_9) rfl) (hB.word (zm3 k3_10) rfl) (hB.word (zm3 k3_11) rfl) rfl rfl (by decide +kernel) ⟨Nat.le_of_ble_eq_true rfl, Nat.le_of_ble_eq_true rfl⟩) ⟨zP_blind, va_recv hK hP (ci := 1) (q0 := 1) rfl rfl, zP_pre hP hK hD hAD (zB_on hB hA0 hS)⟩ rfl rfl hl.1 rfl (lv_room (Nat.le_of_ble_eq_true rfl)) dRG_start_29 ⟨Nat.le_of_ble_eq_true rfl, Nat.le_of_ble_eq_true rfl⟩) hD hS hA (fun x9 H11 locs h14 hP hD hS => ?_)
      obtain ⟨P13, S12⟩ := x9
      have hP : va_P (dC, dI) zCl (CW cI cZ cA o b P13 S12) H11 := hP
      have hD : va_D A (CW cI cZ cA o b P13 S12) := hD
      have E := zl2_s E h14.1
      have gP13 := h14.2.1
      have gS12 := h14.2.2.1
      have iL_P13 := h14.2.2.2
      have gQ : zQ P13 := zQ_lay gP9 hPre8 hOw8 h14.1
      refine lv_aload_n hx hb dRG_start_32 rfl (lv_at hl 1 rfl) ?_
      refine c_getO_RG_protocol hx hb (hB.words zU_RG) hown hK hP (hB.word (zm1 k1_238) rfl) dRG_start_33 ?_
      refine zcV (va_runV (As := []) (rest := []) ⟨hx, hb, hml, hown, zno⟩ (tPR_takeAllHolds l dC dI cI cZ cJ cA a0 s0 o b P13 S12 H11.size gP13 gS12 gQ) (zcw 0 (hB.word (zm3 k3_16) rfl) (hB.word (zm1 k1_6) rfl) (hB.word (zm3 k3_13) rfl) (hB.word (zm3 k3_14) rfl) (hB.word (zm3 k3_15) rfl) rfl rfl (by decide +kernel) ⟨Nat.le_of_ble_eq_true rfl, Nat.le_of_ble_eq_true rfl⟩) ⟨zP_blind, va_recv hK hP (ci := 4) (q0 := 4) rfl rfl, zP_pre hP hK hD hAD (zB_on hB hA0 hS)⟩ rfl rfl hl.1 rfl (lv_room (Nat.le_of_ble_eq_true rfl)) dRG_start_36 ⟨Nat.le_of_ble_eq_true rfl, Nat.le_of_ble_eq_true rfl⟩) hD hS hA (fun S16 H15 locs h17 hP hD hS => ?_)
      have E := zl_s E h17.1
      have gS16 := h17.2
      exact hJ39 H15 locs ls P13 S16 k5 (zr_mono r_k5 (by decide)) gP13 gS16 E hP hD hS (lv_sub hl [0] rfl)
set_option maxHeartbeats 4000000 in
set_option maxRecDepth 100000 in
theorem tRG_start_T2 (l : Launch) (dC : Nat → ClassId) (dI : Nat → Nat → Nat) (cI cZ cJ cA : ClassId) (a0 : Array Value) (s0 : State) (o b : Nat → Nat) (hfl : l.flags = Jvm.pinnedFlags ++ [Jvm.noTraceFlag]) (P S : ZS) (sz : Nat) (gP : cok P) (gS : cok S) (hc : fRG_start P S  = .error 2) : tq_Met l yRG_start [Cond.code yRG_start bRG_start 2 (some .int)] ({ frames := 7, cells := 1, slots := 6, locals := 110 } : Room) (zP zCl dC dI (zTZ cI cZ cJ cA) a0 s0 [.ref (o 0)] sz (CW cI cZ cA o b P S)) (tq_Q "java/lang/IllegalStateException") 1 6 (zN sz) := by
  refine tq_ofW (cc := bRG_start) (maxL := 2) (ret := (some .int)) (by decide) rfl ?_
  intro p e s m args below meth c s₁ B hml htab hv
  obtain ⟨rfl, hsz, hP, hK, hD0, hB⟩ := hv
  have hx := B.exec
  have hb := B.bytes
  have hr := B.returns
  have hown : s.vm.findClass "RingGuard" = some m.cls := findClass_of_methodNamed B.named
  have hlocks := B.notSynchronized
  subst hsz
  have hD := hD0
  have hA0 : ∀ q, zN s.heap.size q → s0.heap.size ≤ q := zA1 hB
  have hAD : ∀ q, zN s0.heap.size q → s0.heap.size ≤ q := fun _ h => h
  have hA : ∀ q : Nat, s.heap.size ≤ q → zN s.heap.size q := fun _ h => h
  have hS : va_S (zN s.heap.size) s.heap s.heap [] := va_S.rf
  have hl := lv_entry ([.ref (o 0)]) (n := 2) (Nat.le_of_ble_eq_true rfl)
  rw [lg_entry_eq]
  generalize (lg_sl ([.ref (o 0)]) ++ List.replicate (2 - (lg_sl ([.ref (o 0)])).length) Slot.unset).toArray = ls at hl ⊢
  have hfl := hfl
  have hl : lv_has ls 2 [(0, .ref (o 0))] := hl
  refine zgenQ (fun Q hQe => ?_)
  obtain ⟨tg, etg⟩ : ∃ z, z = fRG_start P S  := ⟨_, rfl⟩
  have E := etg
  unfold fRG_start at E
  refine lv_aload_n hx hb dRG_start_0 rfl (lv_at hl 0 rfl) ?_
  refine z_bind E (fun k9 h2 E => ?_) (fun u1 h2 E => ?_)
  · have x9 : k9 = 2 := zerr (E.symm.trans (etg.trans hc))
    subst x9
    rw [hQe]
    exact zpass (tq_runV (As := []) (rest := []) ⟨hx, hb, hml, hown, zno⟩ (tRG_requireNotStarted_T2 l dC dI cI cZ cJ cA a0 s0 o b hfl P S s.heap.size gP gS h2) (zcw 0 (hB.word (zm2 k2_70) rfl) (hB.word (zm1 k1_1) rfl) (hB.word (zm2 k2_67) rfl) (hB.word (zm2 k2_69) rfl) (k2_selects_private (by decide) (hB.word (zm1 k1_18) rfl) (hB.word (zm2 k2_68) rfl) (hB.word (zm2 k2_69) rfl)) rfl rfl (by decide +kernel) ⟨Nat.le_of_ble_eq_true rfl, Nat.le_of_ble_eq_true rfl⟩) ⟨zP_blind, va_recv hK hP (ci := 0) (q0 := 0) rfl rfl, zP_pre hP hK hD hAD (zB_on hB hA0 hS)⟩ rfl rfl hl.1 rfl (lv_room (Nat.le_of_ble_eq_true rfl)) dRG_start_1 ⟨Nat.le_of_ble_eq_true rfl, Nat.le_of_ble_eq_true rfl⟩) htab hlocks hS (Nat.le_of_ble_eq_true rfl) (Nat.le_of_ble_eq_true rfl)
  · skip
    refine zcallo (va_runV (As := []) (rest := []) ⟨hx, hb, hml, hown, zno⟩ (tRG_requireNotStarted l dC dI cI cZ cJ cA a0 s0 o b P S s.heap.size gP gS u1 h2) (zcw 0 (hB.word (zm2 k2_70) rfl) (hB.word (zm1 k1_1) rfl) (hB.word (zm2 k2_67) rfl) (hB.word (zm2 k2_69) rfl) (k2_selects_private (by decide) (hB.word (zm1 k1_18) rfl) (hB.word (zm2 k2_68) rfl) (hB.word (zm2 k2_69) rfl)) rfl rfl (by decide +kernel) ⟨Nat.le_of_ble_eq_true rfl, Nat.le_of_ble_eq_true rfl⟩) ⟨zP_blind, va_recv hK hP (ci := 0) (q0 := 0) rfl rfl, zP_pre hP hK hD hAD (zB_on hB hA0 hS)⟩ rfl rfl hl.1 rfl (lv_room (Nat.le_of_ble_eq_true rfl)) dRG_start_1 ⟨Nat.le_of_ble_eq_true rfl, Nat.le_of_ble_eq_true rfl⟩) hS hA (fun H3 locs hz1 hk1 hS => ?_)
    have hP := zKeep hP hk1
    cases E.symm.trans (etg.trans hc)
theorem k5_69 : tables_1_5[69]? = some (Jvm.Cond.methodLink "RingGuardModel" (181 : Nat) ({ cls := "RingGuardModel", name := "faultOf", desc := "()I" } : Jvm.MethodName)) := by decide +kernel
theorem k5_70 : tables_1_5[70]? = some (Jvm.Cond.privateMethod ({ cls := "RingGuardModel", name := "faultOf", desc := "()I" } : Jvm.MethodName)) := by decide +kernel
theorem k5_71 : tables_1_5[71]? = some (Jvm.Cond.instanceMethod ({ cls := "RingGuardModel", name := "faultOf", desc := "()I" } : Jvm.MethodName)) := by decide +kernel
theorem k5_72 : tables_1_5[72]? = some (Jvm.Cond.code ({ cls := "RingGuardModel", name := "faultOf", desc := "()I" } : Jvm.MethodName) prog_10_method_19_code (4 : Nat) (Option.some Jvm.ClassFile.FieldType.int)) := rfl
abbrev yMO_start : MethodName := ⟨"RingGuardModel", "start", "()I"⟩
abbrev bMO_start : ByteArray := prog_10_method_20_code
theorem dMO_start_0 : decode bMO_start 0 = .ok (.aload_n 0, 1) := by decide +kernel
theorem dMO_start_1 : decode bMO_start 1 = .ok (.aload_n 0, 1) := by decide +kernel
theorem dMO_start_2 : decode bMO_start 2 = .ok (.getfield 135, 3) := by decide +kernel
theorem dMO_start_5 : decode bMO_start 5 = .ok (.ifCond .eq 7, 3) := by decide +kernel
theorem dMO_start_8 : decode bMO_start 8 = .ok (.iconst 1, 1) := by decide +kernel
theorem dMO_start_9 : decode bMO_start 9 = .ok (.goto 4, 3) := by decide +kernel
theorem dMO_start_12 : decode bMO_start 12 = .ok (.iconst 0, 1) := by decide +kernel
theorem dMO_start_13 : decode bMO_start 13 = .ok (.putfield 125, 3) := by decide +kernel
theorem dMO_start_16 : decode bMO_start 16 = .ok (.aload_n 0, 1) := by decide +kernel
theorem dMO_start_17 : decode bMO_start 17 = .ok (.getfield 125, 3) := by decide +kernel
theorem dMO_start_20 : decode bMO_start 20 = .ok (.ifCond .le 5, 3) := by decide +kernel
theorem dMO_start_23 : decode bMO_start 23 = .ok (.iconst 0, 1) := by decide +kernel
theorem dMO_start_24 : decode bMO_start 24 = .ok (.ireturn, 1) := by decide +kernel
theorem dMO_start_25 : decode bMO_start 25 = .ok (.aload_n 0, 1) := by decide +kernel
theorem dMO_start_26 : decode bMO_start 26 = .ok (.invokevirtual 181, 3) := by decide +kernel
theorem dMO_start_29 : decode bMO_start 29 = .ok (.istore_n 1, 1) := by decide +kernel
theorem dMO_start_30 : decode bMO_start 30 = .ok (.iload_n 1, 1) := by decide +kernel
theorem dMO_start_31 : decode bMO_start 31 = .ok (.ifCond .le 5, 3) := by decide +kernel
theorem dMO_start_34 : decode bMO_start 34 = .ok (.iload_n 1, 1) := by decide +kernel
theorem dMO_start_35 : decode bMO_start 35 = .ok (.ireturn, 1) := by decide +kernel
theorem dMO_start_36 : decode bMO_start 36 = .ok (.aload_n 0, 1) := by decide +kernel
theorem dMO_start_37 : decode bMO_start 37 = .ok (.iconst 1, 1) := by decide +kernel
theorem dMO_start_38 : decode bMO_start 38 = .ok (.putfield 135, 3) := by decide +kernel
theorem dMO_start_41 : decode bMO_start 41 = .ok (.iconst 0, 1) := by decide +kernel
theorem dMO_start_42 : decode bMO_start 42 = .ok (.istore_n 2, 1) := by decide +kernel
theorem dMO_start_43 : decode bMO_start 43 = .ok (.iload_n 2, 1) := by decide +kernel
theorem dMO_start_44 : decode bMO_start 44 = .ok (.aload_n 0, 1) := by decide +kernel
theorem dMO_start_45 : decode bMO_start 45 = .ok (.getfield 129, 3) := by decide +kernel
theorem dMO_start_48 : decode bMO_start 48 = .ok (.if_icmp .ge 75, 3) := by decide +kernel
theorem dMO_start_51 : decode bMO_start 51 = .ok (.iconst 0, 1) := by decide +kernel
theorem dMO_start_52 : decode bMO_start 52 = .ok (.istore_n 3, 1) := by decide +kernel
theorem dMO_start_53 : decode bMO_start 53 = .ok (.iload_n 3, 1) := by decide +kernel
theorem dMO_start_54 : decode bMO_start 54 = .ok (.aload_n 0, 1) := by decide +kernel
theorem dMO_start_55 : decode bMO_start 55 = .ok (.getfield 132, 3) := by decide +kernel
theorem dMO_start_58 : decode bMO_start 58 = .ok (.if_icmp .ge 59, 3) := by decide +kernel
theorem dMO_start_61 : decode bMO_start 61 = .ok (.aload_n 0, 1) := by decide +kernel
theorem dMO_start_62 : decode bMO_start 62 = .ok (.iload_n 2, 1) := by decide +kernel
theorem dMO_start_63 : decode bMO_start 63 = .ok (.iload_n 3, 1) := by decide +kernel
theorem dMO_start_64 : decode bMO_start 64 = .ok (.invokevirtual 153, 3) := by decide +kernel
theorem dMO_start_67 : decode bMO_start 67 = .ok (.ifCond .eq 44, 3) := by decide +kernel
theorem dMO_start_70 : decode bMO_start 70 = .ok (.iconst 2, 1) := by decide +kernel
theorem dMO_start_71 : decode bMO_start 71 = .ok (.bipush 6, 2) := by decide +kernel
theorem dMO_start_73 : decode bMO_start 73 = .ok (.iload_n 2, 1) := by decide +kernel
theorem dMO_start_74 : decode bMO_start 74 = .ok (.imul, 1) := by decide +kernel
theorem dMO_start_75 : decode bMO_start 75 = .ok (.aload_n 0, 1) := by decide +kernel
theorem dMO_start_76 : decode bMO_start 76 = .ok (.getfield 16, 3) := by decide +kernel
theorem dMO_start_79 : decode bMO_start 79 = .ok (.iload_n 3, 1) := by decide +kernel
theorem dMO_start_80 : decode bMO_start 80 = .ok (.iaload, 1) := by decide +kernel
theorem dMO_start_81 : decode bMO_start 81 = .ok (.iadd, 1) := by decide +kernel
theorem dMO_start_82 : decode bMO_start 82 = .ok (.imul, 1) := by decide +kernel
theorem dMO_start_83 : decode bMO_start 83 = .ok (.istore 4, 2) := by decide +kernel
theorem dMO_start_85 : decode bMO_start 85 = .ok (.aload_n 0, 1) := by decide +kernel
theorem dMO_start_86 : decode bMO_start 86 = .ok (.getfield 47, 3) := by decide +kernel
theorem dMO_start_89 : decode bMO_start 89 = .ok (.aload_n 0, 1) := by decide +kernel
theorem dMO_start_90 : decode bMO_start 90 = .ok (.getfield 47, 3) := by decide +kernel
theorem dMO_start_93 : decode bMO_start 93 = .ok (.iload 4, 2) := by decide +kernel
theorem dMO_start_95 : decode bMO_start 95 = .ok (.iaload, 1) := by decide +kernel
theorem dMO_start_96 : decode bMO_start 96 = .ok (.iconst (-1), 1) := by decide +kernel
theorem dMO_start_97 : decode bMO_start 97 = .ok (.if_icmp .ne 8, 3) := by decide +kernel
theorem dMO_start_100 : decode bMO_start 100 = .ok (.iload 4, 2) := by decide +kernel
theorem dMO_start_102 : decode bMO_start 102 = .ok (.goto 7, 3) := by decide +kernel
theorem dMO_start_105 : decode bMO_start 105 = .ok (.iload 4, 2) := by decide +kernel
theorem dMO_start_107 : decode bMO_start 107 = .ok (.iconst 1, 1) := by decide +kernel
theorem dMO_start_108 : decode bMO_start 108 = .ok (.iadd, 1) := by decide +kernel
theorem dMO_start_109 : decode bMO_start 109 = .ok (.iload_n 3, 1) := by decide +kernel
theorem dMO_start_110 : decode bMO_start 110 = .ok (.iastore, 1) := by decide +kernel
theorem dMO_start_111 : decode bMO_start 111 = .ok (.iinc 3 1, 3) := by decide +kernel
theorem dMO_start_114 : decode bMO_start 114 = .ok (.goto (-61), 3) := by decide +kernel
theorem dMO_start_117 : decode bMO_start 117 = .ok (.iinc 2 1, 3) := by decide +kernel
theorem dMO_start_120 : decode bMO_start 120 = .ok (.goto (-77), 3) := by decide +kernel
theorem dMO_start_123 : decode bMO_start 123 = .ok (.iconst 0, 1) := by decide +kernel
theorem dMO_start_124 : decode bMO_start 124 = .ok (.istore_n 2, 1) := by decide +kernel
theorem dMO_start_125 : decode bMO_start 125 = .ok (.iload_n 2, 1) := by decide +kernel
theorem dMO_start_126 : decode bMO_start 126 = .ok (.bipush 6, 2) := by decide +kernel
theorem dMO_start_128 : decode bMO_start 128 = .ok (.if_icmp .ge 22, 3) := by decide +kernel
theorem dMO_start_131 : decode bMO_start 131 = .ok (.aload_n 0, 1) := by decide +kernel
theorem dMO_start_132 : decode bMO_start 132 = .ok (.iload_n 2, 1) := by decide +kernel
theorem dMO_start_133 : decode bMO_start 133 = .ok (.invokevirtual 173, 3) := by decide +kernel
theorem dMO_start_136 : decode bMO_start 136 = .ok (.ifCond .le 8, 3) := by decide +kernel
theorem dMO_start_139 : decode bMO_start 139 = .ok (.aload_n 0, 1) := by decide +kernel
theorem dMO_start_140 : decode bMO_start 140 = .ok (.iload_n 2, 1) := by decide +kernel
theorem dMO_start_141 : decode bMO_start 141 = .ok (.invokevirtual 185, 3) := by decide +kernel
theorem dMO_start_144 : decode bMO_start 144 = .ok (.iinc 2 1, 3) := by decide +kernel
theorem dMO_start_147 : decode bMO_start 147 = .ok (.goto (-22), 3) := by decide +kernel
theorem dMO_start_150 : decode bMO_start 150 = .ok (.iconst 0, 1) := by decide +kernel
theorem dMO_start_151 : decode bMO_start 151 = .ok (.ireturn, 1) := by decide +kernel
/-! what the reference's faultOf says when it is 0 -/
def zMOw (P : ZS) : Prop := ∀ (S : ZS) (r : Int32), zr 0 5 r → ¬ fMO_linksIn P S r ≤ 0 → ¬ P.F 3 r.toNatClampNeg = -1
theorem zMOw_I {P : ZS} {v : Int32} (h : zMOw P) : zMOw (P.setI 0 v) := h
theorem zMOw_6 {P : ZS} {i : Nat} {v : Int32} (h : zMOw P) : zMOw (P.setF 6 i v) := h
theorem zM_I {P : ZS} {v : Int32} (h : zM P) : zM (P.setI 0 v) := h
theorem zM_6 {P : ZS} {i : Nat} {v : Int32} (h : zM P) : zM (P.setF 6 i v) := h
theorem zk_li {k : Nat} {P P' S S' : ZS} {r : Int32} (h : zk k P P') (h2 : 2 ≠ k) : fMO_linksIn P' S' r = fMO_linksIn P S r := by
  have e : fMO_linksIn_4 P' S' = fMO_linksIn_4 P S := by
    funext rc x y z
    unfold fMO_linksIn_4 fMO_linksIn_28
    rw [h.1, h.2 2 h2]
  unfold fMO_linksIn
  rw [e]
theorem zright_k : ∀ (n : Nat) (P S : ZS) (x1 x2 x3 x4 x5 x6 : Int32), zk 5 P (zfix (fun P9 S9 _ _ _ _ _ _ => (P9, S9, 0)) fMO_isRight_11 n P S x1 x2 x3 x4 x5 x6).1 := by
  intro n
  induction n with
  | zero => intro P S x1 x2 x3 x4 x5 x6; rw [zfix_0]; exact zk.rf
  | succ n ih =>
    intro P S x1 x2 x3 x4 x5 x6
    rw [zfix_s]
    simp only [fMO_isRight_11, fMO_isRight_48, fMO_isRight_49, fMO_isRight_71, fMO_isRight_86, fMO_isRight_101, fMO_isRight_148, fMO_isRight_155, fMO_isRight_185, zl, zl2]
    repeat' split
    all_goals first | exact zk.rf | exact zk.set | exact ih _ _ _ _ _ _ _ _
theorem zright_P {P S : ZS} {x y : Int32} : zk 5 P (fMO_isRight P S x y).1 := zright_k _ _ _ _ _ _ _ _ _
def zRes (P : ZS) (C : Prop) (o : ZS × ZS × Int32) : Prop := zk 5 P o.1 ∧ (o.2.2 ≤ 0 → C)
theorem zfo72 : ∀ (n : Nat) (P S : ZS) (f r : Int32), zr 0 6 r → 6 - r.toInt < (n : Int) →
    zk 5 P (zfix (fun P9 S9 _ _ => (P9, S9, 0)) fMO_faultOf_72 n P S f r).1 ∧
    ((zfix (fun P9 S9 _ _ => (P9, S9, 0)) fMO_faultOf_72 n P S f r).2.2 ≤ 0 → ∀ (S' : ZS) (q : Int32), zr r.toInt 5 q → ¬ fMO_linksIn P S' q ≤ 0 → ¬ P.F 3 q.toNatClampNeg = -1) := by
  intro n
  induction n with
  | zero => intro P S f r h1 h2; have := h1.2; omega
  | succ n ih =>
    intro P S f r h1 h2
    have q0 := h1.1
    have q6 := h1.2
    have z0 : (0 : Int32).toInt = 0 := by decide
    have z6 : (6 : Int32).toInt = 6 := by decide
    rw [zfix_s]
    generalize zfix (fun P9 S9 _ _ => (P9, S9, 0)) fMO_faultOf_72 n = rc at ih ⊢
    unfold fMO_faultOf_72
    by_cases c : 6 ≤ r
    · rw [if_pos c]
      refine ⟨zk.rf, fun _ S' q hq => ?_⟩
      have c' := Int32.le_iff_toInt_le.mp c
      have := hq.1
      have := hq.2
      omega
    · rw [if_neg c]
      have c' := Int32.lt_iff_toInt_lt.mp (znle c)
      have e1 : (r + 1).toInt = r.toInt + 1 := zx1 (a := 0) (b := 6) h1 (by decide)
      have ne0 : ¬ (r + 1 : Int32) ≤ 0 := fun h => by
        have := Int32.le_iff_toInt_le.mp h
        omega
      have rn : zr 0 6 (r + 1) := ⟨by omega, by omega⟩
      have hk5 : zk 5 P (P.setF 5 r.toNatClampNeg 0) := zk.set
      unfold zl
      generalize P.setF 5 r.toNatClampNeg 0 = P8 at hk5 ⊢
      have go : ∀ (P9 S9 : ZS) (f9 : Int32), zk 5 P P9 → (fMO_linksIn P S r ≤ 0 ∨ ¬ P.F 3 r.toNatClampNeg = -1) → zk 5 P (rc P9 S9 f9 (r + 1)).1 ∧
          ((rc P9 S9 f9 (r + 1)).2.2 ≤ 0 → ∀ (S' : ZS) (q : Int32), zr r.toInt 5 q → ¬ fMO_linksIn P S' q ≤ 0 → ¬ P.F 3 q.toNatClampNeg = -1) := by
        intro P9 S9 f9 hk9 hor
        obtain ⟨a1, a2⟩ := ih P9 S9 f9 (r + 1) rn (by omega)
        refine ⟨hk9.tr a1, fun h S' q hq hl => ?_⟩
        by_cases e : q = r
        · subst e
          rcases hor with hor | hor
          · exact absurd (by rw [zk_li (S := S) (zk.rf (k := 5)) (by decide)]; exact hor) hl
          · exact hor
        · have hne : q.toInt ≠ r.toInt := fun h => e (Int32.toInt_inj.mp h)
          have g1 := hq.1
          have a3 := a2 h S' q ⟨by omega, hq.2⟩ (by rw [zk_li (S := S') hk9 (by decide)]; exact hl)
          rw [hk9.2 3 (by decide)] at a3
          exact a3
      have out : ∀ (P9 S9 : ZS), zk 5 P P9 → zRes P (∀ (S' : ZS) (q : Int32), zr r.toInt 5 q → ¬ fMO_linksIn P S' q ≤ 0 → ¬ P.F 3 q.toNatClampNeg = -1) (P9, S9, r + 1) := fun P9 S9 hk9 => ⟨hk9, fun h => absurd h ne0⟩
      show zRes P (∀ (S' : ZS) (q : Int32), zr r.toInt 5 q → ¬ fMO_linksIn P S' q ≤ 0 → ¬ P.F 3 q.toNatClampNeg = -1) (if fMO_linksIn P8 S r ≤ 0 then rc P8 S f (r + 1) else if P8.F 3 r.toNatClampNeg = -1 then fMO_faultOf_142 rc P8 S f r 0 else if P8.F 2 (P8.F 4 r.toNatClampNeg).toNatClampNeg = r then (if fMO_isEnd P8 S (P8.F 3 r.toNatClampNeg) (P8.F 4 r.toNatClampNeg) = 0 then fMO_faultOf_142 rc P8 S f r 0 else fMO_faultOf_142 rc P8 S f r 1) else fMO_faultOf_142 rc P8 S f r 0)
      by_cases k11 : fMO_linksIn P8 S r ≤ 0
      · rw [if_pos k11]
        exact go P8 S f hk5 (Or.inl (by rw [zk_li (S := S) hk5 (by decide)] at k11; exact k11))
      · rw [if_neg k11]
        have hs := hk5.tr (zright_P (P := P8) (S := S) (x := r) (y := f))
        have h142 : ∀ y : Int32, (y = 0 ∨ ¬ P.F 3 r.toNatClampNeg = -1) → zRes P (∀ (S' : ZS) (q : Int32), zr r.toInt 5 q → ¬ fMO_linksIn P S' q ≤ 0 → ¬ P.F 3 q.toNatClampNeg = -1) (fMO_faultOf_142 rc P8 S f r y) := by
          intro y hy
          show zRes P _ (if (fMO_isRight P8 S r f).2.2 = 0 then ((fMO_isRight P8 S r f).1, (fMO_isRight P8 S r f).2.1, r + 1) else if y = 0 then ((fMO_isRight P8 S r f).1, (fMO_isRight P8 S r f).2.1, r + 1) else rc (fMO_isRight P8 S r f).1 (fMO_isRight P8 S r f).2.1 0 (r + 1))
          generalize fMO_isRight P8 S r f = R at hs ⊢
          by_cases a : R.2.2 = 0
          · rw [if_pos a]
            exact out R.1 R.2.1 hs
          · rw [if_neg a]
            by_cases d : y = 0
            · rw [if_pos d]
              exact out R.1 R.2.1 hs
            · rw [if_neg d]
              exact go R.1 R.2.1 0 hs (Or.inr (hy.resolve_left d))
        by_cases k12 : P8.F 3 r.toNatClampNeg = -1
        · rw [if_pos k12]
          exact h142 0 (Or.inl rfl)
        · rw [if_neg k12]
          have k12' : ¬ P.F 3 r.toNatClampNeg = -1 := by rw [hk5.2 3 (by decide)] at k12; exact k12
          by_cases c2 : P8.F 2 (P8.F 4 r.toNatClampNeg).toNatClampNeg = r
          · rw [if_pos c2]
            by_cases c3 : fMO_isEnd P8 S (P8.F 3 r.toNatClampNeg) (P8.F 4 r.toNatClampNeg) = 0
            · rw [if_pos c3]
              exact h142 0 (Or.inl rfl)
            · rw [if_neg c3]
              exact h142 1 (Or.inr k12')
          · rw [if_neg c2]
            exact h142 0 (Or.inl rfl)
theorem zfo24 {rc : ZS → ZS → Int32 → (ZS × ZS × Int32)} : ∀ (n : Nat) (P S : ZS) (b a r : Int32), zr 0 6 r → 6 - r.toInt + 1 ≤ (n : Int) → zfix (fun P9 S9 _ _ _ => (P9, S9, 0)) (fMO_faultOf_24 rc) n P S b a r = (P, S, 7) ∨ zfix (fun P9 S9 _ _ _ => (P9, S9, 0)) (fMO_faultOf_24 rc) n P S b a r = rc P S (b + 1) := by
  intro n
  induction n with
  | zero => intro P S b a r h1 h2; have := h1.2; omega
  | succ n ih =>
    intro P S b a r h1 h2
    have q0 := h1.1
    have q6 := h1.2
    have z6 : (6 : Int32).toInt = 6 := by decide
    rw [zfix_s]
    generalize zfix (fun P9 S9 _ _ _ => (P9, S9, 0)) (fMO_faultOf_24 rc) n = rc2 at ih ⊢
    unfold fMO_faultOf_24
    by_cases c : 6 ≤ r
    · rw [if_pos c]
      split
      · exact Or.inl rfl
      · exact Or.inr rfl
    · rw [if_neg c]
      have c' := Int32.lt_iff_toInt_lt.mp (znle c)
      have e1 : (r + 1).toInt = r.toInt + 1 := zx1 (a := 0) (b := 6) h1 (by decide)
      simp only [zl, fMO_faultOf_43, fMO_faultOf_48]
      repeat' split
      all_goals exact ih P S b _ (r + 1) ⟨by omega, by omega⟩ (by omega)
theorem zfo12 {P S : ZS} (g : mok P) : ∀ (n : Nat) (b : Int32), zr 0 48 b → 48 - b.toInt + 1 ≤ (n : Int) → zfix (fun P9 S9 _ => (P9, S9, 0)) fMO_faultOf_12 n P S b = (P, S, 7) ∨ zfix (fun P9 S9 _ => (P9, S9, 0)) fMO_faultOf_12 n P S b = zfix (fun P9 S9 _ _ => (P9, S9, 0)) fMO_faultOf_72 7 P S 1 0 := by
  intro n
  induction n with
  | zero => intro b h1 h2; have := h1.2; omega
  | succ n ih =>
    intro b h1 h2
    have q0 := h1.1
    have q6 := h1.2
    have rI : zr 0 48 (P.I 1) := g.2.1 1
    rw [zfix_s]
    generalize zfix (fun P9 S9 _ => (P9, S9, 0)) fMO_faultOf_12 n = rc at ih ⊢
    unfold fMO_faultOf_12
    simp only [zl]
    by_cases c : P.I 1 ≤ b
    · rw [if_pos c]
      exact Or.inr rfl
    · rw [if_neg c]
      have c' := Int32.lt_iff_toInt_lt.mp (znle c)
      have r2 := rI.2
      have e1 : (b + 1).toInt = b.toInt + 1 := zx1 (a := 0) (b := 48) h1 (by decide)
      rcases zfo24 (rc := rc) 7 P S b 0 0 (by decide) (by decide) with h | h
      · exact Or.inl h
      · rw [h]
        exact ih (b + 1) ⟨by omega, by omega⟩ (by omega)
theorem zfo {P S P1 S1 : ZS} {k : Int32} (g : mok P) (h : (P1, S1, k) = fMO_faultOf P S) : zk 5 P P1 ∧ (k ≤ 0 → zMOw P1) := by
  have n7 : ¬ (7 : Int32) ≤ 0 := by decide
  simp only [fMO_faultOf, zl] at h
  split at h
  · cases h
    exact ⟨zk.rf, fun q => absurd q n7⟩
  · rcases zfo12 (S := S) g 49 0 (by decide) (by decide) with e | e
    · rw [e] at h
      cases h
      exact ⟨zk.rf, fun q => absurd q n7⟩
    · rw [e] at h
      obtain ⟨a1, a2⟩ := zfo72 7 P S 1 0 (by decide) (by decide)
      rw [← h] at a1 a2
      refine ⟨a1, fun q S' r hr hl => ?_⟩
      have b := a2 q S' r hr (by rw [← zk_li (S := S') (S' := S') a1 (by decide)]; exact hl)
      rw [← a1.2 3 (by decide)] at b
      exact b
noncomputable def fMO_start_144 (rc125 : ZS → ZS → Int32 → (ZS × ZS × Int32)) (P_144 : ZS) (S_144 : ZS) (x144_2 : Int32) : ZS × ZS × Int32 := zl (x144_2 + 1) (fun k1 => rc125 P_144 S_144 k1)
noncomputable def fMO_start_125 (rc125 : ZS → ZS → Int32 → (ZS × ZS × Int32)) (P_125 : ZS) (S_125 : ZS) (x125_2 : Int32) : ZS × ZS × Int32 := (if 6 ≤ x125_2 then (P_125, S_125, 0) else zl (fMO_linksIn P_125 S_125 x125_2) (fun k3 => (if k3 ≤ 0 then fMO_start_144 rc125 P_125 S_125 x125_2 else zl (fMO_takeHold P_125 S_125 x125_2) (fun S5 => fMO_start_144 rc125 P_125 S5 x125_2))))
noncomputable def fMO_start_111 (rc43 : ZS → ZS → Int32 → (ZS × ZS × Int32)) (rc53 : ZS → ZS → Int32 → Int32 → (ZS × ZS × Int32)) (P_111 : ZS) (S_111 : ZS) (x111_2 : Int32) (x111_3 : Int32) : ZS × ZS × Int32 := zl (x111_3 + 1) (fun k7 => rc53 P_111 S_111 x111_2 k7)
noncomputable def fMO_start_109 (rc43 : ZS → ZS → Int32 → (ZS × ZS × Int32)) (rc53 : ZS → ZS → Int32 → Int32 → (ZS × ZS × Int32)) (P_109 : ZS) (S_109 : ZS) (x109_2 : Int32) (x109_3 : Int32) (y109_0 : Int32) : ZS × ZS × Int32 := zl (P_109.setF 6 (y109_0 : Int32).toNatClampNeg x109_3) (fun P8 => fMO_start_111 rc43 rc53 P8 S_109 x109_2 x109_3)
noncomputable def fMO_start_53 (rc43 : ZS → ZS → Int32 → (ZS × ZS × Int32)) (rc53 : ZS → ZS → Int32 → Int32 → (ZS × ZS × Int32)) (P_53 : ZS) (S_53 : ZS) (x53_2 : Int32) (x53_3 : Int32) : ZS × ZS × Int32 := zl (P_53.I 2) (fun k10 => (if k10 ≤ x53_3 then zl (x53_2 + 1) (fun k11 => rc43 P_53 S_53 k11) else zl (fMO_isEnd P_53 S_53 x53_2 x53_3) (fun k13 => (if k13 = 0 then fMO_start_111 rc43 rc53 P_53 S_53 x53_2 x53_3 else zl (6 * x53_2) (fun k14 => zl (P_53.F 2 (x53_3 : Int32).toNatClampNeg) (fun k15 => zl (k14 + k15) (fun k16 => zl (2 * k16) (fun k17 => zl (P_53.F 6 (k17 : Int32).toNatClampNeg) (fun k18 => (if k18 = (-1) then fMO_start_109 rc43 rc53 P_53 S_53 x53_2 x53_3 k17 else zl (k17 + 1) (fun k19 => fMO_start_109 rc43 rc53 P_53 S_53 x53_2 x53_3 k19)))))))))))
noncomputable def fMO_start_43 (rc43 : ZS → ZS → Int32 → (ZS × ZS × Int32)) (P_43 : ZS) (S_43 : ZS) (x43_2 : Int32) : ZS × ZS × Int32 := zl (P_43.I 1) (fun k20 => (if k20 ≤ x43_2 then zfix (fun P9 S9 _ => (P9, S9, 0)) (fMO_start_125 ) 7 P_43 S_43 0 else zfix (fun P9 S9 _ _ => (P9, S9, 0)) (fMO_start_53 rc43) 61 P_43 S_43 x43_2 0))
noncomputable def fMO_start_13 (P_13 : ZS) (S_13 : ZS) (y13_0 : Int32) : ZS × ZS × Int32 := zl (S_13.setI 3 y13_0) (fun S21 => zl (S21.I 3) (fun k23 => (if y13_0 ≤ 0 then zl3 (fMO_faultOf P_13 S21) (fun P27 S26 k25 => (if k25 ≤ 0 then zl (P27.setI 0 1) (fun P29 => zfix (fun P9 S9 _ => (P9, S9, 0)) (fMO_start_43 ) 49 P29 S26 0) else (P27, S26, k25))) else (P_13, S21, 0))))
noncomputable def fMO_start (P S : ZS) : ZS × ZS × Int32 := zl (P.I 0) (fun k31 => (if k31 = 0 then fMO_start_13 P S 0 else fMO_start_13 P S 1))
set_option maxHeartbeats 4000000 in
set_option maxRecDepth 100000 in
theorem tMO_start (l : Launch) (dC : Nat → ClassId) (dI : Nat → Nat → Nat) (cI cZ cJ cA : ClassId) (a0 : Array Value) (s0 : State) (o b : Nat → Nat) (P S : ZS) (sz : Nat) (gP : mok P) (gS : mok S) (iM : zM P) : Met l yMO_start [Cond.code yMO_start bMO_start 5 (some .int)] ({ frames := 5, cells := 0, slots := 0, locals := 122 } : Room) (zP zCl dC dI (zTZ cI cZ cJ cA) a0 s0 [.ref (o 0)] sz (MW cI cZ cA o b P S)) (zQH zCl dC dI (fun (r : Int32) (x9 : ZS × ZS) => (x9.1, x9.2, r) = fMO_start P S  ∧ mok x9.1 ∧ mok x9.2 ∧ (zM x9.1) ∧ zr 0 7 r) (fun x9 : ZS × ZS => (MW cI cZ cA o b x9.1 x9.2)) (va_A (MW cI cZ cA o b P S) sz)) 0 0 (va_A (MW cI cZ cA o b P S) sz) := by
  refine Met.ofW (cc := bMO_start) (maxL := 5) (ret := (some .int)) (by decide) rfl ?_
  intro p e s m args below meth c s₁ B hml hv
  obtain ⟨rfl, hsz, hP, hK, hD0, hB⟩ := hv
  have hx := B.exec
  have hb := B.bytes
  have hr := B.returns
  have hown : s.vm.findClass "RingGuardModel" = some m.cls := findClass_of_methodNamed B.named
  have hlocks := B.notSynchronized
  subst hsz
  have hD := hD0.self (sz := s.heap.size)
  have hA0 := zA0 hD0 hB
  generalize hAe : va_A (MW cI cZ cA o b P S) s.heap.size = A at hD hA0 ⊢
  have hAD := hA0
  have hA : ∀ q : Nat, s.heap.size ≤ q → A q := fun q h => by rw [← hAe]; exact Or.inr h
  have hS : va_S A s.heap s.heap [] := va_S.rf
  have hl := lv_entry ([.ref (o 0)]) (n := 5) (Nat.le_of_ble_eq_true rfl)
  rw [lg_entry_eq]
  generalize (lg_sl ([.ref (o 0)]) ++ List.replicate (5 - (lg_sl ([.ref (o 0)])).length) Slot.unset).toArray = ls at hl ⊢
  have hl : lv_has ls 5 [(0, .ref (o 0))] := hl
  refine zgenQ (fun Q hQe => ?_)
  obtain ⟨tg, etg⟩ : ∃ z, z = fMO_start P S  := ⟨_, rfl⟩
  have E := etg
  unfold fMO_start at E
  have hJ13 : ∀ (H : Heap) (locs : List Loc) (ls : Array Slot) (P_13 : ZS) (S_13 : ZS) (y13_0 : Int32), zr 0 1 y13_0 → mok P_13 → mok S_13 → (zM P_13) → tg = fMO_start_13  P_13 S_13 y13_0 → va_P (dC, dI) zCl (MW cI cZ cA o b P_13 S_13) H → va_D A (MW cI cZ cA o b P_13 S_13) → va_S A s.heap H locs → lv_has ls 5 [(0, .ref (o 0))] → W p l e ({ frames := 5, cells := 0, slots := 0, locals := 122 } : Room) s m ([.ref (o 0)] : List Value).toArray below meth c H locs 0 0 Q (F0 m 13 ls [.int y13_0, .ref (o 0)]) := by
    intro H locs ls P_13 S_13 y13_0 r_y13_0 gP_13 gS_13 iM_13 E hP hD hS hl
    unfold fMO_start_13 at E
    have hL43 : ∀ (n43 : Nat) (H : Heap) (locs : List Loc) (ls : Array Slot) (P_43 : ZS) (S_43 : ZS) (x43_2 : Int32), zr 0 48 x43_2 → mok P_43 → mok S_43 → (zM P_43) → (zMOw P_43) → 48 + 1 - x43_2.toInt ≤ (n43 : Int) → tg = zfix (fun P9 S9 _ => (P9, S9, 0)) (fMO_start_43 ) n43 P_43 S_43 x43_2 → va_P (dC, dI) zCl (MW cI cZ cA o b P_43 S_43) H → va_D A (MW cI cZ cA o b P_43 S_43) → va_S A s.heap H locs → lv_has ls 5 [(0, .ref (o 0)), (2, .int x43_2)] → W p l e ({ frames := 5, cells := 0, slots := 0, locals := 122 } : Room) s m ([.ref (o 0)] : List Value).toArray below meth c H locs 0 0 Q (F0 m 43 ls []) := by
      intro n43
      induction n43 with
      | zero => intro H locs ls P_43 S_43 x43_2 r_x43_2 gP_43 gS_43 iM_43 iO_43 hm43 E hP hD hS hl; exact absurd hm43 (zfuel0U r_x43_2)
      | succ n43 ih43 =>
        intro H locs ls P_43 S_43 x43_2 r_x43_2 gP_43 gS_43 iM_43 iO_43 hm43 E hP hD hS hl
        rw [zfix_s] at E
        generalize zfix (fun P9 S9 _ => (P9, S9, 0)) (fMO_start_43 ) n43 = rc43 at ih43 E
        unfold fMO_start_43 at E
        have hL125 : ∀ (n125 : Nat) (H : Heap) (locs : List Loc) (ls : Array Slot) (P_125 : ZS) (S_125 : ZS) (x125_2 : Int32), zr 0 6 x125_2 → mok P_125 → mok S_125 → (zM P_125) → (zMOw P_125) → 6 + 1 - x125_2.toInt ≤ (n125 : Int) → tg = zfix (fun P9 S9 _ => (P9, S9, 0)) (fMO_start_125 ) n125 P_125 S_125 x125_2 → va_P (dC, dI) zCl (MW cI cZ cA o b P_125 S_125) H → va_D A (MW cI cZ cA o b P_125 S_125) → va_S A s.heap H locs → lv_has ls 5 [(0, .ref (o 0)), (2, .int x125_2)] → W p l e ({ frames := 5, cells := 0, slots := 0, locals := 122 } : Room) s m ([.ref (o 0)] : List Value).toArray below meth c H locs 0 0 Q (F0 m 125 ls []) := by
          intro n125
          induction n125 with
          | zero => intro H locs ls P_125 S_125 x125_2 r_x125_2 gP_125 gS_125 iM_125 iO_125 hm125 E hP hD hS hl; exact absurd hm125 (zfuel0U r_x125_2)
          | succ n125 ih125 =>
            intro H locs ls P_125 S_125 x125_2 r_x125_2 gP_125 gS_125 iM_125 iO_125 hm125 E hP hD hS hl
            rw [zfix_s] at E
            generalize zfix (fun P9 S9 _ => (P9, S9, 0)) (fMO_start_125 ) n125 = rc125 at ih125 E
            unfold fMO_start_125 at E
            have hJ144 : ∀ (H : Heap) (locs : List Loc) (ls : Array Slot) (P_144 : ZS) (S_144 : ZS) (x144_2 : Int32), zr 0 5 x144_2 → mok P_144 → mok S_144 → 6 + 1 - x144_2.toInt ≤ ((n125 + 1 : Nat) : Int) → (zM P_144) → (zMOw P_144) → tg = fMO_start_144 rc125 P_144 S_144 x144_2 → va_P (dC, dI) zCl (MW cI cZ cA o b P_144 S_144) H → va_D A (MW cI cZ cA o b P_144 S_144) → va_S A s.heap H locs → lv_has ls 5 [(0, .ref (o 0)), (2, .int x144_2)] → W p l e ({ frames := 5, cells := 0, slots := 0, locals := 122 } : Room) s m ([.ref (o 0)] : List Value).toArray below meth c H locs 0 0 Q (F0 m 144 ls []) := by
              intro H locs ls P_144 S_144 x144_2 r_x144_2 gP_144 gS_144 hm125_144 iM_144 iO_144 E hP hD hS hl
              unfold fMO_start_144 at E
              refine z_iinc (lv' := fun v9 => [(2, .int v9), (0, .ref (o 0))]) (cst := 1) hx hb dMO_start_144 hl (k := 1) rfl (by decide) (by decide) (fun _ => rfl) E (fun k1 ls ek1 E hl => ?_)
              have r_k1 : zr 1 6 k1 := zr_add r_x144_2 (show zr 1 1 1 from by decide) ek1 (by decide)
              refine lv_goto (tgt := 125) hx hb dMO_start_147 (by decide) ?_
              exact ih125 H locs ls P_144 S_144 k1 (zr_mono r_k1 (by decide)) gP_144 gS_144 iM_144 iO_144 (zstepU ek1 r_x144_2 (by decide) hm125_144) E hP hD hS (lv_sub hl [1, 0] rfl)
            refine lv_iload_n hx hb dMO_start_125 rfl (lv_at hl 1 rfl) ?_
            refine lv_bipush (v := 6) hx hb dMO_start_126 (by decide) ?_
            refine z_icmp_ge (tgt := 150) hx hb dMO_start_128 (by decide) E (fun c_128 E => ?_) (fun c_128 E => ?_)
            · have r_x125_2 : zr 6 6 x125_2 := zle_y (show zr 6 6 6 from by decide) r_x125_2 c_128 (by decide)
              refine lv_iconst (v := 0) hx hb dMO_start_150 (by decide) ?_
              rw [hQe]
              exact W.iret (v := 0) hx hb hr (fun t ht hW => ⟨⟨0, (P_125, S_125), rfl, ⟨E.symm.trans etg, gP_125, gS_125, iM_125, (show zr 0 7 0 from by decide)⟩, by rw [ht]; exact hP, hD⟩, hS.F ht⟩) hS.2.2 dMO_start_151
            · have r_x125_2 : zr 0 5 x125_2 := zlt_x r_x125_2 (show zr 6 6 6 from by decide) (znle c_128) (by decide)
              refine lv_aload_n hx hb dMO_start_131 rfl (lv_at hl 0 rfl) ?_
              refine lv_iload_n hx hb dMO_start_132 rfl (lv_at hl 1 rfl) ?_
              refine zcallp (va_runV (As := [.int x125_2]) (rest := []) ⟨hx, hb, hml, hown, zno⟩ (tMO_linksIn l dC dI cI cZ cJ cA a0 s0 o b P_125 S_125 H.size x125_2 gP_125 gS_125) (zcw 1 (hB.word (zm5 k5_84) rfl) (hB.word (zm1 k1_9) rfl) (hB.word (zm5 k5_81) rfl) (hB.word (zm5 k5_83) rfl) (k2_selects_private (by decide) (hB.word (zm4 k4_109) rfl) (hB.word (zm5 k5_82) rfl) (hB.word (zm5 k5_83) rfl)) rfl rfl (by decide +kernel) ⟨Nat.le_of_ble_eq_true rfl, Nat.le_of_ble_eq_true rfl⟩) ⟨zP_blind, va_recv hK hP (ci := 7) (q0 := 0) rfl rfl, zP_pre hP hK hD hAD (zB_on hB hA0 hS)⟩ rfl rfl hl.1 rfl (lv_room (Nat.le_of_ble_eq_true rfl)) dMO_start_133 ⟨Nat.le_of_ble_eq_true rfl, Nat.le_of_ble_eq_true rfl⟩) hS hA (fun k3 H2 locs hk3 hz1 hk1 hS => ?_)
              have hP := zKeep hP hk1
              have E := zl_s E hk3.1
              refine z_if_le (tgt := 144) hx hb dMO_start_136 (by decide) E (fun c_136 E => ?_) (fun c_136 E => ?_)
              · have r_k3 : zr (-2147483648) 0 k3 := zle_x (zr_any k3) (show zr 0 0 0 from by decide) c_136 (by decide)
                exact hJ144 H2 locs ls P_125 S_125 x125_2 r_x125_2 gP_125 gS_125 hm125 iM_125 iO_125 E hP hD hS (lv_sub hl [0, 1] rfl)
              · have r_k3 : zr 1 2147483647 k3 := zlt_y (show zr 0 0 0 from by decide) (zr_any k3) (znle c_136) (by decide)
                refine lv_aload_n hx hb dMO_start_139 rfl (lv_at hl 0 rfl) ?_
                refine lv_iload_n hx hb dMO_start_140 rfl (lv_at hl 1 rfl) ?_
                refine zcV (va_runV (As := [.int x125_2]) (rest := []) ⟨hx, hb, hml, hown, zno⟩ (tMO_takeHold l dC dI cI cZ cJ cA a0 s0 o b P_125 S_125 H2.size x125_2 gP_125 gS_125 r_x125_2 (iO_125 _ _ r_x125_2 (fun h8 => c_136 (by rw [hk3.1]; exact h8))) ((iM_125 _).resolve_left (iO_125 _ _ r_x125_2 (fun h8 => c_136 (by rw [hk3.1]; exact h8))))) (zcw 1 (hB.word (zm5 k5_108) rfl) (hB.word (zm1 k1_9) rfl) (hB.word (zm5 k5_105) rfl) (hB.word (zm5 k5_107) rfl) (k2_selects_private (by decide) (hB.word (zm4 k4_109) rfl) (hB.word (zm5 k5_106) rfl) (hB.word (zm5 k5_107) rfl)) rfl rfl (by decide +kernel) ⟨Nat.le_of_ble_eq_true rfl, Nat.le_of_ble_eq_true rfl⟩) ⟨zP_blind, va_recv hK hP (ci := 7) (q0 := 0) rfl rfl, zP_pre hP hK hD hAD (zB_on hB hA0 hS)⟩ rfl rfl hl.1 rfl (lv_room (Nat.le_of_ble_eq_true rfl)) dMO_start_141 ⟨Nat.le_of_ble_eq_true rfl, Nat.le_of_ble_eq_true rfl⟩) hD hS hA (fun S5 H4 locs h6 hP hD hS => ?_)
                have E := zl_s E h6.1
                have gS5 := h6.2
                exact hJ144 H4 locs ls P_125 S5 x125_2 r_x125_2 gP_125 gS5 hm125 iM_125 iO_125 E hP hD hS (lv_sub hl [0, 1] rfl)
        have hL53 : ∀ (n53 : Nat) (H : Heap) (locs : List Loc) (ls : Array Slot) (P_53 : ZS) (S_53 : ZS) (x53_2 : Int32) (x53_3 : Int32), zr 0 47 x53_2 → zr 0 60 x53_3 → mok P_53 → mok S_53 → 48 + 1 - x53_2.toInt ≤ ((n43 + 1 : Nat) : Int) → (zM P_53) → (zMOw P_53) → 60 + 1 - x53_3.toInt ≤ (n53 : Int) → tg = zfix (fun P9 S9 _ _ => (P9, S9, 0)) (fMO_start_53 rc43) n53 P_53 S_53 x53_2 x53_3 → va_P (dC, dI) zCl (MW cI cZ cA o b P_53 S_53) H → va_D A (MW cI cZ cA o b P_53 S_53) → va_S A s.heap H locs → lv_has ls 5 [(0, .ref (o 0)), (2, .int x53_2), (3, .int x53_3)] → W p l e ({ frames := 5, cells := 0, slots := 0, locals := 122 } : Room) s m ([.ref (o 0)] : List Value).toArray below meth c H locs 0 0 Q (F0 m 53 ls []) := by
          intro n53
          induction n53 with
          | zero => intro H locs ls P_53 S_53 x53_2 x53_3 r_x53_2 r_x53_3 gP_53 gS_53 hm43_53 iM_53 iO_53 hm53 E hP hD hS hl; exact absurd hm53 (zfuel0U r_x53_3)
          | succ n53 ih53 =>
            intro H locs ls P_53 S_53 x53_2 x53_3 r_x53_2 r_x53_3 gP_53 gS_53 hm43_53 iM_53 iO_53 hm53 E hP hD hS hl
            rw [zfix_s] at E
            generalize zfix (fun P9 S9 _ _ => (P9, S9, 0)) (fMO_start_53 rc43) n53 = rc53 at ih53 E
            unfold fMO_start_53 at E
            have hJ111 : ∀ (H : Heap) (locs : List Loc) (ls : Array Slot) (P_111 : ZS) (S_111 : ZS) (x111_2 : Int32) (x111_3 : Int32), zr 0 47 x111_2 → zr 0 59 x111_3 → mok P_111 → mok S_111 → 48 + 1 - x111_2.toInt ≤ ((n43 + 1 : Nat) : Int) → 60 + 1 - x111_3.toInt ≤ ((n53 + 1 : Nat) : Int) → (zM P_111) → (zMOw P_111) → tg = fMO_start_111 rc43 rc53 P_111 S_111 x111_2 x111_3 → va_P (dC, dI) zCl (MW cI cZ cA o b P_111 S_111) H → va_D A (MW cI cZ cA o b P_111 S_111) → va_S A s.heap H locs → lv_has ls 5 [(0, .ref (o 0)), (2, .int x111_2), (3, .int x111_3)] → W p l e ({ frames := 5, cells := 0, slots := 0, locals := 122 } : Room) s m ([.ref (o 0)] : List Value).toArray below meth c H locs 0 0 Q (F0 m 111 ls []) := by
              intro H locs ls P_111 S_111 x111_2 x111_3 r_x111_2 r_x111_3 gP_111 gS_111 hm43_111 hm53_111 iM_111 iO_111 E hP hD hS hl
              unfold fMO_start_111 at E
              refine z_iinc (lv' := fun v9 => [(3, .int v9), (0, .ref (o 0)), (2, .int x111_2)]) (cst := 1) hx hb dMO_start_111 hl (k := 2) rfl (by decide) (by decide) (fun _ => rfl) E (fun k7 ls ek7 E hl => ?_)
              have r_k7 : zr 1 60 k7 := zr_add r_x111_3 (show zr 1 1 1 from by decide) ek7 (by decide)
              refine lv_goto (tgt := 53) hx hb dMO_start_114 (by decide) ?_
              exact ih53 H locs ls P_111 S_111 x111_2 k7 r_x111_2 (zr_mono r_k7 (by decide)) gP_111 gS_111 hm43_111 iM_111 iO_111 (zstepU ek7 r_x111_3 (by decide) hm53_111) E hP hD hS (lv_sub hl [1, 2, 0] rfl)
            have hJ109 : ∀ (H : Heap) (locs : List Loc) (ls : Array Slot) (P_109 : ZS) (S_109 : ZS) (x109_2 : Int32) (x109_3 : Int32) (y109_0 : Int32), zr 0 47 x109_2 → zr 0 59 x109_3 → zr 0 575 y109_0 → mok P_109 → mok S_109 → 48 + 1 - x109_2.toInt ≤ ((n43 + 1 : Nat) : Int) → 60 + 1 - x109_3.toInt ≤ ((n53 + 1 : Nat) : Int) → (zM P_109) → (zMOw P_109) → tg = fMO_start_109 rc43 rc53 P_109 S_109 x109_2 x109_3 y109_0 → va_P (dC, dI) zCl (MW cI cZ cA o b P_109 S_109) H → va_D A (MW cI cZ cA o b P_109 S_109) → va_S A s.heap H locs → lv_has ls 5 [(0, .ref (o 0)), (2, .int x109_2), (3, .int x109_3)] → W p l e ({ frames := 5, cells := 0, slots := 0, locals := 122 } : Room) s m ([.ref (o 0)] : List Value).toArray below meth c H locs 0 0 Q (F0 m 109 ls [.int y109_0, .ref (b 6)]) := by
              intro H locs ls P_109 S_109 x109_2 x109_3 y109_0 r_x109_2 r_x109_3 r_y109_0 gP_109 gS_109 hm43_109 hm53_109 iM_109 iO_109 E hP hD hS hl
              unfold fMO_start_109 at E
              refine lv_iload_n hx hb dMO_start_109 rfl (lv_at hl 2 rfl) ?_
              refine m_astP hx hb hK hP hD hS 6 (by decide) rfl r_y109_0 (by decide) dMO_start_110 E (fun P8 H9 locs eP8 E hP hD hS => ?_)
              have gP8 : mok P8 := by rw [eP8]; exact gP_109.setF (k := 6) (zr_mono r_x109_3 (by decide)) (Or.inl (by decide))
              have iM_P8 : zM P8 := by rw [eP8]; exact zM_6 iM_109
              have iO_P8 : zMOw P8 := by rw [eP8]; exact zMOw_6 iO_109
              exact hJ111 H9 locs ls P8 S_109 x109_2 x109_3 r_x109_2 r_x109_3 gP8 gS_109 hm43_109 hm53_109 iM_P8 iO_P8 E hP hD hS (lv_sub hl [0, 1, 2] rfl)
            refine lv_iload_n hx hb dMO_start_53 rfl (lv_at hl 2 rfl) ?_
            refine lv_aload_n hx hb dMO_start_54 rfl (lv_at hl 0 rfl) ?_
            refine m_get_2 hx hb (hB.words zU_MO) hown hK hP (hB.word (zm4 k4_117) rfl) dMO_start_55 E (fun k10 ek10 E => ?_)
            have r_k10 : zr 0 60 k10 := by rw [ek10]; exact gP_53.2.1 2
            refine z_icmp_ge (tgt := 117) hx hb dMO_start_58 (by decide) E (fun c_58 E => ?_) (fun c_58 E => ?_)
            · refine z_iinc (lv' := fun v9 => [(2, .int v9), (0, .ref (o 0)), (3, .int x53_3)]) (cst := 1) hx hb dMO_start_117 hl (k := 1) rfl (by decide) (by decide) (fun _ => rfl) E (fun k11 ls ek11 E hl => ?_)
              have r_k11 : zr 1 48 k11 := zr_add r_x53_2 (show zr 1 1 1 from by decide) ek11 (by decide)
              refine lv_goto (tgt := 43) hx hb dMO_start_120 (by decide) ?_
              exact ih43 H locs ls P_53 S_53 k11 (zr_mono r_k11 (by decide)) gP_53 gS_53 iM_53 iO_53 (zstepU ek11 r_x53_2 (by decide) hm43_53) E hP hD hS (lv_sub hl [1, 0] rfl)
            · have r_x53_3 : zr 0 59 x53_3 := zlt_x r_x53_3 r_k10 (znle c_58) (by decide)
              have r_k10 : zr 1 60 k10 := zlt_y r_x53_3 r_k10 (znle c_58) (by decide)
              refine lv_aload_n hx hb dMO_start_61 rfl (lv_at hl 0 rfl) ?_
              refine lv_iload_n hx hb dMO_start_62 rfl (lv_at hl 1 rfl) ?_
              refine lv_iload_n hx hb dMO_start_63 rfl (lv_at hl 2 rfl) ?_
              refine zcallp (va_runV (As := [.int x53_2, .int x53_3]) (rest := []) ⟨hx, hb, hml, hown, zno⟩ (tMO_isEnd l dC dI cI cZ cJ cA a0 s0 o b P_53 S_53 H.size x53_2 x53_3 gP_53 gS_53 r_x53_3) (zcw 2 (hB.word (zm5 k5_80) rfl) (hB.word (zm1 k1_9) rfl) (hB.word (zm5 k5_77) rfl) (hB.word (zm5 k5_79) rfl) (k2_selects_private (by decide) (hB.word (zm4 k4_109) rfl) (hB.word (zm5 k5_78) rfl) (hB.word (zm5 k5_79) rfl)) rfl rfl (by decide +kernel) ⟨Nat.le_of_ble_eq_true rfl, Nat.le_of_ble_eq_true rfl⟩) ⟨zP_blind, va_recv hK hP (ci := 7) (q0 := 0) rfl rfl, zP_pre hP hK hD hAD (zB_on hB hA0 hS)⟩ rfl rfl hl.1 rfl (lv_room (Nat.le_of_ble_eq_true rfl)) dMO_start_64 ⟨Nat.le_of_ble_eq_true rfl, Nat.le_of_ble_eq_true rfl⟩) hS hA (fun k13 H12 locs hk13 hz1 hk1 hS => ?_)
              have hP := zKeep hP hk1
              have E := zl_s E hk13.1
              refine z_if_eq (tgt := 111) hx hb dMO_start_67 (by decide) E (fun c_67 E => ?_) (fun c_67 E => ?_)
              · have r_k13 : zr 0 0 k13 := zeq_x (show zr 0 0 0 from by decide) c_67
                exact hJ111 H12 locs ls P_53 S_53 x53_2 x53_3 r_x53_2 r_x53_3 gP_53 gS_53 hm43_53 hm53 iM_53 iO_53 E hP hD hS (lv_sub hl [0, 1, 2] rfl)
              · have r_k13 : zr 1 1 k13 := zne_lo hk13.2 c_67 (by decide)
                refine lv_iconst (v := 2) hx hb dMO_start_70 (by decide) ?_
                refine lv_bipush (v := 6) hx hb dMO_start_71 (by decide) ?_
                refine lv_iload_n hx hb dMO_start_73 rfl (lv_at hl 1 rfl) ?_
                refine z_imul hx hb dMO_start_74 E (fun k14 ek14 E => ?_)
                have r_k14 : zr 0 282 k14 := zr_mul (show zr 6 6 6 from by decide) r_x53_2 ek14 (by decide)
                refine lv_aload_n hx hb dMO_start_75 rfl (lv_at hl 0 rfl) ?_
                refine m_getA_2 hx hb (hB.words zU_MO) hown hK hP (hB.word (zm4 k4_120) rfl) dMO_start_76 ?_
                refine lv_iload_n hx hb dMO_start_79 rfl (lv_at hl 2 rfl) ?_
                refine m_aldP hx hb hK hP 2 (by decide) rfl r_x53_3 (by decide) dMO_start_80 E (fun k15 ek15 E => ?_)
                have r_k15 : zr 0 5 k15 := by rw [ek15]; exact gP_53.1 2 _
                refine z_iadd hx hb dMO_start_81 E (fun k16 ek16 E => ?_)
                have r_k16 : zr 0 287 k16 := zr_add r_k14 r_k15 ek16 (by decide)
                refine z_imul hx hb dMO_start_82 E (fun k17 ek17 E => ?_)
                have r_k17 : zr 0 574 k17 := zr_mul (show zr 2 2 2 from by decide) r_k16 ek17 (by decide)
                refine lv_istore (lv' := [(4, .int k17), (0, .ref (o 0)), (2, .int x53_2), (3, .int x53_3)]) hx hb dMO_start_83 hl (by decide) rfl (fun ls hl => ?_)
                refine lv_aload_n hx hb dMO_start_85 rfl (lv_at hl 1 rfl) ?_
                refine m_getA_6 hx hb (hB.words zU_MO) hown hK hP (hB.word (zm4 k4_130) rfl) dMO_start_86 ?_
                refine lv_aload_n hx hb dMO_start_89 rfl (lv_at hl 1 rfl) ?_
                refine m_getA_6 hx hb (hB.words zU_MO) hown hK hP (hB.word (zm4 k4_130) rfl) dMO_start_90 ?_
                refine lv_iload hx hb dMO_start_93 (lv_at hl 0 rfl) ?_
                refine m_aldP hx hb hK hP 6 (by decide) rfl r_k17 (by decide) dMO_start_95 E (fun k18 ek18 E => ?_)
                have r_k18 : zr (-1) 59 k18 := by rw [ek18]; exact gP_53.1 6 _
                refine lv_iconst (v := (-1)) hx hb dMO_start_96 (by decide) ?_
                refine z_icmp_ne (tgt := 105) hx hb dMO_start_97 (by decide) E (fun c_97 E => ?_) (fun c_97 E => ?_)
                · have r_k18 : zr 0 59 k18 := zne_lo r_k18 c_97 (by decide)
                  refine lv_iload hx hb dMO_start_105 (lv_at hl 0 rfl) ?_
                  refine lv_iconst (v := 1) hx hb dMO_start_107 (by decide) ?_
                  refine z_iadd hx hb dMO_start_108 E (fun k19 ek19 E => ?_)
                  have r_k19 : zr 1 575 k19 := zr_add r_k17 (show zr 1 1 1 from by decide) ek19 (by decide)
                  exact hJ109 H12 locs ls P_53 S_53 x53_2 x53_3 k19 r_x53_2 r_x53_3 (zr_mono r_k19 (by decide)) gP_53 gS_53 hm43_53 hm53 iM_53 iO_53 E hP hD hS (lv_sub hl [1, 2, 3] rfl)
                · have r_k18 : zr (-1) (-1) k18 := zeq_x (show zr (-1) (-1) (-1) from by decide) c_97
                  refine lv_iload hx hb dMO_start_100 (lv_at hl 0 rfl) ?_
                  refine lv_goto (tgt := 109) hx hb dMO_start_102 (by decide) ?_
                  exact hJ109 H12 locs ls P_53 S_53 x53_2 x53_3 k17 r_x53_2 r_x53_3 (zr_mono r_k17 (by decide)) gP_53 gS_53 hm43_53 hm53 iM_53 iO_53 E hP hD hS (lv_sub hl [1, 2, 3] rfl)
        refine lv_iload_n hx hb dMO_start_43 rfl (lv_at hl 1 rfl) ?_
        refine lv_aload_n hx hb dMO_start_44 rfl (lv_at hl 0 rfl) ?_
        refine m_get_1 hx hb (hB.words zU_MO) hown hK hP (hB.word (zm4 k4_116) rfl) dMO_start_45 E (fun k20 ek20 E => ?_)
        have r_k20 : zr 0 48 k20 := by rw [ek20]; exact gP_43.2.1 1
        refine z_icmp_ge (tgt := 123) hx hb dMO_start_48 (by decide) E (fun c_48 E => ?_) (fun c_48 E => ?_)
        · refine lv_iconst (v := 0) hx hb dMO_start_123 (by decide) ?_
          refine lv_istore_n (lv' := [(2, .int 0), (0, .ref (o 0))]) hx hb dMO_start_124 rfl hl (by decide) rfl (fun ls hl => ?_)
          exact hL125 7 H locs ls P_43 S_43 0 (show zr 0 6 0 from by decide) gP_43 gS_43 iM_43 iO_43 (by have h9 := (show zr 0 0 0 from by decide); exact zfuelU h9 (by decide)) E hP hD hS (lv_sub hl [1, 0] rfl)
        · have r_x43_2 : zr 0 47 x43_2 := zlt_x r_x43_2 r_k20 (znle c_48) (by decide)
          have r_k20 : zr 1 48 k20 := zlt_y r_x43_2 r_k20 (znle c_48) (by decide)
          refine lv_iconst (v := 0) hx hb dMO_start_51 (by decide) ?_
          refine lv_istore_n (lv' := [(3, .int 0), (0, .ref (o 0)), (2, .int x43_2)]) hx hb dMO_start_52 rfl hl (by decide) rfl (fun ls hl => ?_)
          exact hL53 61 H locs ls P_43 S_43 x43_2 0 r_x43_2 (show zr 0 60 0 from by decide) gP_43 gS_43 hm43 iM_43 iO_43 (by have h9 := (show zr 0 0 0 from by decide); exact zfuelU h9 (by decide)) E hP hD hS (lv_sub hl [1, 2, 0] rfl)
    refine m_put_3 hx hb (hB.words zU_MO) hown hK hP hD hS (hB.word (zm4 k4_114) rfl) dMO_start_13 E (fun S21 H22 locs eS21 E hP hD hS => ?_)
    have gS21 : mok S21 := by rw [eS21]; exact gS_13.setI (t := 3) (zr_mono r_y13_0 (by decide))
    refine lv_aload_n hx hb dMO_start_16 rfl (lv_at hl 0 rfl) ?_
    refine m_get_3 hx hb (hB.words zU_MO) hown hK hP (hB.word (zm4 k4_114) rfl) dMO_start_17 E (fun k23 ek23 E => ?_)
    have x9 : y13_0 = k23 := by rw [ek23, eS21]; rfl
    subst x9
    refine z_if_le (tgt := 25) hx hb dMO_start_20 (by decide) E (fun c_20 E => ?_) (fun c_20 E => ?_)
    · have r_y13_0 : zr 0 0 y13_0 := zle_x r_y13_0 (show zr 0 0 0 from by decide) c_20 (by decide)
      refine lv_aload_n hx hb dMO_start_25 rfl (lv_at hl 0 rfl) ?_
      refine zcI (va_runV (As := []) (rest := []) ⟨hx, hb, hml, hown, zno⟩ (tMO_faultOf l dC dI cI cZ cJ cA a0 s0 o b P_13 S21 H22.size gP_13 gS21 iM_13) (zcw 0 (hB.word (zm5 k5_72) rfl) (hB.word (zm1 k1_9) rfl) (hB.word (zm5 k5_69) rfl) (hB.word (zm5 k5_71) rfl) (k2_selects_private (by decide) (hB.word (zm4 k4_109) rfl) (hB.word (zm5 k5_70) rfl) (hB.word (zm5 k5_71) rfl)) rfl rfl (by decide +kernel) ⟨Nat.le_of_ble_eq_true rfl, Nat.le_of_ble_eq_true rfl⟩) ⟨zP_blind, va_recv hK hP (ci := 7) (q0 := 0) rfl rfl, zP_pre hP hK hD hAD (zB_on hB hA0 hS)⟩ rfl rfl hl.1 rfl (lv_room (Nat.le_of_ble_eq_true rfl)) dMO_start_26 ⟨Nat.le_of_ble_eq_true rfl, Nat.le_of_ble_eq_true rfl⟩) hD hS hA (fun k25 x9 H24 locs h28 hP hD hS => ?_)
      obtain ⟨P27, S26⟩ := x9
      have hP : va_P (dC, dI) zCl (MW cI cZ cA o b P27 S26) H24 := hP
      have hD : va_D A (MW cI cZ cA o b P27 S26) := hD
      have E := zl3_s E h28.1
      have gP27 := h28.2.1
      have gS26 := h28.2.2.1
      have iM_P27 := h28.2.2.2.1
      refine lv_istore_n (lv' := [(1, .int k25), (0, .ref (o 0))]) hx hb dMO_start_29 rfl hl (by decide) rfl (fun ls hl => ?_)
      refine lv_iload_n hx hb dMO_start_30 rfl (lv_at hl 0 rfl) ?_
      refine z_if_le (tgt := 36) hx hb dMO_start_31 (by decide) E (fun c_31 E => ?_) (fun c_31 E => ?_)
      · have r_k25 : zr 0 0 k25 := zle_x h28.2.2.2.2 (show zr 0 0 0 from by decide) c_31 (by decide)
        have iO9 : zMOw P27 := (zfo gP_13 h28.1).2 c_31
        refine lv_aload_n hx hb dMO_start_36 rfl (lv_at hl 1 rfl) ?_
        refine lv_iconst (v := 1) hx hb dMO_start_37 (by decide) ?_
        refine m_put_0 hx hb (hB.words zU_MO) hown hK hP hD hS (hB.word (zm4 k4_115) rfl) (show zr 0 1 1 from by decide) dMO_start_38 E (fun P29 H30 locs eP29 E hP hD hS => ?_)
        have gP29 : mok P29 := by rw [eP29]; exact gP27.setI (t := 0) (show zr 0 1 1 from by decide)
        have iM_P29 : zM P29 := by rw [eP29]; exact zM_I iM_P27
        have iO_P29 : zMOw P29 := by rw [eP29]; exact zMOw_I iO9
        refine lv_iconst (v := 0) hx hb dMO_start_41 (by decide) ?_
        refine lv_istore_n (lv' := [(2, .int 0), (1, .int k25), (0, .ref (o 0))]) hx hb dMO_start_42 rfl hl (by decide) rfl (fun ls hl => ?_)
        exact hL43 49 H30 locs ls P29 S26 0 (show zr 0 48 0 from by decide) gP29 gS26 iM_P29 iO_P29 (by have h9 := (show zr 0 0 0 from by decide); exact zfuelU h9 (by decide)) E hP hD hS (lv_sub hl [2, 0] rfl)
      · have r_k25 : zr 1 7 k25 := zlt_y (show zr 0 0 0 from by decide) h28.2.2.2.2 (znle c_31) (by decide)
        refine lv_iload_n hx hb dMO_start_34 rfl (lv_at hl 0 rfl) ?_
        rw [hQe]
        exact W.iret (v := k25) hx hb hr (fun t ht hW => ⟨⟨k25, (P27, S26), rfl, ⟨E.symm.trans etg, gP27, gS26, iM_P27, (zr_mono r_k25 (by decide))⟩, by rw [ht]; exact hP, hD⟩, hS.F ht⟩) hS.2.2 dMO_start_35
    · have r_y13_0 : zr 1 1 y13_0 := zlt_y (show zr 0 0 0 from by decide) r_y13_0 (znle c_20) (by decide)
      refine lv_iconst (v := 0) hx hb dMO_start_23 (by decide) ?_
      rw [hQe]
      exact W.iret (v := 0) hx hb hr (fun t ht hW => ⟨⟨0, (P_13, S21), rfl, ⟨E.symm.trans etg, gP_13, gS21, iM_13, (show zr 0 7 0 from by decide)⟩, by rw [ht]; exact hP, hD⟩, hS.F ht⟩) hS.2.2 dMO_start_24
  refine lv_aload_n hx hb dMO_start_0 rfl (lv_at hl 0 rfl) ?_
  refine lv_aload_n hx hb dMO_start_1 rfl (lv_at hl 0 rfl) ?_
  refine m_get_0 hx hb (hB.words zU_MO) hown hK hP (hB.word (zm4 k4_115) rfl) dMO_start_2 E (fun k31 ek31 E => ?_)
  have r_k31 : zr 0 1 k31 := by rw [ek31]; exact gP.2.1 0
  refine z_if_eq (tgt := 12) hx hb dMO_start_5 (by decide) E (fun c_5 E => ?_) (fun c_5 E => ?_)
  · have r_k31 : zr 0 0 k31 := zeq_x (show zr 0 0 0 from by decide) c_5
    refine lv_iconst (v := 0) hx hb dMO_start_12 (by decide) ?_
    exact hJ13 s.heap [] ls P S 0 (show zr 0 1 0 from by decide) gP gS iM E hP hD hS (lv_sub hl [0] rfl)
  · have r_k31 : zr 1 1 k31 := zne_lo r_k31 c_5 (by decide)
    refine lv_iconst (v := 1) hx hb dMO_start_8 (by decide) ?_
    refine lv_goto (tgt := 13) hx hb dMO_start_9 (by decide) ?_
    exact hJ13 s.heap [] ls P S 1 (show zr 0 1 1 from by decide) gP gS iM E hP hD hS (lv_sub hl [0] rfl)
