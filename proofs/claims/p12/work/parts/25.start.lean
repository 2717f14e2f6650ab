theorem k2_197 : tables_1_2[197]? = some (Jvm.Cond.methodLink "RingGuard" (100 : Nat) ({ cls := "RingGuard$Plan", name := "firstFault", desc := "(LRingGuard$Groups;)I" } : Jvm.MethodName)) := by decide +kernel
theorem k2_198 : tables_1_2[198]? = some (Jvm.Cond.instanceMethod ({ cls := "RingGuard$Plan", name := "firstFault", desc := "(LRingGuard$Groups;)I" } : Jvm.MethodName)) := by decide +kernel
theorem k2_199 : tables_1_2[199]? = some (Jvm.Cond.selects "RingGuard$Plan" ({ cls := "RingGuard$Plan", name := "firstFault", desc := "(LRingGuard$Groups;)I" } : Jvm.MethodName) ({ cls := "RingGuard$Plan", name := "firstFault", desc := "(LRingGuard$Groups;)I" } : Jvm.MethodName)) := by decide +kernel
theorem k2_200 : tables_1_2[200]? = some (Jvm.Cond.code ({ cls := "RingGuard$Plan", name := "firstFault", desc := "(LRingGuard$Groups;)I" } : Jvm.MethodName) prog_5_method_7_code (4 : Nat) (Option.some Jvm.ClassFile.FieldType.int)) := rfl
theorem k3_9 : tables_1_3[9]? = some (Jvm.Cond.methodLink "RingGuard" (108 : Nat) ({ cls := "RingGuard$Plan", name := "layPorts", desc := "()V" } : Jvm.MethodName)) := by decide +kernel
theorem k3_10 : tables_1_3[10]? = some (Jvm.Cond.instanceMethod ({ cls := "RingGuard$Plan", name := "layPorts", desc := "()V" } : Jvm.MethodName)) := by decide +kernel
theorem k3_11 : tables_1_3[11]? = some (Jvm.Cond.selects "RingGuard$Plan" ({ cls := "RingGuard$Plan", name := "layPorts", desc := "()V" } : Jvm.MethodName) ({ cls := "RingGuard$Plan", name := "layPorts", desc := "()V" } : Jvm.MethodName)) := by decide +kernel
theorem k3_12 : tables_1_3[12]? = some (Jvm.Cond.code ({ cls := "RingGuard$Plan", name := "layPorts", desc := "()V" } : Jvm.MethodName) prog_5_method_6_code (3 : Nat) (Option.none : Option Jvm.ClassFile.FieldType)) := rfl
theorem k3_13 : tables_1_3[13]? = some (Jvm.Cond.methodLink "RingGuard" (111 : Nat) ({ cls := "RingGuard$Protocol", name := "takeAllHolds", desc := "()V" } : Jvm.MethodName)) := by decide +kernel
theorem k3_14 : tables_1_3[14]? = some (Jvm.Cond.instanceMethod ({ cls := "RingGuard$Protocol", name := "takeAllHolds", desc := "()V" } : Jvm.MethodName)) := by decide +kernel
theorem k3_15 : tables_1_3[15]? = some (Jvm.Cond.selects "RingGuard$Protocol" ({ cls := "RingGuard$Protocol", name := "takeAllHolds", desc := "()V" } : Jvm.MethodName) ({ cls := "RingGuard$Protocol", name := "takeAllHolds", desc := "()V" } : Jvm.MethodName)) := by decide +kernel
theorem k3_16 : tables_1_3[16]? = some (Jvm.Cond.code ({ cls := "RingGuard$Protocol", name := "takeAllHolds", desc := "()V" } : Jvm.MethodName) prog_6_method_5_code (2 : Nat) (Option.none : Option Jvm.ClassFile.FieldType)) := rfl
abbrev yRG_start : MethodName := ⟨"RingGuard", "start", "()I"⟩
abbrev bRG_start : ByteArray := prog_1_method_5_code
theorem dRG_start_0 : decode bRG_start 0 = .ok (.aload_n 0, 1) := by decide +kernel
theorem dRG_start_1 : decode bRG_start 1 = .ok (.invokevirtual 55, 3) := by decide +kernel
theorem dRG_start_4 : decode bRG_start 4 = .ok (.aload_n 0, 1) := by decide +kernel
theorem dRG_start_5 : decode bRG_start 5 = .ok (.getfield 12, 3) := by decide +kernel
theorem dRG_start_8 : decode bRG_start 8 = .ok (.aload_n 0, 1) := by decide +kernel
theorem dRG_start_9 : decode bRG_start 9 = .ok (.getfield 51, 3) := by decide +kernel
theorem dRG_start_12 : decode bRG_start 12 = .ok (.invokevirtual 100, 3) := by decide +kernel
theorem dRG_start_15 : decode bRG_start 15 = .ok (.istore_n 1, 1) := by decide +kernel
theorem dRG_start_16 : decode bRG_start 16 = .ok (.iload_n 1, 1) := by decide +kernel
theorem dRG_start_17 : decode bRG_start 17 = .ok (.ifCond .ne 22, 3) := by decide +kernel
theorem dRG_start_20 : decode bRG_start 20 = .ok (.aload_n 0, 1) := by decide +kernel
theorem dRG_start_21 : decode bRG_start 21 = .ok (.iconst 1, 1) := by decide +kernel
theorem dRG_start_22 : decode bRG_start 22 = .ok (.putfield 104, 3) := by decide +kernel
theorem dRG_start_25 : decode bRG_start 25 = .ok (.aload_n 0, 1) := by decide +kernel
theorem dRG_start_26 : decode bRG_start 26 = .ok (.getfield 12, 3) := by decide +kernel
theorem dRG_start_29 : decode bRG_start 29 = .ok (.invokevirtual 108, 3) := by decide +kernel
theorem dRG_start_32 : decode bRG_start 32 = .ok (.aload_n 0, 1) := by decide +kernel
theorem dRG_start_33 : decode bRG_start 33 = .ok (.getfield 35, 3) := by decide +kernel
theorem dRG_start_36 : decode bRG_start 36 = .ok (.invokevirtual 111, 3) := by decide +kernel
theorem dRG_start_39 : decode bRG_start 39 = .ok (.iload_n 1, 1) := by decide +kernel
theorem dRG_start_40 : decode bRG_start 40 = .ok (.ireturn, 1) := by decide +kernel
/-! what an accepted plan says; what layPorts lays -/
theorem zfix_0 {α : Type} (d : α) (f : α → α) : zfix d f 0 = d := (Classical.choose_spec (zfix_ex d f)).1
/-- all but row k is the same -/
def zk (k : Nat) (P P' : ZS) : Prop := P'.I = P.I ∧ ∀ q, q ≠ k → P'.F q = P.F q
theorem zk.rf {k : Nat} {P : ZS} : zk k P P := ⟨rfl, fun _ _ => rfl⟩
theorem zk.tr {k : Nat} {P P' Q : ZS} (h : zk k P P') (h2 : zk k P' Q) : zk k P Q := ⟨h2.1.trans h.1, fun q hq => (h2.2 q hq).trans (h.2 q hq)⟩
theorem zk.set {k : Nat} {P : ZS} {i : Nat} {v : Int32} : zk k P (P.setF k i v) := ⟨rfl, fun _ hq => ZS.row_ne P _ hq⟩
theorem zk_hl {k : Nat} {P P' S S' : ZS} {r : Int32} (h : zk k P P') (h2 : 2 ≠ k) : fPL_hasLinks P' S' r = fPL_hasLinks P S r := by
  have e : fPL_hasLinks_2 P' S' = fPL_hasLinks_2 P S := by
    funext rc x y
    unfold fPL_hasLinks_2
    rw [h.1, h.2 2 h2]
  unfold fPL_hasLinks
  rw [e]
theorem zk_po {k : Nat} {P P' S S' : ZS} {x y : Int32} (h : zk k P P') (h0 : 0 ≠ k) (h1 : 1 ≠ k) : fPL_portOf P' S' x y = fPL_portOf P S x y := by
  unfold fPL_portOf
  rw [h.2 0 h0, h.2 1 h1]
theorem zk_ho {P P' S S' : ZS} {r : Int32} (h : zk 8 P P') : fPL_hasRightOwner P' S' r = fPL_hasRightOwner P S r := by
  unfold fPL_hasRightOwner fPL_hasRightOwner_41
  simp only [zl]
  rw [h.2 4 (by decide), h.2 2 (by decide), h.2 3 (by decide), zk_po (S := S) (S' := S') h (by decide) (by decide)]
theorem zshape_k : ∀ (n : Nat) (P S : ZS) (x1 x2 x3 x4 x5 x6 : Int32), zk 8 P (zfix (fun P9 S9 _ _ _ _ _ _ => (P9, S9, 0)) fPL_hasRightShape_12 n P S x1 x2 x3 x4 x5 x6).1 := by
  intro n
  induction n with
  | zero => intro P S x1 x2 x3 x4 x5 x6; rw [zfix_0]; exact zk.rf
  | succ n ih =>
    intro P S x1 x2 x3 x4 x5 x6
    rw [zfix_s]
    simp only [fPL_hasRightShape_12, fPL_hasRightShape_50, fPL_hasRightShape_66, fPL_hasRightShape_90, fPL_hasRightShape_91, fPL_hasRightShape_117, fPL_hasRightShape_134, fPL_hasRightShape_151, fPL_hasRightShape_178, zl, zl2]
    repeat' split
    all_goals first | exact zk.rf | exact zk.set | exact ih _ _ _ _ _ _ _ _
theorem zshape_P {P S : ZS} {x y : Int32} : zk 8 P (fPL_hasRightShape P S x y).1 := zshape_k _ _ _ _ _ _ _ _ _
/-- an accepted plan: a ring with links has a right owner -/
def zOwned (P : ZS) : Prop := ∀ (S : ZS) (r : Int32), zr 0 5 r → ¬ fPL_hasLinks P S r = 0 → ¬ fPL_hasRightOwner P S r = 0
theorem zff_loop : ∀ (n : Nat) (P S : ZS) (f r : Int32), zr 0 6 r → 6 - r.toInt < (n : Int) →
    zk 8 P (zfix (fun P9 S9 _ _ => (P9, S9, 0)) fPL_firstFault_21 n P S f r).1 ∧
    ((zfix (fun P9 S9 _ _ => (P9, S9, 0)) fPL_firstFault_21 n P S f r).2.2 = 0 → ∀ (S' : ZS) (q : Int32), zr r.toInt 5 q → ¬ fPL_hasLinks P S' q = 0 → ¬ fPL_hasRightOwner P S' q = 0) := by
  intro n
  induction n with
  | zero => intro P S f r h1 h2; have := h1.2; omega
  | succ n ih =>
    intro P S f r h1 h2
    have q0 := h1.1
    have q6 := h1.2
    rw [zfix_s]
    unfold fPL_firstFault_21
    by_cases c : 6 ≤ r
    · rw [if_pos c]
      refine ⟨zk.rf, fun _ S' q hq => ?_⟩
      have c' := Int32.le_iff_toInt_le.mp c
      have z6 : (6 : Int32).toInt = 6 := by decide
      have := hq.1
      have := hq.2
      omega
    · rw [if_neg c]
      have c' : r.toInt < 6 := by
        have := Int32.lt_iff_toInt_lt.mp (znle c)
        have z6 : (6 : Int32).toInt = 6 := by decide
        omega
      have e1 : (r + 1).toInt = r.toInt + 1 := zx1 (a := 0) (b := 6) h1 (by decide)
      have e2 : (1 + r).toInt = r.toInt + 1 := by rw [Int32.add_comm]; exact e1
      have ne0 : ¬ (1 + r : Int32) = 0 := fun h => by
        have := congrArg Int32.toInt h
        have z0 : (0 : Int32).toInt = 0 := by decide
        omega
      have rn : zr 0 6 (r + 1) := ⟨by omega, by omega⟩
      simp only [zl, zl3, fPL_firstFault_62, fPL_firstFault_56]
      by_cases k4 : fPL_hasLinks P S r = 0
      · rw [if_pos k4]
        obtain ⟨a1, a2⟩ := ih P S f (r + 1) rn (by omega)
        refine ⟨a1, fun h S' q hq hl => ?_⟩
        by_cases e : q = r
        · subst e
          exact absurd ((zk_hl (S := S) (S' := S') zk.rf (by decide : (2 : Nat) ≠ 8)).trans k4) hl
        · have hne : q.toInt ≠ r.toInt := fun h => e (Int32.toInt_inj.mp h)
          have g1 := hq.1
          exact a2 h S' q ⟨by omega, hq.2⟩ hl
      · rw [if_neg k4]
        have hs := zshape_P (P := P) (S := S) (x := r) (y := f)
        by_cases k6 : (fPL_hasRightShape P S r f).2.2 = 0
        · rw [if_pos k6]
          exact ⟨hs, fun h => absurd h ne0⟩
        · rw [if_neg k6]
          by_cases k11 : fPL_hasRightOwner (fPL_hasRightShape P S r f).1 (fPL_hasRightShape P S r f).2.1 r = 0
          · rw [if_pos k11]
            exact ⟨hs, fun h => absurd h ne0⟩
          · rw [if_neg k11]
            obtain ⟨a1, a2⟩ := ih (fPL_hasRightShape P S r f).1 (fPL_hasRightShape P S r f).2.1 0 (r + 1) rn (by omega)
            refine ⟨hs.tr a1, fun h S' q hq hl => ?_⟩
            by_cases e : q = r
            · subst e
              rw [zk_ho (S := S') (S' := (fPL_hasRightShape P S q f).2.1) hs] at k11
              exact k11
            · have hne : q.toInt ≠ r.toInt := fun h => e (Int32.toInt_inj.mp h)
              have g1 := hq.1
              have a3 := a2 h S' q ⟨by omega, hq.2⟩ (by rw [zk_hl (S := S') hs (by decide)]; exact hl)
              rw [zk_ho (S := S') hs] at a3
              exact a3
theorem zff {P S P1 S1 : ZS} {k : Int32} (h : (P1, S1, k) = fPL_firstFault P S) : zk 8 P P1 ∧ (k = 0 → zOwned P1) := by
  simp only [fPL_firstFault, fPL_firstFault_14, zl] at h
  have ne7 : ¬ (7 : Int32) = 0 := by decide
  split at h
  · cases h
    exact ⟨zk.rf, fun q => absurd q ne7⟩
  · split at h
    · obtain ⟨a1, a2⟩ := zff_loop 7 P S 1 0 (by decide) (by decide)
      rw [← h] at a1 a2
      refine ⟨a1, fun q S' r hr hl => ?_⟩
      have b := a2 q S' r hr (by rw [← zk_hl (S := S') (S' := S') a1 (by decide)]; exact hl)
      rw [← zk_ho (S := S') (S' := S') a1] at b
      exact b
    · cases h
      exact ⟨zk.rf, fun q => absurd q ne7⟩
theorem zho_of {P S : ZS} {r : Int32} (h : ¬ fPL_hasRightOwner P S r = 0) : ¬ P.F 4 r.toNatClampNeg = -1 ∧ P.F 2 (P.F 4 r.toNatClampNeg).toNatClampNeg = r ∧ ¬ fPL_portOf P S (P.F 3 r.toNatClampNeg) (P.F 4 r.toNatClampNeg) = -1 := by
  simp only [fPL_hasRightOwner, fPL_hasRightOwner_41, zl] at h
  split at h
  · exact absurd rfl h
  · rename_i c1
    split at h
    · rename_i c2
      split at h
      · exact absurd rfl h
      · rename_i c3
        exact ⟨c1, c2, c3⟩
    · exact absurd rfl h
theorem zLP_of {P1 : ZS} (g : cok P1) (ho : zOwned P1) : zLP P1 := fun S' r hr hl => by
  have q : zr (-1) 59 (P1.F 4 r.toNatClampNeg) := g.1 4 _
  exact zne_lo q (zho_of (ho S' r hr hl)).1 (by decide)
theorem zOwned_I {P : ZS} {v : Int32} (h : zOwned P) : zOwned (P.setI 2 v) := h
/-- the plan before the start -/
def zPre (P : ZS) : Prop := (∀ j, P.F 7 j = -1) ∧ (∀ j, P.F 6 j = -1) ∧ (∀ q : Int32, zr 0 119 q → q.toInt < 2 * (P.I 1).toInt → P.F 5 q.toNatClampNeg - P.F 5 q.toNatClampNeg / 6 * 6 = P.F 2 (q / 2).toNatClampNeg) ∧ (∀ j, P.F 4 j = -1 ∨ (P.F 4 j).toInt < (P.I 1).toInt)
theorem zPre_I {P : ZS} {v : Int32} (h : zPre P) : zPre (P.setI 2 v) := h
theorem zPre_k {P P' : ZS} (h : zPre P) (hk : zk 8 P P') : zPre P' := by
  obtain ⟨h1, h2, h3, h4⟩ := h
  refine ⟨?_, ?_, ?_, ?_⟩
  · rw [hk.2 7 (by decide)]; exact h1
  · rw [hk.2 6 (by decide)]; exact h2
  · rw [hk.1, hk.2 5 (by decide), hk.2 2 (by decide)]; exact h3
  · rw [hk.1, hk.2 4 (by decide)]; exact h4
theorem zPre_of {P S P1 S1 : ZS} {k : Int32} (h : zPre P) (e : (P1, S1, k) = fPL_firstFault P S) : zPre P1 := zPre_k h (zff e).1
theorem zhl_ex {P S : ZS} (g : cok P) {r l : Int32} (hl0 : 0 ≤ l.toInt) (hl : l.toInt < (P.I 1).toInt) (hr : P.F 2 l.toNatClampNeg = r) : ¬ fPL_hasLinks P S r = 0 := by
  have rI : zr 0 60 (P.I 1) := g.2.1 1
  have r2 := rI.2
  have key : ∀ (n : Nat) (x : Int32), 0 ≤ x.toInt → x.toInt ≤ l.toInt → l.toInt - x.toInt < (n : Int) → zfix (fun _ _ => 0) (fPL_hasLinks_2 P S) n r x = 1 := by
    intro n
    induction n with
    | zero => intro x h0 h1 h2; omega
    | succ n ih =>
      intro x h0 h1 h2
      rw [zfix_s]
      have c1 : ¬ P.I 1 ≤ x := fun h => by have := Int32.le_iff_toInt_le.mp h; omega
      simp only [fPL_hasLinks_2, zl, if_neg c1]
      split
      · rfl
      · rename_i c2
        have e : (x + 1).toInt = x.toInt + 1 := zx1 (a := 0) (b := 60) ⟨h0, by omega⟩ (by decide)
        have hne : x.toInt ≠ l.toInt := fun h => c2 (by rw [Int32.toInt_inj.mp h]; exact hr)
        exact ih (x + 1) (by omega) (by omega) (by omega)
  have z0 : (0 : Int32).toInt = 0 := by decide
  unfold fPL_hasLinks
  rw [key 61 0 (by decide) (by omega) (by omega)]
  decide
/-- an entry of portsAt: a port of that place -/
def zentry (P : ZS) (j : Nat) (v : Int32) : Prop := v = -1 ∨ (zr 0 119 v ∧ v.toInt < 2 * (P.I 1).toInt ∧ (P.F 5 v.toNatClampNeg).toNatClampNeg = j / 2)
theorem zent_set {P0 P : ZS} {i : Nat} {v : Int32} (h : ∀ j, zentry P0 j (P.F 7 j)) (hv : zentry P0 i v) : ∀ j, zentry P0 j ((P.setF 7 i v).F 7 j) := fun j => by
  rw [show (P.setF 7 i v).F 7 = upd (P.F 7) i v from ZS.row_self _ _ _]
  unfold upd
  by_cases e : j = i
  · rw [if_pos e, e]; exact hv
  · rw [if_neg e]; exact h j
theorem zlay1 {P0 : ZS} (g0 : cok P0) : ∀ (n : Nat) (P S : ZS) (x : Int32), zk 7 P0 P → (∀ j, zentry P0 j (P.F 7 j)) → 0 ≤ x.toInt → x.toInt ≤ 2 * (P0.I 1).toInt → 2 * (P0.I 1).toInt - x.toInt + 1 ≤ (n : Int) →
    ∃ P1 : ZS, zk 7 P0 P1 ∧ (∀ j, zentry P0 j (P1.F 7 j)) ∧ zfix (fun P9 S9 _ => (P9, S9)) fPL_layPorts_2 n P S x = zfix (fun P9 S9 _ => (P9, S9)) fPL_layPorts_52 7 P1 S 0 := by
  have rI : zr 0 60 (P0.I 1) := g0.2.1 1
  have rI1 := rI.1
  have rI2 := rI.2
  have z2 : (2 : Int32).toInt = 2 := by decide
  have e2 : (2 * P0.I 1).toInt = 2 * (P0.I 1).toInt := by rw [Int32.toInt_mul, z2, zbm ⟨by omega, by omega⟩]
  intro n
  induction n with
  | zero => intro P S x hk hent h0 h1 hn; omega
  | succ n ih =>
    intro P S x hk hent h0 h1 hn
    rw [zfix_s]
    unfold fPL_layPorts_2
    simp only [zl]
    rw [hk.1]
    by_cases c : 2 * P0.I 1 ≤ x
    · rw [if_pos c]
      exact ⟨P, hk, hent, rfl⟩
    · rw [if_neg c]
      have c' := Int32.lt_iff_toInt_lt.mp (znle c)
      have ex : (x + 1).toInt = x.toInt + 1 := zx1 (a := 0) (b := 200) ⟨h0, by omega⟩ (by decide)
      have rx : zr 0 119 x := ⟨h0, by omega⟩
      rw [hk.2 5 (by decide)]
      have rp : zr 0 287 (P0.F 5 x.toNatClampNeg) := g0.1 5 _
      have ep := z2x rp
      have rp1 := rp.1
      have rp2 := rp.2
      have tp := ztn rp (by decide)
      have ra : zr 0 1000 (2 * P0.F 5 x.toNatClampNeg) := ⟨by omega, by omega⟩
      have ta := ztn ra (by decide)
      have ea : (2 * P0.F 5 x.toNatClampNeg + 1).toInt = 2 * (P0.F 5 x.toNatClampNeg).toInt + 1 := by rw [zx1 ra (by decide), ep]
      have rb : zr 0 1000 (2 * P0.F 5 x.toNatClampNeg + 1) := ⟨by omega, by omega⟩
      have tb := ztn rb (by decide)
      simp only [fPL_layPorts_42, zl]
      split
      · exact ih _ S (x + 1) (hk.tr zk.set) (zent_set hent (Or.inr ⟨rx, by omega, by omega⟩)) (by omega) (by omega) (by omega)
      · exact ih _ S (x + 1) (hk.tr zk.set) (zent_set hent (Or.inr ⟨rx, by omega, by omega⟩)) (by omega) (by omega) (by omega)
/-- what layPorts lays as a ring's owner's port -/
noncomputable def zGi (P S : ZS) (r : Int32) : Int32 := if fPL_hasLinks P S r = 0 then -1 else fPL_portOf P S (P.F 3 r.toNatClampNeg) (P.F 4 r.toNatClampNeg)
theorem zlay2 {P1 S0 : ZS} : ∀ (n : Nat) (P S : ZS) (x : Int32), zk 6 P1 P → (∀ j, P.F 6 j = -1 ∨ ∃ r, zr 0 5 r ∧ j = r.toNatClampNeg ∧ P.F 6 j = zGi P1 S0 r) → (∀ r : Int32, zr 0 5 r → r.toInt < x.toInt → P.F 6 r.toNatClampNeg = zGi P1 S0 r) → zr 0 6 x → 6 - x.toInt + 1 ≤ (n : Int) →
    ∃ P2 : ZS, zk 6 P1 P2 ∧ (∀ j, P2.F 6 j = -1 ∨ ∃ r, zr 0 5 r ∧ j = r.toNatClampNeg ∧ P2.F 6 j = zGi P1 S0 r) ∧ (∀ r : Int32, zr 0 5 r → P2.F 6 r.toNatClampNeg = zGi P1 S0 r) ∧ zfix (fun P9 S9 _ => (P9, S9)) fPL_layPorts_52 n P S x = (P2, S) := by
  have z6 : (6 : Int32).toInt = 6 := by decide
  intro n
  induction n with
  | zero => intro P S x hk h1 h2 hx hn; have := hx.2; omega
  | succ n ih =>
    intro P S x hk h1 h2 hx hn
    have x0 := hx.1
    have x6 := hx.2
    rw [zfix_s]
    unfold fPL_layPorts_52
    by_cases c : 6 ≤ x
    · rw [if_pos c]
      have c' := Int32.le_iff_toInt_le.mp c
      exact ⟨P, hk, h1, fun r hr => h2 r hr (by have := hr.2; omega), rfl⟩
    · rw [if_neg c]
      have c' := Int32.lt_iff_toInt_lt.mp (znle c)
      have ex : (x + 1).toInt = x.toInt + 1 := zx1 (a := 0) (b := 200) ⟨x0, by omega⟩ (by decide)
      have rx : zr 0 5 x := ⟨x0, by omega⟩
      have tx := ztn rx (by decide)
      have step : ∀ v : Int32, v = zGi P1 S0 x → ∃ P2 : ZS, zk 6 P1 P2 ∧ (∀ j, P2.F 6 j = -1 ∨ ∃ r, zr 0 5 r ∧ j = r.toNatClampNeg ∧ P2.F 6 j = zGi P1 S0 r) ∧ (∀ r : Int32, zr 0 5 r → P2.F 6 r.toNatClampNeg = zGi P1 S0 r) ∧ zfix (fun P9 S9 _ => (P9, S9)) fPL_layPorts_52 n (P.setF 6 x.toNatClampNeg v) S (x + 1) = (P2, S) := by
        intro v hv
        have hF : ∀ j, (P.setF 6 x.toNatClampNeg v).F 6 j = if j = x.toNatClampNeg then v else P.F 6 j := fun j => by
          rw [show (P.setF 6 x.toNatClampNeg v).F 6 = upd (P.F 6) x.toNatClampNeg v from ZS.row_self _ _ _]
          rfl
        refine ih _ S (x + 1) (hk.tr zk.set) (fun j => ?_) (fun r hr hrx => ?_) ⟨by omega, by omega⟩ (by omega)
        · rw [hF j]
          by_cases e : j = x.toNatClampNeg
          · rw [if_pos e]
            exact Or.inr ⟨x, rx, e, hv⟩
          · rw [if_neg e]
            exact h1 j
        · rw [hF]
          have tr := ztn hr (by decide)
          by_cases e : r = x
          · subst e
            rw [if_pos rfl]
            exact hv
          · have hne : r.toInt ≠ x.toInt := fun h => e (Int32.toInt_inj.mp h)
            rw [if_neg (by omega)]
            exact h2 r hr (by omega)
      simp only [fPL_layPorts_91, zl]
      rw [zk_hl (S := S0) hk (by decide), hk.2 3 (by decide), hk.2 4 (by decide), zk_po (S := S0) hk (by decide) (by decide)]
      by_cases k5 : fPL_hasLinks P1 S0 x = 0
      · rw [if_pos k5]
        exact step _ (by unfold zGi; rw [if_pos k5])
      · rw [if_neg k5]
        exact step _ (by unfold zGi; rw [if_neg k5])
theorem zQ_lay {P S P2 S2 : ZS} (g : cok P) (hp : zPre P) (ho : zOwned P) (h : (P2, S2) = fPL_layPorts P S) : zQ P2 := by
  obtain ⟨hp1, hp2, hp3, hp4⟩ := hp
  have rI : zr 0 60 (P.I 1) := g.2.1 1
  have rI1 := rI.1
  have rI2 := rI.2
  have z0 : (0 : Int32).toInt = 0 := by decide
  have z2 : (2 : Int32).toInt = 2 := by decide
  obtain ⟨P1, k1, en, e1⟩ := zlay1 g 121 P S 0 zk.rf (fun j => Or.inl (hp1 j)) (by omega) (by omega) (by omega)
  obtain ⟨P3, k2, o1, o2, e2⟩ := zlay2 (P1 := P1) (S0 := S) 7 P1 S 0 zk.rf (fun j => Or.inl (by rw [k1.2 6 (by decide)]; exact hp2 j)) (fun r hr hx => by have := hr.1; omega) (by decide) (by decide)
  unfold fPL_layPorts at h
  rw [e1, e2] at h
  cases h
  have kI : P2.I = P.I := k2.1.trans k1.1
  have kF : ∀ q, q ≠ 6 → q ≠ 7 → P2.F q = P.F q := fun q h6 h7 => (k2.2 q h6).trans (k1.2 q h7)
  -- a ring with links has its owner's port
  have own : ∀ r : Int32, zr 0 5 r → ¬ fPL_hasLinks P S r = 0 → zr 0 119 (P2.F 6 r.toNatClampNeg) ∧ (P2.F 6 r.toNatClampNeg).toInt < 2 * (P.I 1).toInt := fun r hr hl => by
    obtain ⟨b1, b2, b3⟩ := zho_of (ho S r hr hl)
    have rl : zr (-1) 59 (P.F 4 r.toNatClampNeg) := g.1 4 _
    have rl2 : zr 0 59 (P.F 4 r.toNatClampNeg) := zne_lo rl b1 (by decide)
    have hG : P2.F 6 r.toNatClampNeg = fPL_portOf P S (P.F 3 r.toNatClampNeg) (P.F 4 r.toNatClampNeg) := by
      rw [o2 r hr]
      unfold zGi
      rw [zk_hl (S := S) k1 (by decide), if_neg hl, k1.2 3 (by decide), k1.2 4 (by decide), zk_po (S := S) k1 (by decide) (by decide)]
    have hpr := zport_r rl2 b3 hG
    have h4 := (hp4 r.toNatClampNeg).resolve_left b1
    exact ⟨hpr.1, by omega⟩
  -- a port of a link is a good one
  have q3 : ∀ q : Int32, zr 0 119 q → q.toInt < 2 * (P.I 1).toInt → zgt P2 q := fun q hq hl => by
    have q1 := hq.1
    have ed : (q / 2).toInt = q.toInt / 2 := by
      have hne : (2 : Int32) ≠ -1 := by decide
      first
        | rw [Int32.toInt_div_of_ne_right (Or.inr hne)]
        | rw [Int32.toInt_div_of_ne_right _ _ hne]
      rw [z2, Int.tdiv_eq_ediv_of_nonneg (by omega)]
    have hr : zr 0 5 (P.F 2 (q / 2).toNatClampNeg) := g.1 2 _
    have hx := own _ hr (zhl_ex (l := q / 2) g (by omega) (by omega) rfl)
    unfold zgt zgp zgr
    rw [kF 5 (by decide) (by decide), hp3 q hq hl]
    exact hx.1
  have en2 : ∀ j, P2.F 7 j = P1.F 7 j := fun j => by rw [k2.2 7 (by decide)]
  refine ⟨fun j => ?_, fun j => ?_, fun q hq hl => q3 q hq (by rw [kI] at hl; exact hl), fun q hq hne => ?_⟩
  · rw [en2 j]
    rcases en j with h | ⟨h1, h2, -⟩
    · exact Or.inl h
    · exact Or.inr (q3 _ h1 h2)
  · rcases o1 j with h | ⟨r, hr, rfl, h⟩
    · exact Or.inl h
    · by_cases hl : fPL_hasLinks P S r = 0
      · refine Or.inl ?_
        rw [h]
        unfold zGi
        rw [zk_hl (S := S) k1 (by decide), if_pos hl]
      · have hx := own r hr hl
        exact Or.inr (q3 _ hx.1 hx.2)
  · rw [en2] at hne
    rcases en (2 * q).toNatClampNeg with h | ⟨h1, h2, h3⟩
    · exact absurd h hne
    · have hg := q3 _ h1 h2
      have eq2 := z2x hq
      have qq1 := hq.1
      have qq2 := hq.2
      have ra : zr 0 1000 (2 * q) := ⟨by omega, by omega⟩
      have ta := ztn ra (by decide)
      have tq := ztn hq (by decide)
      have rp : zr 0 287 (P.F 5 (P1.F 7 (2 * q).toNatClampNeg).toNatClampNeg) := g.1 5 _
      have tp := ztn rp (by decide)
      have e : P2.F 5 (P1.F 7 (2 * q).toNatClampNeg).toNatClampNeg = q := by
        rw [kF 5 (by decide) (by decide)]
        apply Int32.toInt_inj.mp
        omega
      unfold zgt at hg
      rw [e] at hg
      exact hg
noncomputable def fRG_start_39 (P_39 : ZS) (S_39 : ZS) (x39_1 : Int32) : ZS × ZS × Int32 := (P_39, S_39, x39_1)
noncomputable def fRG_start (P S : ZS) : Except Nat (ZS × ZS × Int32) := zbind (fRG_requireNotStarted P S) (fun u1 => .ok (zl3 (fPL_firstFault P S) (fun P7 S6 k5 => (if k5 = 0 then zl (P7.setI 2 1) (fun P9 => zl2 (fPL_layPorts P9 S6) (fun P13 S12 => zl (fPR_takeAllHolds P13 S12) (fun S16 => fRG_start_39 P13 S16 k5))) else fRG_start_39 P7 S6 k5))))
set_option maxHeartbeats 4000000 in
set_option maxRecDepth 100000 in
theorem tRG_start (l : Launch) (dC : Nat → ClassId) (dI : Nat → Nat → Nat) (cI cZ cJ cA : ClassId) (a0 : Array Value) (s0 : State) (o b : Nat → Nat) (P S : ZS) (sz : Nat) (gP : cok P) (gS : cok S) (hPre : zPre P) (y : ZS × ZS × Int32) (hc : fRG_start P S  = .ok y) : Met l yRG_start [Cond.code yRG_start bRG_start 2 (some .int)] ({ frames := 6, cells := 0, slots := 0, locals := 142 } : Room) (zP zCl dC dI (zTZ cI cZ cJ cA) a0 s0 [.ref (o 0)] sz (CW cI cZ cA o b P S)) (zQH zCl dC dI (fun (r : Int32) (x9 : ZS × ZS) => (x9.1, x9.2, r) = y ∧ cok x9.1 ∧ cok x9.2 ∧ zr 0 7 r) (fun x9 : ZS × ZS => (CW cI cZ cA o b x9.1 x9.2)) (va_A (CW cI cZ cA o b P S) sz)) 0 0 (va_A (CW cI cZ cA o b P S) sz) := by
  refine Met.ofW (cc := bRG_start) (maxL := 2) (ret := (some .int)) (by decide) rfl ?_
  intro p e s m args below meth c s₁ B hml hv
  obtain ⟨rfl, hsz, hP, hK, hD0, hB⟩ := hv
  have hx := B.exec
  have hb := B.bytes
  have hr := B.returns
  have hown : s.vm.findClass "RingGuard" = some m.cls := findClass_of_methodNamed B.named
  have hlocks := B.notSynchronized
  subst hsz
  have hD := hD0.self (sz := s.heap.size)
  have hA0 := zA0 hD0 hB
  generalize hAe : va_A (CW cI cZ cA o b P S) s.heap.size = A at hD hA0 ⊢
  have hAD := hA0
  have hA : ∀ q : Nat, s.heap.size ≤ q → A q := fun q h => by rw [← hAe]; exact Or.inr h
  have hS : va_S A s.heap s.heap [] := va_S.rf
  have hl := lv_entry ([.ref (o 0)]) (n := 2) (Nat.le_of_ble_eq_true rfl)
  rw [lg_entry_eq]
  generalize (lg_sl ([.ref (o 0)]) ++ List.replicate (2 - (lg_sl ([.ref (o 0)])).length) Slot.unset).toArray = ls at hl ⊢
  have hl : lv_has ls 2 [(0, .ref (o 0))] := hl
  refine zgenQ (fun Q hQe => ?_)
  obtain ⟨tg, etg⟩ : ∃ z, z = fRG_start P S  := ⟨_, rfl⟩
  have E := etg
  unfold fRG_start at E
  have hJ39 : ∀ (H : Heap) (locs : List Loc) (ls : Array Slot) (P_39 : ZS) (S_39 : ZS) (x39_1 : Int32), zr 0 7 x39_1 → cok P_39 → cok S_39 → y = fRG_start_39  P_39 S_39 x39_1 → va_P (dC, dI) zCl (CW cI cZ cA o b P_39 S_39) H → va_D A (CW cI cZ cA o b P_39 S_39) → va_S A s.heap H locs → lv_has ls 2 [(1, .int x39_1)] → W p l e ({ frames := 6, cells := 0, slots := 0, locals := 142 } : Room) s m ([.ref (o 0)] : List Value).toArray below meth c H locs 0 0 Q (F0 m 39 ls []) := by
    intro H locs ls P_39 S_39 x39_1 r_x39_1 gP_39 gS_39 E hP hD hS hl
    unfold fRG_start_39 at E
    refine lv_iload_n hx hb dRG_start_39 rfl (lv_at hl 0 rfl) ?_
    rw [hQe]
    exact W.iret (v := x39_1) hx hb hr (fun t ht hW => ⟨⟨x39_1, (P_39, S_39), rfl, ⟨E.symm, gP_39, gS_39, r_x39_1⟩, by rw [ht]; exact hP, hD⟩, hS.F ht⟩) hS.2.2 dRG_start_40
  refine lv_aload_n hx hb dRG_start_0 rfl (lv_at hl 0 rfl) ?_
  refine z_bind E (fun k9 h2 E => ?_) (fun u1 h2 E => ?_)
  · cases E.symm.trans (etg.trans hc)
  · skip
    refine zcallo (va_runV (As := []) (rest := []) ⟨hx, hb, hml, hown, zno⟩ (tRG_requireNotStarted l dC dI cI cZ cJ cA a0 s0 o b P S s.heap.size gP gS u1 h2) (zcw 0 (hB.word (zm2 k2_70) rfl) (hB.word (zm1 k1_1) rfl) (hB.word (zm2 k2_67) rfl) (hB.word (zm2 k2_69) rfl) (k2_selects_private (by decide) (hB.word (zm1 k1_18) rfl) (hB.word (zm2 k2_68) rfl) (hB.word (zm2 k2_69) rfl)) rfl rfl (by decide +kernel) ⟨Nat.le_of_ble_eq_true rfl, Nat.le_of_ble_eq_true rfl⟩) ⟨zP_blind, va_recv hK hP (ci := 0) (q0 := 0) rfl rfl, zP_pre hP hK hD hAD (zB_on hB hA0 hS)⟩ rfl rfl hl.1 rfl (lv_room (Nat.le_of_ble_eq_true rfl)) dRG_start_1 ⟨Nat.le_of_ble_eq_true rfl, Nat.le_of_ble_eq_true rfl⟩) hS hA (fun H3 locs hz1 hk1 hS => ?_)
    have hP := zKeep hP hk1
    have E := zokE E (etg.trans hc)
    refine lv_aload_n hx hb dRG_start_4 rfl (lv_at hl 0 rfl) ?_
    refine c_getO_RG_plan hx hb (hB.words zU_RG) hown hK hP (hB.word (zm1 k1_235) rfl) dRG_start_5 ?_
    refine lv_aload_n hx hb dRG_start_8 rfl (lv_at hl 0 rfl) ?_
    refine c_getO_RG_groups hx hb (hB.words zU_RG) hown hK hP (hB.word (zm2 k2_0) rfl) dRG_start_9 ?_
    refine zcI (va_runV (As := [.ref (o 6)]) (rest := []) ⟨hx, hb, hml, hown, zno⟩ (tPL_firstFault l dC dI cI cZ cJ cA a0 s0 o b P S H3.size gP gS) (zcw 1 (hB.word (zm2 k2_200) rfl) (hB.word (zm1 k1_2) rfl) (hB.word (zm2 k2_197) rfl) (hB.word (zm2 k2_198) rfl) (hB.word (zm2 k2_199) rfl) rfl rfl (by decide +kernel) ⟨Nat.le_of_ble_eq_true rfl, Nat.le_of_ble_eq_true rfl⟩) ⟨zP_blind, va_recv hK hP (ci := 1) (q0 := 1) rfl rfl, zP_pre hP hK hD hAD (zB_on hB hA0 hS)⟩ rfl rfl hl.1 rfl (lv_room (Nat.le_of_ble_eq_true rfl)) dRG_start_12 ⟨Nat.le_of_ble_eq_true rfl, Nat.le_of_ble_eq_true rfl⟩) hD hS hA (fun k5 x9 H4 locs h8 hP hD hS => ?_)
    obtain ⟨P7, S6⟩ := x9
    have hP : va_P (dC, dI) zCl (CW cI cZ cA o b P7 S6) H4 := hP
    have hD : va_D A (CW cI cZ cA o b P7 S6) := hD
    have E := zl3_s E h8.1
    have gP7 := h8.2.1
    have gS6 := h8.2.2.1
    refine lv_istore_n (lv' := [(1, .int k5), (0, .ref (o 0))]) hx hb dRG_start_15 rfl hl (by decide) rfl (fun ls hl => ?_)
    refine lv_iload_n hx hb dRG_start_16 rfl (lv_at hl 0 rfl) ?_
    refine z_if_ne (tgt := 39) hx hb dRG_start_17 (by decide) E (fun c_17 E => ?_) (fun c_17 E => ?_)
    · have r_k5 : zr 1 7 k5 := zne_lo h8.2.2.2 c_17 (by decide)
      exact hJ39 H4 locs ls P7 S6 k5 (zr_mono r_k5 (by decide)) gP7 gS6 E hP hD hS (lv_sub hl [0] rfl)
    · have r_k5 : zr 0 0 k5 := zeq_x (show zr 0 0 0 from by decide) c_17
      have hOw : zOwned P7 := (zff h8.1).2 c_17
      have iL9 : zLP P7 := zLP_of gP7 hOw
      have hPre9 : zPre P7 := zPre_of hPre h8.1
      refine lv_aload_n hx hb dRG_start_20 rfl (lv_at hl 1 rfl) ?_
      refine lv_iconst (v := 1) hx hb dRG_start_21 (by decide) ?_
      refine c_put_2 hx hb (hB.words zU_RG) hown hK hP hD hS (hB.word (zm2 k2_1) rfl) (show zr 0 1 1 from by decide) dRG_start_22 E (fun P9 H10 locs eP9 E hP hD hS => ?_)
      have gP9 : cok P9 := by rw [eP9]; exact gP7.setI (t := 2) (show zr 0 1 1 from by decide)
      have iL_P9 : zLP P9 := by rw [eP9]; exact zLP_I iL9
      refine lv_aload_n hx hb dRG_start_25 rfl (lv_at hl 1 rfl) ?_
      refine c_getO_RG_plan hx hb (hB.words zU_RG) hown hK hP (hB.word (zm1 k1_235) rfl) dRG_start_26 ?_
      have hPre8 : zPre P9 := by rw [eP9]; exact zPre_I hPre9
      have hOw8 : zOwned P9 := by rw [eP9]; exact zOwned_I hOw
      refine zcV (va_runV (As := []) (rest := []) ⟨hx, hb, hml, hown, zno⟩ (tPL_layPorts l dC dI cI cZ cJ cA a0 s0 o b P9 S6 H10.size gP9 gS6 iL_P9) (zcw 0 (hB.word (zm3 k3_12) rfl) (hB.word (zm1 k1_2) rfl) (hB.word (zm3 k3_9) rfl) (hB.word (zm3 k3_10) rfl) (hB.word (zm3 k3_11) rfl) rfl rfl (by decide +kernel) ⟨Nat.le_of_ble_eq_true rfl, Nat.le_of_ble_eq_true rfl⟩) ⟨zP_blind, va_recv hK hP (ci := 1) (q0 := 1) rfl rfl, zP_pre hP hK hD hAD (zB_on hB hA0 hS)⟩ rfl rfl hl.1 rfl (lv_room (Nat.le_of_ble_eq_true rfl)) dRG_start_29 ⟨Nat.le_of_ble_eq_true rfl, Nat.le_of_ble_eq_true rfl⟩) hD hS hA (fun x9 H11 locs h14 hP hD hS => ?_)
      obtain ⟨P13, S12⟩ := x9
      have hP : va_P (dC, dI) zCl (CW cI cZ cA o b P13 S12) H11 := hP
      have hD : va_D A (CW cI cZ cA o b P13 S12) := hD
      have E := zl2_s E h14.1
      have gP13 := h14.2.1
      have gS12 := h14.2.2.1
      have iL_P13 := h14.2.2.2
      have gQ : zQ P13 := zQ_lay gP9 hPre8 hOw8 h14.1
      refine lv_aload_n hx hb dRG_start_32 rfl (lv_at hl 1 rfl) ?_
      refine c_getO_RG_protocol hx hb (hB.words zU_RG) hown hK hP (hB.word (zm1 k1_238) rfl) dRG_start_33 ?_
      refine zcV (va_runV (As := []) (rest := []) ⟨hx, hb, hml, hown, zno⟩ (tPR_takeAllHolds l dC dI cI cZ cJ cA a0 s0 o b P13 S12 H11.size gP13 gS12 gQ) (zcw 0 (hB.word (zm3 k3_16) rfl) (hB.word (zm1 k1_6) rfl) (hB.word (zm3 k3_13) rfl) (hB.word (zm3 k3_14) rfl) (hB.word (zm3 k3_15) rfl) rfl rfl (by decide +kernel) ⟨Nat.le_of_ble_eq_true rfl, Nat.le_of_ble_eq_true rfl⟩) ⟨zP_blind, va_recv hK hP (ci := 4) (q0 := 4) rfl rfl, zP_pre hP hK hD hAD (zB_on hB hA0 hS)⟩ rfl rfl hl.1 rfl (lv_room (Nat.le_of_ble_eq_true rfl)) dRG_start_36 ⟨Nat.le_of_ble_eq_true rfl, Nat.le_of_ble_eq_true rfl⟩) hD hS hA (fun S16 H15 locs h17 hP hD hS => ?_)
      have E := zl_s E h17.1
      have gS16 := h17.2
      exact hJ39 H15 locs ls P13 S16 k5 (zr_mono r_k5 (by decide)) gP13 gS16 E hP hD hS (lv_sub hl [0] rfl)
set_option maxHeartbeats 4000000 in
set_option maxRecDepth 100000 in
theorem tRG_start_T2 (l : Launch) (dC : Nat → ClassId) (dI : Nat → Nat → Nat) (cI cZ cJ cA : ClassId) (a0 : Array Value) (s0 : State) (o b : Nat → Nat) (hfl : l.flags = Jvm.pinnedFlags ++ [Jvm.noTraceFlag]) (P S : ZS) (sz : Nat) (gP : cok P) (gS : cok S) (hc : fRG_start P S  = .error 2) : tq_Met l yRG_start [Cond.code yRG_start bRG_start 2 (some .int)] ({ frames := 7, cells := 1, slots := 6, locals := 110 } : Room) (zP zCl dC dI (zTZ cI cZ cJ cA) a0 s0 [.ref (o 0)] sz (CW cI cZ cA o b P S)) (tq_Q "java/lang/IllegalStateException") 1 6 (zN sz) := by
  refine tq_ofW (cc := bRG_start) (maxL := 2) (ret := (some .int)) (by decide) rfl ?_
  intro p e s m args below meth c s₁ B hml htab hv
  obtain ⟨rfl, hsz, hP, hK, hD0, hB⟩ := hv
  have hx := B.exec
  have hb := B.bytes
  have hr := B.returns
  have hown : s.vm.findClass "RingGuard" = some m.cls := findClass_of_methodNamed B.named
  have hlocks := B.notSynchronized
  subst hsz
  have hD := hD0
  have hA0 : ∀ q, zN s.heap.size q → s0.heap.size ≤ q := zA1 hB
  have hAD : ∀ q, zN s0.heap.size q → s0.heap.size ≤ q := fun _ h => h
  have hA : ∀ q : Nat, s.heap.size ≤ q → zN s.heap.size q := fun _ h => h
  have hS : va_S (zN s.heap.size) s.heap s.heap [] := va_S.rf
  have hl := lv_entry ([.ref (o 0)]) (n := 2) (Nat.le_of_ble_eq_true rfl)
  rw [lg_entry_eq]
  generalize (lg_sl ([.ref (o 0)]) ++ List.replicate (2 - (lg_sl ([.ref (o 0)])).length) Slot.unset).toArray = ls at hl ⊢
  have hfl := hfl
  have hl : lv_has ls 2 [(0, .ref (o 0))] := hl
  refine zgenQ (fun Q hQe => ?_)
  obtain ⟨tg, etg⟩ : ∃ z, z = fRG_start P S  := ⟨_, rfl⟩
  have E := etg
  unfold fRG_start at E
  refine lv_aload_n hx hb dRG_start_0 rfl (lv_at hl 0 rfl) ?_
  refine z_bind E (fun k9 h2 E => ?_) (fun u1 h2 E => ?_)
  · have x9 : k9 = 2 := zerr (E.symm.trans (etg.trans hc))
    subst x9
    rw [hQe]
    exact zpass (tq_runV (As := []) (rest := []) ⟨hx, hb, hml, hown, zno⟩ (tRG_requireNotStarted_T2 l dC dI cI cZ cJ cA a0 s0 o b hfl P S s.heap.size gP gS h2) (zcw 0 (hB.word (zm2 k2_70) rfl) (hB.word (zm1 k1_1) rfl) (hB.word (zm2 k2_67) rfl) (hB.word (zm2 k2_69) rfl) (k2_selects_private (by decide) (hB.word (zm1 k1_18) rfl) (hB.word (zm2 k2_68) rfl) (hB.word (zm2 k2_69) rfl)) rfl rfl (by decide +kernel) ⟨Nat.le_of_ble_eq_true rfl, Nat.le_of_ble_eq_true rfl⟩) ⟨zP_blind, va_recv hK hP (ci := 0) (q0 := 0) rfl rfl, zP_pre hP hK hD hAD (zB_on hB hA0 hS)⟩ rfl rfl hl.1 rfl (lv_room (Nat.le_of_ble_eq_true rfl)) dRG_start_1 ⟨Nat.le_of_ble_eq_true rfl, Nat.le_of_ble_eq_true rfl⟩) htab hlocks hS (Nat.le_of_ble_eq_true rfl) (Nat.le_of_ble_eq_true rfl)
  · skip
    refine zcallo (va_runV (As := []) (rest := []) ⟨hx, hb, hml, hown, zno⟩ (tRG_requireNotStarted l dC dI cI cZ cJ cA a0 s0 o b P S s.heap.size gP gS u1 h2) (zcw 0 (hB.word (zm2 k2_70) rfl) (hB.word (zm1 k1_1) rfl) (hB.word (zm2 k2_67) rfl) (hB.word (zm2 k2_69) rfl) (k2_selects_private (by decide) (hB.word (zm1 k1_18) rfl) (hB.word (zm2 k2_68) rfl) (hB.word (zm2 k2_69) rfl)) rfl rfl (by decide +kernel) ⟨Nat.le_of_ble_eq_true rfl, Nat.le_of_ble_eq_true rfl⟩) ⟨zP_blind, va_recv hK hP (ci := 0) (q0 := 0) rfl rfl, zP_pre hP hK hD hAD (zB_on hB hA0 hS)⟩ rfl rfl hl.1 rfl (lv_room (Nat.le_of_ble_eq_true rfl)) dRG_start_1 ⟨Nat.le_of_ble_eq_true rfl, Nat.le_of_ble_eq_true rfl⟩) hS hA (fun H3 locs hz1 hk1 hS => ?_)
    have hP := zKeep hP hk1
    cases E.symm.trans (etg.trans hc)
