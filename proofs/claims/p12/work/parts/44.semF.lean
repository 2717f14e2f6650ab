
theorem zstart {P P' : ZS} (h : zIv P P') (S S' : ZS) : (fRG_start P S = .error 2 ∧ ∃ S1, fMO_start P' S' = (P', S1, 0)) ∨
    (∃ (P3 S3 P3' S3' : ZS) (k : Int32), fRG_start P S = .ok (P3, S3, k) ∧ fMO_start P' S' = (P3', S3', k) ∧ (cok P3 → mok P3' → zIv P3 P3')) := by
  obtain ⟨hc, hm, hr, hs, hm2, ⟨nb, nl, hp, hc0⟩, hq⟩ := h
  have z0 : (0 : Int32).toInt = 0 := by decide
  by_cases d : P.I 2 = 0
  · right
    have hpre : zPre P := by
      rcases hq with ⟨_, hq⟩ | ⟨hq, _⟩
      · exact hq
      · exact absurd d hq
    have en : fRG_requireNotStarted P S = .ok () := by
      simp only [fRG_requireNotStarted, zl]
      rw [if_pos d]
    have d' : P'.I 0 = 0 := by rw [hs]; exact d
    obtain ⟨fe, fc⟩ := zfaults (S := S) (S' := S'.setI 3 0) hp (fun j => hc.1 4 j) hr hm2 hc0
    have pos := zff_pos P S
    obtain ⟨k8, kOw⟩ := zff (P := P) (S := S) (P1 := (fPL_firstFault P S).1) (S1 := (fPL_firstFault P S).2.1) (k := (fPL_firstFault P S).2.2) rfl
    obtain ⟨k5, -⟩ := zfo (P := P') (S := S'.setI 3 0) (P1 := (fMO_faultOf P' (S'.setI 3 0)).1) (S1 := (fMO_faultOf P' (S'.setI 3 0)).2.1) (k := (fMO_faultOf P' (S'.setI 3 0)).2.2) hm rfl
    have hrk := zRP_k hr k8 k5
    have ec : fRG_start P S = .ok (if (fPL_firstFault P S).2.2 = 0 then ((fPL_layPorts ((fPL_firstFault P S).1.setI 2 1) (fPL_firstFault P S).2.1).1, fPR_takeAllHolds (fPL_layPorts ((fPL_firstFault P S).1.setI 2 1) (fPL_firstFault P S).2.1).1 (fPL_layPorts ((fPL_firstFault P S).1.setI 2 1) (fPL_firstFault P S).2.1).2, (fPL_firstFault P S).2.2) else fPL_firstFault P S) := by
      simp only [fRG_start, zl, zl2, zl3, fRG_start_39]
      rw [en]
      rfl
    have em : fMO_start P' S' = (if (fMO_faultOf P' (S'.setI 3 0)).2.2 ≤ 0 then zfix (fun P9 S9 _ => (P9, S9, 0)) fMO_start_43 49 ((fMO_faultOf P' (S'.setI 3 0)).1.setI 0 1) (fMO_faultOf P' (S'.setI 3 0)).2.1 0 else fMO_faultOf P' (S'.setI 3 0)) := by
      simp only [fMO_start, fMO_start_13, zl, zl3]
      rw [if_pos d', if_pos (by decide : (0 : Int32) ≤ 0)]
    rw [ec, em]
    generalize fPL_firstFault P S = O at fe fc pos k8 kOw hrk ⊢
    generalize fMO_faultOf P' (S'.setI 3 0) = O' at fe k5 hrk ⊢
    have hm2' : zM2 O.1 := by
      unfold zM2
      rw [k8.2 3 (by decide), k8.2 4 (by decide)]
      exact hm2
    by_cases c : O.2.2 = 0
    · have c' : O'.2.2 ≤ 0 := by rw [← fe, c]; decide
      rw [if_pos c, if_pos c']
      obtain ⟨w1, w2⟩ := zms43 49 (O'.1.setI 0 1) O'.2.1 0
      generalize zfix (fun P9 S9 _ => (P9, S9, 0)) fMO_start_43 49 (O'.1.setI 0 1) O'.2.1 0 = V at w1 w2 ⊢
      have i1 : (O.1.setI 2 1).I 1 = P.I 1 := by
        show O.1.I 1 = P.I 1
        rw [k8.1]
      obtain ⟨y1, y2⟩ := zlay_fr (P := O.1.setI 2 1) (S := O.2.1) (by rw [i1]; exact hc.2.1 1) (fun j => by
        show zr 0 287 (O.1.F 5 j)
        rw [k8.2 5 (by decide)]
        exact hc.1 5 j)
      obtain ⟨Lp, hLp⟩ : ∃ z, z = fPL_layPorts (O.1.setI 2 1) O.2.1 := ⟨_, rfl⟩
      have eL : (Lp.1, Lp.2) = fPL_layPorts (O.1.setI 2 1) O.2.1 := hLp
      rw [← hLp] at y1 y2 ⊢
      refine ⟨Lp.1, _, V.1, V.2.1, O.2.2, rfl, by rw [c, ← w2], fun g1 g2 => ?_⟩
      have I0 : Lp.1.I 0 = P.I 0 := by rw [y1]; show O.1.I 0 = _; rw [k8.1]
      have I1 : Lp.1.I 1 = P.I 1 := by rw [y1]; exact i1
      have I2 : Lp.1.I 2 = 1 := by rw [y1]; rfl
      have FF : ∀ q, q ≠ 6 → q ≠ 7 → Lp.1.F q = O.1.F q := y2
      have FP : ∀ q, q ≠ 6 → q ≠ 7 → q ≠ 8 → Lp.1.F q = P.F q := fun q a b e => by rw [FF q a b, k8.2 q e]
      have gP2 : cok (O.1.setI 2 1) := by
        refine ⟨fun q j => ?_, fun t => ?_, fun q hq9 j => ?_⟩
        · by_cases e6 : q = 6
          · rw [e6]
            show zr _ _ (O.1.F 6 j)
            rw [k8.2 6 (by decide)]
            exact hc.1 6 j
          · by_cases e7 : q = 7
            · rw [e7]
              show zr _ _ (O.1.F 7 j)
              rw [k8.2 7 (by decide)]
              exact hc.1 7 j
            · have := g1.1 q j
              rw [FF q e6 e7] at this
              exact this
        · have := g1.2.1 t
          rw [y1] at this
          exact this
        · by_cases e6 : q = 6
          · rw [e6] at hq9; exact absurd hq9 (by decide)
          · by_cases e7 : q = 7
            · rw [e7] at hq9; exact absurd hq9 (by decide)
            · have := g1.2.2 q hq9 j
              rw [FF q e6 e7] at this
              exact this
      have hQ : zQ Lp.1 := zQ_lay gP2 (zPre_I (zPre_k hpre k8)) (zOwned_I (kOw c)) eL
      have hIne : ¬ Lp.1.I 2 = 0 := by rw [I2]; decide
      refine ⟨g1, g2, ?_, ?_, ?_, ⟨nb, nl, ?_, ?_⟩, Or.inr ⟨hIne, hQ⟩⟩
      · obtain ⟨b1, b2, b3, b4, b5, b6, b7⟩ := hrk
        refine ⟨?_, ?_, ?_, ?_, ?_, ?_, ?_⟩
        · rw [w1.1, I0]; show O'.1.I 1 = _; rw [b1, k8.1]
        · rw [w1.1, I1]; show O'.1.I 2 = _; rw [b2, k8.1]
        · rw [w1.2 0 (by decide), FF 0 (by decide) (by decide)]; exact b3
        · rw [w1.2 1 (by decide), FF 1 (by decide) (by decide)]; exact b4
        · rw [w1.2 2 (by decide), FF 2 (by decide) (by decide)]; exact b5
        · rw [w1.2 3 (by decide), FF 3 (by decide) (by decide)]; exact b6
        · rw [w1.2 4 (by decide), FF 4 (by decide) (by decide)]; exact b7
      · rw [w1.1, I2]
        rfl
      · unfold zM2
        rw [FP 3 (by decide) (by decide) (by decide), FP 4 (by decide) (by decide) (by decide)]
        exact hm2
      · unfold zPn
        rw [I0, I1, FP 0 (by decide) (by decide) (by decide), FP 1 (by decide) (by decide) (by decide), FP 2 (by decide) (by decide) (by decide)]
        exact hp
      · unfold zC0
        rw [FF 8 (by decide) (by decide), FF 2 (by decide) (by decide)]
        exact fc
    · have c' : ¬ O'.2.2 ≤ 0 := fun q => by
        rw [← fe] at q
        have := Int32.le_iff_toInt_le.mp q
        exact c (Int32.toInt_inj.mp (by omega))
      rw [if_neg c, if_neg c']
      refine ⟨O.1, O.2.1, O'.1, O'.2.1, O.2.2, rfl, by rw [fe], fun g1 g2 => ⟨g1, g2, hrk, ?_, hm2', ⟨nb, nl, zPn_k k8 hp, fc⟩, Or.inl ⟨?_, zPre_k hpre k8⟩⟩⟩
      · rw [k5.1, k8.1]; exact hs
      · rw [k8.1]; exact d
  · left
    have en : fRG_requireNotStarted P S = .error 2 := by
      simp only [fRG_requireNotStarted, zl]
      rw [if_neg d]
    have d' : ¬ P'.I 0 = 0 := by rw [hs]; exact d
    refine ⟨?_, S'.setI 3 1, ?_⟩
    · unfold fRG_start
      rw [en]
      rfl
    · simp only [fMO_start, fMO_start_13, zl, zl3]
      rw [if_neg d', if_neg (by decide : ¬ (1 : Int32) ≤ 0)]
