
/-! what holds between two calls, as far as plans go; bridge and owner keep it -/
def zIv (P P' : ZS) : Prop := cok P ∧ mok P' ∧ zRP P P' ∧ P'.I 0 = P.I 2 ∧ zM2 P ∧ (∃ nb nl, zPn P nb nl ∧ zC0 P nl) ∧ ((P.I 2 = 0 ∧ zPre P) ∨ (¬ P.I 2 = 0 ∧ zQ P))
theorem zIv.M {P P' : ZS} (h : zIv P P') : zM P' := fun j => by
  obtain ⟨-, -, hr, -, hm, -⟩ := h
  rw [hr.2.2.2.2.2.1, hr.2.2.2.2.2.2]
  by_cases c : P.F 3 j = -1
  · exact Or.inl c
  · exact Or.inr (fun q => c ((hm j).mpr q))
theorem zqR (P S P' S' : ZS) (x : Int32) : (fMO_isRing P' S' x = 0 ∧ fRG_requireRing P S x = .error 1) ∨ (fMO_isRing P' S' x = 1 ∧ fRG_requireRing P S x = .ok () ∧ zr 0 5 x) := by
  have z0 : (0 : Int32).toInt = 0 := by decide
  have z6 : (6 : Int32).toInt = 6 := by decide
  simp only [fMO_isRing, fMO_isRing_14, fRG_requireRing, fRG_requireRing_10]
  by_cases c : x < 0
  · rw [if_pos c, if_pos c]; exact Or.inl ⟨rfl, rfl⟩
  · rw [if_neg c, if_neg c]
    by_cases d : x < 6
    · rw [if_pos d, if_neg (fun h => by have := Int32.lt_iff_toInt_lt.mp d; have := Int32.le_iff_toInt_le.mp h; omega)]
      refine Or.inr ⟨rfl, rfl, ?_, ?_⟩
      · have := Int32.le_iff_toInt_le.mp (znlt c); omega
      · have := Int32.lt_iff_toInt_lt.mp d; omega
    · rw [if_neg d, if_pos (znlt d)]; exact Or.inl ⟨rfl, rfl⟩
theorem zqB {P P' : ZS} (hr : zRP P P') (S S' : ZS) (x : Int32) : (fMO_isBridge P' S' x = 0 ∧ fRG_requireBridge P S x = .error 1) ∨ (fMO_isBridge P' S' x = 1 ∧ fRG_requireBridge P S x = .ok () ∧ 0 ≤ x.toInt ∧ x.toInt < (P.I 0).toInt) := by
  have z0 : (0 : Int32).toInt = 0 := by decide
  simp only [fMO_isBridge, fMO_isBridge_16, fRG_requireBridge, fRG_requireBridge_15, zl]
  rw [hr.1]
  by_cases c : x < 0
  · rw [if_pos c, if_pos c]; exact Or.inl ⟨rfl, rfl⟩
  · rw [if_neg c, if_neg c]
    by_cases d : x < P.I 0
    · rw [if_pos d, if_neg (fun h => by have := Int32.lt_iff_toInt_lt.mp d; have := Int32.le_iff_toInt_le.mp h; omega)]
      refine Or.inr ⟨rfl, rfl, ?_, ?_⟩
      · have := Int32.le_iff_toInt_le.mp (znlt c); omega
      · exact Int32.lt_iff_toInt_lt.mp d
    · rw [if_neg d, if_pos (znlt d)]; exact Or.inl ⟨rfl, rfl⟩
theorem zqL {P P' : ZS} (hr : zRP P P') (S S' : ZS) (x : Int32) : (fMO_isLink P' S' x = 0 ∧ fRG_requireLink P S x = .error 1) ∨ (fMO_isLink P' S' x = 1 ∧ fRG_requireLink P S x = .ok () ∧ 0 ≤ x.toInt ∧ x.toInt < (P.I 1).toInt) := by
  have z0 : (0 : Int32).toInt = 0 := by decide
  simp only [fMO_isLink, fMO_isLink_16, fRG_requireLink, fRG_requireLink_15, zl]
  rw [hr.2.1]
  by_cases c : x < 0
  · rw [if_pos c, if_pos c]; exact Or.inl ⟨rfl, rfl⟩
  · rw [if_neg c, if_neg c]
    by_cases d : x < P.I 1
    · rw [if_pos d, if_neg (fun h => by have := Int32.lt_iff_toInt_lt.mp d; have := Int32.le_iff_toInt_le.mp h; omega)]
      refine Or.inr ⟨rfl, rfl, ?_, ?_⟩
      · have := Int32.le_iff_toInt_le.mp (znlt c); omega
      · exact Int32.lt_iff_toInt_lt.mp d
    · rw [if_neg d, if_pos (znlt d)]; exact Or.inl ⟨rfl, rfl⟩
/-- bridge: both refuse, or both answer the same number and go on -/
theorem zbridge {P P' : ZS} (h : zIv P P') (S S' : ZS) : ((∃ k, fRG_bridge P S = .error k) ∧ fMO_bridge P' S' = (P', S'.setI 3 1, 0)) ∨
    (fRG_bridge P S = .ok (P.setI 0 (P.I 0 + 1), S, P.I 0) ∧ fMO_bridge P' S' = (P'.setI 1 (P'.I 1 + 1), S'.setI 3 0, P.I 0) ∧ (cok (P.setI 0 (P.I 0 + 1)) → mok (P'.setI 1 (P'.I 1 + 1)) → zIv (P.setI 0 (P.I 0 + 1)) (P'.setI 1 (P'.I 1 + 1)))) := by
  obtain ⟨hc, hm, hr, hs, hm2, ⟨nb, nl, hp, hc0⟩, hq⟩ := h
  obtain ⟨hB, hb, hI, hn, hg, hL⟩ := hp
  have z48 : (48 : Int32) = nI 48 := by decide
  simp only [fRG_bridge, fRG_requireNotStarted, zbind, zl, fMO_bridge, fMO_bridge_17, fMO_bridge_22]
  rw [hs, hr.1]
  by_cases c : P.I 2 = 0
  · rw [if_pos c, if_pos c]
    by_cases d : P.I 0 < 48
    · have hlt : nb < 48 := by rw [hB, z48] at d; exact (nI_ltI (by omega) (by decide)).mp d
      have ne : ¬ P.I 0 = 48 := fun e => by rw [e] at d; exact absurd d (by decide)
      rw [if_neg ne, if_pos (by decide : (0 : Int32) ≤ 0)]
      refine Or.inr ⟨by rw [if_pos d], by rw [Int32.add_sub_cancel], fun k1 k2 => ⟨k1, k2, ?_, hs, hm2, ⟨nb + 1, nl, ⟨?_, by omega, hI, hn, hg, fun l hl => ?_⟩, hc0⟩, Or.inl ⟨c, ?_⟩⟩⟩
      · obtain ⟨_, q2, q3⟩ := hr
        exact ⟨rfl, q2, q3⟩
      · show P.I 0 + 1 = _
        rw [hB, nI_1]
      · obtain ⟨q1, q2, q3⟩ := hL l hl
        exact ⟨Nat.lt_succ_of_lt q1, Nat.lt_succ_of_lt q2, q3⟩
      · rcases hq with ⟨_, hq⟩ | ⟨hq, _⟩
        · exact hq
        · exact absurd c hq
    · have e : P.I 0 = 48 := by
        rw [hB, z48] at d ⊢
        have : ¬ nb < 48 := fun h => d (nI_lt h (by decide))
        rw [show nb = 48 by omega]
      rw [if_pos e, if_neg (by decide : ¬ (1 : Int32) ≤ 0)]
      exact Or.inl ⟨⟨2, by rw [if_neg d]⟩, rfl⟩
  · rw [if_neg c, if_neg c, if_neg (by decide : ¬ (1 : Int32) ≤ 0)]
    exact Or.inl ⟨⟨2, rfl⟩, rfl⟩
