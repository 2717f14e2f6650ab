
theorem zgoF0 (P S : ZS) (t : Int32) : fMO_goes P S 0 t = (S.setI 3 1, 0) := by
  simp only [fMO_goes, fMO_goes_18, zl]
  rw [if_pos trivial, if_neg (by decide : ¬ (1 : Int32) = 0)]
theorem zgoF1 (P S : ZS) : fMO_goes P S 1 0 = (S.setI 3 2, 0) := by
  simp only [fMO_goes, fMO_goes_18, zl]
  rw [if_neg (by decide : ¬ (1 : Int32) = 0), if_pos trivial, if_neg (by decide : ¬ (2 : Int32) = 0)]
theorem zgoT (P S : ZS) : fMO_goes P S 1 1 = (S.setI 3 0, 1) := by
  simp only [fMO_goes, fMO_goes_18, zl]
  rw [if_neg (by decide : ¬ (1 : Int32) = 0), if_neg (by decide : ¬ (1 : Int32) = 0), if_pos trivial]
theorem zow0 (P S : ZS) (a b c : Int32) : fMO_owner_29 P S a b c 0 = (P, S.setI 3 1) := by
  simp only [fMO_owner_29, fMO_owner_41, zl, zl2, zgoF0]
  split <;> rfl
theorem zow1 {P S : ZS} {a b c : Int32} (h : P.I 0 = 0) : fMO_owner_29 P S a b c 1 = ((P.setF 3 a.toNatClampNeg b).setF 4 a.toNatClampNeg c, S.setI 3 0) := by
  simp only [fMO_owner_29, fMO_owner_41, zl, zl2, zgoT]
  rw [if_pos h, if_neg (by decide : ¬ (1 : Int32) = 0)]
theorem zow2 {P S : ZS} {a b c : Int32} (h : ¬ P.I 0 = 0) : fMO_owner_29 P S a b c 1 = (P, S.setI 3 2) := by
  simp only [fMO_owner_29, fMO_owner_41, zl, zl2, zgoF1]
  rw [if_neg h]
  rfl
theorem zset_ne {T : ZS} {k q l : Nat} {v : Int32} (h : q ≠ k) : (T.setF k l v).F q = T.F q := ZS.row_ne T _ h
/-- owner: both refuse, or both set the same -/
theorem zowner {P P' : ZS} (h : zIv P P') (S S' : ZS) (a b c : Int32) : (∃ k S1, fRG_owner P S a b c = .error k ∧ fMO_owner P' S' a b c = (P', S1)) ∨
    (∃ S1, fRG_owner P S a b c = .ok ((P.setF 3 a.toNatClampNeg b).setF 4 a.toNatClampNeg c, S) ∧ fMO_owner P' S' a b c = ((P'.setF 3 a.toNatClampNeg b).setF 4 a.toNatClampNeg c, S1) ∧ (cok ((P.setF 3 a.toNatClampNeg b).setF 4 a.toNatClampNeg c) → mok ((P'.setF 3 a.toNatClampNeg b).setF 4 a.toNatClampNeg c) → zIv ((P.setF 3 a.toNatClampNeg b).setF 4 a.toNatClampNeg c) ((P'.setF 3 a.toNatClampNeg b).setF 4 a.toNatClampNeg c))) := by
  obtain ⟨hc, hm, hr, hs, hm2, ⟨nb, nl, hp, hc0⟩, hq⟩ := h
  have hr0 := hr
  obtain ⟨r1, r2, r3, r4, r5, r6, r7⟩ := hr
  simp only [fRG_owner, fMO_owner, fMO_owner_28, zl]
  rcases zqR P S P' S' a with ⟨m1, c1⟩ | ⟨m1, c1, ra⟩
  · rw [m1, c1, if_pos rfl, zow0]
    exact Or.inl ⟨1, _, rfl, rfl⟩
  · rw [m1, c1, if_neg (by decide : ¬ (1 : Int32) = 0)]
    rcases zqB hr0 S S' b with ⟨m2, c2⟩ | ⟨m2, c2, rb, rb2⟩
    · rw [m2, c2, if_pos rfl, zow0]
      exact Or.inl ⟨1, _, rfl, rfl⟩
    · rw [m2, c2, if_neg (by decide : ¬ (1 : Int32) = 0)]
      rcases zqL hr0 S S' c with ⟨m3, c3⟩ | ⟨m3, c3, rc, rc2⟩
      · rw [m3, c3, if_pos rfl, zow0]
        exact Or.inl ⟨1, _, rfl, rfl⟩
      · rw [m3, c3, if_neg (by decide : ¬ (1 : Int32) = 0)]
        by_cases d : P.I 2 = 0
        · have e : fRG_requireNotStarted P S = .ok () := by
            simp only [fRG_requireNotStarted, zl]
            rw [if_pos d]
          rw [zow1 (by rw [hs]; exact d), e]
          refine Or.inr ⟨_, rfl, rfl, fun k1 k2 => ⟨k1, k2, ?_, hs, ?_, ⟨nb, nl, hp, hc0⟩, Or.inl ⟨d, ?_⟩⟩⟩
          · refine ⟨r1, r2, r3, r4, r5, ?_, ?_⟩
            · show (P'.setF 3 a.toNatClampNeg b).F 3 = (P.setF 3 a.toNatClampNeg b).F 3
              funext j
              rw [zset27, zset27, r6]
            · funext j
              rw [zset27, zset27, zset_ne (by decide), zset_ne (by decide), r7]
          · intro j
            have z1 : (-1 : Int32).toInt = -1 := by decide
            rw [zset_ne (by decide), zset27, zset27, zset_ne (by decide)]
            by_cases ej : j = a.toNatClampNeg
            · rw [if_pos ej, if_pos ej]
              exact ⟨fun q => by rw [q] at rb; omega, fun q => by rw [q] at rc; omega⟩
            · rw [if_neg ej, if_neg ej]
              exact hm2 j
          · rcases hq with ⟨_, p1, p2, p3, p4⟩ | ⟨hq, _⟩
            · refine ⟨p1, p2, p3, fun j => ?_⟩
              rw [zset27, zset_ne (by decide)]
              by_cases ej : j = a.toNatClampNeg
              · rw [if_pos ej]
                exact Or.inr rc2
              · rw [if_neg ej]
                exact p4 j
            · exact absurd d hq
        · have e : fRG_requireNotStarted P S = .error 2 := by
            simp only [fRG_requireNotStarted, zl]
            rw [if_neg d]
          rw [zow2 (by rw [hs]; exact d), e]
          exact Or.inl ⟨2, _, rfl, rfl⟩
