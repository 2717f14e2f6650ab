
/-! groups of bridges: both ways of making two one keep the same partition -/
theorem zset27 {T : ZS} {k l : Nat} {v : Int32} (i : Nat) : (T.setF k l v).F k i = if i = l then v else T.F k i := by
  rw [show (T.setF k l v).F k = upd (T.F k) l v from ZS.row_self _ _ _]
  rfl
/-- a row in which those below l that had y got x -/
def zgo (g : Nat → Int32) (l : Nat) (x y : Int32) (i : Nat) : Int32 := if i < l ∧ g i = y then x else g i
theorem zgo_0 {g : Nat → Int32} {x y : Int32} {i : Nat} : zgo g 0 x y i = g i := if_neg (fun h => absurd h.1 (Nat.not_lt_zero _))
theorem zgo_at {g : Nat → Int32} {l : Nat} {x y : Int32} : zgo g l x y l = g l := if_neg (fun h => absurd h.1 (Nat.lt_irrefl _))
theorem zgo_s {g : Nat → Int32} {l : Nat} {x y : Int32} {i : Nat} (h : i ≠ l) : zgo g (l + 1) x y i = zgo g l x y i := by
  unfold zgo
  by_cases c : i < l ∧ g i = y
  · rw [if_pos c, if_pos ⟨by omega, c.2⟩]
  · rw [if_neg c, if_neg (fun q => c ⟨by omega, q.2⟩)]
theorem zgo_1 {g : Nat → Int32} {l : Nat} {x y : Int32} (h : g l = y) : zgo g (l + 1) x y l = x := if_pos ⟨by omega, h⟩
theorem zgo_n {g : Nat → Int32} {l : Nat} {x y : Int32} (h : ¬ g l = y) : zgo g (l + 1) x y l = g l := if_neg (fun q => h q.2)
theorem zgj {P S : ZS} {a b : Int32} {nb : Nat} (hs : S.I 15 = nI nb) (hb : nb ≤ 48) (hne : ¬ S.F 27 a.toNatClampNeg = S.F 27 b.toNatClampNeg) : ∃ S1 : ZS, fGR_join P S a b = (S1, 1) ∧ (∀ i, S1.F 27 i = zgo (S.F 27) nb (S.F 27 a.toNatClampNeg) (S.F 27 b.toNatClampNeg) i) ∧ S1.I 14 = S.I 14 - 1 ∧ S1.I 15 = nI nb := by
  simp only [fGR_join, zl]
  rw [if_neg hne]
  generalize S.F 27 a.toNatClampNeg = ka
  generalize S.F 27 b.toNatClampNeg = kb
  have key : ∀ (n l : Nat) (T : ZS), l ≤ nb → nb - l < n → T.I = S.I → (∀ i, T.F 27 i = zgo (S.F 27) l ka kb i) → ∃ S1 : ZS, zfix (fun S9 _ _ _ => (S9, 0)) (fGR_join_26 P) n T ka kb (nI l) = (S1, 1) ∧ (∀ i, S1.F 27 i = zgo (S.F 27) nb ka kb i) ∧ S1.I 14 = S.I 14 - 1 ∧ S1.I 15 = nI nb := by
    intro n
    induction n with
    | zero => intro l T h1 h2; omega
    | succ n ih =>
      intro l T h1 h2 hT hF
      rw [zfix_s]
      generalize zfix (fun S9 _ _ _ => (S9, 0)) (fGR_join_26 P) n = rc at ih ⊢
      simp only [fGR_join_26, fGR_join_55, zl]
      rw [hT, hs]
      by_cases c : nb ≤ l
      · have e : l = nb := by omega
        rw [if_pos (nI_le c (by omega))]
        refine ⟨T.setI 14 (S.I 14 - 1), rfl, fun i => ?_, rfl, ?_⟩
        · rw [← e]; exact hF i
        · show T.I 15 = nI nb
          rw [hT]; exact hs
      · rw [if_neg (nI_ge (by omega) (by omega)), nI_clamp (by omega), hF l, zgo_at]
        by_cases c2 : S.F 27 l = kb
        · rw [if_pos c2, nI_1]
          refine ih (l + 1) (T.setF 27 l ka) (by omega) (by omega) hT (fun i => ?_)
          rw [zset27]
          by_cases e : i = l
          · subst e; rw [if_pos rfl, zgo_1 c2]
          · rw [if_neg e, hF i, zgo_s e]
        · rw [if_neg c2, nI_1]
          refine ih (l + 1) T (by omega) (by omega) hT (fun i => ?_)
          rw [hF i]
          by_cases e : i = l
          · subst e; rw [zgo_n c2, zgo_at]
          · rw [zgo_s e]
  exact key 49 0 S (Nat.zero_le _) (by omega) rfl (fun i => by rw [zgo_0])
theorem zmj {P S : ZS} {a b : Int32} {nb : Nat} (hs : P.I 1 = nI nb) (hb : nb ≤ 48) : ∃ S1 : ZS, fMO_join P S a b = (S1, if S.F 33 a.toNatClampNeg = S.F 33 b.toNatClampNeg then 0 else 1) ∧ (∀ i, S1.F 33 i = zgo (S.F 33) nb (S.F 33 b.toNatClampNeg) (S.F 33 a.toNatClampNeg) i) := by
  simp only [fMO_join, zl]
  generalize S.F 33 a.toNatClampNeg = ka
  generalize S.F 33 b.toNatClampNeg = kb
  have key : ∀ (n l : Nat) (T : ZS), l ≤ nb → nb - l < n → (∀ i, T.F 33 i = zgo (S.F 33) l kb ka i) → ∃ S1 : ZS, zfix (fun S9 _ _ _ => (S9, 0)) (fMO_join_18 P) n T ka kb (nI l) = (S1, if ka = kb then 0 else 1) ∧ (∀ i, S1.F 33 i = zgo (S.F 33) nb kb ka i) := by
    intro n
    induction n with
    | zero => intro l T h1 h2; omega
    | succ n ih =>
      intro l T h1 h2 hF
      rw [zfix_s]
      generalize zfix (fun S9 _ _ _ => (S9, 0)) (fMO_join_18 P) n = rc at ih ⊢
      simp only [fMO_join_18, fMO_join_56, zl]
      rw [hs]
      by_cases c : nb ≤ l
      · have e : l = nb := by omega
        rw [if_pos (nI_le c (by omega))]
        refine ⟨T, ?_, fun i => ?_⟩
        · by_cases k : ka = kb
          · rw [if_pos k, if_pos k]
          · rw [if_neg k, if_neg k]
        · rw [← e]; exact hF i
      · rw [if_neg (nI_ge (by omega) (by omega)), nI_clamp (by omega), nI_1]
        have hl : T.F 33 l = S.F 33 l := by rw [hF l, zgo_at]
        rw [hl]
        by_cases c2 : S.F 33 l = ka
        · rw [if_pos c2]
          refine ih (l + 1) (T.setF 33 l kb) (by omega) (by omega) (fun i => ?_)
          rw [zset27]
          by_cases e : i = l
          · subst e; rw [if_pos rfl, zgo_1 c2]
          · rw [if_neg e, hF i, zgo_s e]
        · rw [if_neg c2]
          refine ih (l + 1) (T.setF 33 l (S.F 33 l)) (by omega) (by omega) (fun i => ?_)
          rw [zset27]
          by_cases e : i = l
          · subst e; rw [if_pos rfl, zgo_n c2]
          · rw [if_neg e, hF i, zgo_s e]
  exact key 49 0 S (Nat.zero_le _) (by omega) (fun i => by rw [zgo_0])
/-- two rows make the same groups -/
def zsm (n : Nat) (g h : Nat → Int32) : Prop := ∀ i j, i < n → j < n → (g i = g j ↔ h i = h j)
theorem zgo_iff {n a b : Nat} {g : Nat → Int32} {i j : Nat} (hi : i < n) (hj : j < n) : zgo g n (g a) (g b) i = zgo g n (g a) (g b) j ↔ (g i = g j ∨ ((g i = g a ∨ g i = g b) ∧ (g j = g a ∨ g j = g b))) := by
  unfold zgo
  by_cases h1 : g i = g b <;> by_cases h2 : g j = g b <;> simp [hi, hj, h1, h2]
  · constructor
    · intro h; exact Or.inr h.symm
    · rintro (h | h)
      · exact absurd h.symm h2
      · exact h.symm
  · intro h3 h4; rw [h3, h4]
theorem zsm_join {n a b : Nat} {g h g' h' : Nat → Int32} (ha : a < n) (hb : b < n) (hs : zsm n g h) (hg : ∀ i, g' i = zgo g n (g a) (g b) i) (hh : ∀ i, h' i = zgo h n (h b) (h a) i) : zsm n g' h' := fun i j hi hj => by
  rw [hg i, hg j, hh i, hh j, zgo_iff hi hj, zgo_iff hi hj, hs i j hi hj, hs i a hi ha, hs i b hi hb, hs j a hj ha, hs j b hj hb]
  constructor
  · rintro (h | ⟨h, k⟩)
    · exact Or.inl h
    · exact Or.inr ⟨h.symm, k.symm⟩
  · rintro (h | ⟨h, k⟩)
    · exact Or.inl h
    · exact Or.inr ⟨h.symm, k.symm⟩
theorem zsep {P S : ZS} {nb : Nat} (hb : nb ≤ 48) : (∀ i, i < nb → (fGR_separate P S (nI nb)).F 27 i = nI i) ∧ (fGR_separate P S (nI nb)).I 14 = nI nb ∧ (fGR_separate P S (nI nb)).I 15 = nI nb := by
  simp only [fGR_separate, zl]
  have key : ∀ (n l : Nat) (T : ZS), l ≤ nb → nb - l < n → T.I 14 = nI nb → T.I 15 = nI nb → (∀ i, i < l → T.F 27 i = nI i) → (∀ i, i < nb → (zfix (fun S9 _ _ => S9) (fGR_separate_12 P) n T (nI nb) (nI l)).F 27 i = nI i) ∧ (zfix (fun S9 _ _ => S9) (fGR_separate_12 P) n T (nI nb) (nI l)).I 14 = nI nb ∧ (zfix (fun S9 _ _ => S9) (fGR_separate_12 P) n T (nI nb) (nI l)).I 15 = nI nb := by
    intro n
    induction n with
    | zero => intro l T h1 h2; omega
    | succ n ih =>
      intro l T h1 h2 h14 h15 hF
      rw [zfix_s]
      generalize zfix (fun S9 _ _ => S9) (fGR_separate_12 P) n = rc at ih ⊢
      simp only [fGR_separate_12, zl]
      by_cases c : nb ≤ l
      · have e : l = nb := by omega
        rw [if_pos (nI_le c (by omega))]
        exact ⟨fun i hi => hF i (by omega), h14, h15⟩
      · rw [if_neg (nI_ge (by omega) (by omega)), nI_clamp (by omega), nI_1]
        refine ih (l + 1) (T.setF 27 l (nI l)) (by omega) (by omega) h14 h15 (fun i hi => ?_)
        rw [zset27]
        by_cases e : i = l
        · rw [if_pos e, e]
        · rw [if_neg e]; exact hF i (by omega)
  exact key 49 0 _ (Nat.zero_le _) (by omega) rfl rfl (fun i h => absurd h (Nat.not_lt_zero _))
