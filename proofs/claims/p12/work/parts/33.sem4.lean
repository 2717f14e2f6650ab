
/-! one piece: the two sides step by step -/
theorem zsubI {a b : Nat} (ha : a ≤ 1000) (hb : b ≤ 1000) : (nI a - nI b).toInt = (a : Int) - (b : Int) := by
  rw [Int32.toInt_sub, nI_toInt (by omega), nI_toInt (by omega), zbm ⟨by omega, by omega⟩]
theorem zsub1 {a b : Nat} (ha : a ≤ 1000) (hb : b ≤ 900) : nI a - nI b - 1 = nI a - nI (b + 1) := by
  have z1 : (1 : Int32).toInt = 1 := by decide
  apply Int32.toInt_inj.mp
  rw [zsubI ha (by omega), Int32.toInt_sub, zsubI ha (by omega), z1, zbm ⟨by omega, by omega⟩]
  omega
theorem zsub2 {a b : Nat} (ha : a ≤ 1000) (hb : b ≤ 900) : nI a - nI b + (-1) = nI a - nI (b + 1) := by
  have z1 : (-1 : Int32).toInt = -1 := by decide
  apply Int32.toInt_inj.mp
  rw [zsubI ha (by omega), Int32.toInt_add, zsubI ha (by omega), z1, zbm ⟨by omega, by omega⟩]
  omega
theorem zone_eq {nb k m : Nat} (h1 : nb ≤ 48) (h2 : k ≤ 60) (h3 : m ≤ 48) : (nI nb - nI k = nI nb - nI m + 1 ↔ m = k + 1) ∧ (nI m - nI k = 1 ↔ m = k + 1) := by
  have z1 : (1 : Int32).toInt = 1 := by decide
  have e1 : (nI nb - nI m + 1).toInt = (nb : Int) - m + 1 := by rw [Int32.toInt_add, zsubI (by omega) (by omega), z1, zbm ⟨by omega, by omega⟩]
  constructor
  · rw [← Int32.toInt_inj, zsubI (by omega) (by omega), e1]
    omega
  · rw [← Int32.toInt_inj, zsubI (by omega) (by omega), z1]
    omega
/-- the plans of the two sides are one -/
def zRP (P P' : ZS) : Prop := P'.I 1 = P.I 0 ∧ P'.I 2 = P.I 1 ∧ P'.F 0 = P.F 0 ∧ P'.F 1 = P.F 1 ∧ P'.F 2 = P.F 2 ∧ P'.F 3 = P.F 3 ∧ P'.F 4 = P.F 4
/-- a plan's own numbers -/
def zPn (P : ZS) (nb nl : Nat) : Prop := P.I 0 = nI nb ∧ nb ≤ 48 ∧ P.I 1 = nI nl ∧ nl ≤ 60 ∧ (∀ j, zr 0 5 (P.F 2 j)) ∧ ∀ l, l < nl → (P.F 0 l).toNatClampNeg < nb ∧ (P.F 1 l).toNatClampNeg < nb ∧ ¬ P.F 0 l = P.F 1 l ∧ zr 0 47 (P.F 0 l) ∧ zr 0 47 (P.F 1 l)
theorem zdg_RP {P P' : ZS} (h : zRP P P') (b r : Int32) : ∀ n, zdg P' b r n = zdg P b r n
  | 0 => rfl
  | n + 1 => by
    show zdg P' b r n + _ = zdg P b r n + _
    rw [zdg_RP h b r n, h.2.2.1, h.2.2.2.1, h.2.2.2.2.1]
theorem zcn_RP {P P' : ZS} (h : zRP P P') (r : Int32) : ∀ n, zcn P' r n = zcn P r n
  | 0 => rfl
  | n + 1 => by
    show zcn P' r n + _ = zcn P r n + _
    rw [zcn_RP h r n, h.2.2.2.2.1]
theorem zone {P P' : ZS} {r : Int32} {nb nl m : Nat} (hp : zPn P nb nl) (hr : zRP P P') (hm : m ≤ 48) : ∀ (n l : Nat) (S S' : ZS) (k : Nat), l ≤ nl → nl - l < n → zsm nb (S.F 27) (S'.F 33) → S.I 15 = nI nb → S.I 14 = nI nb - nI k → k ≤ zcn P r l →
    (zfix (fun S9 _ _ _ => (S9, 0)) (fPL_isOnePiece_11 P) n S r (nI m) (nI l)).2 = (zfix (fun S9 _ _ _ => (S9, 0)) (fMO_isOne_60 P') n S' r (nI m - nI k) (nI l)).2 ∧
    (¬ (zfix (fun S9 _ _ _ => (S9, 0)) (fPL_isOnePiece_11 P) n S r (nI m) (nI l)).2 = 0 → ∃ k', k' ≤ zcn P r nl ∧ m = k' + 1) := by
  obtain ⟨hB, hb, hI, hn, hg, hL⟩ := hp
  obtain ⟨r1, r2, r3, r4, r5, -⟩ := hr
  intro n
  induction n with
  | zero => intro l S S' k h1 h2; omega
  | succ n ih =>
    intro l S S' k h1 h2 hs h15 h14 hk
    have kl : k ≤ l := Nat.le_trans hk (zcn_le l)
    rw [zfix_s, zfix_s]
    generalize zfix (fun S9 _ _ _ => (S9, 0)) (fPL_isOnePiece_11 P) n = rc at ih ⊢
    generalize zfix (fun S9 _ _ _ => (S9, 0)) (fMO_isOne_60 P') n = rc' at ih ⊢
    simp only [fPL_isOnePiece_11, fPL_isOnePiece_50, fMO_isOne_60, fMO_isOne_100, zl, zl2]
    rw [r2, r3, r4, r5, hI, hB]
    by_cases c : nl ≤ l
    · have e : l = nl := by omega
      rw [if_pos (nI_le c (by omega)), if_pos (nI_le c (by omega)), h14]
      obtain ⟨q1, q2⟩ := zone_eq (nb := nb) (k := k) (m := m) hb (by omega) hm
      by_cases d : m = k + 1
      · rw [if_pos (q1.mpr d), if_pos (q2.mpr d)]
        exact ⟨rfl, fun _ => ⟨k, by rw [← e]; exact hk, d⟩⟩
      · rw [if_neg (fun h => d (q1.mp h)), if_neg (fun h => d (q2.mp h))]
        exact ⟨rfl, fun h => absurd rfl h⟩
    · rw [if_neg (nI_ge (by omega) (by omega)), if_neg (nI_ge (by omega) (by omega)), nI_clamp (by omega), nI_1]
      by_cases c2 : P.F 2 l = r
      · rw [if_pos c2, if_pos c2]
        obtain ⟨la, lb, -, -, -⟩ := hL l (by omega)
        have hz := zcn_1 c2
        obtain ⟨S1', e1', f1'⟩ := zmj (P := P') (S := S') (a := P.F 0 l) (b := P.F 1 l) (r1.trans hB) hb
        by_cases d : S.F 27 (P.F 0 l).toNatClampNeg = S.F 27 (P.F 1 l).toNatClampNeg
        · have d' := (hs _ _ la lb).mp d
          have ej : fGR_join P S (P.F 0 l) (P.F 1 l) = (S, 0) := by
            simp only [fGR_join, zl]
            rw [if_pos d]
          rw [if_pos d'] at e1'
          rw [ej, e1', if_pos rfl]
          refine ih (l + 1) S S1' k (by omega) (by omega) (fun i j hi hj => ?_) h15 h14 (by omega)
          have hh : ∀ q, S1'.F 33 q = S'.F 33 q := fun q => by
            rw [f1' q]
            unfold zgo
            by_cases w : q < nb ∧ S'.F 33 q = S'.F 33 (P.F 0 l).toNatClampNeg
            · rw [if_pos w, ← d', ← w.2]
            · rw [if_neg w]
          rw [hh i, hh j]
          exact hs i j hi hj
        · have d' : ¬ S'.F 33 (P.F 0 l).toNatClampNeg = S'.F 33 (P.F 1 l).toNatClampNeg := fun h => d ((hs _ _ la lb).mpr h)
          obtain ⟨S1, e1, f1, g14, g15⟩ := zgj (P := P) (S := S) (a := P.F 0 l) (b := P.F 1 l) h15 hb d
          rw [if_neg d'] at e1'
          rw [e1, e1', if_neg (by decide : ¬ (1 : Int32) = 0), zsub2 (by omega) (by omega)]
          refine ih (l + 1) S1 S1' (k + 1) (by omega) (by omega) (zsm_join la lb hs f1 f1') g15 ?_ (by omega)
          rw [g14, h14, zsub1 (by omega) (by omega)]
      · rw [if_neg c2, if_neg c2]
        refine ih (l + 1) S S' k (by omega) (by omega) hs h15 h14 ?_
        rw [zcn_0 c2]; exact hk
