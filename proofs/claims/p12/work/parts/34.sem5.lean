
theorem zpiece {P P' S S' : ZS} {r : Int32} {nb nl m : Nat} (hp : zPn P nb nl) (hr : zRP P P') (hm : m = zct (zpM P r nl) nb) :
    (fPL_isOnePiece P S r (nI m)).2 = (fMO_isOne P' S' r).2 ∧ (¬ (fPL_isOnePiece P S r (nI m)).2 = 0 → ∃ k', k' ≤ zcn P r nl ∧ m = k' + 1) := by
  have hp2 := hp
  have hr2 := hr
  obtain ⟨hB, hb, hI, hn, hg, hL⟩ := hp
  obtain ⟨r1, r2, r3, r4, r5, -⟩ := hr
  have m48 : m ≤ 48 := by rw [hm]; exact Nat.le_trans (zct_le nb) hb
  have hB' : P'.I 1 = nI nb := r1.trans hB
  have hI' : P'.I 2 = nI nl := r2.trans hI
  have a0 : ∀ n : Nat, nI n + 0 = nI n := fun n => Int32.add_zero _
  have l2 : ∀ (n l : Nat) (T : ZS), l ≤ nb → nb - l < n → (∀ i, i < l → T.F 33 i = nI i) → ∃ T1 : ZS, (∀ i, i < nb → T1.F 33 i = nI i) ∧ zfix (fun S9 _ _ => (S9, 0)) (fMO_isOne_2 P') n T r (nI l) = zfix (fun S9 _ _ _ => (S9, 0)) (fMO_isOne_27 P') 49 T1 r 0 0 := by
    intro n
    induction n with
    | zero => intro l T h1 h2; omega
    | succ n ih =>
      intro l T h1 h2 hF
      rw [zfix_s]
      generalize zfix (fun S9 _ _ => (S9, 0)) (fMO_isOne_2 P') n = rc at ih ⊢
      simp only [fMO_isOne_2, zl]
      rw [hB']
      by_cases c : nb ≤ l
      · rw [if_pos (nI_le c (by omega))]
        exact ⟨T, fun i hi => hF i (by omega), rfl⟩
      · rw [if_neg (nI_ge (by omega) (by omega)), nI_clamp (by omega), nI_1]
        refine ih (l + 1) (T.setF 33 l (nI l)) (by omega) (by omega) (fun i hi => ?_)
        rw [zset27]
        by_cases e : i = l
        · rw [if_pos e, e]
        · rw [if_neg e]; exact hF i (by omega)
  have l27 : ∀ (n b : Nat) (T : ZS), b ≤ nb → nb - b < n → zfix (fun S9 _ _ _ => (S9, 0)) (fMO_isOne_27 P') n T r (nI (zct (zpM P r nl) b)) (nI b) = zfix (fun S9 _ _ _ => (S9, 0)) (fMO_isOne_60 P') 61 T r (nI m) 0 := by
    intro n
    induction n with
    | zero => intro b T h1 h2; omega
    | succ n ih =>
      intro b T h1 h2
      rw [zfix_s]
      generalize zfix (fun S9 _ _ _ => (S9, 0)) (fMO_isOne_27 P') n = rc at ih ⊢
      simp only [fMO_isOne_27, fMO_isOne_50, zl]
      rw [hB']
      by_cases c : nb ≤ b
      · have e : b = nb := by omega
        rw [if_pos (nI_le c (by omega)), e, hm]
      · rw [if_neg (nI_ge (by omega) (by omega)), zdi_eq hI' hn, zdg_RP hr2, nI_1]
        have dl := zdg_le (P := P) (b := nI b) (r := r) nl
        by_cases c2 : 0 < zdg P (nI b) r nl
        · rw [if_neg (nI_nle c2 (by omega)), nI_1, ← zct_1 (p := zpM P r nl) c2]
          exact ih (b + 1) T (by omega) (by omega)
        · have e0 : zdg P (nI b) r nl = 0 := by omega
          rw [e0, if_pos (by decide : nI 0 ≤ 0), a0, ← zct_0 (p := zpM P r nl) c2]
          exact ih (b + 1) T (by omega) (by omega)
  obtain ⟨T1, t1, e1⟩ := l2 49 0 S' (Nat.zero_le _) (by omega) (fun i h => absurd h (Nat.not_lt_zero _))
  have e2 := l27 49 0 T1 (Nat.zero_le _) (by omega)
  obtain ⟨s1, s2, s3⟩ := zsep (P := P) (S := S) hb
  have e3 : fMO_isOne P' S' r = zfix (fun S9 _ _ _ => (S9, 0)) (fMO_isOne_60 P') 61 T1 r (nI m - nI 0) (nI 0) := by
    have e4 : nI m - nI 0 = nI m := by rw [show nI 0 = 0 from nI_0]; exact Int32.sub_zero _
    rw [e4]
    exact e1.trans e2
  have e5 : fPL_isOnePiece P S r (nI m) = zfix (fun S9 _ _ _ => (S9, 0)) (fPL_isOnePiece_11 P) 61 (fGR_separate P S (nI nb)) r (nI m) (nI 0) := by
    unfold fPL_isOnePiece
    simp only [zl]
    rw [hB]
    rfl
  rw [e3, e5]
  refine zone hp2 hr2 m48 61 0 _ T1 0 (Nat.zero_le _) (by omega) (fun i j hi hj => ?_) s3 ?_ (Nat.zero_le _)
  · rw [s1 i hi, s1 j hj, t1 i hi, t1 j hj]
  · rw [s2, show nI 0 = 0 from nI_0]
    exact (Int32.sub_zero _).symm
/-- what the class does with a ring whose degrees are at most two -/
noncomputable def ztC (P S : ZS) (r f m e s : Int32) : ZS × ZS × Int32 := if m < 3 then (P, S, 0) else zl2 (fPL_isOnePiece P S r m) (fun S14 k13 => if k13 = 0 then (P, S14, 0) else if e = 0 then fPL_hasRightShape_134 P S14 r f e s 1 r else fPL_hasRightShape_134 P S14 r f e s 0 r)
theorem zshC {P S : ZS} {f : Int32} {r nb nl : Nat} (hp : zPn P nb nl) (hr6 : r ≤ 5) :
    ((∀ j, j < nb → zdg P (nI j) (nI r) nl ≤ 2) → fPL_hasRightShape P S (nI r) f = ztC P S (nI r) f (nI (zct (zpM P (nI r) nl) nb)) (nI (zct (zpE P (nI r) nl) nb)) (nI (zct (zpS P r nl) nb))) ∧
    ((∃ j, j < nb ∧ 2 < zdg P (nI j) (nI r) nl) → fPL_hasRightShape P S (nI r) f = (P, S, 0)) := by
  obtain ⟨hB, hb, hI, hn, hg, hL⟩ := hp
  have a0 : ∀ n : Nat, nI n + 0 = nI n := fun n => Int32.add_zero _
  have z2 : (2 : Int32) = nI 2 := by decide
  have z1 : (1 : Int32) = nI 1 := by decide
  have key : ∀ (n b : Nat), b ≤ nb → nb - b < n →
      ((∀ j, b ≤ j → j < nb → zdg P (nI j) (nI r) nl ≤ 2) → zfix (fun P9 S9 _ _ _ _ _ _ => (P9, S9, 0)) fPL_hasRightShape_12 n P S (nI r) f (nI (zct (zpM P (nI r) nl) b)) (nI (zct (zpE P (nI r) nl) b)) (nI (zct (zpS P r nl) b)) (nI b) = ztC P S (nI r) f (nI (zct (zpM P (nI r) nl) nb)) (nI (zct (zpE P (nI r) nl) nb)) (nI (zct (zpS P r nl) nb))) ∧
      ((∃ j, b ≤ j ∧ j < nb ∧ 2 < zdg P (nI j) (nI r) nl) → zfix (fun P9 S9 _ _ _ _ _ _ => (P9, S9, 0)) fPL_hasRightShape_12 n P S (nI r) f (nI (zct (zpM P (nI r) nl) b)) (nI (zct (zpE P (nI r) nl) b)) (nI (zct (zpS P r nl) b)) (nI b) = (P, S, 0)) := by
    intro n
    induction n with
    | zero => intro b h1 h2; omega
    | succ n ih =>
      intro b h1 h2
      rw [zfix_s]
      generalize zfix (fun P9 S9 _ _ _ _ _ _ => (P9, S9, 0)) fPL_hasRightShape_12 n = rc at ih ⊢
      simp only [fPL_hasRightShape_12, fPL_hasRightShape_50, fPL_hasRightShape_66, fPL_hasRightShape_90, fPL_hasRightShape_91, fPL_hasRightShape_117, zl]
      rw [hB]
      by_cases c : nb ≤ b
      · have e : b = nb := by omega
        rw [if_pos (nI_le c (by omega)), e]
        exact ⟨fun _ => rfl, fun ⟨j, a, q, _⟩ => by omega⟩
      · rw [if_neg (nI_ge (by omega) (by omega)), zcl_eq hI hn]
        have dl := zdg_le (P := P) (b := nI b) (r := nI r) nl
        have hib := zib_iff (S := S) (b := nI b) (r := r) hI hn (by omega) hg
        obtain ⟨i1, i2⟩ := ih (b + 1) (by omega) (by omega)
        have fin : ∀ X : ZS × ZS × Int32, X = rc P S (nI r) f (nI (zct (zpM P (nI r) nl) (b + 1))) (nI (zct (zpE P (nI r) nl) (b + 1))) (nI (zct (zpS P r nl) (b + 1))) (nI (b + 1)) → zdg P (nI b) (nI r) nl ≤ 2 →
            ((∀ j, b ≤ j → j < nb → zdg P (nI j) (nI r) nl ≤ 2) → X = ztC P S (nI r) f (nI (zct (zpM P (nI r) nl) nb)) (nI (zct (zpE P (nI r) nl) nb)) (nI (zct (zpS P r nl) nb))) ∧ ((∃ j, b ≤ j ∧ j < nb ∧ 2 < zdg P (nI j) (nI r) nl) → X = (P, S, 0)) := by
          intro X hX hd
          rw [hX]
          refine ⟨fun h => i1 (fun j a q => h j (by omega) q), fun ⟨j, a, q, w⟩ => i2 ⟨j, Nat.lt_of_le_of_ne a (fun e => ?_), q, w⟩⟩
          subst e
          omega
        generalize hd : zdg P (nI b) (nI r) nl = d at dl fin ⊢
        by_cases c2 : d ≤ 2
        · rw [z2, if_pos (nI_le c2 (by omega))]
          by_cases c0 : 0 < d
          · have pm : zpM P (nI r) nl b := by show 0 < zdg P (nI b) (nI r) nl; omega
            rw [if_neg (nI_nle c0 (by omega)), if_neg (nI_nle c0 (by omega)), if_neg (nI_nle c0 (by omega))]
            by_cases cE : d = 1
            · have pe : zpE P (nI r) nl b := by show zdg P (nI b) (nI r) nl = 1; omega
              rw [if_pos (by rw [cE]; decide)]
              by_cases cS : fPL_isInRingBefore P S (nI b) (nI r) = 0
              · have ps : ¬ zpS P r nl b := fun h => hib.mpr h.2 cS
                rw [if_pos cS]
                refine fin _ ?_ c2
                rw [zct_1 pm, zct_1 pe, zct_0 ps, nI_1, nI_1, a0, nI_1]
              · have ps : zpS P r nl b := ⟨pm, hib.mp cS⟩
                rw [if_neg cS]
                refine fin _ ?_ c2
                rw [zct_1 pm, zct_1 pe, zct_1 ps, nI_1, nI_1, nI_1, nI_1]
            · have pe : ¬ zpE P (nI r) nl b := by show ¬ zdg P (nI b) (nI r) nl = 1; omega
              rw [if_neg (fun h => cE ((nI_eq (b := 1) (by omega) (by decide)).mp (h.trans z1)))]
              by_cases cS : fPL_isInRingBefore P S (nI b) (nI r) = 0
              · have ps : ¬ zpS P r nl b := fun h => hib.mpr h.2 cS
                rw [if_pos cS]
                refine fin _ ?_ c2
                rw [zct_1 pm, zct_0 pe, zct_0 ps, nI_1, a0, a0, nI_1]
              · have ps : zpS P r nl b := ⟨pm, hib.mp cS⟩
                rw [if_neg cS]
                refine fin _ ?_ c2
                rw [zct_1 pm, zct_0 pe, zct_1 ps, nI_1, a0, nI_1, nI_1]
          · have e0 : d = 0 := by omega
            have pm : ¬ zpM P (nI r) nl b := by show ¬ 0 < zdg P (nI b) (nI r) nl; omega
            have pe : ¬ zpE P (nI r) nl b := by show ¬ zdg P (nI b) (nI r) nl = 1; omega
            have ps : ¬ zpS P r nl b := fun h => pm h.1
            rw [if_pos (by rw [e0]; decide), if_neg (by rw [e0]; decide), if_pos (by rw [e0]; decide)]
            refine fin _ ?_ c2
            rw [zct_0 pm, zct_0 pe, zct_0 ps, a0, a0, a0, nI_1]
        · rw [z2, if_neg (nI_ge (by omega) (by omega))]
          exact ⟨fun h => absurd (h b (Nat.le_refl _) (by omega)) (by omega), fun _ => rfl⟩
  have h := key 49 0 (Nat.zero_le _) (by omega)
  exact ⟨fun q => h.1 (fun j _ w => q j w), fun ⟨j, a, q⟩ => h.2 ⟨j, Nat.zero_le _, a, q⟩⟩
