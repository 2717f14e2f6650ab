
theorem zfo24x {P S : ZS} {nl b : Nat} (hI : P.I 2 = nI nl) (hn : nl ≤ 60) (rc : ZS → ZS → Int32 → (ZS × ZS × Int32)) : ∀ (n r : Nat) (a : Int32), r ≤ 6 → 6 - r < n →
    ((¬ a = 0 ∨ ∃ q, r ≤ q ∧ q < 6 ∧ 0 < zdg P (nI b) (nI q) nl) → zfix (fun P9 S9 _ _ _ => (P9, S9, 0)) (fMO_faultOf_24 rc) n P S (nI b) a (nI r) = rc P S (nI (b + 1))) ∧
    (¬ (¬ a = 0 ∨ ∃ q, r ≤ q ∧ q < 6 ∧ 0 < zdg P (nI b) (nI q) nl) → zfix (fun P9 S9 _ _ _ => (P9, S9, 0)) (fMO_faultOf_24 rc) n P S (nI b) a (nI r) = (P, S, 7)) := by
  have z6 : (6 : Int32) = nI 6 := by decide
  have n1 : ¬ (1 : Int32) = 0 := by decide
  intro n
  induction n with
  | zero => intro r a h1 h2; omega
  | succ n ih =>
    intro r a h1 h2
    rw [zfix_s]
    generalize zfix (fun P9 S9 _ _ _ => (P9, S9, 0)) (fMO_faultOf_24 rc) n = rc2 at ih ⊢
    simp only [fMO_faultOf_24, fMO_faultOf_43, fMO_faultOf_48, zl]
    rw [z6, nI_1]
    by_cases c : 6 ≤ r
    · rw [if_pos (nI_le c (by omega))]
      by_cases ca : a = 0
      · rw [if_pos ca]
        exact ⟨fun h => h.elim (fun h => absurd ca h) (fun ⟨q, w, w2, _⟩ => by omega), fun _ => rfl⟩
      · rw [if_neg ca]
        exact ⟨fun _ => rfl, fun h => absurd (Or.inl ca) h⟩
    · rw [if_neg (nI_ge (by omega) (by omega)), nI_1, zdi_eq hI hn]
      have dl := zdg_le (P := P) (b := nI b) (r := nI r) nl
      have one : ∀ X, X = rc2 P S (nI b) 1 (nI (r + 1)) → (¬ a = 0 ∨ ∃ q, r ≤ q ∧ q < 6 ∧ 0 < zdg P (nI b) (nI q) nl) → ((¬ a = 0 ∨ ∃ q, r ≤ q ∧ q < 6 ∧ 0 < zdg P (nI b) (nI q) nl) → X = rc P S (nI (b + 1))) ∧ (¬ (¬ a = 0 ∨ ∃ q, r ≤ q ∧ q < 6 ∧ 0 < zdg P (nI b) (nI q) nl) → X = (P, S, 7)) := by
        intro X hX hc
        rw [hX]
        exact ⟨fun _ => (ih (r + 1) 1 (by omega) (by omega)).1 (Or.inl n1), fun h => absurd hc h⟩
      by_cases ca : a = 0
      · rw [if_pos ca]
        by_cases cd : 0 < zdg P (nI b) (nI r) nl
        · rw [if_neg (nI_nle cd (by omega))]
          exact one _ rfl (Or.inr ⟨r, Nat.le_refl _, by omega, cd⟩)
        · have e0 : zdg P (nI b) (nI r) nl = 0 := by omega
          rw [e0, if_pos (by decide : nI 0 ≤ 0)]
          have hiff : (¬ (0 : Int32) = 0 ∨ ∃ q, r + 1 ≤ q ∧ q < 6 ∧ 0 < zdg P (nI b) (nI q) nl) ↔ (¬ a = 0 ∨ ∃ q, r ≤ q ∧ q < 6 ∧ 0 < zdg P (nI b) (nI q) nl) := by
            constructor
            · rintro (h | ⟨q, w, w2⟩)
              · exact absurd rfl h
              · exact Or.inr ⟨q, by omega, w2⟩
            · rintro (h | ⟨q, w, w2, w3⟩)
              · exact absurd ca h
              · refine Or.inr ⟨q, Nat.lt_of_le_of_ne w (fun e => ?_), w2, w3⟩
                subst e
                omega
          obtain ⟨i1, i2⟩ := ih (r + 1) 0 (by omega) (by omega)
          exact ⟨fun h => i1 (hiff.mpr h), fun h => i2 (fun h2 => h (hiff.mp h2))⟩
      · rw [if_neg ca]
        exact one _ rfl (Or.inl ca)
theorem zfo12x {P S : ZS} {nb nl : Nat} (hB : P.I 1 = nI nb) (hb : nb ≤ 48) (hI : P.I 2 = nI nl) (hn : nl ≤ 60) : ∀ (n b : Nat), b ≤ nb → nb - b < n →
    ((∃ j, b ≤ j ∧ j < nb ∧ ¬ ∃ q, q < 6 ∧ 0 < zdg P (nI j) (nI q) nl) → zfix (fun P9 S9 _ => (P9, S9, 0)) fMO_faultOf_12 n P S (nI b) = (P, S, 7)) ∧
    (¬ (∃ j, b ≤ j ∧ j < nb ∧ ¬ ∃ q, q < 6 ∧ 0 < zdg P (nI j) (nI q) nl) → zfix (fun P9 S9 _ => (P9, S9, 0)) fMO_faultOf_12 n P S (nI b) = zfix (fun P9 S9 _ _ => (P9, S9, 0)) fMO_faultOf_72 7 P S 1 0) := by
  intro n
  induction n with
  | zero => intro b h1 h2; omega
  | succ n ih =>
    intro b h1 h2
    rw [zfix_s]
    generalize zfix (fun P9 S9 _ => (P9, S9, 0)) fMO_faultOf_12 n = rc at ih ⊢
    unfold fMO_faultOf_12
    simp only [zl]
    rw [hB]
    by_cases c : nb ≤ b
    · rw [if_pos (nI_le c (by omega))]
      exact ⟨fun ⟨j, w, w2, _⟩ => by omega, fun _ => rfl⟩
    · rw [if_neg (nI_ge (by omega) (by omega))]
      obtain ⟨b1, b2⟩ := zfo24x (S := S) (b := b) hI hn rc 7 0 0 (by omega) (by omega)
      obtain ⟨i1, i2⟩ := ih (b + 1) (by omega) (by omega)
      by_cases d : ∃ q, q < 6 ∧ 0 < zdg P (nI b) (nI q) nl
      · have e : zfix (fun P9 S9 _ _ _ => (P9, S9, 0)) (fMO_faultOf_24 rc) 7 P S (nI b) 0 0 = rc P S (nI (b + 1)) := b1 (Or.inr (d.elim (fun q w => ⟨q, Nat.zero_le _, w⟩)))
        rw [e]
        have hiff : (∃ j, b + 1 ≤ j ∧ j < nb ∧ ¬ ∃ q, q < 6 ∧ 0 < zdg P (nI j) (nI q) nl) ↔ (∃ j, b ≤ j ∧ j < nb ∧ ¬ ∃ q, q < 6 ∧ 0 < zdg P (nI j) (nI q) nl) := by
          constructor
          · rintro ⟨j, w, w2⟩
            exact ⟨j, by omega, w2⟩
          · rintro ⟨j, w, w2, w3⟩
            refine ⟨j, Nat.lt_of_le_of_ne w (fun e => ?_), w2, w3⟩
            subst e
            exact w3 d
        exact ⟨fun h => i1 (hiff.mpr h), fun h => i2 (fun h2 => h (hiff.mp h2))⟩
      · have e : zfix (fun P9 S9 _ _ _ => (P9, S9, 0)) (fMO_faultOf_24 rc) 7 P S (nI b) 0 0 = (P, S, 7) := b2 (fun h => h.elim (fun h => absurd rfl h) (fun ⟨q, _, w⟩ => d ⟨q, w⟩))
        rw [e]
        exact ⟨fun _ => rfl, fun h => absurd ⟨b, Nat.le_refl _, by omega, d⟩ h⟩
/-- start's verdict: the class's and the reference's -/
theorem zfaults {P P' S S' : ZS} {nb nl : Nat} (hp : zPn P nb nl) (g4 : ∀ j, zr (-1) 59 (P.F 4 j)) (hr : zRP P P') (hm : zM2 P) (hc : zC0 P nl) : (fPL_firstFault P S).2.2 = (fMO_faultOf P' S').2.2 ∧ zC0 (fPL_firstFault P S).1 nl := by
  have hp2 := hp
  obtain ⟨hB, hb, hI, hn, hg, hL⟩ := hp2
  have hB' : P'.I 1 = nI nb := hr.1.trans hB
  have hI' : P'.I 2 = nI nl := hr.2.1.trans hI
  simp only [fPL_firstFault, fPL_firstFault_14, fMO_faultOf, zl]
  rw [hI, hI']
  by_cases c : nI nl = 0
  · rw [if_pos c, if_pos c]
    exact ⟨rfl, hc⟩
  · rw [if_neg c, if_neg c]
    have bb := zbb_iff (S := S) hB hb hI hn hg
    obtain ⟨x1, x2⟩ := zfo12x (S := S') hB' hb hI' hn 49 0 (Nat.zero_le _) (by omega)
    have hiff : (∃ b, b < nb ∧ ¬ zbef P (nI b) 6 nl) ↔ (∃ j, 0 ≤ j ∧ j < nb ∧ ¬ ∃ q, q < 6 ∧ 0 < zdg P' (nI j) (nI q) nl) := by
      constructor
      · rintro ⟨b, w, w2⟩
        refine ⟨b, Nat.zero_le _, w, fun ⟨q, a, a2⟩ => w2 ((zbef_iff hg).mpr ⟨q, a, ?_⟩)⟩
        rw [← zdg_RP hr]; exact a2
      · rintro ⟨b, _, w, w2⟩
        refine ⟨b, w, fun h => w2 ?_⟩
        obtain ⟨q, a, a2⟩ := (zbef_iff hg).mp h
        exact ⟨q, a, by rw [zdg_RP hr]; exact a2⟩
    by_cases d : fPL_hasBareBridge P S = 0
    · rw [if_pos d]
      have e := x2 (fun h => bb.mpr (hiff.mpr h) d)
      have e' : zfix (fun P9 S9 _ => (P9, S9, 0)) fMO_faultOf_12 49 P' S' 0 = zfix (fun P9 S9 _ _ => (P9, S9, 0)) fMO_faultOf_72 7 P' S' 1 0 := e
      rw [e']
      exact zrings 7 0 P P' S S' 1 (by omega) (by omega) hp g4 hr hm hc (fun q h => absurd h (Nat.not_lt_zero _))
    · rw [if_neg d]
      have e := x1 (hiff.mp (bb.mp d))
      have e' : zfix (fun P9 S9 _ => (P9, S9, 0)) fMO_faultOf_12 49 P' S' 0 = (P', S', 7) := e
      rw [e']
      exact ⟨rfl, hc⟩
