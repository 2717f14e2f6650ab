
/-! a chain that hangs on a closed ring: both ways of looking at it -/
theorem zends_iff {P S : ZS} {q r nb nl : Nat} (hp : zPn P nb nl) : (¬ fPL_hasEndsOf P S (nI q) (nI r) = 0) ↔ ∀ b, b < nb → ¬ (zdg P (nI b) (nI r) nl = 1 ∧ zdg P (nI b) (nI q) nl = 0) := by
  obtain ⟨hB, hb, hI, hn, hg, hL⟩ := hp
  have n1 : ¬ (1 : Int32) = 0 := by decide
  have z1 : (1 : Int32) = nI 1 := by decide
  have z0 : (0 : Int32) = nI 0 := by decide
  have key : ∀ (n b : Nat), b ≤ nb → nb - b < n → ((¬ zfix (fun _ _ _ => 0) (fPL_hasEndsOf_2 P S) n (nI q) (nI r) (nI b) = 0) ↔ ∀ j, b ≤ j → j < nb → ¬ (zdg P (nI j) (nI r) nl = 1 ∧ zdg P (nI j) (nI q) nl = 0)) := by
    intro n
    induction n with
    | zero => intro b h1 h2; omega
    | succ n ih =>
      intro b h1 h2
      rw [zfix_s]
      generalize zfix (fun _ _ _ => 0) (fPL_hasEndsOf_2 P S) n = rc at ih ⊢
      simp only [fPL_hasEndsOf_2, fPL_hasEndsOf_31, zl]
      rw [hB]
      by_cases c : nb ≤ b
      · rw [if_pos (nI_le c (by omega))]
        exact ⟨fun _ j a w => by omega, fun _ => n1⟩
      · rw [if_neg (nI_ge (by omega) (by omega)), zcl_eq hI hn, zcl_eq hI hn, nI_1]
        have dr := zdg_le (P := P) (b := nI b) (r := nI r) nl
        have dq := zdg_le (P := P) (b := nI b) (r := nI q) nl
        have go : ¬ (zdg P (nI b) (nI r) nl = 1 ∧ zdg P (nI b) (nI q) nl = 0) → ((¬ rc (nI q) (nI r) (nI (b + 1)) = 0) ↔ ∀ j, b ≤ j → j < nb → ¬ (zdg P (nI j) (nI r) nl = 1 ∧ zdg P (nI j) (nI q) nl = 0)) := by
          intro hno
          rw [ih (b + 1) (by omega) (by omega)]
          refine ⟨fun h j a w => ?_, fun h j a w => h j (by omega) w⟩
          by_cases e : j = b
          · rw [e]; exact hno
          · exact h j (by omega) w
        by_cases c1 : zdg P (nI b) (nI r) nl = 1
        · rw [if_pos (by rw [c1]; decide)]
          by_cases c2 : zdg P (nI b) (nI q) nl = 0
          · rw [if_pos (by rw [c2]; decide)]
            exact ⟨fun h => absurd rfl h, fun h => absurd ⟨c1, c2⟩ (h b (Nat.le_refl _) (by omega))⟩
          · rw [if_neg (fun h => c2 ((nI_eq (b := 0) (by omega) (by decide)).mp (h.trans z0)))]
            exact go (fun h => c2 h.2)
        · rw [if_neg (fun h => c1 ((nI_eq (b := 1) (by omega) (by decide)).mp (h.trans z1)))]
          exact go (fun h => c1 h.1)
  have h := key 49 0 (Nat.zero_le _) (by omega)
  exact h.trans ⟨fun h b w => h b (Nat.zero_le _) w, fun h b _ w => h b w⟩
theorem zheld_iff {P S : ZS} {r nb nl : Nat} (hp : zPn P nb nl) (hr6 : r ≤ 5) : (¬ fPL_isHeldByClosedRing P S (nI r) = 0) ↔ ∃ q, q < r ∧ ¬ P.F 8 q = 0 ∧ ∀ b, b < nb → ¬ (zdg P (nI b) (nI r) nl = 1 ∧ zdg P (nI b) (nI q) nl = 0) := by
  have n1 : ¬ (1 : Int32) = 0 := by decide
  have key : ∀ (n q : Nat), q ≤ r → r - q < n → ((¬ zfix (fun _ _ => 0) (fPL_isHeldByClosedRing_2 P S) n (nI r) (nI q) = 0) ↔ ∃ j, q ≤ j ∧ j < r ∧ ¬ P.F 8 j = 0 ∧ ∀ b, b < nb → ¬ (zdg P (nI b) (nI r) nl = 1 ∧ zdg P (nI b) (nI j) nl = 0)) := by
    intro n
    induction n with
    | zero => intro q h1 h2; omega
    | succ n ih =>
      intro q h1 h2
      rw [zfix_s]
      generalize zfix (fun _ _ => 0) (fPL_isHeldByClosedRing_2 P S) n = rc at ih ⊢
      simp only [fPL_isHeldByClosedRing_2, fPL_isHeldByClosedRing_27, zl]
      by_cases c : r ≤ q
      · rw [if_pos (nI_le c (by omega))]
        exact ⟨fun h => absurd rfl h, fun ⟨j, a, w, _⟩ => by omega⟩
      · rw [if_neg (nI_ge (by omega) (by omega)), nI_clamp (by omega), nI_1]
        have go : ¬ (¬ P.F 8 q = 0 ∧ ∀ b, b < nb → ¬ (zdg P (nI b) (nI r) nl = 1 ∧ zdg P (nI b) (nI q) nl = 0)) → ((¬ rc (nI r) (nI (q + 1)) = 0) ↔ ∃ j, q ≤ j ∧ j < r ∧ ¬ P.F 8 j = 0 ∧ ∀ b, b < nb → ¬ (zdg P (nI b) (nI r) nl = 1 ∧ zdg P (nI b) (nI j) nl = 0)) := by
          intro hno
          rw [ih (q + 1) (by omega) (by omega)]
          refine ⟨fun ⟨j, a, w⟩ => ⟨j, by omega, w⟩, fun ⟨j, a, w, w2⟩ => ⟨j, Nat.lt_of_le_of_ne a (fun e => ?_), w, w2⟩⟩
          subst e
          exact hno w2
        by_cases c1 : P.F 8 q = 0
        · rw [if_pos c1]
          exact go (fun h => h.1 c1)
        · rw [if_neg c1]
          have he := zends_iff (S := S) (q := q) (r := r) hp
          by_cases c2 : fPL_hasEndsOf P S (nI q) (nI r) = 0
          · rw [if_pos c2]
            exact go (fun h => he.mpr h.2 c2)
          · rw [if_neg c2]
            exact ⟨fun _ => ⟨q, Nat.le_refl _, by omega, c1, he.mp c2⟩, fun _ => n1⟩
  have h := key 6 0 (Nat.zero_le _) (by omega)
  exact h.trans ⟨fun ⟨j, _, w⟩ => ⟨j, w⟩, fun ⟨j, w⟩ => ⟨j, Nat.zero_le _, w⟩⟩
/-- ends of ring r that are in ring q -/
abbrev zpH (P : ZS) (r q nl : Nat) : Nat → Prop := fun b => zdg P (nI b) (nI r) nl = 1 ∧ 0 < zdg P (nI b) (nI q) nl
theorem zhung_iff {P P' S : ZS} {r nb nl : Nat} (hp : zPn P nb nl) (hr : zRP P P') (hr6 : r ≤ 5) : (¬ fMO_isHung P' S (nI r) = 0) ↔ ∃ q, q < r ∧ ¬ P'.F 5 q = 0 ∧ zct (zpH P r q nl) nb = 2 := by
  have hr2 := hr
  obtain ⟨hB, hb, hI, hn, hg, hL⟩ := hp
  obtain ⟨r1, r2, r3, r4, r5, -⟩ := hr
  have hB' : P'.I 1 = nI nb := r1.trans hB
  have hI' : P'.I 2 = nI nl := r2.trans hI
  have n1 : ¬ (1 : Int32) = 0 := by decide
  have z1 : (1 : Int32) = nI 1 := by decide
  have z2 : (2 : Int32) = nI 2 := by decide
  have a0 : ∀ n : Nat, nI n + 0 = nI n := fun n => Int32.add_zero _
  have inner : ∀ (rc : Int32 → Int32 → Int32 → Int32) (q : Nat), q ≤ 5 → ∀ (n b : Nat) (y : Int32), b ≤ nb → nb - b < n →
      ((¬ y = 0 ∨ (¬ P'.F 5 q = 0 ∧ zct (zpH P r q nl) nb = 2)) → zfix (fun _ _ _ _ _ => 0) (fMO_isHung_15 P' S rc) n (nI r) y (nI q) (nI (zct (zpH P r q nl) b)) (nI b) = rc (nI r) 1 (nI (q + 1))) ∧
      (¬ (¬ y = 0 ∨ (¬ P'.F 5 q = 0 ∧ zct (zpH P r q nl) nb = 2)) → zfix (fun _ _ _ _ _ => 0) (fMO_isHung_15 P' S rc) n (nI r) y (nI q) (nI (zct (zpH P r q nl) b)) (nI b) = rc (nI r) 0 (nI (q + 1))) := by
    intro rc q hq n
    induction n with
    | zero => intro b y h1 h2; omega
    | succ n ih =>
      intro b y h1 h2
      rw [zfix_s]
      generalize zfix (fun _ _ _ _ _ => 0) (fMO_isHung_15 P' S rc) n = rc2 at ih ⊢
      simp only [fMO_isHung_15, fMO_isHung_51, fMO_isHung_52, fMO_isHung_80, fMO_isHung_84, fMO_isHung_85, zl]
      rw [hB']
      by_cases c : nb ≤ b
      · have e : b = nb := by omega
        have cl := zct_le (p := zpH P r q nl) nb
        rw [if_pos (nI_le c (by omega)), e, nI_clamp (by omega), nI_1]
        by_cases cy : y = 0
        · rw [if_pos cy]
          by_cases c5 : P'.F 5 q = 0
          · rw [if_pos c5]
            exact ⟨fun h => h.elim (fun h => absurd cy h) (fun h => absurd c5 h.1), fun _ => rfl⟩
          · rw [if_neg c5]
            by_cases ct : zct (zpH P r q nl) nb = 2
            · rw [if_pos (by rw [ct]; decide)]
              exact ⟨fun _ => rfl, fun h => absurd (Or.inr ⟨c5, ct⟩) h⟩
            · rw [if_neg (fun h => ct ((nI_eq (b := 2) (by omega) (by decide)).mp (h.trans z2)))]
              exact ⟨fun h => h.elim (fun h => absurd cy h) (fun h => absurd h.2 ct), fun _ => rfl⟩
        · rw [if_neg cy]
          exact ⟨fun _ => rfl, fun h => absurd (Or.inl cy) h⟩
      · rw [if_neg (nI_ge (by omega) (by omega)), zdi_eq hI' hn, zdi_eq hI' hn, zdg_RP hr2, zdg_RP hr2, nI_1]
        have dr := zdg_le (P := P) (b := nI b) (r := nI r) nl
        have dq := zdg_le (P := P) (b := nI b) (r := nI q) nl
        have i1 := ih (b + 1) y (by omega) (by omega)
        by_cases c1 : zdg P (nI b) (nI r) nl = 1
        · rw [if_pos (by rw [c1]; decide)]
          by_cases c2 : 0 < zdg P (nI b) (nI q) nl
          · rw [if_neg (nI_nle c2 (by omega)), nI_1, ← zct_1 (p := zpH P r q nl) ⟨c1, c2⟩]
            exact i1
          · have e0 : zdg P (nI b) (nI q) nl = 0 := by omega
            rw [e0, if_pos (by decide : nI 0 ≤ 0), a0, ← zct_0 (p := zpH P r q nl) (fun h => c2 h.2)]
            exact i1
        · rw [if_neg (fun h => c1 ((nI_eq (b := 1) (by omega) (by decide)).mp (h.trans z1))), a0, ← zct_0 (p := zpH P r q nl) (fun h => c1 h.1)]
          exact i1
  have key : ∀ (n q : Nat) (y : Int32), q ≤ r → r - q < n → ((¬ zfix (fun _ _ _ => 0) (fMO_isHung_4 P' S) n (nI r) y (nI q) = 0) ↔ (¬ y = 0 ∨ ∃ j, q ≤ j ∧ j < r ∧ ¬ P'.F 5 j = 0 ∧ zct (zpH P r j nl) nb = 2)) := by
    intro n
    induction n with
    | zero => intro q y h1 h2; omega
    | succ n ih =>
      intro q y h1 h2
      rw [zfix_s]
      generalize zfix (fun _ _ _ => 0) (fMO_isHung_4 P' S) n = rc at ih ⊢
      unfold fMO_isHung_4
      by_cases c : r ≤ q
      · rw [if_pos (nI_le c (by omega))]
        exact ⟨Or.inl, fun h => h.elim id (fun ⟨j, a, w, _⟩ => by omega)⟩
      · rw [if_neg (nI_ge (by omega) (by omega))]
        obtain ⟨b1, b2⟩ := inner rc q (by omega) 49 0 y (Nat.zero_le _) (by omega)
        by_cases d : ¬ y = 0 ∨ (¬ P'.F 5 q = 0 ∧ zct (zpH P r q nl) nb = 2)
        · have e := b1 d
          refine (show (¬ zfix (fun _ _ _ _ _ => 0) (fMO_isHung_15 P' S rc) 49 (nI r) y (nI q) 0 0 = 0) ↔ (¬ rc (nI r) 1 (nI (q + 1)) = 0) from by rw [show zfix (fun _ _ _ _ _ => 0) (fMO_isHung_15 P' S rc) 49 (nI r) y (nI q) 0 0 = rc (nI r) 1 (nI (q + 1)) from e]).trans ?_
          rw [ih (q + 1) 1 (by omega) (by omega)]
          exact ⟨fun _ => d.elim Or.inl (fun d => Or.inr ⟨q, Nat.le_refl _, by omega, d⟩), fun _ => Or.inl n1⟩
        · have e := b2 d
          refine (show (¬ zfix (fun _ _ _ _ _ => 0) (fMO_isHung_15 P' S rc) 49 (nI r) y (nI q) 0 0 = 0) ↔ (¬ rc (nI r) 0 (nI (q + 1)) = 0) from by rw [show zfix (fun _ _ _ _ _ => 0) (fMO_isHung_15 P' S rc) 49 (nI r) y (nI q) 0 0 = rc (nI r) 0 (nI (q + 1)) from e]).trans ?_
          rw [ih (q + 1) 0 (by omega) (by omega)]
          refine ⟨fun h => h.elim (fun h => absurd rfl h) (fun ⟨j, a, w⟩ => Or.inr ⟨j, by omega, w⟩), fun h => h.elim (fun h => absurd (Or.inl h) d) (fun ⟨j, a, w, w2⟩ => Or.inr ⟨j, Nat.lt_of_le_of_ne a (fun e9 => ?_), w, w2⟩)⟩
          subst e9
          exact d (Or.inr w2)
  have h := key 6 0 0 (Nat.zero_le _) (by omega)
  exact h.trans ⟨fun h => h.elim (fun h => absurd rfl h) (fun ⟨j, _, w⟩ => ⟨j, w⟩), fun ⟨j, w⟩ => Or.inr ⟨j, Nat.zero_le _, w⟩⟩
