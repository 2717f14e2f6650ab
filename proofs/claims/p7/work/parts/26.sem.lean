
/-! what the plan's counts say, on both sides -/
def zdg (P : ZS) (b r : Int32) : Nat → Nat
  | 0 => 0
  | n + 1 => zdg P b r n + (if P.F 2 n = r ∧ (P.F 0 n = b ∨ P.F 1 n = b) then 1 else 0)
theorem zdg_1 {P : ZS} {b r : Int32} {n : Nat} (h : P.F 2 n = r) (h2 : P.F 0 n = b ∨ P.F 1 n = b) : zdg P b r (n + 1) = zdg P b r n + 1 := by
  show zdg P b r n + _ = _
  rw [if_pos ⟨h, h2⟩]
theorem zdg_0 {P : ZS} {b r : Int32} {n : Nat} (h : ¬ (P.F 2 n = r ∧ (P.F 0 n = b ∨ P.F 1 n = b))) : zdg P b r (n + 1) = zdg P b r n := by
  show zdg P b r n + _ = _
  rw [if_neg h, Nat.add_zero]
theorem zdg_le {P : ZS} {b r : Int32} : ∀ n, zdg P b r n ≤ n
  | 0 => Nat.le_refl _
  | n + 1 => by
    have := zdg_le (P := P) (b := b) (r := r) n
    by_cases h : P.F 2 n = r ∧ (P.F 0 n = b ∨ P.F 1 n = b)
    · rw [zdg_1 h.1 h.2]; omega
    · rw [zdg_0 h]; omega
theorem zdg_pos {P : ZS} {b r : Int32} : ∀ n, 0 < zdg P b r n ↔ ∃ l, l < n ∧ P.F 2 l = r ∧ (P.F 0 l = b ∨ P.F 1 l = b)
  | 0 => ⟨fun h => absurd h (Nat.lt_irrefl _), fun ⟨l, h, _⟩ => absurd h (Nat.not_lt_zero _)⟩
  | n + 1 => by
    have ih := zdg_pos (P := P) (b := b) (r := r) n
    by_cases h : P.F 2 n = r ∧ (P.F 0 n = b ∨ P.F 1 n = b)
    · rw [zdg_1 h.1 h.2]
      exact ⟨fun _ => ⟨n, Nat.lt_succ_self n, h⟩, fun _ => Nat.succ_pos _⟩
    · rw [zdg_0 h, ih]
      exact ⟨fun ⟨l, a, q⟩ => ⟨l, Nat.lt_succ_of_lt a, q⟩, fun ⟨l, a, q⟩ => ⟨l, Nat.lt_of_le_of_ne (Nat.le_of_lt_succ a) (fun e => h (e ▸ q)), q⟩⟩
theorem zpo_iff {P S : ZS} {b : Int32} {l : Nat} (hl : l < 60) : fPL_portOf P S b (nI l) = -1 ↔ ¬ (P.F 0 l = b ∨ P.F 1 l = b) := by
  have z2 : (2 : Int32) = nI 2 := by decide
  have e2 : 2 * nI l = nI (2 * l) := by rw [z2, nI_mul]
  have n1 : ¬ nI (2 * l) = -1 := nI_ne (by omega)
  have n2 : ¬ nI (2 * l + 1) = -1 := nI_ne (by omega)
  simp only [fPL_portOf, zl]
  rw [nI_clamp (by omega), e2, nI_1]
  by_cases c1 : P.F 0 l = b
  · rw [if_pos c1]
    exact ⟨fun h => absurd h n1, fun h => absurd (Or.inl c1) h⟩
  · rw [if_neg c1]
    by_cases c2 : P.F 1 l = b
    · rw [if_pos c2]
      exact ⟨fun h => absurd h n2, fun h => absurd (Or.inr c2) h⟩
    · rw [if_neg c2]
      exact ⟨fun _ h => h.elim c1 c2, fun _ => rfl⟩
theorem zend_iff {P S : ZS} {b : Int32} {l : Nat} (hl : l < 60) : fMO_isEnd P S b (nI l) = 0 ↔ ¬ (P.F 0 l = b ∨ P.F 1 l = b) := by
  have n1 : ¬ (1 : Int32) = 0 := by decide
  simp only [fMO_isEnd, fMO_isEnd_20, zl]
  rw [nI_clamp (by omega)]
  by_cases c1 : P.F 0 l = b
  · rw [if_pos c1]
    exact ⟨fun h => absurd h n1, fun h => absurd (Or.inl c1) h⟩
  · rw [if_neg c1]
    by_cases c2 : P.F 1 l = b
    · rw [if_pos c2]
      exact ⟨fun h => absurd h n1, fun h => absurd (Or.inr c2) h⟩
    · rw [if_neg c2]
      exact ⟨fun _ h => h.elim c1 c2, fun _ => rfl⟩
theorem zcl_eq {P S : ZS} {b r : Int32} {nl : Nat} (hI : P.I 1 = nI nl) (hn : nl ≤ 60) : fPL_countLinks P S b r = nI (zdg P b r nl) := by
  have key : ∀ (n l : Nat), l ≤ nl → nl - l < n → zfix (fun _ _ _ _ => 0) (fPL_countLinks_5 P S) n b r (nI (zdg P b r l)) (nI l) = nI (zdg P b r nl) := by
    intro n
    induction n with
    | zero => intro l h1 h2; omega
    | succ n ih =>
      intro l h1 h2
      rw [zfix_s]
      generalize zfix (fun _ _ _ _ => 0) (fPL_countLinks_5 P S) n = rc at ih ⊢
      simp only [fPL_countLinks_5, fPL_countLinks_39, zl]
      rw [hI]
      by_cases c : nl ≤ l
      · have e : l = nl := by omega
        rw [if_pos (nI_le c (by omega)), e]
      · rw [if_neg (nI_ge (by omega) (by omega)), nI_clamp (by omega)]
        by_cases c2 : P.F 2 l = r
        · rw [if_pos c2]
          by_cases c3 : P.F 0 l = b ∨ P.F 1 l = b
          · rw [if_neg (fun h => (zpo_iff (by omega)).mp h c3), nI_1, nI_1, ← zdg_1 c2 c3]
            exact ih (l + 1) (by omega) (by omega)
          · rw [if_pos ((zpo_iff (by omega)).mpr c3), nI_1, ← zdg_0 (fun h => c3 h.2)]
            exact ih (l + 1) (by omega) (by omega)
        · rw [if_neg c2, nI_1, ← zdg_0 (fun h => c2 h.1)]
          exact ih (l + 1) (by omega) (by omega)
  exact key 61 0 (Nat.zero_le _) (by omega)
theorem zdi_eq {P S : ZS} {b r : Int32} {nl : Nat} (hI : P.I 2 = nI nl) (hn : nl ≤ 60) : fMO_degreeIn P S b r = nI (zdg P b r nl) := by
  have a0 : ∀ n : Nat, nI n + 0 = nI n := fun n => Int32.add_zero _
  have key : ∀ (n l : Nat), l ≤ nl → nl - l < n → zfix (fun _ _ _ _ => 0) (fMO_degreeIn_5 P S) n b r (nI (zdg P b r l)) (nI l) = nI (zdg P b r nl) := by
    intro n
    induction n with
    | zero => intro l h1 h2; omega
    | succ n ih =>
      intro l h1 h2
      rw [zfix_s]
      generalize zfix (fun _ _ _ _ => 0) (fMO_degreeIn_5 P S) n = rc at ih ⊢
      simp only [fMO_degreeIn_5, fMO_degreeIn_40, fMO_degreeIn_41, zl]
      rw [hI]
      by_cases c : nl ≤ l
      · have e : l = nl := by omega
        rw [if_pos (nI_le c (by omega)), e]
      · rw [if_neg (nI_ge (by omega) (by omega)), nI_clamp (by omega)]
        by_cases c2 : P.F 2 l = r
        · rw [if_pos c2]
          by_cases c3 : P.F 0 l = b ∨ P.F 1 l = b
          · rw [if_neg (fun h => (zend_iff (by omega)).mp h c3), nI_1, nI_1, ← zdg_1 c2 c3]
            exact ih (l + 1) (by omega) (by omega)
          · rw [if_pos ((zend_iff (by omega)).mpr c3), a0, nI_1, ← zdg_0 (fun h => c3 h.2)]
            exact ih (l + 1) (by omega) (by omega)
        · rw [if_neg c2, a0, nI_1, ← zdg_0 (fun h => c2 h.1)]
          exact ih (l + 1) (by omega) (by omega)
  exact key 61 0 (Nat.zero_le _) (by omega)
/-- some link of the first nl is of ring r -/
theorem zhl_iff {P S : ZS} {r : Int32} {nl : Nat} (hI : P.I 1 = nI nl) (hn : nl ≤ 60) : (¬ fPL_hasLinks P S r = 0) ↔ ∃ l, l < nl ∧ P.F 2 l = r := by
  have n1 : ¬ (1 : Int32) = 0 := by decide
  have key : ∀ (n l : Nat), l ≤ nl → nl - l < n → ((¬ zfix (fun _ _ => 0) (fPL_hasLinks_2 P S) n r (nI l) = 0) ↔ ∃ j, l ≤ j ∧ j < nl ∧ P.F 2 j = r) := by
    intro n
    induction n with
    | zero => intro l h1 h2; omega
    | succ n ih =>
      intro l h1 h2
      rw [zfix_s]
      generalize zfix (fun _ _ => 0) (fPL_hasLinks_2 P S) n = rc at ih ⊢
      simp only [fPL_hasLinks_2, zl]
      rw [hI]
      by_cases c : nl ≤ l
      · rw [if_pos (nI_le c (by omega))]
        exact ⟨fun h => absurd rfl h, fun ⟨j, a, q, _⟩ => by omega⟩
      · rw [if_neg (nI_ge (by omega) (by omega)), nI_clamp (by omega)]
        by_cases c2 : P.F 2 l = r
        · rw [if_pos c2]
          exact ⟨fun _ => ⟨l, Nat.le_refl _, by omega, c2⟩, fun _ => n1⟩
        · rw [if_neg c2, nI_1, ih (l + 1) (by omega) (by omega)]
          exact ⟨fun ⟨j, a, q⟩ => ⟨j, by omega, q⟩, fun ⟨j, a, q⟩ => ⟨j, Nat.lt_of_le_of_ne a (fun e => c2 (e ▸ q.2)), q⟩⟩
  have h := key 61 0 (Nat.zero_le _) (by omega)
  exact h.trans ⟨fun ⟨j, _, q⟩ => ⟨j, q⟩, fun ⟨j, q⟩ => ⟨j, Nat.zero_le _, q⟩⟩
def zcn (P : ZS) (r : Int32) : Nat → Nat
  | 0 => 0
  | n + 1 => zcn P r n + (if P.F 2 n = r then 1 else 0)
theorem zcn_1 {P : ZS} {r : Int32} {n : Nat} (h : P.F 2 n = r) : zcn P r (n + 1) = zcn P r n + 1 := by
  show zcn P r n + _ = _
  rw [if_pos h]
theorem zcn_0 {P : ZS} {r : Int32} {n : Nat} (h : ¬ P.F 2 n = r) : zcn P r (n + 1) = zcn P r n := by
  show zcn P r n + _ = _
  rw [if_neg h, Nat.add_zero]
theorem zcn_le {P : ZS} {r : Int32} : ∀ n, zcn P r n ≤ n
  | 0 => Nat.le_refl _
  | n + 1 => by
    have := zcn_le (P := P) (r := r) n
    by_cases h : P.F 2 n = r
    · rw [zcn_1 h]; omega
    · rw [zcn_0 h]; omega
theorem zcn_pos {P : ZS} {r : Int32} : ∀ n, 0 < zcn P r n ↔ ∃ l, l < n ∧ P.F 2 l = r
  | 0 => ⟨fun h => absurd h (Nat.lt_irrefl _), fun ⟨l, h, _⟩ => absurd h (Nat.not_lt_zero _)⟩
  | n + 1 => by
    have ih := zcn_pos (P := P) (r := r) n
    by_cases h : P.F 2 n = r
    · rw [zcn_1 h]
      exact ⟨fun _ => ⟨n, Nat.lt_succ_self n, h⟩, fun _ => Nat.succ_pos _⟩
    · rw [zcn_0 h, ih]
      exact ⟨fun ⟨l, a, q⟩ => ⟨l, Nat.lt_succ_of_lt a, q⟩, fun ⟨l, a, q⟩ => ⟨l, Nat.lt_of_le_of_ne (Nat.le_of_lt_succ a) (fun e => h (e ▸ q)), q⟩⟩
theorem zli_eq {P S : ZS} {r : Int32} {nl : Nat} (hI : P.I 2 = nI nl) (hn : nl ≤ 60) : fMO_linksIn P S r = nI (zcn P r nl) := by
  have a0 : ∀ n : Nat, nI n + 0 = nI n := fun n => Int32.add_zero _
  have key : ∀ (n l : Nat), l ≤ nl → nl - l < n → zfix (fun _ _ _ => 0) (fMO_linksIn_4 P S) n r (nI (zcn P r l)) (nI l) = nI (zcn P r nl) := by
    intro n
    induction n with
    | zero => intro l h1 h2; omega
    | succ n ih =>
      intro l h1 h2
      rw [zfix_s]
      generalize zfix (fun _ _ _ => 0) (fMO_linksIn_4 P S) n = rc at ih ⊢
      simp only [fMO_linksIn_4, fMO_linksIn_28, zl]
      rw [hI]
      by_cases c : nl ≤ l
      · have e : l = nl := by omega
        rw [if_pos (nI_le c (by omega)), e]
      · rw [if_neg (nI_ge (by omega) (by omega)), nI_clamp (by omega)]
        by_cases c2 : P.F 2 l = r
        · rw [if_pos c2, nI_1, nI_1, ← zcn_1 c2]
          exact ih (l + 1) (by omega) (by omega)
        · rw [if_neg c2, a0, nI_1, ← zcn_0 c2]
          exact ih (l + 1) (by omega) (by omega)
  exact key 61 0 (Nat.zero_le _) (by omega)
/-- a link of a ring below r has an end at bridge b -/
def zbef (P : ZS) (b : Int32) (r nl : Nat) : Prop := ∃ l, l < nl ∧ (P.F 2 l).toNatClampNeg < r ∧ (P.F 0 l = b ∨ P.F 1 l = b)
theorem zib_iff {P S : ZS} {b : Int32} {r nl : Nat} (hI : P.I 1 = nI nl) (hn : nl ≤ 60) (hr : r ≤ 6) (g : ∀ j, zr 0 5 (P.F 2 j)) : (¬ fPL_isInRingBefore P S b (nI r) = 0) ↔ zbef P b r nl := by
  have n1 : ¬ (1 : Int32) = 0 := by decide
  have key : ∀ (n l : Nat), l ≤ nl → nl - l < n → ((¬ zfix (fun _ _ _ => 0) (fPL_isInRingBefore_2 P S) n b (nI r) (nI l) = 0) ↔ ∃ j, l ≤ j ∧ j < nl ∧ (P.F 2 j).toNatClampNeg < r ∧ (P.F 0 j = b ∨ P.F 1 j = b)) := by
    intro n
    induction n with
    | zero => intro l h1 h2; omega
    | succ n ih =>
      intro l h1 h2
      rw [zfix_s]
      generalize zfix (fun _ _ _ => 0) (fPL_isInRingBefore_2 P S) n = rc at ih ⊢
      simp only [fPL_isInRingBefore_2, fPL_isInRingBefore_32, zl]
      rw [hI]
      by_cases c : nl ≤ l
      · rw [if_pos (nI_le c (by omega))]
        exact ⟨fun h => absurd rfl h, fun ⟨j, a, q, _⟩ => by omega⟩
      · rw [if_neg (nI_ge (by omega) (by omega)), nI_clamp (by omega)]
        have e2 := znI (g l)
        have t2 := ztn (g l) (by decide)
        have b2 := (g l).2
        have hle : nI r ≤ P.F 2 l ↔ r ≤ (P.F 2 l).toNatClampNeg := by
          rw [e2, nI_clamp (by omega)]
          exact nI_leI (by omega) (by omega)
        have skip : (¬ rc b (nI r) (nI l + 1) = 0) ∧ ¬ ((P.F 2 l).toNatClampNeg < r ∧ (P.F 0 l = b ∨ P.F 1 l = b)) ∨ True := Or.inr trivial
        by_cases c2 : nI r ≤ P.F 2 l
        · rw [if_pos c2, nI_1, ih (l + 1) (by omega) (by omega)]
          have c2' := hle.mp c2
          exact ⟨fun ⟨j, a, q⟩ => ⟨j, by omega, q⟩, fun ⟨j, a, q⟩ => ⟨j, Nat.lt_of_le_of_ne a (fun e => by subst e; omega), q⟩⟩
        · rw [if_neg c2]
          have c2' : (P.F 2 l).toNatClampNeg < r := Nat.not_le.mp (fun h => c2 (hle.mpr h))
          by_cases c3 : P.F 0 l = b ∨ P.F 1 l = b
          · rw [if_neg (fun h => (zpo_iff (by omega)).mp h c3)]
            exact ⟨fun _ => ⟨l, Nat.le_refl _, by omega, c2', c3⟩, fun _ => n1⟩
          · rw [if_pos ((zpo_iff (by omega)).mpr c3), nI_1, ih (l + 1) (by omega) (by omega)]
            exact ⟨fun ⟨j, a, q⟩ => ⟨j, by omega, q⟩, fun ⟨j, a, q⟩ => ⟨j, Nat.lt_of_le_of_ne a (fun e => c3 (e ▸ q.2.2)), q⟩⟩
  have h := key 61 0 (Nat.zero_le _) (by omega)
  exact h.trans ⟨fun ⟨j, _, q⟩ => ⟨j, q⟩, fun ⟨j, q⟩ => ⟨j, Nat.zero_le _, q⟩⟩

theorem zie_iff {P S : ZS} {b : Int32} {r nl : Nat} (hI : P.I 2 = nI nl) (hn : nl ≤ 60) (hr : r ≤ 5) : (¬ fMO_isEarlier P S b (nI r) = 0) ↔ ∃ q, q < r ∧ 0 < zdg P b (nI q) nl := by
  have n1 : ¬ (1 : Int32) = 0 := by decide
  have key : ∀ (n q : Nat) (y : Int32), q ≤ r → r - q < n → ((¬ zfix (fun _ _ _ _ => 0) (fMO_isEarlier_5 P S) n b (nI r) y (nI q) = 0) ↔ (¬ y = 0 ∨ ∃ j, q ≤ j ∧ j < r ∧ 0 < zdg P b (nI j) nl)) := by
    intro n
    induction n with
    | zero => intro q y h1 h2; omega
    | succ n ih =>
      intro q y h1 h2
      rw [zfix_s]
      generalize zfix (fun _ _ _ _ => 0) (fMO_isEarlier_5 P S) n = rc at ih ⊢
      simp only [fMO_isEarlier_5, fMO_isEarlier_25, fMO_isEarlier_30, zl]
      by_cases c : r ≤ q
      · rw [if_pos (nI_le c (by omega))]
        exact ⟨Or.inl, fun h => h.elim id (fun ⟨j, a, q, _⟩ => by omega)⟩
      · rw [if_neg (nI_ge (by omega) (by omega)), zdi_eq hI hn, nI_1]
        have dl := zdg_le (P := P) (b := b) (r := nI q) nl
        by_cases c2 : y = 0
        · rw [if_pos c2]
          by_cases c3 : 0 < zdg P b (nI q) nl
          · rw [if_neg (nI_nle c3 (by omega)), ih (q + 1) 1 (by omega) (by omega)]
            exact ⟨fun _ => Or.inr ⟨q, Nat.le_refl _, by omega, c3⟩, fun _ => Or.inl n1⟩
          · have e : zdg P b (nI q) nl = 0 := by omega
            rw [e, if_pos (by decide : nI 0 ≤ 0), ih (q + 1) 0 (by omega) (by omega)]
            refine ⟨fun h => h.elim (fun h => absurd rfl h) (fun ⟨j, a, q9⟩ => Or.inr ⟨j, by omega, q9⟩), fun h => h.elim (fun h => absurd c2 h) (fun ⟨j, a, q9⟩ => Or.inr ⟨j, Nat.lt_of_le_of_ne a (fun e9 => ?_), q9⟩)⟩
            subst e9
            exact c3 q9.2
        · rw [if_neg c2, ih (q + 1) 1 (by omega) (by omega)]
          exact ⟨fun _ => Or.inl c2, fun _ => Or.inl n1⟩
  have h := key 6 0 0 (Nat.zero_le _) (by omega)
  refine h.trans ⟨fun h => h.elim (fun h => absurd rfl h) (fun ⟨j, _, q⟩ => ⟨j, q⟩), fun ⟨j, q⟩ => Or.inr ⟨j, Nat.zero_le _, q⟩⟩
theorem zbef_iff {P : ZS} {b : Int32} {r nl : Nat} (g : ∀ j, zr 0 5 (P.F 2 j)) : zbef P b r nl ↔ ∃ q, q < r ∧ 0 < zdg P b (nI q) nl := by
  constructor
  · rintro ⟨l, h1, h2, h3⟩
    exact ⟨_, h2, (zdg_pos nl).mpr ⟨l, h1, znI (g l), h3⟩⟩
  · rintro ⟨q, h1, h2⟩
    obtain ⟨l, a1, a2, a3⟩ := (zdg_pos nl).mp h2
    have t := ztn (g l) (by decide)
    have u := (g l).2
    refine ⟨l, a1, ?_, a3⟩
    rcases Nat.lt_or_ge q 100 with h9 | h9
    · rw [a2, nI_clamp (by omega)]; exact h1
    · omega
theorem zbb_iff {P S : ZS} {nb nl : Nat} (hB : P.I 0 = nI nb) (hb : nb ≤ 48) (hI : P.I 1 = nI nl) (hn : nl ≤ 60) (g : ∀ j, zr 0 5 (P.F 2 j)) : (¬ fPL_hasBareBridge P S = 0) ↔ ∃ b, b < nb ∧ ¬ zbef P (nI b) 6 nl := by
  have n1 : ¬ (1 : Int32) = 0 := by decide
  have z6 : (6 : Int32) = nI 6 := by decide
  have key : ∀ (n b : Nat), b ≤ nb → nb - b < n → ((¬ zfix (fun _ => 0) (fPL_hasBareBridge_2 P S) n (nI b) = 0) ↔ ∃ j, b ≤ j ∧ j < nb ∧ ¬ zbef P (nI j) 6 nl) := by
    intro n
    induction n with
    | zero => intro b h1 h2; omega
    | succ n ih =>
      intro b h1 h2
      rw [zfix_s]
      generalize zfix (fun _ => 0) (fPL_hasBareBridge_2 P S) n = rc at ih ⊢
      simp only [fPL_hasBareBridge_2, zl]
      rw [hB]
      by_cases c : nb ≤ b
      · rw [if_pos (nI_le c (by omega))]
        exact ⟨fun h => absurd rfl h, fun ⟨j, a, q, _⟩ => by omega⟩
      · rw [if_neg (nI_ge (by omega) (by omega)), z6]
        have hi := zib_iff (S := S) (b := nI b) (r := 6) hI hn (Nat.le_refl _) g
        by_cases c2 : fPL_isInRingBefore P S (nI b) (nI 6) = 0
        · rw [if_pos c2]
          exact ⟨fun _ => ⟨b, Nat.le_refl _, by omega, fun h => hi.mpr h c2⟩, fun _ => n1⟩
        · rw [if_neg c2, nI_1, ih (b + 1) (by omega) (by omega)]
          have hz := hi.mp c2
          refine ⟨fun ⟨j, a, q⟩ => ⟨j, by omega, q⟩, fun ⟨j, a, q⟩ => ⟨j, Nat.lt_of_le_of_ne a (fun e => ?_), q⟩⟩
          subst e
          exact q.2 hz
  have h := key 49 0 (Nat.zero_le _) (by omega)
  exact h.trans ⟨fun ⟨j, _, q⟩ => ⟨j, q⟩, fun ⟨j, q⟩ => ⟨j, Nat.zero_le _, q⟩⟩
/-- how many of the first n have p -/
noncomputable def zct (p : Nat → Prop) : Nat → Nat
  | 0 => 0
  | n + 1 => zct p n + @ite Nat (p n) (Classical.propDecidable _) 1 0
theorem zct_1 {p : Nat → Prop} {n : Nat} (h : p n) : zct p (n + 1) = zct p n + 1 := by
  show zct p n + _ = _
  rw [if_pos h]
theorem zct_0 {p : Nat → Prop} {n : Nat} (h : ¬ p n) : zct p (n + 1) = zct p n := by
  show zct p n + _ = _
  rw [if_neg h, Nat.add_zero]
theorem zct_le {p : Nat → Prop} : ∀ n, zct p n ≤ n
  | 0 => Nat.le_refl _
  | n + 1 => by
    have := zct_le (p := p) n
    by_cases h : p n
    · rw [zct_1 h]; omega
    · rw [zct_0 h]; omega
theorem zct_congr {p q : Nat → Prop} : ∀ n, (∀ j, j < n → (p j ↔ q j)) → zct p n = zct q n
  | 0, _ => rfl
  | n + 1, h => by
    have ih := zct_congr (p := p) (q := q) n (fun j hj => h j (by omega))
    have hn := h n (Nat.lt_succ_self n)
    by_cases c : p n
    · rw [zct_1 c, zct_1 (hn.mp c), ih]
    · rw [zct_0 c, zct_0 (fun q => c (hn.mpr q)), ih]
/-- the members, ends and shared bridges of ring r, as the shapes are looked at -/
abbrev zpM (P : ZS) (r : Int32) (nl : Nat) : Nat → Prop := fun j => 0 < zdg P (nI j) r nl
abbrev zpE (P : ZS) (r : Int32) (nl : Nat) : Nat → Prop := fun j => zdg P (nI j) r nl = 1
abbrev zpI (P : ZS) (r : Int32) (nl : Nat) : Nat → Prop := fun j => zdg P (nI j) r nl = 2
abbrev zpS (P : ZS) (r nl : Nat) : Nat → Prop := fun j => 0 < zdg P (nI j) (nI r) nl ∧ zbef P (nI j) r nl

/-! groups of bridges: both ways of making two one keep the same partition -/
theorem zset27 {T : ZS} {k l : Nat} {v : Int32} (i : Nat) : (T.setF k l v).F k i = if i = l then v else T.F k i := by
  rw [show (T.setF k l v).F k = upd (T.F k) l v from ZS.row_self _ _ _]
  rfl
/-- a row in which those below l that had y got x -/
def zgo (g : Nat → Int32) (l : Nat) (x y : Int32) (i : Nat) : Int32 := if i < l ∧ g i = y then x else g i
theorem zgo_0 {g : Nat → Int32} {x y : Int32} {i : Nat} : zgo g 0 x y i = g i := if_neg (fun h => absurd h.1 (Nat.not_lt_zero _))
theorem zgo_at {g : Nat → Int32} {l : Nat} {x y : Int32} : zgo g l x y l = g l := if_neg (fun h => absurd h.1 (Nat.lt_irrefl _))
theorem zgo_s {g : Nat → Int32} {l : Nat} {x y : Int32} {i : Nat} (h : i ≠ l) : zgo g (l + 1) x y i = zgo g l x y i := by
  unfold zgo
  by_cases c : i < l ∧ g i = y
  · rw [if_pos c, if_pos ⟨by omega, c.2⟩]
  · rw [if_neg c, if_neg (fun q => c ⟨by omega, q.2⟩)]
theorem zgo_1 {g : Nat → Int32} {l : Nat} {x y : Int32} (h : g l = y) : zgo g (l + 1) x y l = x := if_pos ⟨by omega, h⟩
theorem zgo_n {g : Nat → Int32} {l : Nat} {x y : Int32} (h : ¬ g l = y) : zgo g (l + 1) x y l = g l := if_neg (fun q => h q.2)
theorem zgj {P S : ZS} {a b : Int32} {nb : Nat} (hs : S.I 15 = nI nb) (hb : nb ≤ 48) (hne : ¬ S.F 27 a.toNatClampNeg = S.F 27 b.toNatClampNeg) : ∃ S1 : ZS, fGR_join P S a b = (S1, 1) ∧ (∀ i, S1.F 27 i = zgo (S.F 27) nb (S.F 27 a.toNatClampNeg) (S.F 27 b.toNatClampNeg) i) ∧ S1.I 14 = S.I 14 - 1 ∧ S1.I 15 = nI nb := by
  simp only [fGR_join, zl]
  rw [if_neg hne]
  generalize S.F 27 a.toNatClampNeg = ka
  generalize S.F 27 b.toNatClampNeg = kb
  have key : ∀ (n l : Nat) (T : ZS), l ≤ nb → nb - l < n → T.I = S.I → (∀ i, T.F 27 i = zgo (S.F 27) l ka kb i) → ∃ S1 : ZS, zfix (fun S9 _ _ _ => (S9, 0)) (fGR_join_26 P) n T ka kb (nI l) = (S1, 1) ∧ (∀ i, S1.F 27 i = zgo (S.F 27) nb ka kb i) ∧ S1.I 14 = S.I 14 - 1 ∧ S1.I 15 = nI nb := by
    intro n
    induction n with
    | zero => intro l T h1 h2; omega
    | succ n ih =>
      intro l T h1 h2 hT hF
      rw [zfix_s]
      generalize zfix (fun S9 _ _ _ => (S9, 0)) (fGR_join_26 P) n = rc at ih ⊢
      simp only [fGR_join_26, fGR_join_55, zl]
      rw [hT, hs]
      by_cases c : nb ≤ l
      · have e : l = nb := by omega
        rw [if_pos (nI_le c (by omega))]
        refine ⟨T.setI 14 (S.I 14 - 1), rfl, fun i => ?_, rfl, ?_⟩
        · rw [← e]; exact hF i
        · show T.I 15 = nI nb
          rw [hT]; exact hs
      · rw [if_neg (nI_ge (by omega) (by omega)), nI_clamp (by omega), hF l, zgo_at]
        by_cases c2 : S.F 27 l = kb
        · rw [if_pos c2, nI_1]
          refine ih (l + 1) (T.setF 27 l ka) (by omega) (by omega) hT (fun i => ?_)
          rw [zset27]
          by_cases e : i = l
          · subst e; rw [if_pos rfl, zgo_1 c2]
          · rw [if_neg e, hF i, zgo_s e]
        · rw [if_neg c2, nI_1]
          refine ih (l + 1) T (by omega) (by omega) hT (fun i => ?_)
          rw [hF i]
          by_cases e : i = l
          · subst e; rw [zgo_n c2, zgo_at]
          · rw [zgo_s e]
  exact key 49 0 S (Nat.zero_le _) (by omega) rfl (fun i => by rw [zgo_0])
theorem zmj {P S : ZS} {a b : Int32} {nb : Nat} (hs : P.I 1 = nI nb) (hb : nb ≤ 48) : ∃ S1 : ZS, fMO_join P S a b = (S1, if S.F 33 a.toNatClampNeg = S.F 33 b.toNatClampNeg then 0 else 1) ∧ (∀ i, S1.F 33 i = zgo (S.F 33) nb (S.F 33 b.toNatClampNeg) (S.F 33 a.toNatClampNeg) i) := by
  simp only [fMO_join, zl]
  generalize S.F 33 a.toNatClampNeg = ka
  generalize S.F 33 b.toNatClampNeg = kb
  have key : ∀ (n l : Nat) (T : ZS), l ≤ nb → nb - l < n → (∀ i, T.F 33 i = zgo (S.F 33) l kb ka i) → ∃ S1 : ZS, zfix (fun S9 _ _ _ => (S9, 0)) (fMO_join_18 P) n T ka kb (nI l) = (S1, if ka = kb then 0 else 1) ∧ (∀ i, S1.F 33 i = zgo (S.F 33) nb kb ka i) := by
    intro n
    induction n with
    | zero => intro l T h1 h2; omega
    | succ n ih =>
      intro l T h1 h2 hF
      rw [zfix_s]
      generalize zfix (fun S9 _ _ _ => (S9, 0)) (fMO_join_18 P) n = rc at ih ⊢
      simp only [fMO_join_18, fMO_join_56, zl]
      rw [hs]
      by_cases c : nb ≤ l
      · have e : l = nb := by omega
        rw [if_pos (nI_le c (by omega))]
        refine ⟨T, ?_, fun i => ?_⟩
        · by_cases k : ka = kb
          · rw [if_pos k, if_pos k]
          · rw [if_neg k, if_neg k]
        · rw [← e]; exact hF i
      · rw [if_neg (nI_ge (by omega) (by omega)), nI_clamp (by omega), nI_1]
        have hl : T.F 33 l = S.F 33 l := by rw [hF l, zgo_at]
        rw [hl]
        by_cases c2 : S.F 33 l = ka
        · rw [if_pos c2]
          refine ih (l + 1) (T.setF 33 l kb) (by omega) (by omega) (fun i => ?_)
          rw [zset27]
          by_cases e : i = l
          · subst e; rw [if_pos rfl, zgo_1 c2]
          · rw [if_neg e, hF i, zgo_s e]
        · rw [if_neg c2]
          refine ih (l + 1) (T.setF 33 l (S.F 33 l)) (by omega) (by omega) (fun i => ?_)
          rw [zset27]
          by_cases e : i = l
          · subst e; rw [if_pos rfl, zgo_n c2]
          · rw [if_neg e, hF i, zgo_s e]
  exact key 49 0 S (Nat.zero_le _) (by omega) (fun i => by rw [zgo_0])
/-- two rows make the same groups -/
def zsm (n : Nat) (g h : Nat → Int32) : Prop := ∀ i j, i < n → j < n → (g i = g j ↔ h i = h j)
theorem zgo_iff {n a b : Nat} {g : Nat → Int32} {i j : Nat} (hi : i < n) (hj : j < n) : zgo g n (g a) (g b) i = zgo g n (g a) (g b) j ↔ (g i = g j ∨ ((g i = g a ∨ g i = g b) ∧ (g j = g a ∨ g j = g b))) := by
  unfold zgo
  by_cases h1 : g i = g b <;> by_cases h2 : g j = g b <;> simp [hi, hj, h1, h2]
  · constructor
    · intro h; exact Or.inr h.symm
    · rintro (h | h)
      · exact absurd h.symm h2
      · exact h.symm
  · intro h3 h4; rw [h3, h4]
theorem zsm_join {n a b : Nat} {g h g' h' : Nat → Int32} (ha : a < n) (hb : b < n) (hs : zsm n g h) (hg : ∀ i, g' i = zgo g n (g a) (g b) i) (hh : ∀ i, h' i = zgo h n (h b) (h a) i) : zsm n g' h' := fun i j hi hj => by
  rw [hg i, hg j, hh i, hh j, zgo_iff hi hj, zgo_iff hi hj, hs i j hi hj, hs i a hi ha, hs i b hi hb, hs j a hj ha, hs j b hj hb]
  constructor
  · rintro (h | ⟨h, k⟩)
    · exact Or.inl h
    · exact Or.inr ⟨h.symm, k.symm⟩
  · rintro (h | ⟨h, k⟩)
    · exact Or.inl h
    · exact Or.inr ⟨h.symm, k.symm⟩
theorem zsep {P S : ZS} {nb : Nat} (hb : nb ≤ 48) : (∀ i, i < nb → (fGR_separate P S (nI nb)).F 27 i = nI i) ∧ (fGR_separate P S (nI nb)).I 14 = nI nb ∧ (fGR_separate P S (nI nb)).I 15 = nI nb := by
  simp only [fGR_separate, zl]
  have key : ∀ (n l : Nat) (T : ZS), l ≤ nb → nb - l < n → T.I 14 = nI nb → T.I 15 = nI nb → (∀ i, i < l → T.F 27 i = nI i) → (∀ i, i < nb → (zfix (fun S9 _ _ => S9) (fGR_separate_12 P) n T (nI nb) (nI l)).F 27 i = nI i) ∧ (zfix (fun S9 _ _ => S9) (fGR_separate_12 P) n T (nI nb) (nI l)).I 14 = nI nb ∧ (zfix (fun S9 _ _ => S9) (fGR_separate_12 P) n T (nI nb) (nI l)).I 15 = nI nb := by
    intro n
    induction n with
    | zero => intro l T h1 h2; omega
    | succ n ih =>
      intro l T h1 h2 h14 h15 hF
      rw [zfix_s]
      generalize zfix (fun S9 _ _ => S9) (fGR_separate_12 P) n = rc at ih ⊢
      simp only [fGR_separate_12, zl]
      by_cases c : nb ≤ l
      · have e : l = nb := by omega
        rw [if_pos (nI_le c (by omega))]
        exact ⟨fun i hi => hF i (by omega), h14, h15⟩
      · rw [if_neg (nI_ge (by omega) (by omega)), nI_clamp (by omega), nI_1]
        refine ih (l + 1) (T.setF 27 l (nI l)) (by omega) (by omega) h14 h15 (fun i hi => ?_)
        rw [zset27]
        by_cases e : i = l
        · rw [if_pos e, e]
        · rw [if_neg e]; exact hF i (by omega)
  exact key 49 0 _ (Nat.zero_le _) (by omega) rfl rfl (fun i h => absurd h (Nat.not_lt_zero _))

/-! one piece: the two sides step by step -/
theorem zsubI {a b : Nat} (ha : a ≤ 1000) (hb : b ≤ 1000) : (nI a - nI b).toInt = (a : Int) - (b : Int) := by
  rw [Int32.toInt_sub, nI_toInt (by omega), nI_toInt (by omega), zbm ⟨by omega, by omega⟩]
theorem zsub1 {a b : Nat} (ha : a ≤ 1000) (hb : b ≤ 900) : nI a - nI b - 1 = nI a - nI (b + 1) := by
  have z1 : (1 : Int32).toInt = 1 := by decide
  apply Int32.toInt_inj.mp
  rw [zsubI ha (by omega), Int32.toInt_sub, zsubI ha (by omega), z1, zbm ⟨by omega, by omega⟩]
  omega
theorem zsub2 {a b : Nat} (ha : a ≤ 1000) (hb : b ≤ 900) : nI a - nI b + (-1) = nI a - nI (b + 1) := by
  have z1 : (-1 : Int32).toInt = -1 := by decide
  apply Int32.toInt_inj.mp
  rw [zsubI ha (by omega), Int32.toInt_add, zsubI ha (by omega), z1, zbm ⟨by omega, by omega⟩]
  omega
theorem zone_eq {nb k m : Nat} (h1 : nb ≤ 48) (h2 : k ≤ 60) (h3 : m ≤ 48) : (nI nb - nI k = nI nb - nI m + 1 ↔ m = k + 1) ∧ (nI m - nI k = 1 ↔ m = k + 1) := by
  have z1 : (1 : Int32).toInt = 1 := by decide
  have e1 : (nI nb - nI m + 1).toInt = (nb : Int) - m + 1 := by rw [Int32.toInt_add, zsubI (by omega) (by omega), z1, zbm ⟨by omega, by omega⟩]
  constructor
  · rw [← Int32.toInt_inj, zsubI (by omega) (by omega), e1]
    omega
  · rw [← Int32.toInt_inj, zsubI (by omega) (by omega), z1]
    omega
/-- the plans of the two sides are one -/
def zRP (P P' : ZS) : Prop := P'.I 1 = P.I 0 ∧ P'.I 2 = P.I 1 ∧ P'.F 0 = P.F 0 ∧ P'.F 1 = P.F 1 ∧ P'.F 2 = P.F 2 ∧ P'.F 3 = P.F 3 ∧ P'.F 4 = P.F 4
/-- a plan's own numbers -/
def zPn (P : ZS) (nb nl : Nat) : Prop := P.I 0 = nI nb ∧ nb ≤ 48 ∧ P.I 1 = nI nl ∧ nl ≤ 60 ∧ (∀ j, zr 0 5 (P.F 2 j)) ∧ ∀ l, l < nl → (P.F 0 l).toNatClampNeg < nb ∧ (P.F 1 l).toNatClampNeg < nb ∧ ¬ P.F 0 l = P.F 1 l ∧ zr 0 47 (P.F 0 l) ∧ zr 0 47 (P.F 1 l)
theorem zdg_RP {P P' : ZS} (h : zRP P P') (b r : Int32) : ∀ n, zdg P' b r n = zdg P b r n
  | 0 => rfl
  | n + 1 => by
    show zdg P' b r n + _ = zdg P b r n + _
    rw [zdg_RP h b r n, h.2.2.1, h.2.2.2.1, h.2.2.2.2.1]
theorem zcn_RP {P P' : ZS} (h : zRP P P') (r : Int32) : ∀ n, zcn P' r n = zcn P r n
  | 0 => rfl
  | n + 1 => by
    show zcn P' r n + _ = zcn P r n + _
    rw [zcn_RP h r n, h.2.2.2.2.1]
theorem zone {P P' : ZS} {r : Int32} {nb nl m : Nat} (hp : zPn P nb nl) (hr : zRP P P') (hm : m ≤ 48) : ∀ (n l : Nat) (S S' : ZS) (k : Nat), l ≤ nl → nl - l < n → zsm nb (S.F 27) (S'.F 33) → S.I 15 = nI nb → S.I 14 = nI nb - nI k → k ≤ zcn P r l →
    (zfix (fun S9 _ _ _ => (S9, 0)) (fPL_isOnePiece_11 P) n S r (nI m) (nI l)).2 = (zfix (fun S9 _ _ _ => (S9, 0)) (fMO_isOne_60 P') n S' r (nI m - nI k) (nI l)).2 ∧
    (¬ (zfix (fun S9 _ _ _ => (S9, 0)) (fPL_isOnePiece_11 P) n S r (nI m) (nI l)).2 = 0 → ∃ k', k' ≤ zcn P r nl ∧ m = k' + 1) := by
  obtain ⟨hB, hb, hI, hn, hg, hL⟩ := hp
  obtain ⟨r1, r2, r3, r4, r5, -⟩ := hr
  intro n
  induction n with
  | zero => intro l S S' k h1 h2; omega
  | succ n ih =>
    intro l S S' k h1 h2 hs h15 h14 hk
    have kl : k ≤ l := Nat.le_trans hk (zcn_le l)
    rw [zfix_s, zfix_s]
    generalize zfix (fun S9 _ _ _ => (S9, 0)) (fPL_isOnePiece_11 P) n = rc at ih ⊢
    generalize zfix (fun S9 _ _ _ => (S9, 0)) (fMO_isOne_60 P') n = rc' at ih ⊢
    simp only [fPL_isOnePiece_11, fPL_isOnePiece_50, fMO_isOne_60, fMO_isOne_100, zl, zl2]
    rw [r2, r3, r4, r5, hI, hB]
    by_cases c : nl ≤ l
    · have e : l = nl := by omega
      rw [if_pos (nI_le c (by omega)), if_pos (nI_le c (by omega)), h14]
      obtain ⟨q1, q2⟩ := zone_eq (nb := nb) (k := k) (m := m) hb (by omega) hm
      by_cases d : m = k + 1
      · rw [if_pos (q1.mpr d), if_pos (q2.mpr d)]
        exact ⟨rfl, fun _ => ⟨k, by rw [← e]; exact hk, d⟩⟩
      · rw [if_neg (fun h => d (q1.mp h)), if_neg (fun h => d (q2.mp h))]
        exact ⟨rfl, fun h => absurd rfl h⟩
    · rw [if_neg (nI_ge (by omega) (by omega)), if_neg (nI_ge (by omega) (by omega)), nI_clamp (by omega), nI_1]
      by_cases c2 : P.F 2 l = r
      · rw [if_pos c2, if_pos c2]
        obtain ⟨la, lb, -, -, -⟩ := hL l (by omega)
        have hz := zcn_1 c2
        obtain ⟨S1', e1', f1'⟩ := zmj (P := P') (S := S') (a := P.F 0 l) (b := P.F 1 l) (r1.trans hB) hb
        by_cases d : S.F 27 (P.F 0 l).toNatClampNeg = S.F 27 (P.F 1 l).toNatClampNeg
        · have d' := (hs _ _ la lb).mp d
          have ej : fGR_join P S (P.F 0 l) (P.F 1 l) = (S, 0) := by
            simp only [fGR_join, zl]
            rw [if_pos d]
          rw [if_pos d'] at e1'
          rw [ej, e1', if_pos rfl]
          refine ih (l + 1) S S1' k (by omega) (by omega) (fun i j hi hj => ?_) h15 h14 (by omega)
          have hh : ∀ q, S1'.F 33 q = S'.F 33 q := fun q => by
            rw [f1' q]
            unfold zgo
            by_cases w : q < nb ∧ S'.F 33 q = S'.F 33 (P.F 0 l).toNatClampNeg
            · rw [if_pos w, ← d', ← w.2]
            · rw [if_neg w]
          rw [hh i, hh j]
          exact hs i j hi hj
        · have d' : ¬ S'.F 33 (P.F 0 l).toNatClampNeg = S'.F 33 (P.F 1 l).toNatClampNeg := fun h => d ((hs _ _ la lb).mpr h)
          obtain ⟨S1, e1, f1, g14, g15⟩ := zgj (P := P) (S := S) (a := P.F 0 l) (b := P.F 1 l) h15 hb d
          rw [if_neg d'] at e1'
          rw [e1, e1', if_neg (by decide : ¬ (1 : Int32) = 0), zsub2 (by omega) (by omega)]
          refine ih (l + 1) S1 S1' (k + 1) (by omega) (by omega) (zsm_join la lb hs f1 f1') g15 ?_ (by omega)
          rw [g14, h14, zsub1 (by omega) (by omega)]
      · rw [if_neg c2, if_neg c2]
        refine ih (l + 1) S S' k (by omega) (by omega) hs h15 h14 ?_
        rw [zcn_0 c2]; exact hk

theorem zpiece {P P' S S' : ZS} {r : Int32} {nb nl m : Nat} (hp : zPn P nb nl) (hr : zRP P P') (hm : m = zct (zpM P r nl) nb) :
    (fPL_isOnePiece P S r (nI m)).2 = (fMO_isOne P' S' r).2 ∧ (¬ (fPL_isOnePiece P S r (nI m)).2 = 0 → ∃ k', k' ≤ zcn P r nl ∧ m = k' + 1) := by
  have hp2 := hp
  have hr2 := hr
  obtain ⟨hB, hb, hI, hn, hg, hL⟩ := hp
  obtain ⟨r1, r2, r3, r4, r5, -⟩ := hr
  have m48 : m ≤ 48 := by rw [hm]; exact Nat.le_trans (zct_le nb) hb
  have hB' : P'.I 1 = nI nb := r1.trans hB
  have hI' : P'.I 2 = nI nl := r2.trans hI
  have a0 : ∀ n : Nat, nI n + 0 = nI n := fun n => Int32.add_zero _
  have l2 : ∀ (n l : Nat) (T : ZS), l ≤ nb → nb - l < n → (∀ i, i < l → T.F 33 i = nI i) → ∃ T1 : ZS, (∀ i, i < nb → T1.F 33 i = nI i) ∧ zfix (fun S9 _ _ => (S9, 0)) (fMO_isOne_2 P') n T r (nI l) = zfix (fun S9 _ _ _ => (S9, 0)) (fMO_isOne_27 P') 49 T1 r 0 0 := by
    intro n
    induction n with
    | zero => intro l T h1 h2; omega
    | succ n ih =>
      intro l T h1 h2 hF
      rw [zfix_s]
      generalize zfix (fun S9 _ _ => (S9, 0)) (fMO_isOne_2 P') n = rc at ih ⊢
      simp only [fMO_isOne_2, zl]
      rw [hB']
      by_cases c : nb ≤ l
      · rw [if_pos (nI_le c (by omega))]
        exact ⟨T, fun i hi => hF i (by omega), rfl⟩
      · rw [if_neg (nI_ge (by omega) (by omega)), nI_clamp (by omega), nI_1]
        refine ih (l + 1) (T.setF 33 l (nI l)) (by omega) (by omega) (fun i hi => ?_)
        rw [zset27]
        by_cases e : i = l
        · rw [if_pos e, e]
        · rw [if_neg e]; exact hF i (by omega)
  have l27 : ∀ (n b : Nat) (T : ZS), b ≤ nb → nb - b < n → zfix (fun S9 _ _ _ => (S9, 0)) (fMO_isOne_27 P') n T r (nI (zct (zpM P r nl) b)) (nI b) = zfix (fun S9 _ _ _ => (S9, 0)) (fMO_isOne_60 P') 61 T r (nI m) 0 := by
    intro n
    induction n with
    | zero => intro b T h1 h2; omega
    | succ n ih =>
      intro b T h1 h2
      rw [zfix_s]
      generalize zfix (fun S9 _ _ _ => (S9, 0)) (fMO_isOne_27 P') n = rc at ih ⊢
      simp only [fMO_isOne_27, fMO_isOne_50, zl]
      rw [hB']
      by_cases c : nb ≤ b
      · have e : b = nb := by omega
        rw [if_pos (nI_le c (by omega)), e, hm]
      · rw [if_neg (nI_ge (by omega) (by omega)), zdi_eq hI' hn, zdg_RP hr2, nI_1]
        have dl := zdg_le (P := P) (b := nI b) (r := r) nl
        by_cases c2 : 0 < zdg P (nI b) r nl
        · rw [if_neg (nI_nle c2 (by omega)), nI_1, ← zct_1 (p := zpM P r nl) c2]
          exact ih (b + 1) T (by omega) (by omega)
        · have e0 : zdg P (nI b) r nl = 0 := by omega
          rw [e0, if_pos (by decide : nI 0 ≤ 0), a0, ← zct_0 (p := zpM P r nl) c2]
          exact ih (b + 1) T (by omega) (by omega)
  obtain ⟨T1, t1, e1⟩ := l2 49 0 S' (Nat.zero_le _) (by omega) (fun i h => absurd h (Nat.not_lt_zero _))
  have e2 := l27 49 0 T1 (Nat.zero_le _) (by omega)
  obtain ⟨s1, s2, s3⟩ := zsep (P := P) (S := S) hb
  have e3 : fMO_isOne P' S' r = zfix (fun S9 _ _ _ => (S9, 0)) (fMO_isOne_60 P') 61 T1 r (nI m - nI 0) (nI 0) := by
    have e4 : nI m - nI 0 = nI m := by rw [show nI 0 = 0 from nI_0]; exact Int32.sub_zero _
    rw [e4]
    exact e1.trans e2
  have e5 : fPL_isOnePiece P S r (nI m) = zfix (fun S9 _ _ _ => (S9, 0)) (fPL_isOnePiece_11 P) 61 (fGR_separate P S (nI nb)) r (nI m) (nI 0) := by
    unfold fPL_isOnePiece
    simp only [zl]
    rw [hB]
    rfl
  rw [e3, e5]
  refine zone hp2 hr2 m48 61 0 _ T1 0 (Nat.zero_le _) (by omega) (fun i j hi hj => ?_) s3 ?_ (Nat.zero_le _)
  · rw [s1 i hi, s1 j hj, t1 i hi, t1 j hj]
  · rw [s2, show nI 0 = 0 from nI_0]
    exact (Int32.sub_zero _).symm
/-- what the class does with a ring whose degrees are at most two -/
noncomputable def ztC (P S : ZS) (r f m e s : Int32) : ZS × ZS × Int32 := if m < 3 then (P, S, 0) else zl2 (fPL_isOnePiece P S r m) (fun S14 k13 => if k13 = 0 then (P, S14, 0) else if e = 0 then fPL_hasRightShape_134 P S14 r f e s 1 r else fPL_hasRightShape_134 P S14 r f e s 0 r)
theorem zshC {P S : ZS} {f : Int32} {r nb nl : Nat} (hp : zPn P nb nl) (hr6 : r ≤ 5) :
    ((∀ j, j < nb → zdg P (nI j) (nI r) nl ≤ 2) → fPL_hasRightShape P S (nI r) f = ztC P S (nI r) f (nI (zct (zpM P (nI r) nl) nb)) (nI (zct (zpE P (nI r) nl) nb)) (nI (zct (zpS P r nl) nb))) ∧
    ((∃ j, j < nb ∧ 2 < zdg P (nI j) (nI r) nl) → fPL_hasRightShape P S (nI r) f = (P, S, 0)) := by
  obtain ⟨hB, hb, hI, hn, hg, hL⟩ := hp
  have a0 : ∀ n : Nat, nI n + 0 = nI n := fun n => Int32.add_zero _
  have z2 : (2 : Int32) = nI 2 := by decide
  have z1 : (1 : Int32) = nI 1 := by decide
  have key : ∀ (n b : Nat), b ≤ nb → nb - b < n →
      ((∀ j, b ≤ j → j < nb → zdg P (nI j) (nI r) nl ≤ 2) → zfix (fun P9 S9 _ _ _ _ _ _ => (P9, S9, 0)) fPL_hasRightShape_12 n P S (nI r) f (nI (zct (zpM P (nI r) nl) b)) (nI (zct (zpE P (nI r) nl) b)) (nI (zct (zpS P r nl) b)) (nI b) = ztC P S (nI r) f (nI (zct (zpM P (nI r) nl) nb)) (nI (zct (zpE P (nI r) nl) nb)) (nI (zct (zpS P r nl) nb))) ∧
      ((∃ j, b ≤ j ∧ j < nb ∧ 2 < zdg P (nI j) (nI r) nl) → zfix (fun P9 S9 _ _ _ _ _ _ => (P9, S9, 0)) fPL_hasRightShape_12 n P S (nI r) f (nI (zct (zpM P (nI r) nl) b)) (nI (zct (zpE P (nI r) nl) b)) (nI (zct (zpS P r nl) b)) (nI b) = (P, S, 0)) := by
    intro n
    induction n with
    | zero => intro b h1 h2; omega
    | succ n ih =>
      intro b h1 h2
      rw [zfix_s]
      generalize zfix (fun P9 S9 _ _ _ _ _ _ => (P9, S9, 0)) fPL_hasRightShape_12 n = rc at ih ⊢
      simp only [fPL_hasRightShape_12, fPL_hasRightShape_50, fPL_hasRightShape_66, fPL_hasRightShape_90, fPL_hasRightShape_91, fPL_hasRightShape_117, zl]
      rw [hB]
      by_cases c : nb ≤ b
      · have e : b = nb := by omega
        rw [if_pos (nI_le c (by omega)), e]
        exact ⟨fun _ => rfl, fun ⟨j, a, q, _⟩ => by omega⟩
      · rw [if_neg (nI_ge (by omega) (by omega)), zcl_eq hI hn]
        have dl := zdg_le (P := P) (b := nI b) (r := nI r) nl
        have hib := zib_iff (S := S) (b := nI b) (r := r) hI hn (by omega) hg
        obtain ⟨i1, i2⟩ := ih (b + 1) (by omega) (by omega)
        have fin : ∀ X : ZS × ZS × Int32, X = rc P S (nI r) f (nI (zct (zpM P (nI r) nl) (b + 1))) (nI (zct (zpE P (nI r) nl) (b + 1))) (nI (zct (zpS P r nl) (b + 1))) (nI (b + 1)) → zdg P (nI b) (nI r) nl ≤ 2 →
            ((∀ j, b ≤ j → j < nb → zdg P (nI j) (nI r) nl ≤ 2) → X = ztC P S (nI r) f (nI (zct (zpM P (nI r) nl) nb)) (nI (zct (zpE P (nI r) nl) nb)) (nI (zct (zpS P r nl) nb))) ∧ ((∃ j, b ≤ j ∧ j < nb ∧ 2 < zdg P (nI j) (nI r) nl) → X = (P, S, 0)) := by
          intro X hX hd
          rw [hX]
          refine ⟨fun h => i1 (fun j a q => h j (by omega) q), fun ⟨j, a, q, w⟩ => i2 ⟨j, Nat.lt_of_le_of_ne a (fun e => ?_), q, w⟩⟩
          subst e
          omega
        generalize hd : zdg P (nI b) (nI r) nl = d at dl fin ⊢
        by_cases c2 : d ≤ 2
        · rw [z2, if_pos (nI_le c2 (by omega))]
          by_cases c0 : 0 < d
          · have pm : zpM P (nI r) nl b := by show 0 < zdg P (nI b) (nI r) nl; omega
            rw [if_neg (nI_nle c0 (by omega)), if_neg (nI_nle c0 (by omega)), if_neg (nI_nle c0 (by omega))]
            by_cases cE : d = 1
            · have pe : zpE P (nI r) nl b := by show zdg P (nI b) (nI r) nl = 1; omega
              rw [if_pos (by rw [cE]; decide)]
              by_cases cS : fPL_isInRingBefore P S (nI b) (nI r) = 0
              · have ps : ¬ zpS P r nl b := fun h => hib.mpr h.2 cS
                rw [if_pos cS]
                refine fin _ ?_ c2
                rw [zct_1 pm, zct_1 pe, zct_0 ps, nI_1, nI_1, a0, nI_1]
              · have ps : zpS P r nl b := ⟨pm, hib.mp cS⟩
                rw [if_neg cS]
                refine fin _ ?_ c2
                rw [zct_1 pm, zct_1 pe, zct_1 ps, nI_1, nI_1, nI_1, nI_1]
            · have pe : ¬ zpE P (nI r) nl b := by show ¬ zdg P (nI b) (nI r) nl = 1; omega
              rw [if_neg (fun h => cE ((nI_eq (b := 1) (by omega) (by decide)).mp (h.trans z1)))]
              by_cases cS : fPL_isInRingBefore P S (nI b) (nI r) = 0
              · have ps : ¬ zpS P r nl b := fun h => hib.mpr h.2 cS
                rw [if_pos cS]
                refine fin _ ?_ c2
                rw [zct_1 pm, zct_0 pe, zct_0 ps, nI_1, a0, a0, nI_1]
              · have ps : zpS P r nl b := ⟨pm, hib.mp cS⟩
                rw [if_neg cS]
                refine fin _ ?_ c2
                rw [zct_1 pm, zct_0 pe, zct_1 ps, nI_1, a0, nI_1, nI_1]
          · have e0 : d = 0 := by omega
            have pm : ¬ zpM P (nI r) nl b := by show ¬ 0 < zdg P (nI b) (nI r) nl; omega
            have pe : ¬ zpE P (nI r) nl b := by show ¬ zdg P (nI b) (nI r) nl = 1; omega
            have ps : ¬ zpS P r nl b := fun h => pm h.1
            rw [if_pos (by rw [e0]; decide), if_neg (by rw [e0]; decide), if_pos (by rw [e0]; decide)]
            refine fin _ ?_ c2
            rw [zct_0 pm, zct_0 pe, zct_0 ps, a0, a0, a0, nI_1]
        · rw [z2, if_neg (nI_ge (by omega) (by omega))]
          exact ⟨fun h => absurd (h b (Nat.le_refl _) (by omega)) (by omega), fun _ => rfl⟩
  have h := key 49 0 (Nat.zero_le _) (by omega)
  exact ⟨fun q => h.1 (fun j _ w => q j w), fun ⟨j, a, q⟩ => h.2 ⟨j, Nat.zero_le _, a, q⟩⟩

/-- what the reference does with a ring whose degrees are at most two -/
noncomputable def ztM (P S : ZS) (r f e i j : Int32) : ZS × ZS × Int32 := zl2 (fMO_isOne P S r) (fun S8 k7 => (if k7 = 0 then (P, S8, 0) else (if e = 0 then (if i < 3 then (P.setF 5 r.toNatClampNeg 1, S8, 0) else (if f = 0 then fMO_isRight_148 (P.setF 5 r.toNatClampNeg 1) S8 1 j else fMO_isRight_148 (P.setF 5 r.toNatClampNeg 1) S8 0 j)) else (if e = 2 then (if i ≤ 0 then (P, S8, 0) else (if j = 2 then (if fMO_isHung P S8 r = 0 then (P, S8, 0) else (P, S8, 1)) else (P, S8, 0))) else (P, S8, 0)))))
theorem zshM {P P' S : ZS} {f : Int32} {r nb nl : Nat} (hp : zPn P nb nl) (hr : zRP P P') (hr6 : r ≤ 5) :
    ((∀ j, j < nb → zdg P (nI j) (nI r) nl ≤ 2) → fMO_isRight P' S (nI r) f = ztM P' S (nI r) f (nI (zct (zpE P (nI r) nl) nb)) (nI (zct (zpI P (nI r) nl) nb)) (nI (zct (zpS P r nl) nb))) ∧
    ((∃ j, j < nb ∧ 2 < zdg P (nI j) (nI r) nl) → fMO_isRight P' S (nI r) f = (P', S, 0)) := by
  have hr2 := hr
  obtain ⟨hB, hb, hI, hn, hg, hL⟩ := hp
  obtain ⟨r1, r2, r3, r4, r5, -⟩ := hr
  have hB' : P'.I 1 = nI nb := r1.trans hB
  have hI' : P'.I 2 = nI nl := r2.trans hI
  have a0 : ∀ n : Nat, nI n + 0 = nI n := fun n => Int32.add_zero _
  have z2 : (2 : Int32) = nI 2 := by decide
  have z1 : (1 : Int32) = nI 1 := by decide
  have n10 : ¬ (1 : Int32) = 0 := by decide
  have key : ∀ (n b : Nat), b ≤ nb → nb - b < n →
      ((∀ j, b ≤ j → j < nb → zdg P (nI j) (nI r) nl ≤ 2) → zfix (fun P9 S9 _ _ _ _ _ _ => (P9, S9, 0)) fMO_isRight_11 n P' S (nI r) f (nI (zct (zpE P (nI r) nl) b)) (nI (zct (zpI P (nI r) nl) b)) (nI (zct (zpS P r nl) b)) (nI b) = ztM P' S (nI r) f (nI (zct (zpE P (nI r) nl) nb)) (nI (zct (zpI P (nI r) nl) nb)) (nI (zct (zpS P r nl) nb))) ∧
      ((∃ j, b ≤ j ∧ j < nb ∧ 2 < zdg P (nI j) (nI r) nl) → zfix (fun P9 S9 _ _ _ _ _ _ => (P9, S9, 0)) fMO_isRight_11 n P' S (nI r) f (nI (zct (zpE P (nI r) nl) b)) (nI (zct (zpI P (nI r) nl) b)) (nI (zct (zpS P r nl) b)) (nI b) = (P', S, 0)) := by
    intro n
    induction n with
    | zero => intro b h1 h2; omega
    | succ n ih =>
      intro b h1 h2
      rw [zfix_s]
      generalize zfix (fun P9 S9 _ _ _ _ _ _ => (P9, S9, 0)) fMO_isRight_11 n = rc at ih ⊢
      by_cases c : nb ≤ b
      · have e : b = nb := by omega
        unfold fMO_isRight_11
        simp only [zl]
        rw [hB', if_pos (nI_le c (by omega)), e]
        exact ⟨fun _ => rfl, fun ⟨j, a, q, _⟩ => by omega⟩
      · simp only [fMO_isRight_11, fMO_isRight_48, fMO_isRight_49, fMO_isRight_71, fMO_isRight_86, fMO_isRight_101, zl]
        rw [hB', if_neg (nI_ge (by omega) (by omega)), zdi_eq hI' hn, zdg_RP hr2]
        have dl := zdg_le (P := P) (b := nI b) (r := nI r) nl
        have hib : (¬ fMO_isEarlier P' S (nI b) (nI r) = 0) ↔ zbef P (nI b) r nl := by
          rw [zie_iff (S := S) hI' hn hr6, zbef_iff hg]
          exact ⟨fun ⟨q, a, w⟩ => ⟨q, a, by rw [← zdg_RP hr2]; exact w⟩, fun ⟨q, a, w⟩ => ⟨q, a, by rw [zdg_RP hr2]; exact w⟩⟩
        obtain ⟨i1, i2⟩ := ih (b + 1) (by omega) (by omega)
        have fin : ∀ X : ZS × ZS × Int32, X = rc P' S (nI r) f (nI (zct (zpE P (nI r) nl) (b + 1))) (nI (zct (zpI P (nI r) nl) (b + 1))) (nI (zct (zpS P r nl) (b + 1))) (nI (b + 1)) → zdg P (nI b) (nI r) nl ≤ 2 →
            ((∀ j, b ≤ j → j < nb → zdg P (nI j) (nI r) nl ≤ 2) → X = ztM P' S (nI r) f (nI (zct (zpE P (nI r) nl) nb)) (nI (zct (zpI P (nI r) nl) nb)) (nI (zct (zpS P r nl) nb))) ∧ ((∃ j, b ≤ j ∧ j < nb ∧ 2 < zdg P (nI j) (nI r) nl) → X = (P', S, 0)) := by
          intro X hX hd
          rw [hX]
          refine ⟨fun h => i1 (fun j a q => h j (by omega) q), fun ⟨j, a, q, w⟩ => i2 ⟨j, Nat.lt_of_le_of_ne a (fun e => ?_), q, w⟩⟩
          subst e
          omega
        have out : 2 < zdg P (nI b) (nI r) nl → ((∀ j, b ≤ j → j < nb → zdg P (nI j) (nI r) nl ≤ 2) → (P', S, (0 : Int32)) = ztM P' S (nI r) f (nI (zct (zpE P (nI r) nl) nb)) (nI (zct (zpI P (nI r) nl) nb)) (nI (zct (zpS P r nl) nb))) ∧ ((∃ j, b ≤ j ∧ j < nb ∧ 2 < zdg P (nI j) (nI r) nl) → (P', S, (0 : Int32)) = (P', S, 0)) := fun hd => ⟨fun h => absurd (h b (Nat.le_refl _) (by omega)) (by omega), fun _ => rfl⟩
        generalize hd : zdg P (nI b) (nI r) nl = d at dl fin out ⊢
        by_cases c0 : 0 < d
        · have pm : 0 < zdg P (nI b) (nI r) nl := by omega
          rw [if_neg (nI_nle c0 (by omega))]
          by_cases c2 : d ≤ 2
          · have cond2 : nI d ≤ 2 := by rw [z2]; exact nI_le c2 (by omega)
            rw [if_pos cond2, if_pos cond2]
            by_cases cE : d = 1
            · have pe : zpE P (nI r) nl b := by show zdg P (nI b) (nI r) nl = 1; omega
              have pi : ¬ zpI P (nI r) nl b := by show ¬ zdg P (nI b) (nI r) nl = 2; omega
              have k1 : nI d = 1 := by rw [cE]; decide
              have k2 : ¬ nI d = 2 := by rw [cE]; decide
              rw [if_pos k1, if_pos k1, if_neg k2, if_neg k2, if_pos trivial, if_neg n10]
              by_cases cS : fMO_isEarlier P' S (nI b) (nI r) = 0
              · have ps : ¬ zpS P r nl b := fun h => hib.mpr h.2 cS
                rw [if_pos cS]
                refine fin _ ?_ c2
                rw [zct_1 pe, zct_0 pi, zct_0 ps, nI_1, a0, a0, nI_1]
              · have ps : zpS P r nl b := ⟨pm, hib.mp cS⟩
                rw [if_neg cS]
                refine fin _ ?_ c2
                rw [zct_1 pe, zct_0 pi, zct_1 ps, nI_1, a0, nI_1, nI_1]
            · have cI : d = 2 := by omega
              have pe : ¬ zpE P (nI r) nl b := by show ¬ zdg P (nI b) (nI r) nl = 1; omega
              have pi : zpI P (nI r) nl b := by show zdg P (nI b) (nI r) nl = 2; omega
              have k1 : ¬ nI d = 1 := by rw [cI]; decide
              have k2 : nI d = 2 := by rw [cI]; decide
              rw [if_neg k1, if_neg k1, if_pos k2, if_pos k2, if_pos trivial, if_neg n10]
              by_cases cS : fMO_isEarlier P' S (nI b) (nI r) = 0
              · have ps : ¬ zpS P r nl b := fun h => hib.mpr h.2 cS
                rw [if_pos cS]
                refine fin _ ?_ c2
                rw [zct_0 pe, zct_1 pi, zct_0 ps, a0, nI_1, a0, nI_1]
              · have ps : zpS P r nl b := ⟨pm, hib.mp cS⟩
                rw [if_neg cS]
                refine fin _ ?_ c2
                rw [zct_0 pe, zct_1 pi, zct_1 ps, a0, nI_1, nI_1, nI_1]
          · have cond2 : ¬ nI d ≤ 2 := by rw [z2]; exact nI_ge (by omega) (by omega)
            rw [if_neg cond2, if_neg cond2]
            by_cases cS : fMO_isEarlier P' S (nI b) (nI r) = 0
            · rw [if_pos cS]
              exact out (by omega)
            · rw [if_neg cS]
              exact out (by omega)
        · have e0 : d = 0 := by omega
          have pe : ¬ zpE P (nI r) nl b := by show ¬ zdg P (nI b) (nI r) nl = 1; omega
          have pi : ¬ zpI P (nI r) nl b := by show ¬ zdg P (nI b) (nI r) nl = 2; omega
          have ps : ¬ zpS P r nl b := fun h => by have := h.1; omega
          have k0 : nI d ≤ 0 := by rw [e0]; decide
          have k1 : ¬ nI d = 1 := by rw [e0]; decide
          have k2 : ¬ nI d = 2 := by rw [e0]; decide
          have k3 : nI d ≤ 2 := by rw [e0]; decide
          rw [if_pos k0, if_pos k3, if_neg k1, if_neg k2, if_pos trivial]
          refine fin _ ?_ (by omega)
          rw [zct_0 pe, zct_0 pi, zct_0 ps, a0, a0, a0, nI_1]
  have h := key 49 0 (Nat.zero_le _) (by omega)
  exact ⟨fun q => h.1 (fun j _ w => q j w), fun ⟨j, a, q⟩ => h.2 ⟨j, Nat.zero_le _, a, q⟩⟩
theorem zct_mei {P : ZS} {r : Int32} {nl : Nat} : ∀ n, (∀ j, j < n → zdg P (nI j) r nl ≤ 2) → zct (zpM P r nl) n = zct (zpE P r nl) n + zct (zpI P r nl) n
  | 0, _ => rfl
  | n + 1, h => by
    have ih := zct_mei (P := P) (r := r) (nl := nl) n (fun j hj => h j (by omega))
    have hn := h n (Nat.lt_succ_self n)
    by_cases c0 : 0 < zdg P (nI n) r nl
    · rw [zct_1 (p := zpM P r nl) c0]
      by_cases c1 : zdg P (nI n) r nl = 1
      · rw [zct_1 (p := zpE P r nl) c1, zct_0 (p := zpI P r nl) (by show ¬ _ = 2; omega)]; omega
      · rw [zct_0 (p := zpE P r nl) c1, zct_1 (p := zpI P r nl) (by show _ = 2; omega)]; omega
    · rw [zct_0 (p := zpM P r nl) c0, zct_0 (p := zpE P r nl) (by show ¬ _ = 1; omega), zct_0 (p := zpI P r nl) (by show ¬ _ = 2; omega)]; exact ih
/-- the sum of the degrees of the first n bridges -/
def zsd (P : ZS) (r : Int32) (nl : Nat) : Nat → Nat
  | 0 => 0
  | n + 1 => zsd P r nl n + zdg P (nI n) r nl
theorem zsd_ei {P : ZS} {r : Int32} {nl : Nat} : ∀ n, (∀ j, j < n → zdg P (nI j) r nl ≤ 2) → zsd P r nl n = zct (zpE P r nl) n + 2 * zct (zpI P r nl) n
  | 0, _ => rfl
  | n + 1, h => by
    have ih := zsd_ei (P := P) (r := r) (nl := nl) n (fun j hj => h j (by omega))
    have hn := h n (Nat.lt_succ_self n)
    show zsd P r nl n + zdg P (nI n) r nl = _
    by_cases c1 : zdg P (nI n) r nl = 1
    · rw [zct_1 (p := zpE P r nl) c1, zct_0 (p := zpI P r nl) (by show ¬ _ = 2; omega)]; omega
    · by_cases c2 : zdg P (nI n) r nl = 2
      · rw [zct_0 (p := zpE P r nl) c1, zct_1 (p := zpI P r nl) c2]; omega
      · rw [zct_0 (p := zpE P r nl) c1, zct_0 (p := zpI P r nl) c2]; omega
theorem zsd_s {P : ZS} {r : Int32} {l : Nat} : ∀ n, zsd P r (l + 1) n = zsd P r l n + (if P.F 2 l = r then zct (fun b => P.F 0 l = nI b ∨ P.F 1 l = nI b) n else 0)
  | 0 => by
    show 0 = 0 + _
    split <;> rfl
  | n + 1 => by
    have ih := zsd_s (P := P) (r := r) (l := l) n
    show zsd P r (l + 1) n + zdg P (nI n) r (l + 1) = zsd P r l n + zdg P (nI n) r l + _
    by_cases c : P.F 2 l = r
    · rw [if_pos c] at ih ⊢
      by_cases d : P.F 0 l = nI n ∨ P.F 1 l = nI n
      · rw [zdg_1 c d, zct_1 (p := fun b => P.F 0 l = nI b ∨ P.F 1 l = nI b) d]; omega
      · rw [zdg_0 (fun h => d h.2), zct_0 (p := fun b => P.F 0 l = nI b ∨ P.F 1 l = nI b) d]; omega
    · rw [if_neg c] at ih ⊢
      rw [zdg_0 (fun h => c h.1)]; omega
theorem zct_two {A B : Nat} (hne : A ≠ B) : ∀ n, zct (fun b => A = b ∨ B = b) n = (if A < n then 1 else 0) + (if B < n then 1 else 0)
  | 0 => rfl
  | n + 1 => by
    have ih := zct_two hne n
    by_cases c : A = n ∨ B = n
    · rw [zct_1 (p := fun b => A = b ∨ B = b) c, ih]
      rcases c with rfl | rfl
      · rw [if_neg (Nat.lt_irrefl _), if_pos (Nat.lt_succ_self _)]
        by_cases d : B < A
        · rw [if_pos d, if_pos (by omega)]
        · rw [if_neg d, if_neg (by omega)]
      · rw [if_neg (Nat.lt_irrefl B), if_pos (Nat.lt_succ_self B)]
        by_cases d : A < B
        · rw [if_pos d, if_pos (by omega)]
        · rw [if_neg d, if_neg (by omega)]
    · rw [zct_0 (p := fun b => A = b ∨ B = b) c, ih]
      have c1 : A ≠ n := fun h => c (Or.inl h)
      have c2 : B ≠ n := fun h => c (Or.inr h)
      by_cases d : A < n <;> by_cases d2 : B < n
      · rw [if_pos d, if_pos d2, if_pos (by omega), if_pos (by omega)]
      · rw [if_pos d, if_neg d2, if_pos (by omega), if_neg (by omega)]
      · rw [if_neg d, if_pos d2, if_neg (by omega), if_pos (by omega)]
      · rw [if_neg d, if_neg d2, if_neg (by omega), if_neg (by omega)]
theorem zsd_eq {P : ZS} {r : Int32} {nb nl : Nat} (hp : zPn P nb nl) : ∀ l, l ≤ nl → zsd P r l nb = 2 * zcn P r l := by
  obtain ⟨hB, hb, hI, hn, hg, hL⟩ := hp
  intro l
  induction l with
  | zero =>
    intro _
    have h : ∀ n, zsd P r 0 n = 0 := by
      intro n
      induction n with
      | zero => rfl
      | succ n ih => show zsd P r 0 n + 0 = 0; rw [ih]
    rw [h]; rfl
  | succ l ih =>
    intro h
    have ih := ih (by omega)
    rw [zsd_s]
    by_cases c : P.F 2 l = r
    · rw [if_pos c, zcn_1 c, ih]
      obtain ⟨la, lb, ne, ra, rb⟩ := hL l (by omega)
      have ea := znI ra
      have eb := znI rb
      have hne : (P.F 0 l).toNatClampNeg ≠ (P.F 1 l).toNatClampNeg := fun q => ne (by rw [ea, eb, q])
      have hc := zct_congr (p := fun b => P.F 0 l = nI b ∨ P.F 1 l = nI b) (q := fun b => (P.F 0 l).toNatClampNeg = b ∨ (P.F 1 l).toNatClampNeg = b) nb (fun j hj => by
        have i1 : P.F 0 l = nI j ↔ (P.F 0 l).toNatClampNeg = j := ⟨fun q => by rw [q, nI_clamp (by omega)], fun q => by rw [ea, q]⟩
        have i2 : P.F 1 l = nI j ↔ (P.F 1 l).toNatClampNeg = j := ⟨fun q => by rw [q, nI_clamp (by omega)], fun q => by rw [eb, q]⟩
        show (P.F 0 l = nI j ∨ P.F 1 l = nI j) ↔ _
        rw [i1, i2])
      rw [hc, zct_two hne, if_pos la, if_pos lb]
      omega
    · rw [if_neg c, zcn_0 c, ih]
      omega

/-! a chain that hangs on a closed ring: both ways of looking at it -/
theorem zends_iff {P S : ZS} {q r nb nl : Nat} (hp : zPn P nb nl) : (¬ fPL_hasEndsOf P S (nI q) (nI r) = 0) ↔ ∀ b, b < nb → ¬ (zdg P (nI b) (nI r) nl = 1 ∧ zdg P (nI b) (nI q) nl = 0) := by
  obtain ⟨hB, hb, hI, hn, hg, hL⟩ := hp
  have n1 : ¬ (1 : Int32) = 0 := by decide
  have z1 : (1 : Int32) = nI 1 := by decide
  have z0 : (0 : Int32) = nI 0 := by decide
  have key : ∀ (n b : Nat), b ≤ nb → nb - b < n → ((¬ zfix (fun _ _ _ => 0) (fPL_hasEndsOf_2 P S) n (nI q) (nI r) (nI b) = 0) ↔ ∀ j, b ≤ j → j < nb → ¬ (zdg P (nI j) (nI r) nl = 1 ∧ zdg P (nI j) (nI q) nl = 0)) := by
    intro n
    induction n with
    | zero => intro b h1 h2; omega
    | succ n ih =>
      intro b h1 h2
      rw [zfix_s]
      generalize zfix (fun _ _ _ => 0) (fPL_hasEndsOf_2 P S) n = rc at ih ⊢
      simp only [fPL_hasEndsOf_2, fPL_hasEndsOf_31, zl]
      rw [hB]
      by_cases c : nb ≤ b
      · rw [if_pos (nI_le c (by omega))]
        exact ⟨fun _ j a w => by omega, fun _ => n1⟩
      · rw [if_neg (nI_ge (by omega) (by omega)), zcl_eq hI hn, zcl_eq hI hn, nI_1]
        have dr := zdg_le (P := P) (b := nI b) (r := nI r) nl
        have dq := zdg_le (P := P) (b := nI b) (r := nI q) nl
        have go : ¬ (zdg P (nI b) (nI r) nl = 1 ∧ zdg P (nI b) (nI q) nl = 0) → ((¬ rc (nI q) (nI r) (nI (b + 1)) = 0) ↔ ∀ j, b ≤ j → j < nb → ¬ (zdg P (nI j) (nI r) nl = 1 ∧ zdg P (nI j) (nI q) nl = 0)) := by
          intro hno
          rw [ih (b + 1) (by omega) (by omega)]
          refine ⟨fun h j a w => ?_, fun h j a w => h j (by omega) w⟩
          by_cases e : j = b
          · rw [e]; exact hno
          · exact h j (by omega) w
        by_cases c1 : zdg P (nI b) (nI r) nl = 1
        · rw [if_pos (by rw [c1]; decide)]
          by_cases c2 : zdg P (nI b) (nI q) nl = 0
          · rw [if_pos (by rw [c2]; decide)]
            exact ⟨fun h => absurd rfl h, fun h => absurd ⟨c1, c2⟩ (h b (Nat.le_refl _) (by omega))⟩
          · rw [if_neg (fun h => c2 ((nI_eq (b := 0) (by omega) (by decide)).mp (h.trans z0)))]
            exact go (fun h => c2 h.2)
        · rw [if_neg (fun h => c1 ((nI_eq (b := 1) (by omega) (by decide)).mp (h.trans z1)))]
          exact go (fun h => c1 h.1)
  have h := key 49 0 (Nat.zero_le _) (by omega)
  exact h.trans ⟨fun h b w => h b (Nat.zero_le _) w, fun h b _ w => h b w⟩
theorem zheld_iff {P S : ZS} {r nb nl : Nat} (hp : zPn P nb nl) (hr6 : r ≤ 5) : (¬ fPL_isHeldByClosedRing P S (nI r) = 0) ↔ ∃ q, q < r ∧ ¬ P.F 8 q = 0 ∧ ∀ b, b < nb → ¬ (zdg P (nI b) (nI r) nl = 1 ∧ zdg P (nI b) (nI q) nl = 0) := by
  have n1 : ¬ (1 : Int32) = 0 := by decide
  have key : ∀ (n q : Nat), q ≤ r → r - q < n → ((¬ zfix (fun _ _ => 0) (fPL_isHeldByClosedRing_2 P S) n (nI r) (nI q) = 0) ↔ ∃ j, q ≤ j ∧ j < r ∧ ¬ P.F 8 j = 0 ∧ ∀ b, b < nb → ¬ (zdg P (nI b) (nI r) nl = 1 ∧ zdg P (nI b) (nI j) nl = 0)) := by
    intro n
    induction n with
    | zero => intro q h1 h2; omega
    | succ n ih =>
      intro q h1 h2
      rw [zfix_s]
      generalize zfix (fun _ _ => 0) (fPL_isHeldByClosedRing_2 P S) n = rc at ih ⊢
      simp only [fPL_isHeldByClosedRing_2, fPL_isHeldByClosedRing_27, zl]
      by_cases c : r ≤ q
      · rw [if_pos (nI_le c (by omega))]
        exact ⟨fun h => absurd rfl h, fun ⟨j, a, w, _⟩ => by omega⟩
      · rw [if_neg (nI_ge (by omega) (by omega)), nI_clamp (by omega), nI_1]
        have go : ¬ (¬ P.F 8 q = 0 ∧ ∀ b, b < nb → ¬ (zdg P (nI b) (nI r) nl = 1 ∧ zdg P (nI b) (nI q) nl = 0)) → ((¬ rc (nI r) (nI (q + 1)) = 0) ↔ ∃ j, q ≤ j ∧ j < r ∧ ¬ P.F 8 j = 0 ∧ ∀ b, b < nb → ¬ (zdg P (nI b) (nI r) nl = 1 ∧ zdg P (nI b) (nI j) nl = 0)) := by
          intro hno
          rw [ih (q + 1) (by omega) (by omega)]
          refine ⟨fun ⟨j, a, w⟩ => ⟨j, by omega, w⟩, fun ⟨j, a, w, w2⟩ => ⟨j, Nat.lt_of_le_of_ne a (fun e => ?_), w, w2⟩⟩
          subst e
          exact hno w2
        by_cases c1 : P.F 8 q = 0
        · rw [if_pos c1]
          exact go (fun h => h.1 c1)
        · rw [if_neg c1]
          have he := zends_iff (S := S) (q := q) (r := r) hp
          by_cases c2 : fPL_hasEndsOf P S (nI q) (nI r) = 0
          · rw [if_pos c2]
            exact go (fun h => he.mpr h.2 c2)
          · rw [if_neg c2]
            exact ⟨fun _ => ⟨q, Nat.le_refl _, by omega, c1, he.mp c2⟩, fun _ => n1⟩
  have h := key 6 0 (Nat.zero_le _) (by omega)
  exact h.trans ⟨fun ⟨j, _, w⟩ => ⟨j, w⟩, fun ⟨j, w⟩ => ⟨j, Nat.zero_le _, w⟩⟩
/-- ends of ring r that are in ring q -/
abbrev zpH (P : ZS) (r q nl : Nat) : Nat → Prop := fun b => zdg P (nI b) (nI r) nl = 1 ∧ 0 < zdg P (nI b) (nI q) nl
theorem zhung_iff {P P' S : ZS} {r nb nl : Nat} (hp : zPn P nb nl) (hr : zRP P P') (hr6 : r ≤ 5) : (¬ fMO_isHung P' S (nI r) = 0) ↔ ∃ q, q < r ∧ ¬ P'.F 5 q = 0 ∧ zct (zpH P r q nl) nb = 2 := by
  have hr2 := hr
  obtain ⟨hB, hb, hI, hn, hg, hL⟩ := hp
  obtain ⟨r1, r2, r3, r4, r5, -⟩ := hr
  have hB' : P'.I 1 = nI nb := r1.trans hB
  have hI' : P'.I 2 = nI nl := r2.trans hI
  have n1 : ¬ (1 : Int32) = 0 := by decide
  have z1 : (1 : Int32) = nI 1 := by decide
  have z2 : (2 : Int32) = nI 2 := by decide
  have a0 : ∀ n : Nat, nI n + 0 = nI n := fun n => Int32.add_zero _
  have inner : ∀ (rc : Int32 → Int32 → Int32 → Int32) (q : Nat), q ≤ 5 → ∀ (n b : Nat) (y : Int32), b ≤ nb → nb - b < n →
      ((¬ y = 0 ∨ (¬ P'.F 5 q = 0 ∧ zct (zpH P r q nl) nb = 2)) → zfix (fun _ _ _ _ _ => 0) (fMO_isHung_15 P' S rc) n (nI r) y (nI q) (nI (zct (zpH P r q nl) b)) (nI b) = rc (nI r) 1 (nI (q + 1))) ∧
      (¬ (¬ y = 0 ∨ (¬ P'.F 5 q = 0 ∧ zct (zpH P r q nl) nb = 2)) → zfix (fun _ _ _ _ _ => 0) (fMO_isHung_15 P' S rc) n (nI r) y (nI q) (nI (zct (zpH P r q nl) b)) (nI b) = rc (nI r) 0 (nI (q + 1))) := by
    intro rc q hq n
    induction n with
    | zero => intro b y h1 h2; omega
    | succ n ih =>
      intro b y h1 h2
      rw [zfix_s]
      generalize zfix (fun _ _ _ _ _ => 0) (fMO_isHung_15 P' S rc) n = rc2 at ih ⊢
      simp only [fMO_isHung_15, fMO_isHung_51, fMO_isHung_52, fMO_isHung_80, fMO_isHung_84, fMO_isHung_85, zl]
      rw [hB']
      by_cases c : nb ≤ b
      · have e : b = nb := by omega
        have cl := zct_le (p := zpH P r q nl) nb
        rw [if_pos (nI_le c (by omega)), e, nI_clamp (by omega), nI_1]
        by_cases cy : y = 0
        · rw [if_pos cy]
          by_cases c5 : P'.F 5 q = 0
          · rw [if_pos c5]
            exact ⟨fun h => h.elim (fun h => absurd cy h) (fun h => absurd c5 h.1), fun _ => rfl⟩
          · rw [if_neg c5]
            by_cases ct : zct (zpH P r q nl) nb = 2
            · rw [if_pos (by rw [ct]; decide)]
              exact ⟨fun _ => rfl, fun h => absurd (Or.inr ⟨c5, ct⟩) h⟩
            · rw [if_neg (fun h => ct ((nI_eq (b := 2) (by omega) (by decide)).mp (h.trans z2)))]
              exact ⟨fun h => h.elim (fun h => absurd cy h) (fun h => absurd h.2 ct), fun _ => rfl⟩
        · rw [if_neg cy]
          exact ⟨fun _ => rfl, fun h => absurd (Or.inl cy) h⟩
      · rw [if_neg (nI_ge (by omega) (by omega)), zdi_eq hI' hn, zdi_eq hI' hn, zdg_RP hr2, zdg_RP hr2, nI_1]
        have dr := zdg_le (P := P) (b := nI b) (r := nI r) nl
        have dq := zdg_le (P := P) (b := nI b) (r := nI q) nl
        have i1 := ih (b + 1) y (by omega) (by omega)
        by_cases c1 : zdg P (nI b) (nI r) nl = 1
        · rw [if_pos (by rw [c1]; decide)]
          by_cases c2 : 0 < zdg P (nI b) (nI q) nl
          · rw [if_neg (nI_nle c2 (by omega)), nI_1, ← zct_1 (p := zpH P r q nl) ⟨c1, c2⟩]
            exact i1
          · have e0 : zdg P (nI b) (nI q) nl = 0 := by omega
            rw [e0, if_pos (by decide : nI 0 ≤ 0), a0, ← zct_0 (p := zpH P r q nl) (fun h => c2 h.2)]
            exact i1
        · rw [if_neg (fun h => c1 ((nI_eq (b := 1) (by omega) (by decide)).mp (h.trans z1))), a0, ← zct_0 (p := zpH P r q nl) (fun h => c1 h.1)]
          exact i1
  have key : ∀ (n q : Nat) (y : Int32), q ≤ r → r - q < n → ((¬ zfix (fun _ _ _ => 0) (fMO_isHung_4 P' S) n (nI r) y (nI q) = 0) ↔ (¬ y = 0 ∨ ∃ j, q ≤ j ∧ j < r ∧ ¬ P'.F 5 j = 0 ∧ zct (zpH P r j nl) nb = 2)) := by
    intro n
    induction n with
    | zero => intro q y h1 h2; omega
    | succ n ih =>
      intro q y h1 h2
      rw [zfix_s]
      generalize zfix (fun _ _ _ => 0) (fMO_isHung_4 P' S) n = rc at ih ⊢
      unfold fMO_isHung_4
      by_cases c : r ≤ q
      · rw [if_pos (nI_le c (by omega))]
        exact ⟨Or.inl, fun h => h.elim id (fun ⟨j, a, w, _⟩ => by omega)⟩
      · rw [if_neg (nI_ge (by omega) (by omega))]
        obtain ⟨b1, b2⟩ := inner rc q (by omega) 49 0 y (Nat.zero_le _) (by omega)
        by_cases d : ¬ y = 0 ∨ (¬ P'.F 5 q = 0 ∧ zct (zpH P r q nl) nb = 2)
        · have e := b1 d
          refine (show (¬ zfix (fun _ _ _ _ _ => 0) (fMO_isHung_15 P' S rc) 49 (nI r) y (nI q) 0 0 = 0) ↔ (¬ rc (nI r) 1 (nI (q + 1)) = 0) from by rw [show zfix (fun _ _ _ _ _ => 0) (fMO_isHung_15 P' S rc) 49 (nI r) y (nI q) 0 0 = rc (nI r) 1 (nI (q + 1)) from e]).trans ?_
          rw [ih (q + 1) 1 (by omega) (by omega)]
          exact ⟨fun _ => d.elim Or.inl (fun d => Or.inr ⟨q, Nat.le_refl _, by omega, d⟩), fun _ => Or.inl n1⟩
        · have e := b2 d
          refine (show (¬ zfix (fun _ _ _ _ _ => 0) (fMO_isHung_15 P' S rc) 49 (nI r) y (nI q) 0 0 = 0) ↔ (¬ rc (nI r) 0 (nI (q + 1)) = 0) from by rw [show zfix (fun _ _ _ _ _ => 0) (fMO_isHung_15 P' S rc) 49 (nI r) y (nI q) 0 0 = rc (nI r) 0 (nI (q + 1)) from e]).trans ?_
          rw [ih (q + 1) 0 (by omega) (by omega)]
          refine ⟨fun h => h.elim (fun h => absurd rfl h) (fun ⟨j, a, w⟩ => Or.inr ⟨j, by omega, w⟩), fun h => h.elim (fun h => absurd (Or.inl h) d) (fun ⟨j, a, w, w2⟩ => Or.inr ⟨j, Nat.lt_of_le_of_ne a (fun e9 => ?_), w, w2⟩)⟩
          subst e9
          exact d (Or.inr w2)
  have h := key 6 0 0 (Nat.zero_le _) (by omega)
  exact h.trans ⟨fun h => h.elim (fun h => absurd rfl h) (fun ⟨j, _, w⟩ => ⟨j, w⟩), fun ⟨j, w⟩ => Or.inr ⟨j, Nat.zero_le _, w⟩⟩

/-! one ring's verdict agrees -/
theorem zct_and {p q : Nat → Prop} : ∀ n, zct (fun b => p b ∧ q b) n ≤ zct p n ∧ (zct (fun b => p b ∧ q b) n = zct p n ↔ ∀ b, b < n → p b → q b)
  | 0 => ⟨Nat.le_refl _, fun _ b h => absurd h (Nat.not_lt_zero _), fun _ => rfl⟩
  | n + 1 => by
    obtain ⟨h1, h2⟩ := zct_and (p := p) (q := q) n
    by_cases cp : p n
    · rw [zct_1 (p := p) cp]
      by_cases cq : q n
      · rw [zct_1 (p := fun b => p b ∧ q b) ⟨cp, cq⟩]
        refine ⟨by omega, fun h b hb hp => ?_, fun h => ?_⟩
        · by_cases e : b = n
          · rw [e]; exact cq
          · exact h2.mp (by omega) b (by omega) hp
        · have := h2.mpr (fun b hb => h b (by omega))
          omega
      · rw [zct_0 (p := fun b => p b ∧ q b) (fun h => cq h.2)]
        exact ⟨by omega, fun h => by omega, fun h => absurd (h n (Nat.lt_succ_self n) cp) cq⟩
    · rw [zct_0 (p := p) cp, zct_0 (p := fun b => p b ∧ q b) (fun h => cp h.1)]
      refine ⟨h1, fun h b hb hp => ?_, fun h => h2.mpr (fun b hb => h b (by omega))⟩
      by_cases e : b = n
      · rw [e] at hp; exact absurd hp cp
      · exact h2.mp h b (by omega) hp
theorem zdg_k {P P1 : ZS} (h : zk 8 P P1) (b r : Int32) : ∀ n, zdg P1 b r n = zdg P b r n
  | 0 => rfl
  | n + 1 => by
    show zdg P1 b r n + _ = zdg P b r n + _
    rw [zdg_k h b r n, h.2 0 (by decide), h.2 1 (by decide), h.2 2 (by decide)]
theorem zPn_k {P P1 : ZS} {nb nl : Nat} (hk : zk 8 P P1) (h : zPn P nb nl) : zPn P1 nb nl := by
  unfold zPn
  rw [hk.1, hk.2 0 (by decide), hk.2 1 (by decide), hk.2 2 (by decide)]
  exact h
theorem zverd {P P' S S' : ZS} {f : Int32} {r nb nl : Nat} (hp : zPn P nb nl) (hr : zRP P P') (hr6 : r ≤ 5) (hcl : ∀ q, q < r → (P.F 8 q = 0 ↔ P'.F 5 q = 0)) (h5 : P'.F 5 r = 0) :
    (fPL_hasRightShape P S (nI r) f).2.2 = (fMO_isRight P' S' (nI r) f).2.2 ∧
    (¬ (fPL_hasRightShape P S (nI r) f).2.2 = 0 → ∀ q, q < r + 1 → ((fPL_hasRightShape P S (nI r) f).1.F 8 q = 0 ↔ (fMO_isRight P' S' (nI r) f).1.F 5 q = 0)) := by
  obtain ⟨cA, cB⟩ := zshC (S := S) (f := f) hp hr6
  obtain ⟨mA, mB⟩ := zshM (S := S') (f := f) hp hr hr6
  have hp2 := hp
  obtain ⟨hB, hb, hI, hn, hg, hL⟩ := hp2
  by_cases hall : ∀ j, j < nb → zdg P (nI j) (nI r) nl ≤ 2
  · rw [cA hall, mA hall]
    have mei := zct_mei (P := P) (r := nI r) (nl := nl) nb hall
    have sei := zsd_ei (P := P) (r := nI r) (nl := nl) nb hall
    rw [zsd_eq hp nl (Nat.le_refl _)] at sei
    have le := zct_le (p := zpM P (nI r) nl) nb
    obtain ⟨p1, p2⟩ := zpiece (S := S) (S' := S') (r := nI r) (m := zct (zpM P (nI r) nl) nb) hp hr rfl
    generalize zct (zpM P (nI r) nl) nb = m at mei le p1 p2 ⊢
    generalize hE : zct (zpE P (nI r) nl) nb = e at mei sei ⊢
    generalize zct (zpI P (nI r) nl) nb = i at mei sei ⊢
    generalize zct (zpS P r nl) nb = s
    simp only [ztC, ztM, zl2]
    generalize fPL_isOnePiece P S (nI r) (nI m) = o at p1 p2 ⊢
    generalize fMO_isOne P' S' (nI r) = o' at p1 ⊢
    have z3 : (3 : Int32) = nI 3 := by decide
    have z2 : (2 : Int32) = nI 2 := by decide
    have z0 : (0 : Int32) = nI 0 := by decide
    have e0 : (nI e = 0 ↔ e = 0) := by rw [z0]; exact nI_eq (by omega) (by decide)
    have e2 : (nI e = 2 ↔ e = 2) := by rw [z2]; exact nI_eq (by omega) (by decide)
    have i0 : (nI i ≤ 0 ↔ i ≤ 0) := by rw [z0]; exact nI_leI (by omega) (by decide)
    have i3 : (nI i < 3 ↔ i < 3) := by rw [z3]; exact nI_ltI (by omega) (by decide)
    have m3 : (nI m < 3 ↔ m < 3) := by rw [z3]; exact nI_ltI (by omega) (by decide)
    by_cases co : o.2 = 0
    · have co' : o'.2 = 0 := by rw [← p1]; exact co
      rw [if_pos co', if_pos co]
      by_cases cm : nI m < 3
      · rw [if_pos cm]
        exact ⟨rfl, fun h => absurd rfl h⟩
      · rw [if_neg cm]
        exact ⟨rfl, fun h => absurd rfl h⟩
    · have co' : ¬ o'.2 = 0 := by rw [← p1]; exact co
      obtain ⟨k', k1, k2⟩ := p2 co
      rw [if_neg co', if_neg co]
      by_cases ce : e = 0
      · rw [if_pos (e0.mpr ce), if_pos (e0.mpr ce)]
        by_cases cm : m < 3
        · rw [if_pos (m3.mpr cm), if_pos (i3.mpr (by omega))]
          exact ⟨rfl, fun h => absurd rfl h⟩
        · rw [if_neg (fun h => cm (m3.mp h)), if_neg (fun h => cm (by have := i3.mp h; omega))]
          have rc : (nI r).toNatClampNeg = r := nI_clamp (by omega)
          have flag : ∀ q, q < r + 1 → ((P.setF 8 (nI r).toNatClampNeg 1).F 8 q = 0 ↔ (P'.setF 5 (nI r).toNatClampNeg 1).F 5 q = 0) := by
            intro q hq
            rw [zset27, zset27, rc]
            by_cases e9 : q = r
            · rw [if_pos e9, if_pos e9]
            · rw [if_neg e9, if_neg e9]; exact hcl q (by omega)
          simp only [fPL_hasRightShape_134, fPL_hasRightShape_151, fMO_isRight_148, fMO_isRight_155, zl]
          rw [if_pos (e0.mpr ce)]
          by_cases cf : f = 0
          · rw [if_pos cf, if_pos cf]
            by_cases cs : nI s = 1
            · rw [if_pos cs, if_pos cs]
              exact ⟨rfl, fun _ => flag⟩
            · rw [if_neg cs, if_neg cs]
              exact ⟨rfl, fun h => absurd rfl h⟩
          · rw [if_neg cf, if_neg cf]
            by_cases cs : nI s = 0
            · rw [if_pos cs, if_pos cs]
              exact ⟨rfl, fun _ => flag⟩
            · rw [if_neg cs, if_neg cs]
              exact ⟨rfl, fun h => absurd rfl h⟩
      · have ce2 : e = 2 := by omega
        rw [if_neg (fun h => ce (e0.mp h)), if_neg (fun h => ce (e0.mp h)), if_pos (e2.mpr ce2)]
        by_cases cm : m < 3
        · rw [if_pos (m3.mpr cm), if_pos (i0.mpr (by omega))]
          exact ⟨rfl, fun h => absurd rfl h⟩
        · rw [if_neg (fun h => cm (m3.mp h)), if_neg (fun h => cm (by have := i0.mp h; omega))]
          simp only [fPL_hasRightShape_134, fPL_hasRightShape_178, zl]
          rw [if_neg (fun h => ce (e0.mp h))]
          by_cases cs : nI s = 2
          · rw [if_pos cs, if_pos cs]
            have hk8 : zk 8 P (P.setF 8 (nI r).toNatClampNeg 0) := zk.set
            have rc : (nI r).toNatClampNeg = r := nI_clamp (by omega)
            have f8 : ∀ q, q < r → (P.setF 8 (nI r).toNatClampNeg 0).F 8 q = P.F 8 q := fun q hq => by rw [zset27, rc, if_neg (by omega)]
            have f8r : (P.setF 8 (nI r).toNatClampNeg 0).F 8 r = 0 := by rw [zset27, rc, if_pos rfl]
            generalize P.setF 8 (nI r).toNatClampNeg 0 = P1 at hk8 f8 f8r ⊢
            have hh := zheld_iff (S := o.1) (zPn_k hk8 hp) hr6
            have hu := zhung_iff (S := o'.1) hp hr hr6
            have hiff : (¬ fPL_isHeldByClosedRing P1 o.1 (nI r) = 0) ↔ (¬ fMO_isHung P' o'.1 (nI r) = 0) := by
              rw [hh, hu]
              have each : ∀ q, (∀ b, b < nb → ¬ (zdg P1 (nI b) (nI r) nl = 1 ∧ zdg P1 (nI b) (nI q) nl = 0)) ↔ zct (zpH P r q nl) nb = 2 := by
                intro q
                have ha := (zct_and (p := zpE P (nI r) nl) (q := fun b => 0 < zdg P (nI b) (nI q) nl) nb).2
                rw [hE, ce2] at ha
                refine Iff.trans ?_ ha.symm
                constructor
                · intro h b hb hpE
                  have h9 := h b hb
                  rw [zdg_k hk8, zdg_k hk8] at h9
                  exact Nat.pos_of_ne_zero (fun h0 => h9 ⟨hpE, h0⟩)
                · intro h b hb h9
                  rw [zdg_k hk8, zdg_k hk8] at h9
                  have := h b hb h9.1
                  omega
              constructor
              · rintro ⟨q, a, w, w2⟩
                exact ⟨q, a, fun h => w (by rw [f8 q a]; exact (hcl q a).mpr h), (each q).mp w2⟩
              · rintro ⟨q, a, w, w2⟩
                exact ⟨q, a, fun h => w ((hcl q a).mp (by rw [← f8 q a]; exact h)), (each q).mpr w2⟩
            by_cases ch : fPL_isHeldByClosedRing P1 o.1 (nI r) = 0
            · have ch' : fMO_isHung P' o'.1 (nI r) = 0 := Classical.byContradiction (fun h => hiff.mpr h ch)
              rw [if_pos ch, if_pos ch']
              exact ⟨rfl, fun h => absurd rfl h⟩
            · rw [if_neg ch, if_neg (hiff.mp ch)]
              refine ⟨rfl, fun _ q hq => ?_⟩
              show P1.F 8 q = 0 ↔ P'.F 5 q = 0
              by_cases e9 : q = r
              · rw [e9, f8r, h5]
              · rw [f8 q (by omega)]; exact hcl q (by omega)
          · rw [if_neg cs, if_neg cs]
            exact ⟨rfl, fun h => absurd rfl h⟩
  · have hex : ∃ j, j < nb ∧ 2 < zdg P (nI j) (nI r) nl := Classical.byContradiction (fun h => hall (fun j hj => Nat.not_lt.mp (fun h2 => h ⟨j, hj, h2⟩)))
    rw [cB hex, mB hex]
    exact ⟨rfl, fun h => absurd rfl h⟩

/-! the whole verdict agrees -/
theorem zsh8 {P S : ZS} {f : Int32} {r nb nl q : Nat} (hp : zPn P nb nl) (hr6 : r ≤ 5) (hq : q ≠ r) : (fPL_hasRightShape P S (nI r) f).1.F 8 q = P.F 8 q := by
  obtain ⟨cA, cB⟩ := zshC (S := S) (f := f) hp hr6
  have rc : (nI r).toNatClampNeg = r := nI_clamp (by omega)
  have st : ∀ v : Int32, (P.setF 8 (nI r).toNatClampNeg v).F 8 q = P.F 8 q := fun v => by rw [zset27, rc, if_neg hq]
  by_cases hall : ∀ j, j < nb → zdg P (nI j) (nI r) nl ≤ 2
  · rw [cA hall]
    generalize nI (zct (zpM P (nI r) nl) nb) = m
    generalize nI (zct (zpE P (nI r) nl) nb) = e
    generalize nI (zct (zpS P r nl) nb) = s
    simp only [ztC, zl2, fPL_hasRightShape_134, fPL_hasRightShape_151, fPL_hasRightShape_178, zl]
    repeat' split
    all_goals first | rfl | exact st _
  · have hex : ∃ j, j < nb ∧ 2 < zdg P (nI j) (nI r) nl := Classical.byContradiction (fun h => hall (fun j hj => Nat.not_lt.mp (fun h2 => h ⟨j, hj, h2⟩)))
    rw [cB hex]
/-- a ring without links was never called closed -/
def zC0 (P : ZS) (nl : Nat) : Prop := ∀ q, q < 6 → ¬ P.F 8 q = 0 → ∃ l, l < nl ∧ P.F 2 l = nI q
/-- a ring's owner and link are set together -/
def zM2 (P : ZS) : Prop := ∀ j, (P.F 3 j = -1 ↔ P.F 4 j = -1)
theorem zown_eq {P P1 P' S S' : ZS} {r nb nl : Nat} (hp : zPn P nb nl) (g4 : ∀ j, zr (-1) 59 (P.F 4 j)) (hk : zk 8 P P1) (hr : zRP P P') (hm : zM2 P) (hr6 : r ≤ 5) : (¬ fPL_hasRightOwner P1 S (nI r) = 0) ↔ (¬ P'.F 3 r = -1 ∧ P'.F 2 (P'.F 4 r).toNatClampNeg = nI r ∧ ¬ fMO_isEnd P' S' (P'.F 3 r) (P'.F 4 r) = 0) := by
  obtain ⟨r1, r2, r3, r4, r5, r6, r7⟩ := hr
  have n1 : ¬ (1 : Int32) = 0 := by decide
  have he : ∀ l : Nat, l < 60 → ∀ b : Int32, (fMO_isEnd P' S' b (nI l) = 0 ↔ fPL_portOf P1 S b (nI l) = -1) := fun l hl b => by
    rw [zend_iff hl, zpo_iff hl, r3, r4, hk.2 0 (by decide), hk.2 1 (by decide)]
  rw [r5, r6, r7]
  simp only [fPL_hasRightOwner, fPL_hasRightOwner_41, zl]
  rw [nI_clamp (by omega), hk.2 4 (by decide), hk.2 2 (by decide), hk.2 3 (by decide)]
  by_cases c1 : P.F 4 r = -1
  · rw [if_pos c1]
    exact ⟨fun h => absurd rfl h, fun h => absurd ((hm r).mpr c1) h.1⟩
  · rw [if_neg c1]
    have ra : zr 0 59 (P.F 4 r) := zne_lo (g4 r) c1 (by decide)
    have ta := ztn ra (by decide)
    have ub := ra.2
    have ea := znI ra
    have hx := he (P.F 4 r).toNatClampNeg (by omega) (P.F 3 r)
    rw [← ea] at hx
    by_cases c2 : P.F 2 (P.F 4 r).toNatClampNeg = nI r
    · rw [if_pos c2]
      by_cases c3 : fPL_portOf P1 S (P.F 3 r) (P.F 4 r) = -1
      · rw [if_pos c3]
        exact ⟨fun h => absurd rfl h, fun h => absurd (hx.mpr c3) h.2.2⟩
      · rw [if_neg c3]
        exact ⟨fun _ => ⟨fun h => c1 ((hm r).mp h), c2, fun h => c3 (hx.mp h)⟩, fun _ => n1⟩
    · rw [if_neg c2]
      exact ⟨fun h => absurd rfl h, fun h => absurd h.2.1 c2⟩
theorem zRP_k {P P1 P' P1' : ZS} (h : zRP P P') (hk : zk 8 P P1) (hk' : zk 5 P' P1') : zRP P1 P1' := by
  unfold zRP
  rw [hk.1, hk'.1, hk.2 0 (by decide), hk.2 1 (by decide), hk.2 2 (by decide), hk.2 3 (by decide), hk.2 4 (by decide), hk'.2 0 (by decide), hk'.2 1 (by decide), hk'.2 2 (by decide), hk'.2 3 (by decide), hk'.2 4 (by decide)]
  exact h
theorem zrings {nb nl : Nat} : ∀ (n r : Nat) (P P' S S' : ZS) (f : Int32), r ≤ 6 → 6 - r < n → zPn P nb nl → (∀ j, zr (-1) 59 (P.F 4 j)) → zRP P P' → zM2 P → zC0 P nl → (∀ q, q < r → (P.F 8 q = 0 ↔ P'.F 5 q = 0)) →
    (zfix (fun P9 S9 _ _ => (P9, S9, 0)) fPL_firstFault_21 n P S f (nI r)).2.2 = (zfix (fun P9 S9 _ _ => (P9, S9, 0)) fMO_faultOf_72 n P' S' f (nI r)).2.2 ∧
    zC0 (zfix (fun P9 S9 _ _ => (P9, S9, 0)) fPL_firstFault_21 n P S f (nI r)).1 nl := by
  have z6 : (6 : Int32) = nI 6 := by decide
  have z0 : (0 : Int32) = nI 0 := by decide
  intro n
  induction n with
  | zero => intro r P P' S S' f h1 h2; omega
  | succ n ih =>
    intro r P P' S S' f h1 h2 hp g4 hr hm hc hcl
    rw [zfix_s, zfix_s]
    generalize zfix (fun P9 S9 _ _ => (P9, S9, 0)) fPL_firstFault_21 n = rc at ih ⊢
    generalize zfix (fun P9 S9 _ _ => (P9, S9, 0)) fMO_faultOf_72 n = rc' at ih ⊢
    simp only [fPL_firstFault_21, fPL_firstFault_62, fPL_firstFault_56, zl, zl3]
    by_cases c : 6 ≤ r
    · have e1 : (6 : Int32) ≤ nI r := by rw [z6]; exact nI_le c (by omega)
      unfold fMO_faultOf_72
      rw [if_pos e1, if_pos e1]
      exact ⟨rfl, hc⟩
    · have e1 : ¬ (6 : Int32) ≤ nI r := by rw [z6]; exact nI_ge (by omega) (by omega)
      have rc9 : (nI r).toNatClampNeg = r := nI_clamp (by omega)
      rw [if_neg e1]
      have hk8 : zk 5 P' (P'.setF 5 (nI r).toNatClampNeg 0) := zk.set
      have f5 : ∀ q, q ≠ r → (P'.setF 5 (nI r).toNatClampNeg 0).F 5 q = P'.F 5 q := fun q hq => by rw [zset27, rc9, if_neg hq]
      have f5r : (P'.setF 5 (nI r).toNatClampNeg 0).F 5 r = 0 := by rw [zset27, rc9, if_pos rfl]
      have shape : ∃ P8 : ZS, zk 5 P' P8 ∧ (∀ q, q ≠ r → P8.F 5 q = P'.F 5 q) ∧ P8.F 5 r = 0 ∧ fMO_faultOf_72 rc' P' S' f (nI r) = (if fMO_linksIn P8 S' (nI r) ≤ 0 then rc' P8 S' f (nI (r + 1)) else if P8.F 3 r = -1 then fMO_faultOf_142 rc' P8 S' f (nI r) 0 else if P8.F 2 (P8.F 4 r).toNatClampNeg = nI r then (if fMO_isEnd P8 S' (P8.F 3 r) (P8.F 4 r) = 0 then fMO_faultOf_142 rc' P8 S' f (nI r) 0 else fMO_faultOf_142 rc' P8 S' f (nI r) 1) else fMO_faultOf_142 rc' P8 S' f (nI r) 0) := by
        refine ⟨_, hk8, f5, f5r, ?_⟩
        unfold fMO_faultOf_72
        rw [if_neg e1]
        unfold zl
        generalize P'.setF 5 (nI r).toNatClampNeg 0 = P8
        rw [← nI_1]
        show (if fMO_linksIn P8 S' (nI r) ≤ 0 then rc' P8 S' f (nI r + 1) else if P8.F 3 (nI r).toNatClampNeg = -1 then fMO_faultOf_142 rc' P8 S' f (nI r) 0 else if P8.F 2 (P8.F 4 (nI r).toNatClampNeg).toNatClampNeg = nI r then (if fMO_isEnd P8 S' (P8.F 3 (nI r).toNatClampNeg) (P8.F 4 (nI r).toNatClampNeg) = 0 then fMO_faultOf_142 rc' P8 S' f (nI r) 0 else fMO_faultOf_142 rc' P8 S' f (nI r) 1) else fMO_faultOf_142 rc' P8 S' f (nI r) 0) = _
        rw [rc9]
      obtain ⟨P8, k8, g5, g5r, eq8⟩ := shape
      rw [eq8]
      have hr8 : zRP P P8 := zRP_k hr zk.rf k8
      have hI8 : P8.I 2 = nI nl := hr8.2.1.trans hp.2.2.1
      have hn : nl ≤ 60 := hp.2.2.2.1
      have lk := zhl_iff (S := S) (r := nI r) hp.2.2.1 hn
      have lp := zcn_pos (P := P) (r := nI r) nl
      have cle := zcn_le (P := P) (r := nI r) nl
      have eli : fMO_linksIn P8 S' (nI r) = nI (zcn P (nI r) nl) := by rw [zli_eq hI8 hn, zcn_RP hr8]
      rw [eli]
      by_cases cl : fPL_hasLinks P S (nI r) = 0
      · have nz : ¬ 0 < zcn P (nI r) nl := fun h => lk.mpr (lp.mp h) cl
        have ez : zcn P (nI r) nl = 0 := by omega
        rw [if_pos cl, ez, if_pos (by decide : nI 0 ≤ 0), nI_1]
        refine ih (r + 1) P P8 S S' f (by omega) (by omega) hp g4 hr8 hm hc (fun q hq => ?_)
        by_cases e : q = r
        · rw [e, g5r]
          have hz : P.F 8 r = 0 := Classical.byContradiction (fun h => lk.mpr (hc r (by omega) h) cl)
          exact ⟨fun _ => rfl, fun _ => hz⟩
        · rw [g5 q e]; exact hcl q (by omega)
      · have pz : 0 < zcn P (nI r) nl := lp.mpr (lk.mp cl)
        rw [if_neg cl, if_neg (nI_nle pz (by omega)), nI_1]
        obtain ⟨v1, v2⟩ := zverd (S := S) (S' := S') (f := f) hp hr8 (by omega) (fun q hq => by rw [g5 q (by omega)]; exact hcl q hq) g5r
        have s8 : ∀ q, q ≠ r → (fPL_hasRightShape P S (nI r) f).1.F 8 q = P.F 8 q := fun q hq => zsh8 hp (by omega) hq
        have kP := zshape_P (P := P) (S := S) (x := nI r) (y := f)
        have kM := zright_P (P := P8) (S := S') (x := nI r) (y := f)
        have e142 : ∀ y : Int32, fMO_faultOf_142 rc' P8 S' f (nI r) y = (if (fMO_isRight P8 S' (nI r) f).2.2 = 0 then ((fMO_isRight P8 S' (nI r) f).1, (fMO_isRight P8 S' (nI r) f).2.1, nI r + 1) else if y = 0 then ((fMO_isRight P8 S' (nI r) f).1, (fMO_isRight P8 S' (nI r) f).2.1, nI r + 1) else rc' (fMO_isRight P8 S' (nI r) f).1 (fMO_isRight P8 S' (nI r) f).2.1 0 (nI r + 1)) := fun y => rfl
        rw [e142 0, e142 1]
        have ho := zown_eq (S := (fPL_hasRightShape P S (nI r) f).2.1) (S' := S') hp g4 kP hr8 hm (show r ≤ 5 by omega)
        generalize fPL_hasRightShape P S (nI r) f = R at v1 v2 s8 kP ho ⊢
        generalize fMO_isRight P8 S' (nI r) f = R' at v1 v2 kM ⊢
        have hc1 : zC0 R.1 nl := fun q hq hne => by
          rw [kP.2 2 (by decide)]
          by_cases e : q = r
          · rw [e]; exact lk.mp cl
          · exact hc q hq (by rw [← s8 q e]; exact hne)
        have ea : (1 : Int32) + nI r = nI r + 1 := Int32.add_comm _ _
        have n10 : ¬ (1 : Int32) = 0 := by decide
        by_cases cv : R.2.2 = 0
        · have cv' : R'.2.2 = 0 := by rw [← v1]; exact cv
          rw [if_pos cv, if_pos cv', if_pos cv', ea]
          refine ⟨?_, hc1⟩
          repeat' split
          all_goals rfl
        · have cv' : ¬ R'.2.2 = 0 := by rw [← v1]; exact cv
          rw [if_neg cv, if_neg cv', if_neg cv', if_pos rfl, if_neg n10]
          by_cases co : fPL_hasRightOwner R.1 R.2.1 (nI r) = 0
          · rw [if_pos co, ea]
            refine ⟨?_, hc1⟩
            by_cases d1 : P8.F 3 r = -1
            · rw [if_pos d1]
            · rw [if_neg d1]
              by_cases d2 : P8.F 2 (P8.F 4 r).toNatClampNeg = nI r
              · rw [if_pos d2]
                by_cases d3 : fMO_isEnd P8 S' (P8.F 3 r) (P8.F 4 r) = 0
                · rw [if_pos d3]
                · exact absurd co (ho.mpr ⟨d1, d2, d3⟩)
              · rw [if_neg d2]
          · obtain ⟨d1, d2, d3⟩ := ho.mp co
            rw [if_neg co, if_neg d1, if_pos d2, if_neg d3, nI_1]
            refine ih (r + 1) R.1 R'.1 R.2.1 R'.2.1 0 (by omega) (by omega) (zPn_k kP hp) (fun j => by rw [kP.2 4 (by decide)]; exact g4 j) (zRP_k hr8 kP kM) ?_ hc1 (fun q hq => v2 cv q (by omega))
            unfold zM2
            rw [kP.2 3 (by decide), kP.2 4 (by decide)]
            exact hm

theorem zfo24x {P S : ZS} {nl b : Nat} (hI : P.I 2 = nI nl) (hn : nl ≤ 60) (rc : ZS → ZS → Int32 → (ZS × ZS × Int32)) : ∀ (n r : Nat) (a : Int32), r ≤ 6 → 6 - r < n →
    ((¬ a = 0 ∨ ∃ q, r ≤ q ∧ q < 6 ∧ 0 < zdg P (nI b) (nI q) nl) → zfix (fun P9 S9 _ _ _ => (P9, S9, 0)) (fMO_faultOf_24 rc) n P S (nI b) a (nI r) = rc P S (nI (b + 1))) ∧
    (¬ (¬ a = 0 ∨ ∃ q, r ≤ q ∧ q < 6 ∧ 0 < zdg P (nI b) (nI q) nl) → zfix (fun P9 S9 _ _ _ => (P9, S9, 0)) (fMO_faultOf_24 rc) n P S (nI b) a (nI r) = (P, S, 7)) := by
  have z6 : (6 : Int32) = nI 6 := by decide
  have n1 : ¬ (1 : Int32) = 0 := by decide
  intro n
  induction n with
  | zero => intro r a h1 h2; omega
  | succ n ih =>
    intro r a h1 h2
    rw [zfix_s]
    generalize zfix (fun P9 S9 _ _ _ => (P9, S9, 0)) (fMO_faultOf_24 rc) n = rc2 at ih ⊢
    simp only [fMO_faultOf_24, fMO_faultOf_43, fMO_faultOf_48, zl]
    rw [z6, nI_1]
    by_cases c : 6 ≤ r
    · rw [if_pos (nI_le c (by omega))]
      by_cases ca : a = 0
      · rw [if_pos ca]
        exact ⟨fun h => h.elim (fun h => absurd ca h) (fun ⟨q, w, w2, _⟩ => by omega), fun _ => rfl⟩
      · rw [if_neg ca]
        exact ⟨fun _ => rfl, fun h => absurd (Or.inl ca) h⟩
    · rw [if_neg (nI_ge (by omega) (by omega)), nI_1, zdi_eq hI hn]
      have dl := zdg_le (P := P) (b := nI b) (r := nI r) nl
      have one : ∀ X, X = rc2 P S (nI b) 1 (nI (r + 1)) → (¬ a = 0 ∨ ∃ q, r ≤ q ∧ q < 6 ∧ 0 < zdg P (nI b) (nI q) nl) → ((¬ a = 0 ∨ ∃ q, r ≤ q ∧ q < 6 ∧ 0 < zdg P (nI b) (nI q) nl) → X = rc P S (nI (b + 1))) ∧ (¬ (¬ a = 0 ∨ ∃ q, r ≤ q ∧ q < 6 ∧ 0 < zdg P (nI b) (nI q) nl) → X = (P, S, 7)) := by
        intro X hX hc
        rw [hX]
        exact ⟨fun _ => (ih (r + 1) 1 (by omega) (by omega)).1 (Or.inl n1), fun h => absurd hc h⟩
      by_cases ca : a = 0
      · rw [if_pos ca]
        by_cases cd : 0 < zdg P (nI b) (nI r) nl
        · rw [if_neg (nI_nle cd (by omega))]
          exact one _ rfl (Or.inr ⟨r, Nat.le_refl _, by omega, cd⟩)
        · have e0 : zdg P (nI b) (nI r) nl = 0 := by omega
          rw [e0, if_pos (by decide : nI 0 ≤ 0)]
          have hiff : (¬ (0 : Int32) = 0 ∨ ∃ q, r + 1 ≤ q ∧ q < 6 ∧ 0 < zdg P (nI b) (nI q) nl) ↔ (¬ a = 0 ∨ ∃ q, r ≤ q ∧ q < 6 ∧ 0 < zdg P (nI b) (nI q) nl) := by
            constructor
            · rintro (h | ⟨q, w, w2⟩)
              · exact absurd rfl h
              · exact Or.inr ⟨q, by omega, w2⟩
            · rintro (h | ⟨q, w, w2, w3⟩)
              · exact absurd ca h
              · refine Or.inr ⟨q, Nat.lt_of_le_of_ne w (fun e => ?_), w2, w3⟩
                subst e
                omega
          obtain ⟨i1, i2⟩ := ih (r + 1) 0 (by omega) (by omega)
          exact ⟨fun h => i1 (hiff.mpr h), fun h => i2 (fun h2 => h (hiff.mp h2))⟩
      · rw [if_neg ca]
        exact one _ rfl (Or.inl ca)
theorem zfo12x {P S : ZS} {nb nl : Nat} (hB : P.I 1 = nI nb) (hb : nb ≤ 48) (hI : P.I 2 = nI nl) (hn : nl ≤ 60) : ∀ (n b : Nat), b ≤ nb → nb - b < n →
    ((∃ j, b ≤ j ∧ j < nb ∧ ¬ ∃ q, q < 6 ∧ 0 < zdg P (nI j) (nI q) nl) → zfix (fun P9 S9 _ => (P9, S9, 0)) fMO_faultOf_12 n P S (nI b) = (P, S, 7)) ∧
    (¬ (∃ j, b ≤ j ∧ j < nb ∧ ¬ ∃ q, q < 6 ∧ 0 < zdg P (nI j) (nI q) nl) → zfix (fun P9 S9 _ => (P9, S9, 0)) fMO_faultOf_12 n P S (nI b) = zfix (fun P9 S9 _ _ => (P9, S9, 0)) fMO_faultOf_72 7 P S 1 0) := by
  intro n
  induction n with
  | zero => intro b h1 h2; omega
  | succ n ih =>
    intro b h1 h2
    rw [zfix_s]
    generalize zfix (fun P9 S9 _ => (P9, S9, 0)) fMO_faultOf_12 n = rc at ih ⊢
    unfold fMO_faultOf_12
    simp only [zl]
    rw [hB]
    by_cases c : nb ≤ b
    · rw [if_pos (nI_le c (by omega))]
      exact ⟨fun ⟨j, w, w2, _⟩ => by omega, fun _ => rfl⟩
    · rw [if_neg (nI_ge (by omega) (by omega))]
      obtain ⟨b1, b2⟩ := zfo24x (S := S) (b := b) hI hn rc 7 0 0 (by omega) (by omega)
      obtain ⟨i1, i2⟩ := ih (b + 1) (by omega) (by omega)
      by_cases d : ∃ q, q < 6 ∧ 0 < zdg P (nI b) (nI q) nl
      · have e : zfix (fun P9 S9 _ _ _ => (P9, S9, 0)) (fMO_faultOf_24 rc) 7 P S (nI b) 0 0 = rc P S (nI (b + 1)) := b1 (Or.inr (d.elim (fun q w => ⟨q, Nat.zero_le _, w⟩)))
        rw [e]
        have hiff : (∃ j, b + 1 ≤ j ∧ j < nb ∧ ¬ ∃ q, q < 6 ∧ 0 < zdg P (nI j) (nI q) nl) ↔ (∃ j, b ≤ j ∧ j < nb ∧ ¬ ∃ q, q < 6 ∧ 0 < zdg P (nI j) (nI q) nl) := by
          constructor
          · rintro ⟨j, w, w2⟩
            exact ⟨j, by omega, w2⟩
          · rintro ⟨j, w, w2, w3⟩
            refine ⟨j, Nat.lt_of_le_of_ne w (fun e => ?_), w2, w3⟩
            subst e
            exact w3 d
        exact ⟨fun h => i1 (hiff.mpr h), fun h => i2 (fun h2 => h (hiff.mp h2))⟩
      · have e : zfix (fun P9 S9 _ _ _ => (P9, S9, 0)) (fMO_faultOf_24 rc) 7 P S (nI b) 0 0 = (P, S, 7) := b2 (fun h => h.elim (fun h => absurd rfl h) (fun ⟨q, _, w⟩ => d ⟨q, w⟩))
        rw [e]
        exact ⟨fun _ => rfl, fun h => absurd ⟨b, Nat.le_refl _, by omega, d⟩ h⟩
/-- start's verdict: the class's and the reference's -/
theorem zfaults {P P' S S' : ZS} {nb nl : Nat} (hp : zPn P nb nl) (g4 : ∀ j, zr (-1) 59 (P.F 4 j)) (hr : zRP P P') (hm : zM2 P) (hc : zC0 P nl) : (fPL_firstFault P S).2.2 = (fMO_faultOf P' S').2.2 ∧ zC0 (fPL_firstFault P S).1 nl := by
  have hp2 := hp
  obtain ⟨hB, hb, hI, hn, hg, hL⟩ := hp2
  have hB' : P'.I 1 = nI nb := hr.1.trans hB
  have hI' : P'.I 2 = nI nl := hr.2.1.trans hI
  simp only [fPL_firstFault, fPL_firstFault_14, fMO_faultOf, zl]
  rw [hI, hI']
  by_cases c : nI nl = 0
  · rw [if_pos c, if_pos c]
    exact ⟨rfl, hc⟩
  · rw [if_neg c, if_neg c]
    have bb := zbb_iff (S := S) hB hb hI hn hg
    obtain ⟨x1, x2⟩ := zfo12x (S := S') hB' hb hI' hn 49 0 (Nat.zero_le _) (by omega)
    have hiff : (∃ b, b < nb ∧ ¬ zbef P (nI b) 6 nl) ↔ (∃ j, 0 ≤ j ∧ j < nb ∧ ¬ ∃ q, q < 6 ∧ 0 < zdg P' (nI j) (nI q) nl) := by
      constructor
      · rintro ⟨b, w, w2⟩
        refine ⟨b, Nat.zero_le _, w, fun ⟨q, a, a2⟩ => w2 ((zbef_iff hg).mpr ⟨q, a, ?_⟩)⟩
        rw [← zdg_RP hr]; exact a2
      · rintro ⟨b, _, w, w2⟩
        refine ⟨b, w, fun h => w2 ?_⟩
        obtain ⟨q, a, a2⟩ := (zbef_iff hg).mp h
        exact ⟨q, a, by rw [zdg_RP hr]; exact a2⟩
    by_cases d : fPL_hasBareBridge P S = 0
    · rw [if_pos d]
      have e := x2 (fun h => bb.mpr (hiff.mpr h) d)
      have e' : zfix (fun P9 S9 _ => (P9, S9, 0)) fMO_faultOf_12 49 P' S' 0 = zfix (fun P9 S9 _ _ => (P9, S9, 0)) fMO_faultOf_72 7 P' S' 1 0 := e
      rw [e']
      exact zrings 7 0 P P' S S' 1 (by omega) (by omega) hp g4 hr hm hc (fun q h => absurd h (Nat.not_lt_zero _))
    · rw [if_neg d]
      have e := x1 (hiff.mp (bb.mp d))
      have e' : zfix (fun P9 S9 _ => (P9, S9, 0)) fMO_faultOf_12 49 P' S' 0 = (P', S', 7) := e
      rw [e']
      exact ⟨rfl, hc⟩

/-! what holds between two calls, as far as plans go; bridge and owner keep it -/
def zIv (P P' : ZS) : Prop := cok P ∧ mok P' ∧ zRP P P' ∧ P'.I 0 = P.I 2 ∧ zM2 P ∧ (∃ nb nl, zPn P nb nl ∧ zC0 P nl) ∧ ((P.I 2 = 0 ∧ zPre P) ∨ (¬ P.I 2 = 0 ∧ zQ P))
theorem zIv.M {P P' : ZS} (h : zIv P P') : zM P' := fun j => by
  obtain ⟨-, -, hr, -, hm, -⟩ := h
  rw [hr.2.2.2.2.2.1, hr.2.2.2.2.2.2]
  by_cases c : P.F 3 j = -1
  · exact Or.inl c
  · exact Or.inr (fun q => c ((hm j).mpr q))
theorem zqR (P S P' S' : ZS) (x : Int32) : (fMO_isRing P' S' x = 0 ∧ fRG_requireRing P S x = .error 1) ∨ (fMO_isRing P' S' x = 1 ∧ fRG_requireRing P S x = .ok () ∧ zr 0 5 x) := by
  have z0 : (0 : Int32).toInt = 0 := by decide
  have z6 : (6 : Int32).toInt = 6 := by decide
  simp only [fMO_isRing, fMO_isRing_14, fRG_requireRing, fRG_requireRing_10]
  by_cases c : x < 0
  · rw [if_pos c, if_pos c]; exact Or.inl ⟨rfl, rfl⟩
  · rw [if_neg c, if_neg c]
    by_cases d : x < 6
    · rw [if_pos d, if_neg (fun h => by have := Int32.lt_iff_toInt_lt.mp d; have := Int32.le_iff_toInt_le.mp h; omega)]
      refine Or.inr ⟨rfl, rfl, ?_, ?_⟩
      · have := Int32.le_iff_toInt_le.mp (znlt c); omega
      · have := Int32.lt_iff_toInt_lt.mp d; omega
    · rw [if_neg d, if_pos (znlt d)]; exact Or.inl ⟨rfl, rfl⟩
theorem zqB {P P' : ZS} (hr : zRP P P') (S S' : ZS) (x : Int32) : (fMO_isBridge P' S' x = 0 ∧ fRG_requireBridge P S x = .error 1) ∨ (fMO_isBridge P' S' x = 1 ∧ fRG_requireBridge P S x = .ok () ∧ 0 ≤ x.toInt ∧ x.toInt < (P.I 0).toInt) := by
  have z0 : (0 : Int32).toInt = 0 := by decide
  simp only [fMO_isBridge, fMO_isBridge_16, fRG_requireBridge, fRG_requireBridge_15, zl]
  rw [hr.1]
  by_cases c : x < 0
  · rw [if_pos c, if_pos c]; exact Or.inl ⟨rfl, rfl⟩
  · rw [if_neg c, if_neg c]
    by_cases d : x < P.I 0
    · rw [if_pos d, if_neg (fun h => by have := Int32.lt_iff_toInt_lt.mp d; have := Int32.le_iff_toInt_le.mp h; omega)]
      refine Or.inr ⟨rfl, rfl, ?_, ?_⟩
      · have := Int32.le_iff_toInt_le.mp (znlt c); omega
      · exact Int32.lt_iff_toInt_lt.mp d
    · rw [if_neg d, if_pos (znlt d)]; exact Or.inl ⟨rfl, rfl⟩
theorem zqL {P P' : ZS} (hr : zRP P P') (S S' : ZS) (x : Int32) : (fMO_isLink P' S' x = 0 ∧ fRG_requireLink P S x = .error 1) ∨ (fMO_isLink P' S' x = 1 ∧ fRG_requireLink P S x = .ok () ∧ 0 ≤ x.toInt ∧ x.toInt < (P.I 1).toInt) := by
  have z0 : (0 : Int32).toInt = 0 := by decide
  simp only [fMO_isLink, fMO_isLink_16, fRG_requireLink, fRG_requireLink_15, zl]
  rw [hr.2.1]
  by_cases c : x < 0
  · rw [if_pos c, if_pos c]; exact Or.inl ⟨rfl, rfl⟩
  · rw [if_neg c, if_neg c]
    by_cases d : x < P.I 1
    · rw [if_pos d, if_neg (fun h => by have := Int32.lt_iff_toInt_lt.mp d; have := Int32.le_iff_toInt_le.mp h; omega)]
      refine Or.inr ⟨rfl, rfl, ?_, ?_⟩
      · have := Int32.le_iff_toInt_le.mp (znlt c); omega
      · exact Int32.lt_iff_toInt_lt.mp d
    · rw [if_neg d, if_pos (znlt d)]; exact Or.inl ⟨rfl, rfl⟩
/-- bridge: both refuse, or both answer the same number and go on -/
theorem zbridge {P P' : ZS} (h : zIv P P') (S S' : ZS) : ((∃ k, fRG_bridge P S = .error k) ∧ fMO_bridge P' S' = (P', S'.setI 3 1, 0)) ∨
    (fRG_bridge P S = .ok (P.setI 0 (P.I 0 + 1), S, P.I 0) ∧ fMO_bridge P' S' = (P'.setI 1 (P'.I 1 + 1), S'.setI 3 0, P.I 0) ∧ (cok (P.setI 0 (P.I 0 + 1)) → mok (P'.setI 1 (P'.I 1 + 1)) → zIv (P.setI 0 (P.I 0 + 1)) (P'.setI 1 (P'.I 1 + 1)))) := by
  obtain ⟨hc, hm, hr, hs, hm2, ⟨nb, nl, hp, hc0⟩, hq⟩ := h
  obtain ⟨hB, hb, hI, hn, hg, hL⟩ := hp
  have z48 : (48 : Int32) = nI 48 := by decide
  simp only [fRG_bridge, fRG_requireNotStarted, zbind, zl, fMO_bridge, fMO_bridge_17, fMO_bridge_22]
  rw [hs, hr.1]
  by_cases c : P.I 2 = 0
  · rw [if_pos c, if_pos c]
    by_cases d : P.I 0 < 48
    · have hlt : nb < 48 := by rw [hB, z48] at d; exact (nI_ltI (by omega) (by decide)).mp d
      have ne : ¬ P.I 0 = 48 := fun e => by rw [e] at d; exact absurd d (by decide)
      rw [if_neg ne, if_pos (by decide : (0 : Int32) ≤ 0)]
      refine Or.inr ⟨by rw [if_pos d], by rw [Int32.add_sub_cancel], fun k1 k2 => ⟨k1, k2, ?_, hs, hm2, ⟨nb + 1, nl, ⟨?_, by omega, hI, hn, hg, fun l hl => ?_⟩, hc0⟩, Or.inl ⟨c, ?_⟩⟩⟩
      · obtain ⟨_, q2, q3⟩ := hr
        exact ⟨rfl, q2, q3⟩
      · show P.I 0 + 1 = _
        rw [hB, nI_1]
      · obtain ⟨q1, q2, q3⟩ := hL l hl
        exact ⟨Nat.lt_succ_of_lt q1, Nat.lt_succ_of_lt q2, q3⟩
      · rcases hq with ⟨_, hq⟩ | ⟨hq, _⟩
        · exact hq
        · exact absurd c hq
    · have e : P.I 0 = 48 := by
        rw [hB, z48] at d ⊢
        have : ¬ nb < 48 := fun h => d (nI_lt h (by decide))
        rw [show nb = 48 by omega]
      rw [if_pos e, if_neg (by decide : ¬ (1 : Int32) ≤ 0)]
      exact Or.inl ⟨⟨2, by rw [if_neg d]⟩, rfl⟩
  · rw [if_neg c, if_neg c, if_neg (by decide : ¬ (1 : Int32) ≤ 0)]
    exact Or.inl ⟨⟨2, rfl⟩, rfl⟩

theorem zgoF0 (P S : ZS) (t : Int32) : fMO_goes P S 0 t = (S.setI 3 1, 0) := by
  simp only [fMO_goes, fMO_goes_18, zl]
  rw [if_pos trivial, if_neg (by decide : ¬ (1 : Int32) = 0)]
theorem zgoF1 (P S : ZS) : fMO_goes P S 1 0 = (S.setI 3 2, 0) := by
  simp only [fMO_goes, fMO_goes_18, zl]
  rw [if_neg (by decide : ¬ (1 : Int32) = 0), if_pos trivial, if_neg (by decide : ¬ (2 : Int32) = 0)]
theorem zgoT (P S : ZS) : fMO_goes P S 1 1 = (S.setI 3 0, 1) := by
  simp only [fMO_goes, fMO_goes_18, zl]
  rw [if_neg (by decide : ¬ (1 : Int32) = 0), if_neg (by decide : ¬ (1 : Int32) = 0), if_pos trivial]
theorem zow0 (P S : ZS) (a b c : Int32) : fMO_owner_29 P S a b c 0 = (P, S.setI 3 1) := by
  simp only [fMO_owner_29, fMO_owner_41, zl, zl2, zgoF0]
  split <;> rfl
theorem zow1 {P S : ZS} {a b c : Int32} (h : P.I 0 = 0) : fMO_owner_29 P S a b c 1 = ((P.setF 3 a.toNatClampNeg b).setF 4 a.toNatClampNeg c, S.setI 3 0) := by
  simp only [fMO_owner_29, fMO_owner_41, zl, zl2, zgoT]
  rw [if_pos h, if_neg (by decide : ¬ (1 : Int32) = 0)]
theorem zow2 {P S : ZS} {a b c : Int32} (h : ¬ P.I 0 = 0) : fMO_owner_29 P S a b c 1 = (P, S.setI 3 2) := by
  simp only [fMO_owner_29, fMO_owner_41, zl, zl2, zgoF1]
  rw [if_neg h]
  rfl
theorem zset_ne {T : ZS} {k q l : Nat} {v : Int32} (h : q ≠ k) : (T.setF k l v).F q = T.F q := ZS.row_ne T _ h
/-- owner: both refuse, or both set the same -/
theorem zowner {P P' : ZS} (h : zIv P P') (S S' : ZS) (a b c : Int32) : (∃ k S1, fRG_owner P S a b c = .error k ∧ fMO_owner P' S' a b c = (P', S1)) ∨
    (∃ S1, fRG_owner P S a b c = .ok ((P.setF 3 a.toNatClampNeg b).setF 4 a.toNatClampNeg c, S) ∧ fMO_owner P' S' a b c = ((P'.setF 3 a.toNatClampNeg b).setF 4 a.toNatClampNeg c, S1) ∧ (cok ((P.setF 3 a.toNatClampNeg b).setF 4 a.toNatClampNeg c) → mok ((P'.setF 3 a.toNatClampNeg b).setF 4 a.toNatClampNeg c) → zIv ((P.setF 3 a.toNatClampNeg b).setF 4 a.toNatClampNeg c) ((P'.setF 3 a.toNatClampNeg b).setF 4 a.toNatClampNeg c))) := by
  obtain ⟨hc, hm, hr, hs, hm2, ⟨nb, nl, hp, hc0⟩, hq⟩ := h
  have hr0 := hr
  obtain ⟨r1, r2, r3, r4, r5, r6, r7⟩ := hr
  simp only [fRG_owner, fMO_owner, fMO_owner_28, zl]
  rcases zqR P S P' S' a with ⟨m1, c1⟩ | ⟨m1, c1, ra⟩
  · rw [m1, c1, if_pos rfl, zow0]
    exact Or.inl ⟨1, _, rfl, rfl⟩
  · rw [m1, c1, if_neg (by decide : ¬ (1 : Int32) = 0)]
    rcases zqB hr0 S S' b with ⟨m2, c2⟩ | ⟨m2, c2, rb, rb2⟩
    · rw [m2, c2, if_pos rfl, zow0]
      exact Or.inl ⟨1, _, rfl, rfl⟩
    · rw [m2, c2, if_neg (by decide : ¬ (1 : Int32) = 0)]
      rcases zqL hr0 S S' c with ⟨m3, c3⟩ | ⟨m3, c3, rc, rc2⟩
      · rw [m3, c3, if_pos rfl, zow0]
        exact Or.inl ⟨1, _, rfl, rfl⟩
      · rw [m3, c3, if_neg (by decide : ¬ (1 : Int32) = 0)]
        by_cases d : P.I 2 = 0
        · have e : fRG_requireNotStarted P S = .ok () := by
            simp only [fRG_requireNotStarted, zl]
            rw [if_pos d]
          rw [zow1 (by rw [hs]; exact d), e]
          refine Or.inr ⟨_, rfl, rfl, fun k1 k2 => ⟨k1, k2, ?_, hs, ?_, ⟨nb, nl, hp, hc0⟩, Or.inl ⟨d, ?_⟩⟩⟩
          · refine ⟨r1, r2, r3, r4, r5, ?_, ?_⟩
            · show (P'.setF 3 a.toNatClampNeg b).F 3 = (P.setF 3 a.toNatClampNeg b).F 3
              funext j
              rw [zset27, zset27, r6]
            · funext j
              rw [zset27, zset27, zset_ne (by decide), zset_ne (by decide), r7]
          · intro j
            have z1 : (-1 : Int32).toInt = -1 := by decide
            rw [zset_ne (by decide), zset27, zset27, zset_ne (by decide)]
            by_cases ej : j = a.toNatClampNeg
            · rw [if_pos ej, if_pos ej]
              exact ⟨fun q => by rw [q] at rb; omega, fun q => by rw [q] at rc; omega⟩
            · rw [if_neg ej, if_neg ej]
              exact hm2 j
          · rcases hq with ⟨_, p1, p2, p3, p4⟩ | ⟨hq, _⟩
            · refine ⟨p1, p2, p3, fun j => ?_⟩
              rw [zset27, zset_ne (by decide)]
              by_cases ej : j = a.toNatClampNeg
              · rw [if_pos ej]
                exact Or.inr rc2
              · rw [if_neg ej]
                exact p4 j
            · exact absurd d hq
        · have e : fRG_requireNotStarted P S = .error 2 := by
            simp only [fRG_requireNotStarted, zl]
            rw [if_neg d]
          rw [zow2 (by rw [hs]; exact d), e]
          exact Or.inl ⟨2, _, rfl, rfl⟩

/-! link: both refuse, or both add the same link -/
def zadd (P : ZS) (x0 x1 x2 : Int32) : ZS := (((((P.setF 0 (P.I 1).toNatClampNeg x0).setF 1 (P.I 1).toNatClampNeg x1).setF 2 (P.I 1).toNatClampNeg x2).setF 5 (2 * P.I 1).toNatClampNeg (x0 * 6 + x2)).setF 5 (2 * P.I 1 + 1).toNatClampNeg (x1 * 6 + x2)).setI 1 (P.I 1 + 1)
def zaddM (P : ZS) (x0 x1 x2 : Int32) : ZS := (((P.setF 0 (P.I 2).toNatClampNeg x0).setF 1 (P.I 2).toNatClampNeg x1).setF 2 (P.I 2).toNatClampNeg x2).setI 2 (P.I 2 + 1)
theorem zadd_eq (P S : ZS) (x0 x1 x2 : Int32) : fPL_addLink P S x0 x1 x2 = (zadd P x0 x1 x2, S, P.I 1) := by
  simp only [fPL_addLink, zl]
  rfl
theorem zln0 (P S : ZS) (x0 x1 x2 : Int32) : ∃ S1, fMO_link_34 P S x0 x1 x2 0 = (P, S1, 0) := by
  refine ⟨S.setI 3 1, ?_⟩
  simp only [fMO_link_34, fMO_link_54, fMO_link_55, zl, zl2, zgoF0]
  repeat' split
  all_goals first | rfl | (rename_i h; exact absurd trivial h)
theorem zln1 {P S : ZS} {x0 x1 x2 : Int32} (h : P.I 0 = 0) (h2 : ¬ 60 ≤ P.I 2) : fMO_link_34 P S x0 x1 x2 1 = (zaddM P x0 x1 x2, S.setI 3 0, P.I 2) := by
  simp only [fMO_link_34, fMO_link_54, fMO_link_55, zl, zl2, zgoT, zgoF1]
  rw [if_pos h, if_neg h2, if_neg (by decide : ¬ (1 : Int32) = 0), Int32.add_sub_cancel]
  rfl
theorem zln2 {P S : ZS} {x0 x1 x2 : Int32} (h : ¬ P.I 0 = 0 ∨ 60 ≤ P.I 2) : ∃ S1, fMO_link_34 P S x0 x1 x2 1 = (P, S1, 0) := by
  refine ⟨S.setI 3 2, ?_⟩
  simp only [fMO_link_34, fMO_link_54, fMO_link_55, zl, zl2, zgoT, zgoF1]
  by_cases c : P.I 0 = 0
  · have d : 60 ≤ P.I 2 := h.resolve_left (fun q => q c)
    rw [if_pos c, if_pos d, if_pos trivial]
  · rw [if_neg c, if_pos trivial]
theorem zrem6 {b r : Int32} (hb : zr 0 47 b) (hr : zr 0 5 r) : (b * 6 + r) - (b * 6 + r) / 6 * 6 = r := by
  have z6 : (6 : Int32).toInt = 6 := by decide
  have b1 := hb.1
  have b2 := hb.2
  have r1 := hr.1
  have r2 := hr.2
  have e1 : (b * 6).toInt = b.toInt * 6 := by rw [Int32.toInt_mul, z6, zbm ⟨by omega, by omega⟩]
  have e2 : (b * 6 + r).toInt = b.toInt * 6 + r.toInt := by rw [Int32.toInt_add, e1, zbm ⟨by omega, by omega⟩]
  have k := (zr_rem (lo := 0) (hi := 5) (x := b * 6 + r) (y := 6) (c := 6) (a := 0) (b := 287) ⟨by omega, by omega⟩ (by decide) rfl (by decide)).2
  apply Int32.toInt_inj.mp
  rw [k, e2]
  omega
theorem zsetI_F (T : ZS) (t : Nat) (v : Int32) : (T.setI t v).F = T.F := rfl
theorem zadd_F {P : ZS} {x0 x1 x2 : Int32} {k : Nat} (h0 : k ≠ 0) (h1 : k ≠ 1) (h2 : k ≠ 2) (h5 : k ≠ 5) : (zadd P x0 x1 x2).F k = P.F k := by
  unfold zadd
  rw [zsetI_F, zset_ne h5, zset_ne h5, zset_ne h2, zset_ne h1, zset_ne h0]
theorem zaddM_F {P : ZS} {x0 x1 x2 : Int32} {k : Nat} (h0 : k ≠ 0) (h1 : k ≠ 1) (h2 : k ≠ 2) : (zaddM P x0 x1 x2).F k = P.F k := by
  unfold zaddM
  rw [zsetI_F, zset_ne h2, zset_ne h1, zset_ne h0]
theorem zadd_0 {P : ZS} {x0 x1 x2 : Int32} (j : Nat) : (zadd P x0 x1 x2).F 0 j = if j = (P.I 1).toNatClampNeg then x0 else P.F 0 j := by
  unfold zadd
  rw [zsetI_F, zset_ne (by decide), zset_ne (by decide), zset_ne (by decide), zset_ne (by decide), zset27]
theorem zadd_1 {P : ZS} {x0 x1 x2 : Int32} (j : Nat) : (zadd P x0 x1 x2).F 1 j = if j = (P.I 1).toNatClampNeg then x1 else P.F 1 j := by
  unfold zadd
  rw [zsetI_F, zset_ne (by decide), zset_ne (by decide), zset_ne (by decide), zset27, zset_ne (by decide)]
theorem zadd_2 {P : ZS} {x0 x1 x2 : Int32} (j : Nat) : (zadd P x0 x1 x2).F 2 j = if j = (P.I 1).toNatClampNeg then x2 else P.F 2 j := by
  unfold zadd
  rw [zsetI_F, zset_ne (by decide), zset_ne (by decide), zset27, zset_ne (by decide), zset_ne (by decide)]
theorem zadd_5 {P : ZS} {x0 x1 x2 : Int32} (j : Nat) : (zadd P x0 x1 x2).F 5 j = if j = (2 * P.I 1 + 1).toNatClampNeg then x1 * 6 + x2 else if j = (2 * P.I 1).toNatClampNeg then x0 * 6 + x2 else P.F 5 j := by
  unfold zadd
  rw [zsetI_F, zset27, zset27, zset_ne (by decide), zset_ne (by decide), zset_ne (by decide)]
theorem zaddM_0 {P : ZS} {x0 x1 x2 : Int32} (j : Nat) : (zaddM P x0 x1 x2).F 0 j = if j = (P.I 2).toNatClampNeg then x0 else P.F 0 j := by
  unfold zaddM
  rw [zsetI_F, zset_ne (by decide), zset_ne (by decide), zset27]
theorem zaddM_1 {P : ZS} {x0 x1 x2 : Int32} (j : Nat) : (zaddM P x0 x1 x2).F 1 j = if j = (P.I 2).toNatClampNeg then x1 else P.F 1 j := by
  unfold zaddM
  rw [zsetI_F, zset_ne (by decide), zset27, zset_ne (by decide)]
theorem zaddM_2 {P : ZS} {x0 x1 x2 : Int32} (j : Nat) : (zaddM P x0 x1 x2).F 2 j = if j = (P.I 2).toNatClampNeg then x2 else P.F 2 j := by
  unfold zaddM
  rw [zsetI_F, zset27, zset_ne (by decide), zset_ne (by decide)]
theorem zadd_I {P : ZS} {x0 x1 x2 : Int32} : (zadd P x0 x1 x2).I 0 = P.I 0 ∧ (zadd P x0 x1 x2).I 1 = P.I 1 + 1 ∧ (zadd P x0 x1 x2).I 2 = P.I 2 := ⟨rfl, rfl, rfl⟩
theorem zaddM_I {P : ZS} {x0 x1 x2 : Int32} : (zaddM P x0 x1 x2).I 0 = P.I 0 ∧ (zaddM P x0 x1 x2).I 1 = P.I 1 ∧ (zaddM P x0 x1 x2).I 2 = P.I 2 + 1 := ⟨rfl, rfl, rfl⟩
set_option maxHeartbeats 4000000 in
set_option maxRecDepth 100000 in
theorem zadd_iv {P P' : ZS} {x0 x1 x2 : Int32} (h : zIv P P') (d : P.I 2 = 0) (hl : (P.I 1).toInt < 60) (a0 : 0 ≤ x0.toInt ∧ x0.toInt < (P.I 0).toInt) (a1 : 0 ≤ x1.toInt ∧ x1.toInt < (P.I 0).toInt) (a2 : zr 0 5 x2) (hne : ¬ x0 = x1) (k1 : cok (zadd P x0 x1 x2)) (k2 : mok (zaddM P' x0 x1 x2)) : zIv (zadd P x0 x1 x2) (zaddM P' x0 x1 x2) := by
  obtain ⟨hc, hm, hr, hs, hm2, ⟨nb, nl, hp, hc0⟩, hq⟩ := h
  obtain ⟨r1, r2, r3, r4, r5, r6, r7⟩ := hr
  obtain ⟨hB, hb, hI, hn, hg, hL⟩ := hp
  have lnl : nl < 60 := by rw [hI, nI_toInt (by omega)] at hl; omega
  have cl : (P.I 1).toNatClampNeg = nl := by rw [hI, nI_clamp (by omega)]
  have z2 : (2 : Int32) = nI 2 := by decide
  have e2 : 2 * P.I 1 = nI (2 * nl) := by rw [hI, z2, nI_mul]
  have c2 : (2 * P.I 1).toNatClampNeg = 2 * nl := by rw [e2, nI_clamp (by omega)]
  have c3 : (2 * P.I 1 + 1).toNatClampNeg = 2 * nl + 1 := by rw [e2, nI_1, nI_clamp (by omega)]
  have bnb : (P.I 0).toInt = nb := by rw [hB, nI_toInt (by omega)]
  have q0 : zr 0 47 x0 := ⟨a0.1, by omega⟩
  have q1 : zr 0 47 x1 := ⟨a1.1, by omega⟩
  have t0 := ztn q0 (by decide)
  have t1 := ztn q1 (by decide)
  have F0 : ∀ j, (zadd P x0 x1 x2).F 0 j = if j = nl then x0 else P.F 0 j := fun j => by rw [zadd_0, cl]
  have F1 : ∀ j, (zadd P x0 x1 x2).F 1 j = if j = nl then x1 else P.F 1 j := fun j => by rw [zadd_1, cl]
  have F2 : ∀ j, (zadd P x0 x1 x2).F 2 j = if j = nl then x2 else P.F 2 j := fun j => by rw [zadd_2, cl]
  have F5 : ∀ j, (zadd P x0 x1 x2).F 5 j = if j = 2 * nl + 1 then x1 * 6 + x2 else if j = 2 * nl then x0 * 6 + x2 else P.F 5 j := fun j => by rw [zadd_5, c2, c3]
  have F3 : (zadd P x0 x1 x2).F 3 = P.F 3 := zadd_F (by decide) (by decide) (by decide) (by decide)
  have F4 : (zadd P x0 x1 x2).F 4 = P.F 4 := zadd_F (by decide) (by decide) (by decide) (by decide)
  have F6 : (zadd P x0 x1 x2).F 6 = P.F 6 := zadd_F (by decide) (by decide) (by decide) (by decide)
  have F7 : (zadd P x0 x1 x2).F 7 = P.F 7 := zadd_F (by decide) (by decide) (by decide) (by decide)
  have F8 : (zadd P x0 x1 x2).F 8 = P.F 8 := zadd_F (by decide) (by decide) (by decide) (by decide)
  obtain ⟨i0, i1, i2⟩ := zadd_I (P := P) (x0 := x0) (x1 := x1) (x2 := x2)
  obtain ⟨j0, j1, j2⟩ := zaddM_I (P := P') (x0 := x0) (x1 := x1) (x2 := x2)
  have I1 : (zadd P x0 x1 x2).I 1 = nI (nl + 1) := by rw [i1, hI, nI_1]
  have cl' : (P'.I 2).toNatClampNeg = nl := by rw [r2]; exact cl
  have G0 : ∀ j, (zaddM P' x0 x1 x2).F 0 j = (zadd P x0 x1 x2).F 0 j := fun j => by rw [zaddM_0, F0, cl', r3]
  have G1 : ∀ j, (zaddM P' x0 x1 x2).F 1 j = (zadd P x0 x1 x2).F 1 j := fun j => by rw [zaddM_1, F1, cl', r4]
  have G2 : ∀ j, (zaddM P' x0 x1 x2).F 2 j = (zadd P x0 x1 x2).F 2 j := fun j => by rw [zaddM_2, F2, cl', r5]
  have G3 : (zaddM P' x0 x1 x2).F 3 = (zadd P x0 x1 x2).F 3 := by rw [F3, zaddM_F (by decide) (by decide) (by decide), r6]
  have G4 : (zaddM P' x0 x1 x2).F 4 = (zadd P x0 x1 x2).F 4 := by rw [F4, zaddM_F (by decide) (by decide) (by decide), r7]
  have g0 : (zaddM P' x0 x1 x2).I 1 = (zadd P x0 x1 x2).I 0 := by rw [j1, i0, r1]
  have g1 : (zaddM P' x0 x1 x2).I 2 = (zadd P x0 x1 x2).I 1 := by rw [j2, i1, r2]
  have g2 : (zaddM P' x0 x1 x2).I 0 = (zadd P x0 x1 x2).I 2 := by rw [j0, i2, hs]
  have B1 : (zadd P x0 x1 x2).I 0 = nI nb := by rw [i0, hB]
  have D1 : (zadd P x0 x1 x2).I 2 = 0 := by rw [i2, d]
  generalize zadd P x0 x1 x2 = N at F0 F1 F2 F3 F4 F5 F6 F7 F8 I1 G0 G1 G2 G3 G4 g0 g1 g2 B1 D1 k1 ⊢
  generalize zaddM P' x0 x1 x2 = N' at G0 G1 G2 G3 G4 g0 g1 g2 k2 ⊢
  refine ⟨k1, k2, ⟨g0, g1, funext G0, funext G1, funext G2, G3, G4⟩, g2, fun j => by rw [F3, F4]; exact hm2 j, ⟨nb, nl + 1, ⟨B1, hb, I1, by omega, fun j => ?_, fun l hl => ?_⟩, fun q hq6 hne8 => ?_⟩, Or.inl ⟨D1, ?_⟩⟩
  · rw [F2 j]
    by_cases e : j = nl
    · rw [if_pos e]; exact a2
    · rw [if_neg e]; exact hg j
  · rw [F0 l, F1 l]
    by_cases e : l = nl
    · rw [if_pos e, if_pos e]
      exact ⟨by omega, by omega, hne, q0, q1⟩
    · rw [if_neg e, if_neg e]
      exact hL l (by omega)
  · rw [F8] at hne8
    obtain ⟨l, w, w2⟩ := hc0 q hq6 hne8
    exact ⟨l, by omega, by rw [F2 l, if_neg (by omega)]; exact w2⟩
  · rcases hq with ⟨_, p1, p2, p3, p4⟩ | ⟨hq, _⟩
    · refine ⟨by rw [F7]; exact p1, by rw [F6]; exact p2, fun q hq2 hq3 => ?_, fun j => ?_⟩
      · have hq1 := hq2.1
        have tq := ztn hq2 (by decide)
        rw [I1, nI_toInt (by omega)] at hq3
        have zz : (2 : Int32).toInt = 2 := by decide
        have ed : (q / 2).toInt = q.toInt / 2 := by
          have hne2 : (2 : Int32) ≠ -1 := by decide
          first
            | rw [Int32.toInt_div_of_ne_right (Or.inr hne2)]
            | rw [Int32.toInt_div_of_ne_right _ _ hne2]
          rw [zz, Int.tdiv_eq_ediv_of_nonneg (by omega)]
        have td := ztn (x := q / 2) (a := 0) (b := 1000) ⟨by omega, by omega⟩ (by decide)
        rw [F5, F2]
        by_cases e1 : q.toNatClampNeg = 2 * nl + 1
        · rw [if_pos e1, if_pos (by omega)]
          exact zrem6 q1 a2
        · rw [if_neg e1]
          by_cases e9 : q.toNatClampNeg = 2 * nl
          · rw [if_pos e9, if_pos (by omega)]
            exact zrem6 q0 a2
          · rw [if_neg e9, if_neg (by omega)]
            exact p3 q hq2 (by rw [hI, nI_toInt (by omega)]; omega)
      · rw [F4]
        rcases p4 j with w | w
        · exact Or.inl w
        · refine Or.inr ?_
          rw [I1, nI_toInt (by omega)]
          rw [hI, nI_toInt (by omega)] at w
          omega
    · exact absurd d hq
theorem zlink {P P' : ZS} (h : zIv P P') (S S' : ZS) (x0 x1 x2 : Int32) : (∃ k S1, fRG_link P S x0 x1 x2 = .error k ∧ fMO_link P' S' x0 x1 x2 = (P', S1, 0)) ∨
    (∃ S1, fRG_link P S x0 x1 x2 = .ok (zadd P x0 x1 x2, S, P.I 1) ∧ fMO_link P' S' x0 x1 x2 = (zaddM P' x0 x1 x2, S1, P.I 1) ∧ (cok (zadd P x0 x1 x2) → mok (zaddM P' x0 x1 x2) → zIv (zadd P x0 x1 x2) (zaddM P' x0 x1 x2))) := by
  have h0 := h
  obtain ⟨hc, hm, hr, hs, hm2, -, -⟩ := h
  have r2 := hr.2.1
  have n10 : ¬ (1 : Int32) = 0 := by decide
  have z60 : (60 : Int32).toInt = 60 := by decide
  simp only [fRG_link, fMO_link, fMO_link_33, zl]
  rcases zqB hr S S' x0 with ⟨m1, c1⟩ | ⟨m1, c1, a0⟩
  · obtain ⟨S1, e⟩ := zln0 P' S' x0 x1 x2
    rw [m1, c1, if_pos rfl, e]
    exact Or.inl ⟨1, S1, rfl, rfl⟩
  · rw [m1, c1, if_neg n10]
    rcases zqB hr S S' x1 with ⟨m2, c2⟩ | ⟨m2, c2, a1⟩
    · obtain ⟨S1, e⟩ := zln0 P' S' x0 x1 x2
      rw [m2, c2, if_pos rfl, e]
      exact Or.inl ⟨1, S1, rfl, rfl⟩
    · rw [m2, c2, if_neg n10]
      rcases zqR P S P' S' x2 with ⟨m3, c3⟩ | ⟨m3, c3, a2⟩
      · obtain ⟨S1, e⟩ := zln0 P' S' x0 x1 x2
        rw [m3, c3, if_pos rfl, e]
        exact Or.inl ⟨1, S1, rfl, rfl⟩
      · rw [m3, c3, if_neg n10]
        by_cases ne : x0 = x1
        · obtain ⟨S1, e⟩ := zln0 P' S' x0 x1 x2
          rw [if_pos ne, if_pos ne, e]
          exact Or.inl ⟨1, S1, rfl, rfl⟩
        · rw [if_neg ne, if_neg ne]
          by_cases d : P.I 2 = 0
          · have en : fRG_requireNotStarted P S = .ok () := by
              simp only [fRG_requireNotStarted, zl]
              rw [if_pos d]
            by_cases f : P.I 1 < 60
            · have f' : ¬ 60 ≤ P'.I 2 := fun q => by
                rw [r2] at q
                have := Int32.le_iff_toInt_le.mp q
                have := Int32.lt_iff_toInt_lt.mp f
                omega
              have lt := Int32.lt_iff_toInt_lt.mp f
              rw [zln1 (by rw [hs]; exact d) f', en]
              refine Or.inr ⟨_, ?_, by rw [r2], fun k1 k2 => zadd_iv h0 d (by omega) a0 a1 a2 ne k1 k2⟩
              show (if P.I 1 < 60 then Except.ok (zl3 (fPL_addLink P S x0 x1 x2) (fun P17 S16 k15 => (P17, S16, k15))) else .error 2) = _
              rw [if_pos f, zadd_eq]
              rfl
            · obtain ⟨S1, e⟩ := zln2 (P := P') (S := S') (x0 := x0) (x1 := x1) (x2 := x2) (Or.inr (by rw [r2]; exact znlt f))
              rw [e, en]
              refine Or.inl ⟨2, S1, ?_, rfl⟩
              show (if P.I 1 < 60 then Except.ok (zl3 (fPL_addLink P S x0 x1 x2) (fun P17 S16 k15 => (P17, S16, k15))) else .error 2) = _
              rw [if_neg f]
          · have en : fRG_requireNotStarted P S = .error 2 := by
              simp only [fRG_requireNotStarted, zl]
              rw [if_neg d]
            obtain ⟨S1, e⟩ := zln2 (P := P') (S := S') (x0 := x0) (x1 := x1) (x2 := x2) (Or.inl (by rw [hs]; exact d))
            rw [e, en]
            exact Or.inl ⟨2, S1, rfl, rfl⟩

/-! start: both refuse, or both say the same and go on alike -/
theorem zff_nn : ∀ (n : Nat) (P S : ZS) (f r : Int32), zr 0 6 r → 0 ≤ (zfix (fun P9 S9 _ _ => (P9, S9, 0)) fPL_firstFault_21 n P S f r).2.2.toInt := by
  have z0 : (0 : Int32).toInt = 0 := by decide
  have z6 : (6 : Int32).toInt = 6 := by decide
  intro n
  induction n with
  | zero => intro P S f r h; rw [zfix_0]; exact Int.le_of_eq z0.symm
  | succ n ih =>
    intro P S f r h
    have h1 := h.1
    rw [zfix_s]
    generalize zfix (fun P9 S9 _ _ => (P9, S9, 0)) fPL_firstFault_21 n = rc at ih ⊢
    simp only [fPL_firstFault_21, fPL_firstFault_62, fPL_firstFault_56, zl, zl3]
    by_cases c : 6 ≤ r
    · rw [if_pos c]; exact Int.le_of_eq z0.symm
    · rw [if_neg c]
      have c' := Int32.lt_iff_toInt_lt.mp (znle c)
      have e1 : (r + 1).toInt = r.toInt + 1 := zx1 (a := 0) (b := 6) h (by decide)
      have e2 : (1 + r).toInt = r.toInt + 1 := by rw [Int32.add_comm]; exact e1
      have out : ∀ A B : ZS, 0 ≤ (A, B, 1 + r).2.2.toInt := fun A B => by show 0 ≤ (1 + r).toInt; omega
      have rn : zr 0 6 (r + 1) := ⟨by omega, by omega⟩
      generalize fPL_hasRightShape P S r f = R
      split
      · exact ih P S f (r + 1) rn
      · split
        · exact out _ _
        · split
          · exact out _ _
          · exact ih R.1 R.2.1 0 (r + 1) rn
theorem zff_pos (P S : ZS) : 0 ≤ (fPL_firstFault P S).2.2.toInt := by
  simp only [fPL_firstFault, fPL_firstFault_14, zl]
  split
  · show 0 ≤ (7 : Int32).toInt; decide
  · split
    · exact zff_nn 7 P S 1 0 (by decide)
    · show 0 ≤ (7 : Int32).toInt; decide
theorem zlay_fr {P S : ZS} (h : zr 0 60 (P.I 1)) (h5 : ∀ j, zr 0 287 (P.F 5 j)) : (fPL_layPorts P S).1.I = P.I ∧ ∀ q, q ≠ 6 → q ≠ 7 → (fPL_layPorts P S).1.F q = P.F q := by
  have k1 : ∀ (n : Nat) (Q S : ZS) (x : Int32), Q.I = P.I → (∀ q, q ≠ 6 → q ≠ 7 → Q.F q = P.F q) → (zfix (fun P9 S9 _ => (P9, S9)) fPL_layPorts_52 n Q S x).1.I = P.I ∧ ∀ q, q ≠ 6 → q ≠ 7 → (zfix (fun P9 S9 _ => (P9, S9)) fPL_layPorts_52 n Q S x).1.F q = P.F q := by
    intro n
    induction n with
    | zero => intro Q S x a b; rw [zfix_0]; exact ⟨a, b⟩
    | succ n ih =>
      intro Q S x a b
      rw [zfix_s]
      generalize zfix (fun P9 S9 _ => (P9, S9)) fPL_layPorts_52 n = rc at ih ⊢
      simp only [fPL_layPorts_52, fPL_layPorts_91, zl]
      split
      · exact ⟨a, b⟩
      · split
        · exact ih _ S _ a (fun q h6 h7 => by rw [zset_ne h6]; exact b q h6 h7)
        · exact ih _ S _ a (fun q h6 h7 => by rw [zset_ne h6]; exact b q h6 h7)
  have k2 : ∀ (n : Nat) (Q S : ZS) (x : Int32), Q.I = P.I → (∀ q, q ≠ 6 → q ≠ 7 → Q.F q = P.F q) → (zfix (fun P9 S9 _ => (P9, S9)) fPL_layPorts_2 n Q S x).1.I = P.I ∧ ∀ q, q ≠ 6 → q ≠ 7 → (zfix (fun P9 S9 _ => (P9, S9)) fPL_layPorts_2 n Q S x).1.F q = P.F q := by
    intro n
    induction n with
    | zero => intro Q S x a b; rw [zfix_0]; exact ⟨a, b⟩
    | succ n ih =>
      intro Q S x a b
      rw [zfix_s]
      generalize zfix (fun P9 S9 _ => (P9, S9)) fPL_layPorts_2 n = rc at ih ⊢
      simp only [fPL_layPorts_2, fPL_layPorts_42, zl]
      split
      · exact k1 7 Q S 0 a b
      · split
        · exact ih _ S _ a (fun q h6 h7 => by rw [zset_ne h7]; exact b q h6 h7)
        · exact ih _ S _ a (fun q h6 h7 => by rw [zset_ne h7]; exact b q h6 h7)
  exact k2 121 P S 0 rfl (fun _ _ _ => rfl)
theorem zms125 : ∀ (n : Nat) (P S : ZS) (x : Int32), (zfix (fun P9 S9 _ => (P9, S9, 0)) fMO_start_125 n P S x).1 = P ∧ (zfix (fun P9 S9 _ => (P9, S9, 0)) fMO_start_125 n P S x).2.2 = 0 := by
  intro n
  induction n with
  | zero => intro P S x; rw [zfix_0]; exact ⟨rfl, rfl⟩
  | succ n ih =>
    intro P S x
    rw [zfix_s]
    generalize zfix (fun P9 S9 _ => (P9, S9, 0)) fMO_start_125 n = rc at ih ⊢
    simp only [fMO_start_125, fMO_start_144, zl]
    split
    · exact ⟨rfl, rfl⟩
    · split
      · exact ih P _ _
      · exact ih P _ _
theorem zms43 : ∀ (n : Nat) (P S : ZS) (x : Int32), zk 6 P (zfix (fun P9 S9 _ => (P9, S9, 0)) fMO_start_43 n P S x).1 ∧ (zfix (fun P9 S9 _ => (P9, S9, 0)) fMO_start_43 n P S x).2.2 = 0 := by
  have inner : ∀ (rc : ZS → ZS → Int32 → (ZS × ZS × Int32)), (∀ P S x, zk 6 P (rc P S x).1 ∧ (rc P S x).2.2 = 0) → ∀ (n : Nat) (P S : ZS) (x y : Int32), zk 6 P (zfix (fun P9 S9 _ _ => (P9, S9, 0)) (fMO_start_53 rc) n P S x y).1 ∧ (zfix (fun P9 S9 _ _ => (P9, S9, 0)) (fMO_start_53 rc) n P S x y).2.2 = 0 := by
    intro rc hrc n
    induction n with
    | zero => intro P S x y; rw [zfix_0]; exact ⟨zk.rf, rfl⟩
    | succ n ih =>
      intro P S x y
      rw [zfix_s]
      generalize zfix (fun P9 S9 _ _ => (P9, S9, 0)) (fMO_start_53 rc) n = rc2 at ih ⊢
      simp only [fMO_start_53, fMO_start_109, fMO_start_111, zl]
      split
      · exact hrc P S _
      · split
        · exact ih P S _ _
        · split
          · obtain ⟨a1, a2⟩ := ih (P.setF 6 (2 * (6 * x + P.F 2 y.toNatClampNeg)).toNatClampNeg y) S x (y + 1)
            exact ⟨zk.set.tr a1, a2⟩
          · obtain ⟨a1, a2⟩ := ih (P.setF 6 (2 * (6 * x + P.F 2 y.toNatClampNeg) + 1).toNatClampNeg y) S x (y + 1)
            exact ⟨zk.set.tr a1, a2⟩
  intro n
  induction n with
  | zero => intro P S x; rw [zfix_0]; exact ⟨zk.rf, rfl⟩
  | succ n ih =>
    intro P S x
    rw [zfix_s]
    generalize zfix (fun P9 S9 _ => (P9, S9, 0)) fMO_start_43 n = rc at ih ⊢
    unfold fMO_start_43
    simp only [zl]
    split
    · obtain ⟨a1, a2⟩ := zms125 7 P S 0
      rw [a1]
      exact ⟨zk.rf, a2⟩
    · exact inner rc ih 61 P S x 0

theorem zstart {P P' : ZS} (h : zIv P P') (S S' : ZS) : (fRG_start P S = .error 2 ∧ ∃ S1, fMO_start P' S' = (P', S1, 0)) ∨
    (∃ (P3 S3 P3' S3' : ZS) (k : Int32), fRG_start P S = .ok (P3, S3, k) ∧ fMO_start P' S' = (P3', S3', k) ∧ (cok P3 → mok P3' → zIv P3 P3')) := by
  obtain ⟨hc, hm, hr, hs, hm2, ⟨nb, nl, hp, hc0⟩, hq⟩ := h
  have z0 : (0 : Int32).toInt = 0 := by decide
  by_cases d : P.I 2 = 0
  · right
    have hpre : zPre P := by
      rcases hq with ⟨_, hq⟩ | ⟨hq, _⟩
      · exact hq
      · exact absurd d hq
    have en : fRG_requireNotStarted P S = .ok () := by
      simp only [fRG_requireNotStarted, zl]
      rw [if_pos d]
    have d' : P'.I 0 = 0 := by rw [hs]; exact d
    obtain ⟨fe, fc⟩ := zfaults (S := S) (S' := S'.setI 3 0) hp (fun j => hc.1 4 j) hr hm2 hc0
    have pos := zff_pos P S
    obtain ⟨k8, kOw⟩ := zff (P := P) (S := S) (P1 := (fPL_firstFault P S).1) (S1 := (fPL_firstFault P S).2.1) (k := (fPL_firstFault P S).2.2) rfl
    obtain ⟨k5, -⟩ := zfo (P := P') (S := S'.setI 3 0) (P1 := (fMO_faultOf P' (S'.setI 3 0)).1) (S1 := (fMO_faultOf P' (S'.setI 3 0)).2.1) (k := (fMO_faultOf P' (S'.setI 3 0)).2.2) hm rfl
    have hrk := zRP_k hr k8 k5
    have ec : fRG_start P S = .ok (if (fPL_firstFault P S).2.2 = 0 then ((fPL_layPorts ((fPL_firstFault P S).1.setI 2 1) (fPL_firstFault P S).2.1).1, fPR_takeAllHolds (fPL_layPorts ((fPL_firstFault P S).1.setI 2 1) (fPL_firstFault P S).2.1).1 (fPL_layPorts ((fPL_firstFault P S).1.setI 2 1) (fPL_firstFault P S).2.1).2, (fPL_firstFault P S).2.2) else fPL_firstFault P S) := by
      simp only [fRG_start, zl, zl2, zl3, fRG_start_39]
      rw [en]
      rfl
    have em : fMO_start P' S' = (if (fMO_faultOf P' (S'.setI 3 0)).2.2 ≤ 0 then zfix (fun P9 S9 _ => (P9, S9, 0)) fMO_start_43 49 ((fMO_faultOf P' (S'.setI 3 0)).1.setI 0 1) (fMO_faultOf P' (S'.setI 3 0)).2.1 0 else fMO_faultOf P' (S'.setI 3 0)) := by
      simp only [fMO_start, fMO_start_13, zl, zl3]
      rw [if_pos d', if_pos (by decide : (0 : Int32) ≤ 0)]
    rw [ec, em]
    generalize fPL_firstFault P S = O at fe fc pos k8 kOw hrk ⊢
    generalize fMO_faultOf P' (S'.setI 3 0) = O' at fe k5 hrk ⊢
    have hm2' : zM2 O.1 := by
      unfold zM2
      rw [k8.2 3 (by decide), k8.2 4 (by decide)]
      exact hm2
    by_cases c : O.2.2 = 0
    · have c' : O'.2.2 ≤ 0 := by rw [← fe, c]; decide
      rw [if_pos c, if_pos c']
      obtain ⟨w1, w2⟩ := zms43 49 (O'.1.setI 0 1) O'.2.1 0
      generalize zfix (fun P9 S9 _ => (P9, S9, 0)) fMO_start_43 49 (O'.1.setI 0 1) O'.2.1 0 = V at w1 w2 ⊢
      have i1 : (O.1.setI 2 1).I 1 = P.I 1 := by
        show O.1.I 1 = P.I 1
        rw [k8.1]
      obtain ⟨y1, y2⟩ := zlay_fr (P := O.1.setI 2 1) (S := O.2.1) (by rw [i1]; exact hc.2.1 1) (fun j => by
        show zr 0 287 (O.1.F 5 j)
        rw [k8.2 5 (by decide)]
        exact hc.1 5 j)
      obtain ⟨Lp, hLp⟩ : ∃ z, z = fPL_layPorts (O.1.setI 2 1) O.2.1 := ⟨_, rfl⟩
      have eL : (Lp.1, Lp.2) = fPL_layPorts (O.1.setI 2 1) O.2.1 := hLp
      rw [← hLp] at y1 y2 ⊢
      refine ⟨Lp.1, _, V.1, V.2.1, O.2.2, rfl, by rw [c, ← w2], fun g1 g2 => ?_⟩
      have I0 : Lp.1.I 0 = P.I 0 := by rw [y1]; show O.1.I 0 = _; rw [k8.1]
      have I1 : Lp.1.I 1 = P.I 1 := by rw [y1]; exact i1
      have I2 : Lp.1.I 2 = 1 := by rw [y1]; rfl
      have FF : ∀ q, q ≠ 6 → q ≠ 7 → Lp.1.F q = O.1.F q := y2
      have FP : ∀ q, q ≠ 6 → q ≠ 7 → q ≠ 8 → Lp.1.F q = P.F q := fun q a b e => by rw [FF q a b, k8.2 q e]
      have gP2 : cok (O.1.setI 2 1) := by
        refine ⟨fun q j => ?_, fun t => ?_, fun q hq9 j => ?_⟩
        · by_cases e6 : q = 6
          · rw [e6]
            show zr _ _ (O.1.F 6 j)
            rw [k8.2 6 (by decide)]
            exact hc.1 6 j
          · by_cases e7 : q = 7
            · rw [e7]
              show zr _ _ (O.1.F 7 j)
              rw [k8.2 7 (by decide)]
              exact hc.1 7 j
            · have := g1.1 q j
              rw [FF q e6 e7] at this
              exact this
        · have := g1.2.1 t
          rw [y1] at this
          exact this
        · by_cases e6 : q = 6
          · rw [e6] at hq9; exact absurd hq9 (by decide)
          · by_cases e7 : q = 7
            · rw [e7] at hq9; exact absurd hq9 (by decide)
            · have := g1.2.2 q hq9 j
              rw [FF q e6 e7] at this
              exact this
      have hQ : zQ Lp.1 := zQ_lay gP2 (zPre_I (zPre_k hpre k8)) (zOwned_I (kOw c)) eL
      have hIne : ¬ Lp.1.I 2 = 0 := by rw [I2]; decide
      refine ⟨g1, g2, ?_, ?_, ?_, ⟨nb, nl, ?_, ?_⟩, Or.inr ⟨hIne, hQ⟩⟩
      · obtain ⟨b1, b2, b3, b4, b5, b6, b7⟩ := hrk
        refine ⟨?_, ?_, ?_, ?_, ?_, ?_, ?_⟩
        · rw [w1.1, I0]; show O'.1.I 1 = _; rw [b1, k8.1]
        · rw [w1.1, I1]; show O'.1.I 2 = _; rw [b2, k8.1]
        · rw [w1.2 0 (by decide), FF 0 (by decide) (by decide)]; exact b3
        · rw [w1.2 1 (by decide), FF 1 (by decide) (by decide)]; exact b4
        · rw [w1.2 2 (by decide), FF 2 (by decide) (by decide)]; exact b5
        · rw [w1.2 3 (by decide), FF 3 (by decide) (by decide)]; exact b6
        · rw [w1.2 4 (by decide), FF 4 (by decide) (by decide)]; exact b7
      · rw [w1.1, I2]
        rfl
      · unfold zM2
        rw [FP 3 (by decide) (by decide) (by decide), FP 4 (by decide) (by decide) (by decide)]
        exact hm2
      · unfold zPn
        rw [I0, I1, FP 0 (by decide) (by decide) (by decide), FP 1 (by decide) (by decide) (by decide), FP 2 (by decide) (by decide) (by decide)]
        exact hp
      · unfold zC0
        rw [FF 8 (by decide) (by decide), FF 2 (by decide) (by decide)]
        exact fc
    · have c' : ¬ O'.2.2 ≤ 0 := fun q => by
        rw [← fe] at q
        have := Int32.le_iff_toInt_le.mp q
        exact c (Int32.toInt_inj.mp (by omega))
      rw [if_neg c, if_neg c']
      refine ⟨O.1, O.2.1, O'.1, O'.2.1, O.2.2, rfl, by rw [fe], fun g1 g2 => ⟨g1, g2, hrk, ?_, hm2', ⟨nb, nl, zPn_k k8 hp, fc⟩, Or.inl ⟨?_, zPre_k hpre k8⟩⟩⟩
      · rw [k5.1, k8.1]; exact hs
      · rw [k8.1]; exact d
  · left
    have en : fRG_requireNotStarted P S = .error 2 := by
      simp only [fRG_requireNotStarted, zl]
      rw [if_neg d]
    have d' : ¬ P'.I 0 = 0 := by rw [hs]; exact d
    refine ⟨?_, S'.setI 3 1, ?_⟩
    · unfold fRG_start
      rw [en]
      rfl
    · simp only [fMO_start, fMO_start_13, zl, zl3]
      rw [if_neg d', if_neg (by decide : ¬ (1 : Int32) ≤ 0)]
