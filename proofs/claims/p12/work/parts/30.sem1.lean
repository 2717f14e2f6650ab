
/-! what the plan's counts say, on both sides -/
def zdg (P : ZS) (b r : Int32) : Nat → Nat
  | 0 => 0
  | n + 1 => zdg P b r n + (if P.F 2 n = r ∧ (P.F 0 n = b ∨ P.F 1 n = b) then 1 else 0)
theorem zdg_1 {P : ZS} {b r : Int32} {n : Nat} (h : P.F 2 n = r) (h2 : P.F 0 n = b ∨ P.F 1 n = b) : zdg P b r (n + 1) = zdg P b r n + 1 := by
  show zdg P b r n + _ = _
  rw [if_pos ⟨h, h2⟩]
theorem zdg_0 {P : ZS} {b r : Int32} {n : Nat} (h : ¬ (P.F 2 n = r ∧ (P.F 0 n = b ∨ P.F 1 n = b))) : zdg P b r (n + 1) = zdg P b r n := by
  show zdg P b r n + _ = _
  rw [if_neg h, Nat.add_zero]
theorem zdg_le {P : ZS} {b r : Int32} : ∀ n, zdg P b r n ≤ n
  | 0 => Nat.le_refl _
  | n + 1 => by
    have := zdg_le (P := P) (b := b) (r := r) n
    by_cases h : P.F 2 n = r ∧ (P.F 0 n = b ∨ P.F 1 n = b)
    · rw [zdg_1 h.1 h.2]; omega
    · rw [zdg_0 h]; omega
theorem zdg_pos {P : ZS} {b r : Int32} : ∀ n, 0 < zdg P b r n ↔ ∃ l, l < n ∧ P.F 2 l = r ∧ (P.F 0 l = b ∨ P.F 1 l = b)
  | 0 => ⟨fun h => absurd h (Nat.lt_irrefl _), fun ⟨l, h, _⟩ => absurd h (Nat.not_lt_zero _)⟩
  | n + 1 => by
    have ih := zdg_pos (P := P) (b := b) (r := r) n
    by_cases h : P.F 2 n = r ∧ (P.F 0 n = b ∨ P.F 1 n = b)
    · rw [zdg_1 h.1 h.2]
      exact ⟨fun _ => ⟨n, Nat.lt_succ_self n, h⟩, fun _ => Nat.succ_pos _⟩
    · rw [zdg_0 h, ih]
      exact ⟨fun ⟨l, a, q⟩ => ⟨l, Nat.lt_succ_of_lt a, q⟩, fun ⟨l, a, q⟩ => ⟨l, Nat.lt_of_le_of_ne (Nat.le_of_lt_succ a) (fun e => h (e ▸ q)), q⟩⟩
theorem zpo_iff {P S : ZS} {b : Int32} {l : Nat} (hl : l < 60) : fPL_portOf P S b (nI l) = -1 ↔ ¬ (P.F 0 l = b ∨ P.F 1 l = b) := by
  have z2 : (2 : Int32) = nI 2 := by decide
  have e2 : 2 * nI l = nI (2 * l) := by rw [z2, nI_mul]
  have n1 : ¬ nI (2 * l) = -1 := nI_ne (by omega)
  have n2 : ¬ nI (2 * l + 1) = -1 := nI_ne (by omega)
  simp only [fPL_portOf, zl]
  rw [nI_clamp (by omega), e2, nI_1]
  by_cases c1 : P.F 0 l = b
  · rw [if_pos c1]
    exact ⟨fun h => absurd h n1, fun h => absurd (Or.inl c1) h⟩
  · rw [if_neg c1]
    by_cases c2 : P.F 1 l = b
    · rw [if_pos c2]
      exact ⟨fun h => absurd h n2, fun h => absurd (Or.inr c2) h⟩
    · rw [if_neg c2]
      exact ⟨fun _ h => h.elim c1 c2, fun _ => rfl⟩
theorem zend_iff {P S : ZS} {b : Int32} {l : Nat} (hl : l < 60) : fMO_isEnd P S b (nI l) = 0 ↔ ¬ (P.F 0 l = b ∨ P.F 1 l = b) := by
  have n1 : ¬ (1 : Int32) = 0 := by decide
  simp only [fMO_isEnd, fMO_isEnd_20, zl]
  rw [nI_clamp (by omega)]
  by_cases c1 : P.F 0 l = b
  · rw [if_pos c1]
    exact ⟨fun h => absurd h n1, fun h => absurd (Or.inl c1) h⟩
  · rw [if_neg c1]
    by_cases c2 : P.F 1 l = b
    · rw [if_pos c2]
      exact ⟨fun h => absurd h n1, fun h => absurd (Or.inr c2) h⟩
    · rw [if_neg c2]
      exact ⟨fun _ h => h.elim c1 c2, fun _ => rfl⟩
theorem zcl_eq {P S : ZS} {b r : Int32} {nl : Nat} (hI : P.I 1 = nI nl) (hn : nl ≤ 60) : fPL_countLinks P S b r = nI (zdg P b r nl) := by
  have key : ∀ (n l : Nat), l ≤ nl → nl - l < n → zfix (fun _ _ _ _ => 0) (fPL_countLinks_5 P S) n b r (nI (zdg P b r l)) (nI l) = nI (zdg P b r nl) := by
    intro n
    induction n with
    | zero => intro l h1 h2; omega
    | succ n ih =>
      intro l h1 h2
      rw [zfix_s]
      generalize zfix (fun _ _ _ _ => 0) (fPL_countLinks_5 P S) n = rc at ih ⊢
      simp only [fPL_countLinks_5, fPL_countLinks_39, zl]
      rw [hI]
      by_cases c : nl ≤ l
      · have e : l = nl := by omega
        rw [if_pos (nI_le c (by omega)), e]
      · rw [if_neg (nI_ge (by omega) (by omega)), nI_clamp (by omega)]
        by_cases c2 : P.F 2 l = r
        · rw [if_pos c2]
          by_cases c3 : P.F 0 l = b ∨ P.F 1 l = b
          · rw [if_neg (fun h => (zpo_iff (by omega)).mp h c3), nI_1, nI_1, ← zdg_1 c2 c3]
            exact ih (l + 1) (by omega) (by omega)
          · rw [if_pos ((zpo_iff (by omega)).mpr c3), nI_1, ← zdg_0 (fun h => c3 h.2)]
            exact ih (l + 1) (by omega) (by omega)
        · rw [if_neg c2, nI_1, ← zdg_0 (fun h => c2 h.1)]
          exact ih (l + 1) (by omega) (by omega)
  exact key 61 0 (Nat.zero_le _) (by omega)
theorem zdi_eq {P S : ZS} {b r : Int32} {nl : Nat} (hI : P.I 2 = nI nl) (hn : nl ≤ 60) : fMO_degreeIn P S b r = nI (zdg P b r nl) := by
  have a0 : ∀ n : Nat, nI n + 0 = nI n := fun n => Int32.add_zero _
  have key : ∀ (n l : Nat), l ≤ nl → nl - l < n → zfix (fun _ _ _ _ => 0) (fMO_degreeIn_5 P S) n b r (nI (zdg P b r l)) (nI l) = nI (zdg P b r nl) := by
    intro n
    induction n with
    | zero => intro l h1 h2; omega
    | succ n ih =>
      intro l h1 h2
      rw [zfix_s]
      generalize zfix (fun _ _ _ _ => 0) (fMO_degreeIn_5 P S) n = rc at ih ⊢
      simp only [fMO_degreeIn_5, fMO_degreeIn_40, fMO_degreeIn_41, zl]
      rw [hI]
      by_cases c : nl ≤ l
      · have e : l = nl := by omega
        rw [if_pos (nI_le c (by omega)), e]
      · rw [if_neg (nI_ge (by omega) (by omega)), nI_clamp (by omega)]
        by_cases c2 : P.F 2 l = r
        · rw [if_pos c2]
          by_cases c3 : P.F 0 l = b ∨ P.F 1 l = b
          · rw [if_neg (fun h => (zend_iff (by omega)).mp h c3), nI_1, nI_1, ← zdg_1 c2 c3]
            exact ih (l + 1) (by omega) (by omega)
          · rw [if_pos ((zend_iff (by omega)).mpr c3), a0, nI_1, ← zdg_0 (fun h => c3 h.2)]
            exact ih (l + 1) (by omega) (by omega)
        · rw [if_neg c2, a0, nI_1, ← zdg_0 (fun h => c2 h.1)]
          exact ih (l + 1) (by omega) (by omega)
  exact key 61 0 (Nat.zero_le _) (by omega)
/-- some link of the first nl is of ring r -/
theorem zhl_iff {P S : ZS} {r : Int32} {nl : Nat} (hI : P.I 1 = nI nl) (hn : nl ≤ 60) : (¬ fPL_hasLinks P S r = 0) ↔ ∃ l, l < nl ∧ P.F 2 l = r := by
  have n1 : ¬ (1 : Int32) = 0 := by decide
  have key : ∀ (n l : Nat), l ≤ nl → nl - l < n → ((¬ zfix (fun _ _ => 0) (fPL_hasLinks_2 P S) n r (nI l) = 0) ↔ ∃ j, l ≤ j ∧ j < nl ∧ P.F 2 j = r) := by
    intro n
    induction n with
    | zero => intro l h1 h2; omega
    | succ n ih =>
      intro l h1 h2
      rw [zfix_s]
      generalize zfix (fun _ _ => 0) (fPL_hasLinks_2 P S) n = rc at ih ⊢
      simp only [fPL_hasLinks_2, zl]
      rw [hI]
      by_cases c : nl ≤ l
      · rw [if_pos (nI_le c (by omega))]
        exact ⟨fun h => absurd rfl h, fun ⟨j, a, q, _⟩ => by omega⟩
      · rw [if_neg (nI_ge (by omega) (by omega)), nI_clamp (by omega)]
        by_cases c2 : P.F 2 l = r
        · rw [if_pos c2]
          exact ⟨fun _ => ⟨l, Nat.le_refl _, by omega, c2⟩, fun _ => n1⟩
        · rw [if_neg c2, nI_1, ih (l + 1) (by omega) (by omega)]
          exact ⟨fun ⟨j, a, q⟩ => ⟨j, by omega, q⟩, fun ⟨j, a, q⟩ => ⟨j, Nat.lt_of_le_of_ne a (fun e => c2 (e ▸ q.2)), q⟩⟩
  have h := key 61 0 (Nat.zero_le _) (by omega)
  exact h.trans ⟨fun ⟨j, _, q⟩ => ⟨j, q⟩, fun ⟨j, q⟩ => ⟨j, Nat.zero_le _, q⟩⟩
def zcn (P : ZS) (r : Int32) : Nat → Nat
  | 0 => 0
  | n + 1 => zcn P r n + (if P.F 2 n = r then 1 else 0)
theorem zcn_1 {P : ZS} {r : Int32} {n : Nat} (h : P.F 2 n = r) : zcn P r (n + 1) = zcn P r n + 1 := by
  show zcn P r n + _ = _
  rw [if_pos h]
theorem zcn_0 {P : ZS} {r : Int32} {n : Nat} (h : ¬ P.F 2 n = r) : zcn P r (n + 1) = zcn P r n := by
  show zcn P r n + _ = _
  rw [if_neg h, Nat.add_zero]
theorem zcn_le {P : ZS} {r : Int32} : ∀ n, zcn P r n ≤ n
  | 0 => Nat.le_refl _
  | n + 1 => by
    have := zcn_le (P := P) (r := r) n
    by_cases h : P.F 2 n = r
    · rw [zcn_1 h]; omega
    · rw [zcn_0 h]; omega
theorem zcn_pos {P : ZS} {r : Int32} : ∀ n, 0 < zcn P r n ↔ ∃ l, l < n ∧ P.F 2 l = r
  | 0 => ⟨fun h => absurd h (Nat.lt_irrefl _), fun ⟨l, h, _⟩ => absurd h (Nat.not_lt_zero _)⟩
  | n + 1 => by
    have ih := zcn_pos (P := P) (r := r) n
    by_cases h : P.F 2 n = r
    · rw [zcn_1 h]
      exact ⟨fun _ => ⟨n, Nat.lt_succ_self n, h⟩, fun _ => Nat.succ_pos _⟩
    · rw [zcn_0 h, ih]
      exact ⟨fun ⟨l, a, q⟩ => ⟨l, Nat.lt_succ_of_lt a, q⟩, fun ⟨l, a, q⟩ => ⟨l, Nat.lt_of_le_of_ne (Nat.le_of_lt_succ a) (fun e => h (e ▸ q)), q⟩⟩
theorem zli_eq {P S : ZS} {r : Int32} {nl : Nat} (hI : P.I 2 = nI nl) (hn : nl ≤ 60) : fMO_linksIn P S r = nI (zcn P r nl) := by
  have a0 : ∀ n : Nat, nI n + 0 = nI n := fun n => Int32.add_zero _
  have key : ∀ (n l : Nat), l ≤ nl → nl - l < n → zfix (fun _ _ _ => 0) (fMO_linksIn_4 P S) n r (nI (zcn P r l)) (nI l) = nI (zcn P r nl) := by
    intro n
    induction n with
    | zero => intro l h1 h2; omega
    | succ n ih =>
      intro l h1 h2
      rw [zfix_s]
      generalize zfix (fun _ _ _ => 0) (fMO_linksIn_4 P S) n = rc at ih ⊢
      simp only [fMO_linksIn_4, fMO_linksIn_28, zl]
      rw [hI]
      by_cases c : nl ≤ l
      · have e : l = nl := by omega
        rw [if_pos (nI_le c (by omega)), e]
      · rw [if_neg (nI_ge (by omega) (by omega)), nI_clamp (by omega)]
        by_cases c2 : P.F 2 l = r
        · rw [if_pos c2, nI_1, nI_1, ← zcn_1 c2]
          exact ih (l + 1) (by omega) (by omega)
        · rw [if_neg c2, a0, nI_1, ← zcn_0 c2]
          exact ih (l + 1) (by omega) (by omega)
  exact key 61 0 (Nat.zero_le _) (by omega)
/-- a link of a ring below r has an end at bridge b -/
def zbef (P : ZS) (b : Int32) (r nl : Nat) : Prop := ∃ l, l < nl ∧ (P.F 2 l).toNatClampNeg < r ∧ (P.F 0 l = b ∨ P.F 1 l = b)
theorem zib_iff {P S : ZS} {b : Int32} {r nl : Nat} (hI : P.I 1 = nI nl) (hn : nl ≤ 60) (hr : r ≤ 6) (g : ∀ j, zr 0 5 (P.F 2 j)) : (¬ fPL_isInRingBefore P S b (nI r) = 0) ↔ zbef P b r nl := by
  have n1 : ¬ (1 : Int32) = 0 := by decide
  have key : ∀ (n l : Nat), l ≤ nl → nl - l < n → ((¬ zfix (fun _ _ _ => 0) (fPL_isInRingBefore_2 P S) n b (nI r) (nI l) = 0) ↔ ∃ j, l ≤ j ∧ j < nl ∧ (P.F 2 j).toNatClampNeg < r ∧ (P.F 0 j = b ∨ P.F 1 j = b)) := by
    intro n
    induction n with
    | zero => intro l h1 h2; omega
    | succ n ih =>
      intro l h1 h2
      rw [zfix_s]
      generalize zfix (fun _ _ _ => 0) (fPL_isInRingBefore_2 P S) n = rc at ih ⊢
      simp only [fPL_isInRingBefore_2, fPL_isInRingBefore_32, zl]
      rw [hI]
      by_cases c : nl ≤ l
      · rw [if_pos (nI_le c (by omega))]
        exact ⟨fun h => absurd rfl h, fun ⟨j, a, q, _⟩ => by omega⟩
      · rw [if_neg (nI_ge (by omega) (by omega)), nI_clamp (by omega)]
        have e2 := znI (g l)
        have t2 := ztn (g l) (by decide)
        have b2 := (g l).2
        have hle : nI r ≤ P.F 2 l ↔ r ≤ (P.F 2 l).toNatClampNeg := by
          rw [e2, nI_clamp (by omega)]
          exact nI_leI (by omega) (by omega)
        have skip : (¬ rc b (nI r) (nI l + 1) = 0) ∧ ¬ ((P.F 2 l).toNatClampNeg < r ∧ (P.F 0 l = b ∨ P.F 1 l = b)) ∨ True := Or.inr trivial
        by_cases c2 : nI r ≤ P.F 2 l
        · rw [if_pos c2, nI_1, ih (l + 1) (by omega) (by omega)]
          have c2' := hle.mp c2
          exact ⟨fun ⟨j, a, q⟩ => ⟨j, by omega, q⟩, fun ⟨j, a, q⟩ => ⟨j, Nat.lt_of_le_of_ne a (fun e => by subst e; omega), q⟩⟩
        · rw [if_neg c2]
          have c2' : (P.F 2 l).toNatClampNeg < r := Nat.not_le.mp (fun h => c2 (hle.mpr h))
          by_cases c3 : P.F 0 l = b ∨ P.F 1 l = b
          · rw [if_neg (fun h => (zpo_iff (by omega)).mp h c3)]
            exact ⟨fun _ => ⟨l, Nat.le_refl _, by omega, c2', c3⟩, fun _ => n1⟩
          · rw [if_pos ((zpo_iff (by omega)).mpr c3), nI_1, ih (l + 1) (by omega) (by omega)]
            exact ⟨fun ⟨j, a, q⟩ => ⟨j, by omega, q⟩, fun ⟨j, a, q⟩ => ⟨j, Nat.lt_of_le_of_ne a (fun e => c3 (e ▸ q.2.2)), q⟩⟩
  have h := key 61 0 (Nat.zero_le _) (by omega)
  exact h.trans ⟨fun ⟨j, _, q⟩ => ⟨j, q⟩, fun ⟨j, q⟩ => ⟨j, Nat.zero_le _, q⟩⟩
