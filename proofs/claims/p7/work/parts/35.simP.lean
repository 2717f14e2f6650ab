
/-! ports at places, in the order of links, on both sides -/
def zsp (pl : Nat → Nat) (k : Nat) : Nat → Option Nat × Option Nat
  | 0 => (none, none)
  | q + 1 => if pl q = k then (match (zsp pl k q).1 with | none => (some q, (zsp pl k q).2) | some a => (some a, some q)) else zsp pl k q
theorem zsp_n {pl : Nat → Nat} {k q : Nat} (h : ¬ pl q = k) : zsp pl k (q + 1) = zsp pl k q := by
  show (if pl q = k then _ else _) = _
  rw [if_neg h]
theorem zsp_0 {pl : Nat → Nat} {k q : Nat} (h : pl q = k) (h1 : (zsp pl k q).1 = none) : zsp pl k (q + 1) = (some q, (zsp pl k q).2) := by
  show (if pl q = k then (match (zsp pl k q).1 with | none => (some q, (zsp pl k q).2) | some a => (some a, some q)) else _) = _
  rw [if_pos h, h1]
theorem zsp_1 {pl : Nat → Nat} {k q a : Nat} (h : pl q = k) (h1 : (zsp pl k q).1 = some a) : zsp pl k (q + 1) = (some a, some q) := by
  show (if pl q = k then (match (zsp pl k q).1 with | none => (some q, (zsp pl k q).2) | some a => (some a, some q)) else _) = _
  rw [if_pos h, h1]
/-- what a place's two ports are -/
theorem zsp_in {pl : Nat → Nat} {k : Nat} : ∀ q, (∀ a, (zsp pl k q).1 = some a → a < q ∧ pl a = k) ∧ (∀ a, (zsp pl k q).2 = some a → a < q ∧ pl a = k ∧ ∃ c, (zsp pl k q).1 = some c ∧ c < a)
  | 0 => ⟨fun a h => (by cases h), fun a h => (by cases h)⟩
  | q + 1 => by
    obtain ⟨i1, i2⟩ := zsp_in (pl := pl) (k := k) q
    by_cases h : pl q = k
    · cases h1 : (zsp pl k q).1 with
      | none =>
        rw [zsp_0 h h1]
        refine ⟨fun a e => ?_, fun a e => ?_⟩
        · cases e; exact ⟨Nat.lt_succ_self _, h⟩
        · obtain ⟨-, -, c, e2, -⟩ := i2 a e
          rw [h1] at e2
          cases e2
      | some c =>
        rw [zsp_1 h h1]
        have := i1 c h1
        refine ⟨fun a e => ?_, fun a e => ?_⟩
        · cases e; exact ⟨by omega, this.2⟩
        · cases e; exact ⟨Nat.lt_succ_self _, h, c, rfl, this.1⟩
    · rw [zsp_n h]
      refine ⟨fun a e => ?_, fun a e => ?_⟩
      · have := i1 a e; exact ⟨by omega, this.2⟩
      · have := i2 a e; exact ⟨by omega, this.2⟩
def zO (o : Option Nat) : Int32 := match o with
  | none => -1
  | some p => nI p
def zOl (o : Option Nat) : Int32 := match o with
  | none => -1
  | some p => nI (p / 2)
theorem zO_n {o : Option Nat} (h : ∀ a, o = some a → a < 1000) : zO o = -1 ↔ o = none := by
  cases o with
  | none => exact ⟨fun _ => rfl, fun _ => rfl⟩
  | some p => exact ⟨fun e => absurd e (nI_ne (by have := h p rfl; omega)), fun e => by cases e⟩
theorem zOl_n {o : Option Nat} (h : ∀ a, o = some a → a < 1000) : zOl o = -1 ↔ o = none := by
  cases o with
  | none => exact ⟨fun _ => rfl, fun _ => rfl⟩
  | some p => exact ⟨fun e => absurd e (nI_ne (by have := h p rfl; omega)), fun e => by cases e⟩
def zpl (P : ZS) (q : Nat) : Nat := (P.F 5 q).toNatClampNeg
/-- the class's rows of ports hold what was laid of the first x ports -/
def zlaidC (P0 P : ZS) (x : Nat) : Prop := ∀ k, k < 288 → P.F 7 (2 * k) = zO (zsp (zpl P0) k x).1 ∧ P.F 7 (2 * k + 1) = zO (zsp (zpl P0) k x).2
theorem zlaidC_s {P0 P : ZS} {x : Nat} (h : zlaidC P0 P x) (hx : x < 1000) (h5 : zpl P0 x < 288) : zlaidC P0 (P.setF 7 (if P.F 7 (2 * zpl P0 x) = -1 then 2 * zpl P0 x else 2 * zpl P0 x + 1) (nI x)) (x + 1) := by
  intro k hk
  have hrow : ∀ i v j, (P.setF 7 i v).F 7 j = if j = i then v else P.F 7 j := fun i v j => by
    show (if 7 = 7 then upd (P.F 7) i v else P.F 7) j = _
    rw [if_pos rfl]
    rfl
  rw [hrow, hrow]
  obtain ⟨i1, i2⟩ := zsp_in (pl := zpl P0) (k := k) x
  by_cases c : zpl P0 x = k
  · rw [c]
    obtain ⟨h1, h2⟩ := h k hk
    cases e1 : (zsp (zpl P0) k x).1 with
    | none =>
      rw [zsp_0 c e1]
      rw [e1] at h1
      replace h1 : P.F 7 (2 * k) = -1 := h1
      rw [if_pos h1, if_pos rfl, if_neg (by omega), h2]
      exact ⟨rfl, rfl⟩
    | some a =>
      rw [zsp_1 c e1]
      rw [e1] at h1
      have la := (i1 a e1).1
      have hn : ¬ P.F 7 (2 * k) = -1 := by rw [h1]; exact nI_ne (by omega)
      rw [if_neg hn, if_neg (by omega), if_pos rfl, h1]
      exact ⟨rfl, rfl⟩
  · rw [zsp_n c]
    have o1 : ¬ 2 * k = (if P.F 7 (2 * zpl P0 x) = -1 then 2 * zpl P0 x else 2 * zpl P0 x + 1) := by split <;> omega
    have o2 : ¬ 2 * k + 1 = (if P.F 7 (2 * zpl P0 x) = -1 then 2 * zpl P0 x else 2 * zpl P0 x + 1) := by split <;> omega
    rw [if_neg o1, if_neg o2]
    exact h k hk
theorem zlay1C {P0 : ZS} (g0 : cok P0) {nl : Nat} (hI : P0.I 1 = nI nl) (hnl : nl ≤ 60) : ∀ (n : Nat) (P S : ZS) (x : Nat), zk 7 P0 P → zlaidC P0 P x → x ≤ 2 * nl → 2 * nl - x < n →
    ∃ P1 : ZS, zk 7 P0 P1 ∧ zlaidC P0 P1 (2 * nl) ∧ zfix (fun P9 S9 _ => (P9, S9)) fPL_layPorts_2 n P S (nI x) = zfix (fun P9 S9 _ => (P9, S9)) fPL_layPorts_52 7 P1 S 0 := by
  have z2 : (2 : Int32) = nI 2 := by decide
  have z1 : (1 : Int32) = nI 1 := by decide
  intro n
  induction n with
  | zero => intro P S x hk hl h1 hn; omega
  | succ n ih =>
    intro P S x hk hl h1 hn
    rw [zfix_s]
    generalize zfix (fun P9 S9 _ => (P9, S9)) fPL_layPorts_2 n = rc at ih ⊢
    simp only [fPL_layPorts_2, fPL_layPorts_42, zl]
    rw [hk.1, hI, z2, nI_mul]
    by_cases c : 2 * nl ≤ x
    · have e : x = 2 * nl := by omega
      rw [if_pos (by rw [e]; exact Int32.le_refl _)]
      exact ⟨P, hk, by rw [← e]; exact hl, rfl⟩
    · have c' : ¬ nI (2 * nl) ≤ nI x := fun q => by
        have := Int32.le_iff_toInt_le.mp q
        rw [nI_toInt (by omega), nI_toInt (by omega)] at this
        omega
      rw [if_neg c', nI_clamp (by omega), hk.2 5 (by decide)]
      have rp : zr 0 287 (P0.F 5 x) := g0.1 5 x
      have rp2 := rp.2
      have ep : P0.F 5 x = nI (zpl P0 x) := znI rp
      have lp : zpl P0 x < 288 := by
        have h0 := rp.1
        show (P0.F 5 x).toInt.toNat < 288
        omega
      rw [ep, nI_mul, nI_clamp (by omega)]
      have st := zlaidC_s hl (by omega) lp
      by_cases d : P.F 7 (2 * zpl P0 x) = -1
      · rw [if_pos d] at st ⊢
        rw [z1, nI_add]
        exact ih _ S (x + 1) (hk.tr zk.set) st (by omega) (by omega)
      · rw [if_neg d] at st ⊢
        rw [z1, nI_add, nI_clamp (by omega), nI_add]
        exact ih _ S (x + 1) (hk.tr zk.set) st (by omega) (by omega)
/-- the class's ports after start -/
theorem zlayC {P0 S : ZS} (g0 : cok P0) {nl : Nat} (hI : P0.I 1 = nI nl) (hnl : nl ≤ 60) (h7 : ∀ j, P0.F 7 j = -1) : zlaidC P0 (fPL_layPorts P0 S).1 (2 * nl) := by
  unfold fPL_layPorts
  obtain ⟨P1, k1, l1, e⟩ := zlay1C g0 hI hnl 121 P0 S 0 zk.rf (fun k hk => ⟨h7 _, h7 _⟩) (Nat.zero_le _) (by omega)
  have e0 : (0 : Int32) = nI 0 := by decide
  rw [e0, e]
  have keep : ∀ (n : Nat) (Q S : ZS) (x : Int32), Q.F 7 = P1.F 7 → (zfix (fun P9 S9 _ => (P9, S9)) fPL_layPorts_52 n Q S x).1.F 7 = P1.F 7 := by
    intro n
    induction n with
    | zero => intro Q S x a; rw [zfix_0]; exact a
    | succ n ih =>
      intro Q S x a
      rw [zfix_s]
      generalize zfix (fun P9 S9 _ => (P9, S9)) fPL_layPorts_52 n = rc at ih ⊢
      simp only [fPL_layPorts_52, fPL_layPorts_91, zl]
      split
      · exact a
      · split
        · exact ih _ S _ (by rw [zset_ne (by decide)]; exact a)
        · exact ih _ S _ (by rw [zset_ne (by decide)]; exact a)
  intro k hk
  rw [keep 7 P1 S 0 rfl]
  exact l1 k hk

theorem zsp_miss {pl : Nat → Nat} {k l : Nat} (h0 : ¬ pl (2 * l) = k) (h1 : ¬ pl (2 * l + 1) = k) : zsp pl k (2 * l + 2) = zsp pl k (2 * l) := by
  rw [zsp_n (q := 2 * l + 1) h1, zsp_n h0]
theorem zsp_hit {pl : Nat → Nat} {k l : Nat} (h : (pl (2 * l) = k ∧ ¬ pl (2 * l + 1) = k) ∨ (¬ pl (2 * l) = k ∧ pl (2 * l + 1) = k)) : ∃ q, q / 2 = l ∧ ((zsp pl k (2 * l)).1 = none → zsp pl k (2 * l + 2) = (some q, (zsp pl k (2 * l)).2)) ∧ ∀ a, (zsp pl k (2 * l)).1 = some a → zsp pl k (2 * l + 2) = (some a, some q) := by
  rcases h with ⟨h0, h1⟩ | ⟨h0, h1⟩
  · refine ⟨2 * l, by omega, fun e => ?_, fun a e => ?_⟩
    · rw [zsp_n (q := 2 * l + 1) h1, zsp_0 h0 e]
    · rw [zsp_n (q := 2 * l + 1) h1, zsp_1 h0 e]
  · refine ⟨2 * l + 1, by omega, fun e => ?_, fun a e => ?_⟩
    · have e' : (zsp pl k (2 * l + 1)).1 = none := by rw [zsp_n h0]; exact e
      rw [zsp_0 (q := 2 * l + 1) h1 e', zsp_n h0]
    · have e' : (zsp pl k (2 * l + 1)).1 = some a := by rw [zsp_n h0]; exact e
      rw [zsp_1 (q := 2 * l + 1) h1 e']
/-- where the plan's ports are -/
def zplace (P : ZS) (nl : Nat) : Prop := ∀ l, l < nl → zpl P (2 * l) = 6 * (P.F 0 l).toNatClampNeg + (P.F 2 l).toNatClampNeg ∧ zpl P (2 * l + 1) = 6 * (P.F 1 l).toNatClampNeg + (P.F 2 l).toNatClampNeg
/-- how many ports of a bridge's places have been seen -/
def zseen (nl b l c : Nat) : Nat := if c < b then 2 * nl else if c = b then 2 * l else 0
def zlaidM (pl : Nat → Nat) (P : ZS) (nb nl b l : Nat) : Prop := ∀ c r, c < nb → r < 6 → P.F 6 (2 * (6 * c + r)) = zOl (zsp pl (6 * c + r) (zseen nl b l c)).1 ∧ P.F 6 (2 * (6 * c + r) + 1) = zOl (zsp pl (6 * c + r) (zseen nl b l c)).2
theorem zlaidM_next {pl : Nat → Nat} {P : ZS} {nb nl b : Nat} (h : zlaidM pl P nb nl b nl) : zlaidM pl P nb nl (b + 1) 0 := by
  intro c r hc hr
  have e : zseen nl (b + 1) 0 c = zseen nl b nl c := by
    unfold zseen
    by_cases c1 : c < b
    · rw [if_pos c1, if_pos (by omega)]
    · by_cases c2 : c = b
      · rw [if_pos (by omega), if_neg c1, if_pos c2]
      · rw [if_neg (by omega), if_neg c1, if_neg c2]
        split <;> omega
  rw [e]
  exact h c r hc hr
/-- a link that does not end at the bridge -/
theorem zlaidM_miss {pl : Nat → Nat} {P : ZS} {nb nl b l : Nat} (h : zlaidM pl P nb nl b l) (hm : ∀ r, r < 6 → ¬ pl (2 * l) = 6 * b + r ∧ ¬ pl (2 * l + 1) = 6 * b + r) : zlaidM pl P nb nl b (l + 1) := by
  intro c r hc hr
  obtain ⟨h1, h2⟩ := h c r hc hr
  by_cases e : c = b
  · subst e
    have s0 : zseen nl c l c = 2 * l := by unfold zseen; rw [if_neg (Nat.lt_irrefl _), if_pos rfl]
    have s1 : zseen nl c (l + 1) c = 2 * l + 2 := by unfold zseen; rw [if_neg (Nat.lt_irrefl _), if_pos rfl]; omega
    rw [s0] at h1 h2
    rw [s1, zsp_miss (hm r hr).1 (hm r hr).2]
    exact ⟨h1, h2⟩
  · have s : zseen nl b (l + 1) c = zseen nl b l c := by unfold zseen; rw [if_neg e, if_neg e]
    rw [s]
    exact ⟨h1, h2⟩
theorem zlaidM_hit {pl : Nat → Nat} {P : ZS} {nb nl b l r0 : Nat} (h : zlaidM pl P nb nl b l) (hb : b < nb) (hnb : nb ≤ 48) (hl : l < 60) (hr0 : r0 < 6)
    (hh : (pl (2 * l) = 6 * b + r0 ∧ ¬ pl (2 * l + 1) = 6 * b + r0) ∨ (¬ pl (2 * l) = 6 * b + r0 ∧ pl (2 * l + 1) = 6 * b + r0)) (hm : ∀ r, r < 6 → r ≠ r0 → ¬ pl (2 * l) = 6 * b + r ∧ ¬ pl (2 * l + 1) = 6 * b + r) :
    zlaidM pl (P.setF 6 (if P.F 6 (2 * (6 * b + r0)) = -1 then 2 * (6 * b + r0) else 2 * (6 * b + r0) + 1) (nI l)) nb nl b (l + 1) := by
  intro c r hc hr
  have hrow : ∀ i v j, (P.setF 6 i v).F 6 j = if j = i then v else P.F 6 j := fun i v j => by
    show (if 6 = 6 then upd (P.F 6) i v else P.F 6) j = _
    rw [if_pos rfl]
    rfl
  rw [hrow, hrow]
  obtain ⟨h1, h2⟩ := h c r hc hr
  by_cases e : c = b
  · subst e
    have s0 : zseen nl c l c = 2 * l := by unfold zseen; rw [if_neg (Nat.lt_irrefl _), if_pos rfl]
    have s1 : zseen nl c (l + 1) c = 2 * l + 2 := by unfold zseen; rw [if_neg (Nat.lt_irrefl _), if_pos rfl]; omega
    rw [s0] at h1 h2
    rw [s1]
    by_cases er : r = r0
    · subst er
      obtain ⟨q, eq, n0, n1⟩ := zsp_hit hh
      obtain ⟨i1, -⟩ := zsp_in (pl := pl) (k := 6 * c + r) (2 * l)
      cases e1 : (zsp pl (6 * c + r) (2 * l)).1 with
      | none =>
        rw [n0 e1]
        rw [e1] at h1
        replace h1 : P.F 6 (2 * (6 * c + r)) = -1 := h1
        rw [if_pos h1, if_pos rfl, if_neg (by omega), h2]
        exact ⟨by show nI l = nI (q / 2); rw [eq], rfl⟩
      | some a =>
        rw [n1 a e1]
        rw [e1] at h1
        have la := (i1 a e1).1
        have hn : ¬ P.F 6 (2 * (6 * c + r)) = -1 := by rw [h1]; exact nI_ne (by omega)
        rw [if_neg hn, if_neg (by omega), if_pos rfl, h1]
        exact ⟨rfl, by show nI l = nI (q / 2); rw [eq]⟩
    · rw [zsp_miss (hm r hr er).1 (hm r hr er).2]
      have o1 : ¬ 2 * (6 * c + r) = (if P.F 6 (2 * (6 * c + r0)) = -1 then 2 * (6 * c + r0) else 2 * (6 * c + r0) + 1) := by split <;> omega
      have o2 : ¬ 2 * (6 * c + r) + 1 = (if P.F 6 (2 * (6 * c + r0)) = -1 then 2 * (6 * c + r0) else 2 * (6 * c + r0) + 1) := by split <;> omega
      rw [if_neg o1, if_neg o2]
      exact ⟨h1, h2⟩
  · have s : zseen nl b (l + 1) c = zseen nl b l c := by unfold zseen; rw [if_neg e, if_neg e]
    rw [s]
    have o1 : ¬ 2 * (6 * c + r) = (if P.F 6 (2 * (6 * b + r0)) = -1 then 2 * (6 * b + r0) else 2 * (6 * b + r0) + 1) := by split <;> omega
    have o2 : ¬ 2 * (6 * c + r) + 1 = (if P.F 6 (2 * (6 * b + r0)) = -1 then 2 * (6 * b + r0) else 2 * (6 * b + r0) + 1) := by split <;> omega
    rw [if_neg o1, if_neg o2]
    exact ⟨h1, h2⟩
/-- the reference's ports after start; the rest of start is the takings of holds -/
theorem zlayM {P P0 : ZS} {nb nl : Nat} (hp : zPn P nb nl) (hpl : zplace P nl) (hr : zRP P P0) : ∀ (n : Nat) (P' S : ZS) (b : Nat), zk 6 P0 P' → zlaidM (zpl P) P' nb nl b 0 → b ≤ nb → nb - b < n →
    ∃ P1 : ZS, zk 6 P0 P1 ∧ zlaidM (zpl P) P1 nb nl nb 0 ∧ zfix (fun P9 S9 _ => (P9, S9, 0)) fMO_start_43 n P' S (nI b) = zfix (fun P9 S9 _ => (P9, S9, 0)) fMO_start_125 7 P1 S 0 := by
  obtain ⟨hB, hb48, hL, hl60, hR, hE⟩ := hp
  obtain ⟨r1, r2, r3, r4, r5, r6, r7⟩ := hr
  have z0 : (0 : Int32) = nI 0 := by decide
  have z1 : (1 : Int32) = nI 1 := by decide
  have z2 : (2 : Int32) = nI 2 := by decide
  have z6 : (6 : Int32) = nI 6 := by decide
  intro n
  induction n with
  | zero => intro P' S b hk hl h1 hn; omega
  | succ n ih =>
    intro P' S b hk hl h1 hn
    rw [zfix_s]
    generalize zfix (fun P9 S9 _ => (P9, S9, 0)) fMO_start_43 n = rc at ih ⊢
    simp only [fMO_start_43, zl]
    rw [hk.1, r1, hB]
    by_cases c : nb ≤ b
    · have e : b = nb := by omega
      rw [if_pos (by rw [e]; exact Int32.le_refl _)]
      exact ⟨P', hk, by rw [e] at hl; exact hl, rfl⟩
    · have c' : ¬ nI nb ≤ nI b := fun q => by
        have := Int32.le_iff_toInt_le.mp q
        rw [nI_toInt (by omega), nI_toInt (by omega)] at this
        omega
      rw [if_neg c']
      have inner : ∀ (m : Nat) (Q : ZS) (l : Nat), zk 6 P0 Q → zlaidM (zpl P) Q nb nl b l → l ≤ nl → nl - l < m → ∃ P1 : ZS, zk 6 P0 P1 ∧ zlaidM (zpl P) P1 nb nl nb 0 ∧ zfix (fun P9 S9 _ _ => (P9, S9, 0)) (fMO_start_53 rc) m Q S (nI b) (nI l) = zfix (fun P9 S9 _ => (P9, S9, 0)) fMO_start_125 7 P1 S 0 := by
        intro m
        induction m with
        | zero => intro Q l hk hl h1 hn; omega
        | succ m ih2 =>
          intro Q l hkQ hlQ h1Q hnQ
          rw [zfix_s]
          generalize zfix (fun P9 S9 _ _ => (P9, S9, 0)) (fMO_start_53 rc) m = rd at ih2 ⊢
          simp only [fMO_start_53, fMO_start_109, fMO_start_111, zl]
          rw [hkQ.1, r2, hL]
          by_cases d : nl ≤ l
          · have e : l = nl := by omega
            rw [if_pos (by rw [e]; exact Int32.le_refl _), z1, nI_add]
            subst e
            exact ih Q S (b + 1) hkQ (zlaidM_next hlQ) (by omega) (by omega)
          · have d' : ¬ nI nl ≤ nI l := fun q => by
              have := Int32.le_iff_toInt_le.mp q
              rw [nI_toInt (by omega), nI_toInt (by omega)] at this
              omega
            rw [if_neg d']
            obtain ⟨a1, a2, a3, a4, a5⟩ := hE l (by omega)
            obtain ⟨p1, p2⟩ := hpl l (by omega)
            have fr : zr 0 5 (P.F 2 l) := hR l
            have fr2 := fr.2
            have fr1 := fr.1
            have rlt : (P.F 2 l).toNatClampNeg < 6 := by
              show (P.F 2 l).toInt.toNat < 6
              omega
            have eA : P.F 0 l = nI (P.F 0 l).toNatClampNeg := znI a4
            have eB : P.F 1 l = nI (P.F 1 l).toNatClampNeg := znI a5
            have q0 : Q.F 0 l = P.F 0 l := by rw [hkQ.2 0 (by decide), r3]
            have q1 : Q.F 1 l = P.F 1 l := by rw [hkQ.2 1 (by decide), r4]
            have q2 : Q.F 2 l = P.F 2 l := by rw [hkQ.2 2 (by decide), r5]
            have nAB : ¬ (P.F 0 l).toNatClampNeg = (P.F 1 l).toNatClampNeg := fun q => a3 (by rw [eA, eB, q])
            have iff0 : fMO_isEnd Q S (nI b) (nI l) = 0 ↔ ¬ ((P.F 0 l).toNatClampNeg = b ∨ (P.F 1 l).toNatClampNeg = b) := by
              rw [zend_iff (by omega), q0, q1, eA, eB, nI_eq (by omega) (by omega), nI_eq (by omega) (by omega), nI_clamp (by omega), nI_clamp (by omega)]
            by_cases g : fMO_isEnd Q S (nI b) (nI l) = 0
            · rw [if_pos g, z1, nI_add]
              have g' := iff0.mp g
              refine ih2 Q (l + 1) hkQ (zlaidM_miss hlQ (fun r hr => ⟨fun q => ?_, fun q => ?_⟩)) (by omega) (by omega)
              · rw [p1] at q; exact g' (Or.inl (by omega))
              · rw [p2] at q; exact g' (Or.inr (by omega))
            · rw [if_neg g, nI_clamp (by omega), q2, znI fr, z6, nI_mul, nI_add, z2, nI_mul, nI_clamp (by omega)]
              have g' : (P.F 0 l).toNatClampNeg = b ∨ (P.F 1 l).toNatClampNeg = b := by
                by_cases w : (P.F 0 l).toNatClampNeg = b ∨ (P.F 1 l).toNatClampNeg = b
                · exact w
                · exact absurd (iff0.mpr w) g
              have st := zlaidM_hit (r0 := (P.F 2 l).toNatClampNeg) hlQ (by omega) hb48 (by omega) rlt (by
                rcases g' with w | w
                · exact Or.inl ⟨by rw [p1, w], fun q => by rw [p2] at q; omega⟩
                · exact Or.inr ⟨fun q => by rw [p1] at q; omega, by rw [p2, w]⟩) (fun r hr hne => ⟨fun q => by rw [p1] at q; omega, fun q => by rw [p2] at q; omega⟩)
              by_cases w : Q.F 6 (2 * (6 * b + (P.F 2 l).toNatClampNeg)) = -1
              · rw [if_pos w] at st ⊢
                rw [z1, nI_add]
                exact ih2 _ (l + 1) (hkQ.tr zk.set) st (by omega) (by omega)
              · rw [if_neg w] at st ⊢
                rw [z1, nI_add, nI_clamp (by omega), nI_add]
                exact ih2 _ (l + 1) (hkQ.tr zk.set) st (by omega) (by omega)
      rw [z0]
      exact inner 61 P' 0 hk hl (Nat.zero_le _) (by omega)

/-! casts as numbers -/
def zcast (a s n m : Nat) : Int32 := (((nI m <<< (16 &&& 31)) ||| (nI n <<< (9 &&& 31))) ||| (nI s <<< (3 &&& 31))) ||| nI a
theorem zbvN (x : Nat) (h : x < 2 ^ 32) : (nI x).toBitVec.toNat = x := by
  show (BitVec.ofNat 32 x).toNat = x
  rw [BitVec.toNat_ofNat]
  exact Nat.mod_eq_of_lt h
theorem zofN {x : Int32} {n : Nat} (h : x.toBitVec.toNat = n) : x = nI n := by
  apply Int32.toBitVec_inj.mp
  apply BitVec.eq_of_toNat_eq
  have hl : n < 2 ^ 32 := by rw [← h]; exact x.toBitVec.isLt
  rw [h, zbvN n hl]
theorem zshlN (x k : Nat) (sh : Int32) (hs : (sh.toBitVec.smod 32).toNat = k) (h : x * 2 ^ k < 2 ^ 32) (hx : x < 2 ^ 32) : (nI x <<< sh).toBitVec.toNat = x * 2 ^ k := by
  rw [Int32.toBitVec_shiftLeft, BitVec.shiftLeft_eq', hs, BitVec.toNat_shiftLeft, zbvN x hx, Nat.shiftLeft_eq]
  exact Nat.mod_eq_of_lt h
theorem zorN {a b i : Nat} (h : b < 2 ^ i) : a * 2 ^ i ||| b = a * 2 ^ i + b := by
  rw [← Nat.shiftLeft_eq]
  exact (Nat.shiftLeft_add_eq_or_of_lt h a).symm
theorem zcast_eq {a s n m : Nat} (ha : a ≤ 5) (hs : s ≤ 47) (hn : n ≤ 113) (hm : m ≤ 32767) : zcast a s n m = nI (m * 65536 + n * 512 + s * 8 + a) := by
  apply zofN
  unfold zcast
  rw [Int32.toBitVec_or, Int32.toBitVec_or, Int32.toBitVec_or, BitVec.toNat_or, BitVec.toNat_or, BitVec.toNat_or, zshlN m 16 _ (by decide) (by omega) (by omega), zshlN n 9 _ (by decide) (by omega) (by omega), zshlN s 3 _ (by decide) (by omega) (by omega), zbvN a (by omega)]
  rw [zorN (i := 16) (by omega : n * 2 ^ 9 < 2 ^ 16), show m * 2 ^ 16 + n * 2 ^ 9 = (m * 128 + n) * 2 ^ 9 by omega, zorN (i := 9) (by omega : s * 2 ^ 3 < 2 ^ 9), show (m * 128 + n) * 2 ^ 9 + s * 2 ^ 3 = (m * 8192 + n * 64 + s) * 2 ^ 3 by omega, zorN (i := 3) (by omega : a < 2 ^ 3)]
  (try omega)
theorem zandN (x k : Nat) (hx : x < 2 ^ 32) (hk : 2 ^ k - 1 < 2 ^ 32) : nI x &&& nI (2 ^ k - 1) = nI (x % 2 ^ k) := by
  apply zofN
  rw [Int32.toBitVec_and, BitVec.toNat_and, zbvN x hx, zbvN _ hk, Nat.and_two_pow_sub_one_eq_mod]
theorem zshrN (x k : Nat) (sh : Int32) (hs : (sh.toBitVec.smod 32) = BitVec.ofNat 32 k) (hk : k < 32) (hx : x < 2 ^ 31) : nI x >>> sh = nI (x / 2 ^ k) := by
  apply zofN
  rw [Int32.toBitVec_shiftRight, hs, BitVec.sshiftRight_eq', BitVec.toNat_ofNat, Nat.mod_eq_of_lt (by omega : k < 2 ^ 32)]
  have hm : (nI x).toBitVec.msb = false := by
    rw [BitVec.msb_eq_toInt]
    have h9 : (nI x).toInt = x := nI_toInt hx
    have h8 : (nI x).toBitVec.toInt = x := h9
    simp; omega
  rw [BitVec.sshiftRight_eq_of_msb_false hm, BitVec.toNat_ushiftRight, zbvN x (by omega), Nat.shiftRight_eq_div_pow]
theorem zc_kind {a s n m : Nat} (ha : a ≤ 5) (hs : s ≤ 47) (hn : n ≤ 113) (hm : m ≤ 32767) (P S : ZS) : fCA_kindOf P S (zcast a s n m) = nI a := by
  unfold fCA_kindOf
  simp only [zl]
  rw [zcast_eq ha hs hn hm, show (7 : Int32) = nI (2 ^ 3 - 1) by decide, zandN _ 3 (by omega) (by decide), show (m * 65536 + n * 512 + s * 8 + a) % 2 ^ 3 = a by omega]
theorem zc_src {a s n m : Nat} (ha : a ≤ 5) (hs : s ≤ 47) (hn : n ≤ 113) (hm : m ≤ 32767) (P S : ZS) : fCA_sourceOf P S (zcast a s n m) = nI s := by
  unfold fCA_sourceOf
  simp only [zl]
  rw [zcast_eq ha hs hn hm, zshrN _ 3 _ (by decide) (by decide) (by omega), show (63 : Int32) = nI (2 ^ 6 - 1) by decide, zandN _ 6 (by omega) (by decide), show (m * 65536 + n * 512 + s * 8 + a) / 2 ^ 3 % 2 ^ 6 = s by omega]
theorem zc_name {a s n m : Nat} (ha : a ≤ 5) (hs : s ≤ 47) (hn : n ≤ 113) (hm : m ≤ 32767) (P S : ZS) : fCA_nameOf P S (zcast a s n m) = nI n := by
  unfold fCA_nameOf
  simp only [zl]
  rw [zcast_eq ha hs hn hm, zshrN _ 9 _ (by decide) (by decide) (by omega), show (127 : Int32) = nI (2 ^ 7 - 1) by decide, zandN _ 7 (by omega) (by decide), show (m * 65536 + n * 512 + s * 8 + a) / 2 ^ 9 % 2 ^ 7 = n by omega]
theorem zc_num {a s n m : Nat} (ha : a ≤ 5) (hs : s ≤ 47) (hn : n ≤ 113) (hm : m ≤ 32767) (P S : ZS) : fCA_numberOf P S (zcast a s n m) = nI m := by
  unfold fCA_numberOf
  simp only [zl]
  rw [zcast_eq ha hs hn hm]
  apply zofN
  have e : ((nI (m * 65536 + n * 512 + s * 8 + a)).toUInt32 >>> ((16 : Int32).toUInt32 &&& Int32.toUInt32 31)).toInt32.toBitVec = (nI (m * 65536 + n * 512 + s * 8 + a)).toBitVec >>> (16 : Nat) := by
    show ((nI (m * 65536 + n * 512 + s * 8 + a)).toUInt32 >>> ((16 : Int32).toUInt32 &&& Int32.toUInt32 31)).toBitVec = _
    rw [UInt32.toBitVec_shiftRight, show (((16 : Int32).toUInt32 &&& Int32.toUInt32 31).toBitVec % 32) = BitVec.ofNat 32 16 by decide]
    rfl
  rw [e, BitVec.toNat_ushiftRight, zbvN _ (by omega), Nat.shiftRight_eq_div_pow]
  omega
theorem zc_of (P S : ZS) (a s n m : Nat) : fCA_of P S (nI a) (nI s) (nI n) (nI m) = zcast a s n m := rfl
theorem zc_ne {a s n m : Nat} (ha : a ≤ 5) (hs : s ≤ 47) (hn : n ≤ 113) (hm : m ≤ 32767) : ¬ zcast a s n m = -1 := by
  rw [zcast_eq ha hs hn hm]
  exact nI_ne (by omega)
/-! the two sides' states: what is compared -/
abbrev zprs : List (Nat × Nat) := [(8, 19), (9, 13), (10, 14), (11, 17), (12, 18), (13, 15), (14, 16), (17, 20), (18, 22), (19, 21), (23, 12)]
/-- rows that are one and the same -/
def zEq (S S' : ZS) : Prop := (∀ q ∈ zprs, S'.F q.1 = S.F q.2) ∧ S'.I 5 = S.I 9
theorem zFs (S : ZS) (k i : Nat) (v : Int32) (q : Nat) : (S.setF k i v).F q = if q = k then upd (S.F k) i v else S.F q := rfl
theorem zFsk (S : ZS) (k i : Nat) (v : Int32) : (S.setF k i v).F k = upd (S.F k) i v := by rw [zFs, if_pos rfl]
theorem zFsn (S : ZS) {k i : Nat} {v : Int32} {q : Nat} (h : q ≠ k) : (S.setF k i v).F q = S.F q := by rw [zFs, if_neg h]
theorem upd_at (f : Nat → Int32) (k : Nat) (v : Int32) : upd f k v k = v := if_pos rfl
theorem upd_ne (f : Nat → Int32) {k j : Nat} (v : Int32) (h : j ≠ k) : upd f k v j = f j := if_neg h
theorem upd_self (f : Nat → Int32) (k : Nat) : upd f k (f k) = f := by
  funext j
  unfold upd
  by_cases c : j = k
  · rw [if_pos c, c]
  · rw [if_neg c]
theorem zEq.s {S S' : ZS} {i : Nat} {v : Int32} (j k : Nat) (h : zEq S S') (m : ∀ q ∈ zprs, (q.1 = j ↔ q.2 = k)) : zEq (S.setF k i v) (S'.setF j i v) := by
  refine ⟨fun q hq => ?_, h.2⟩
  rw [zFs, zFs]
  by_cases c : q.1 = j
  · have c2 := (m q hq).mp c
    rw [if_pos c, if_pos c2, ← c, ← c2, h.1 q hq]
  · rw [if_neg c, if_neg (fun e => c ((m q hq).mpr e))]
    exact h.1 q hq
theorem zEq.lr {S S' : ZS} {k : Nat} {f : Nat → Int32} (h : zEq S S') (m : ∀ q ∈ zprs, q.2 ≠ k) : zEq (S.row k f) S' := by
  refine ⟨fun q hq => ?_, h.2⟩
  rw [ZS.row_ne S f (m q hq)]
  exact h.1 q hq
theorem zEq.l {S S' : ZS} {k i : Nat} {v : Int32} (h : zEq S S') (m : ∀ q ∈ zprs, q.2 ≠ k) : zEq (S.setF k i v) S' := h.lr m
theorem zEq.rr {S S' : ZS} {k : Nat} {f : Nat → Int32} (h : zEq S S') (m : ∀ q ∈ zprs, q.1 ≠ k) : zEq S (S'.row k f) := by
  refine ⟨fun q hq => ?_, h.2⟩
  rw [ZS.row_ne S' f (m q hq)]
  exact h.1 q hq
theorem zEq.r {S S' : ZS} {k i : Nat} {v : Int32} (h : zEq S S') (m : ∀ q ∈ zprs, q.1 ≠ k) : zEq S (S'.setF k i v) := h.rr m
theorem zIs (S : ZS) (t : Nat) (v : Int32) (q : Nat) : (S.setI t v).I q = if q = t then v else S.I q := rfl
theorem zIsn (S : ZS) {t q : Nat} {v : Int32} (h : q ≠ t) : (S.setI t v).I q = S.I q := by rw [zIs, if_neg h]
theorem zEq.li {S S' : ZS} {t : Nat} {v : Int32} (h : zEq S S') (m : 9 ≠ t) : zEq (S.setI t v) S' := ⟨h.1, by rw [zIsn S m]; exact h.2⟩
theorem zEq.ri {S S' : ZS} {t : Nat} {v : Int32} (h : zEq S S') (m : 5 ≠ t) : zEq S (S'.setI t v) := ⟨h.1, by rw [zIsn S' m]; exact h.2⟩
theorem zEq.fl {S S' T : ZS} {ws fs : List Nat} (h : zEq S S') (f : zfr 28 ws fs S T) (m : ∀ q ∈ zprs, min q.2 28 ∉ fs) (m2 : 9 ∉ ws) : zEq T S' := ⟨fun q hq => by rw [f.2 q.2 (m q hq)]; exact h.1 q hq, by rw [f.1 9 m2]; exact h.2⟩
theorem zEq.fR {S S' T' : ZS} {ws fs : List Nat} (h : zEq S S') (f : zfr 100 ws fs S' T') (m : ∀ q ∈ zprs, min q.1 100 ∉ fs) (m2 : 5 ∉ ws) : zEq S T' := ⟨fun q hq => by rw [f.2 q.1 (m q hq)]; exact h.1 q hq, by rw [f.1 5 m2]; exact h.2⟩
/-- a cast and its four numbers -/
def zpk (x a s n m : Int32) : Prop := ∃ a' s' n' m' : Nat, (a' ≤ 5 ∧ s' ≤ 47 ∧ n' ≤ 113 ∧ m' ≤ 32767) ∧ a = nI a' ∧ s = nI s' ∧ n = nI n' ∧ m = nI m' ∧ x = zcast a' s' n' m'
def zpkA (S S' : ZS) (i : Nat) : Prop := zpk (S.F 11 i) (S'.F 24 i) (S'.F 25 i) (S'.F 26 i) (S'.F 27 i)
/-- casts on the lanes -/
def zLn (S S' : ZS) : Prop := ∀ L : Nat, ∃ c : Nat, c ≤ 64 ∧ S.F 12 L = nI c ∧ ∀ k, k < c → zpkA S S' (64 * L + k)
/-- what was learned -/
def zov (e o w : Int32) : Prop := (e = -1 ∧ o = -1) ∨ ∃ x t : Nat, x < 60 ∧ t ≤ 20000 ∧ o = nI x ∧ w = nI t ∧ e = nI (60 * t + x)
def zOv (nb : Nat) (S S' : ZS) : Prop := ∀ b t, b < nb → t < 256 → zov (S.F (28 + b) t) (S'.F 20 (256 * b + t)) (S'.F 21 (256 * b + t))
/-- how much was stirred since -/
def zSt (tk : Prop) (c : Int32) (m K : Nat) (S S' : ZS) : Prop := ∃ e : Nat, m ≤ e ∧ e ≤ K ∧ S.I 10 + S.I 9 = c + nI e ∧ (tk → (S'.I 8 = 0 ↔ e = 0))
def zC (nb : Nat) (tk : Prop) (c : Int32) (m K : Nat) (S S' : ZS) : Prop := zEq S S' ∧ zLn S S' ∧ zOv nb S S' ∧ zSt tk c m K S S'
theorem zSt.mo {tk : Prop} {c : Int32} {m K m2 K2 : Nat} {S S' : ZS} (h : zSt tk c m K S S') (h1 : m2 ≤ m) (h2 : K ≤ K2) : zSt tk c m2 K2 S S' := by
  obtain ⟨e, a, b, d⟩ := h
  exact ⟨e, by omega, by omega, d⟩
theorem zC.mo {no : Nat} {tk : Prop} {c : Int32} {m K m2 K2 : Nat} {S S' : ZS} (h : zC no tk c m K S S') (h1 : m2 ≤ m) (h2 : K ≤ K2) : zC no tk c m2 K2 S S' := ⟨h.1, h.2.1, h.2.2.1, h.2.2.2.mo h1 h2⟩
theorem zC.g {no : Nat} {tk : Prop} {c : Int32} {m K : Nat} {S S' : ZS} (h : zC no tk c m K S S') (j k : Nat) (q : (j, k) ∈ zprs) : S'.F j = S.F k := h.1.1 (j, k) q
abbrev zokLl (k : Nat) : Prop := k ≠ 11 ∧ k ≠ 12 ∧ k < 28
abbrev zokRr (k : Nat) : Prop := k ≠ 20 ∧ k ≠ 21 ∧ k ≠ 24 ∧ k ≠ 25 ∧ k ≠ 26 ∧ k ≠ 27
theorem zLn.cg {S S' T T' : ZS} (h : zLn S S') (h1 : T.F 11 = S.F 11) (h2 : T.F 12 = S.F 12) (h3 : T'.F 24 = S'.F 24) (h4 : T'.F 25 = S'.F 25) (h5 : T'.F 26 = S'.F 26) (h6 : T'.F 27 = S'.F 27) : zLn T T' := by
  intro L
  obtain ⟨c, a, b, d⟩ := h L
  refine ⟨c, a, by rw [h2]; exact b, fun k hk => ?_⟩
  unfold zpkA
  rw [h1, h3, h4, h5, h6]
  exact d k hk
theorem zOv.cg {nb : Nat} {S S' T T' : ZS} (h : zOv nb S S') (h1 : ∀ k, T.F (28 + k) = S.F (28 + k)) (h3 : T'.F 20 = S'.F 20) (h4 : T'.F 21 = S'.F 21) : zOv nb T T' := by
  intro b t hb ht
  rw [h1, h3, h4]
  exact h b t hb ht
/-- the same write on both sides -/
theorem zC.s {no : Nat} {tk : Prop} {c : Int32} {m K : Nat} {S S' : ZS} {i : Nat} {v : Int32} (j k : Nat) (h : zC no tk c m K S S') (q : ∀ q ∈ zprs, (q.1 = j ↔ q.2 = k)) (hl : zokLl k) (hr : zokRr j) : zC no tk c m K (S.setF k i v) (S'.setF j i v) := by
  obtain ⟨l1, l2, l3⟩ := hl
  obtain ⟨r1, r2, r3, r4, r5, r6⟩ := hr
  refine ⟨h.1.s j k q, h.2.1.cg ?_ ?_ ?_ ?_ ?_ ?_, h.2.2.1.cg (fun b => ?_) ?_ ?_, h.2.2.2⟩
  · exact zFsn S (fun e => l1 e.symm)
  · exact zFsn S (fun e => l2 e.symm)
  · exact zFsn S' (fun e => r3 e.symm)
  · exact zFsn S' (fun e => r4 e.symm)
  · exact zFsn S' (fun e => r5 e.symm)
  · exact zFsn S' (fun e => r6 e.symm)
  · exact zFsn S (by omega)
  · exact zFsn S' (fun e => r1 e.symm)
  · exact zFsn S' (fun e => r2 e.symm)
theorem zC.l {no : Nat} {tk : Prop} {c : Int32} {m K : Nat} {S S' : ZS} {k i : Nat} {v : Int32} (h : zC no tk c m K S S') (q : ∀ q ∈ zprs, q.2 ≠ k) (hl : zokLl k) : zC no tk c m K (S.setF k i v) S' := by
  obtain ⟨l1, l2, l3⟩ := hl
  exact ⟨h.1.l q, h.2.1.cg (zFsn S (fun e => l1 e.symm)) (zFsn S (fun e => l2 e.symm)) rfl rfl rfl rfl, h.2.2.1.cg (fun b => zFsn S (by omega)) rfl rfl, h.2.2.2⟩
theorem zC.r {no : Nat} {tk : Prop} {c : Int32} {m K : Nat} {S S' : ZS} {k i : Nat} {v : Int32} (h : zC no tk c m K S S') (q : ∀ q ∈ zprs, q.1 ≠ k) (hr : zokRr k) : zC no tk c m K S (S'.setF k i v) := by
  obtain ⟨r1, r2, r3, r4, r5, r6⟩ := hr
  exact ⟨h.1.r q, h.2.1.cg rfl rfl (zFsn S' (fun e => r3 e.symm)) (zFsn S' (fun e => r4 e.symm)) (zFsn S' (fun e => r5 e.symm)) (zFsn S' (fun e => r6 e.symm)), h.2.2.1.cg (fun b => rfl) (zFsn S' (fun e => r1 e.symm)) (zFsn S' (fun e => r2 e.symm)), h.2.2.2⟩
theorem zC.li {no : Nat} {tk : Prop} {c : Int32} {m K : Nat} {S S' : ZS} {t : Nat} {v : Int32} (h : zC no tk c m K S S') (q : 9 ≠ t) (q2 : 10 ≠ t) : zC no tk c m K (S.setI t v) S' := by
  refine ⟨h.1.li q, h.2.1, h.2.2.1, ?_⟩
  obtain ⟨e, a, b, d, f⟩ := h.2.2.2
  exact ⟨e, a, b, by rw [zIsn S q, zIsn S q2]; exact d, f⟩
theorem zC.ri {no : Nat} {tk : Prop} {c : Int32} {m K : Nat} {S S' : ZS} {t : Nat} {v : Int32} (h : zC no tk c m K S S') (q : 5 ≠ t) (q2 : 8 ≠ t) : zC no tk c m K S (S'.setI t v) := by
  refine ⟨h.1.ri q, h.2.1, h.2.2.1, ?_⟩
  obtain ⟨e, a, b, d, f⟩ := h.2.2.2
  exact ⟨e, a, b, d, fun t9 => by rw [zIsn S' q2]; exact f t9⟩
/-- stirs, with the reference's flag -/
theorem zC.stir {no : Nat} {tk : Prop} {c : Int32} {m K : Nat} {S S' : ZS} (h : zC no tk c m K S S') : zC no tk c (m + 1) (K + 1) (S.setI 10 (S.I 10 + 1)) (S'.setI 8 1) := by
  refine ⟨(h.1.li (by decide)).ri (by decide), h.2.1, h.2.2.1, ?_⟩
  obtain ⟨e, a, b, d, f⟩ := h.2.2.2
  refine ⟨e + 1, by omega, by omega, ?_, fun _ => ⟨fun q => ?_, fun q => by omega⟩⟩
  · show S.I 10 + 1 + S.I 9 = _
    rw [← nI_1, ← Int32.add_assoc, ← d, Int32.add_assoc, Int32.add_comm 1, ← Int32.add_assoc]
  · exact absurd (show (1 : Int32) = 0 from q) (by decide)
/-- stirs, outside of ticks -/
theorem zC.stirn {no : Nat} {tk : Prop} {c : Int32} {m K : Nat} {S S' : ZS} (h : zC no tk c m K S S') (ht : ¬ tk) : zC no tk c (m + 1) (K + 1) (S.setI 10 (S.I 10 + 1)) S' := by
  refine ⟨h.1.li (by decide), h.2.1, h.2.2.1, ?_⟩
  obtain ⟨e, a, b, d, f⟩ := h.2.2.2
  refine ⟨e + 1, by omega, by omega, ?_, fun q => absurd q ht⟩
  show S.I 10 + 1 + S.I 9 = _
  rw [← nI_1, ← Int32.add_assoc, ← d, Int32.add_assoc, Int32.add_comm 1, ← Int32.add_assoc]
/-- one more is lost -/
theorem zC.lost {no : Nat} {tk : Prop} {c : Int32} {m K : Nat} {S S' : ZS} (h : zC no tk c m K S S') : zC no tk c m (K + 1) (S.setI 9 (S.I 9 + 1)) ((S'.setI 5 (S'.I 5 + 1)).setI 8 1) := by
  have h5 := h.1.2
  refine ⟨⟨h.1.1, ?_⟩, h.2.1, h.2.2.1, ?_⟩
  · show S'.I 5 + 1 = S.I 9 + 1
    rw [h5]
  obtain ⟨e, a, b, d, f⟩ := h.2.2.2
  refine ⟨e + 1, by omega, by omega, ?_, fun _ => ⟨fun q => ?_, fun q => by omega⟩⟩
  · show S.I 10 + (S.I 9 + 1) = _
    rw [← nI_1, ← Int32.add_assoc, ← Int32.add_assoc, ← d]
  · exact absurd (show (1 : Int32) = 0 from q) (by decide)

/-! the plan from the start on: ports and places on both sides -/
def zA (P : ZS) (nl k : Nat) : Option Nat := (zsp (zpl P) k (2 * nl)).1
def zB (P : ZS) (nl k : Nat) : Option Nat := (zsp (zpl P) k (2 * nl)).2
def zrg (P : ZS) (l : Nat) : Nat := (P.F 2 l).toNatClampNeg
def zGeo (P P' : ZS) (nb nl : Nat) : Prop :=
  zPn P nb nl ∧ zRP P P' ∧ zplace P nl ∧ (∀ q, q < 2 * nl → P.F 5 q = nI (zpl P q)) ∧
  (∀ k, k < 288 → P.F 7 (2 * k) = zO (zA P nl k) ∧ P.F 7 (2 * k + 1) = zO (zB P nl k)) ∧
  (∀ k, k < 6 * nb → P'.F 6 (2 * k) = zOl (zA P nl k) ∧ P'.F 6 (2 * k + 1) = zOl (zB P nl k)) ∧
  (∀ q, q < 2 * nl → zA P nl (zpl P q) = some q ∨ zB P nl (zpl P q) = some q) ∧
  (∀ r, r < 6 → (∃ l, l < nl ∧ zrg P l = r) → ∃ p b, p < 2 * nl ∧ b < nb ∧ P.F 6 r = nI p ∧ zpl P p = 6 * b + r ∧ P.F 3 r = nI b ∧ P.F 4 r = nI (p / 2)) ∧
  (∀ r, r < 6 → ¬ (∃ l, l < nl ∧ zrg P l = r) → P.F 6 r = -1)
theorem zGeo.nb {P P' : ZS} {nb nl : Nat} (g : zGeo P P' nb nl) : nb ≤ 48 := g.1.2.1
theorem zGeo.nl {P P' : ZS} {nb nl : Nat} (g : zGeo P P' nb nl) : nl ≤ 60 := g.1.2.2.2.1
theorem zA_in {P : ZS} {nl k a : Nat} (h : zA P nl k = some a) : a < 2 * nl ∧ zpl P a = k := (zsp_in (pl := zpl P) (k := k) (2 * nl)).1 a h
theorem zB_in {P : ZS} {nl k a : Nat} (h : zB P nl k = some a) : a < 2 * nl ∧ zpl P a = k ∧ ∃ c, zA P nl k = some c ∧ c < a := (zsp_in (pl := zpl P) (k := k) (2 * nl)).2 a h
/-- a port: its bridge, its ring, which end it is -/
theorem zprt {P P' : ZS} {nb nl q b r : Nat} (g : zGeo P P' nb nl) (hq : q < 2 * nl) (hk : zpl P q = 6 * b + r) (hr : r < 6) : b < nb ∧ P.F 2 (q / 2) = nI r ∧ P.F 5 q = nI (6 * b + r) ∧ ((q % 2 = 0 ∧ P.F 0 (q / 2) = nI b ∧ ¬ P.F 1 (q / 2) = nI b) ∨ (q % 2 = 1 ∧ ¬ P.F 0 (q / 2) = nI b ∧ P.F 1 (q / 2) = nI b)) := by
  obtain ⟨⟨hB, hb48, hL, hl60, hR, hE⟩, hr2, hpl, h5, -⟩ := g
  have hl : q / 2 < nl := by omega
  obtain ⟨a1, a2, a3, a4, a5⟩ := hE (q / 2) hl
  obtain ⟨p1, p2⟩ := hpl (q / 2) hl
  have fr : zr 0 5 (P.F 2 (q / 2)) := hR _
  have f1 := fr.1
  have f2 := fr.2
  have rl : (P.F 2 (q / 2)).toNatClampNeg < 6 := by
    show (P.F 2 (q / 2)).toInt.toNat < 6
    omega
  have e2 : P.F 2 (q / 2) = nI (P.F 2 (q / 2)).toNatClampNeg := znI fr
  have eA : P.F 0 (q / 2) = nI (P.F 0 (q / 2)).toNatClampNeg := znI a4
  have eB : P.F 1 (q / 2) = nI (P.F 1 (q / 2)).toNatClampNeg := znI a5
  have n5 := h5 q hq
  rw [hk] at n5
  rcases Nat.mod_two_eq_zero_or_one q with c | c
  · have eq : q = 2 * (q / 2) := by omega
    rw [← eq, hk] at p1
    have e1 : (P.F 0 (q / 2)).toNatClampNeg = b := by omega
    have e3 : (P.F 2 (q / 2)).toNatClampNeg = r := by omega
    rw [e1] at eA
    rw [e3] at e2
    exact ⟨by omega, e2, n5, Or.inl ⟨c, eA, fun h => a3 (by rw [eA, h])⟩⟩
  · have eq : q = 2 * (q / 2) + 1 := by omega
    rw [← eq, hk] at p2
    have e1 : (P.F 1 (q / 2)).toNatClampNeg = b := by omega
    have e3 : (P.F 2 (q / 2)).toNatClampNeg = r := by omega
    rw [e1] at eB
    rw [e3] at e2
    exact ⟨by omega, e2, n5, Or.inr ⟨c, fun h => a3 (by rw [eB, h]), eB⟩⟩
theorem zrg_of {P P' : ZS} {nb nl q b r : Nat} (g : zGeo P P' nb nl) (hq : q < 2 * nl) (hk : zpl P q = 6 * b + r) (hr : r < 6) : ∃ l, l < nl ∧ zrg P l = r := ⟨q / 2, by omega, by
  unfold zrg
  rw [(zprt g hq hk hr).2.1, nI_clamp (by omega)]⟩
theorem zn_end {P P' : ZS} {nb nl q b r : Nat} (g : zGeo P P' nb nl) (hq : q < 2 * nl) (hk : zpl P q = 6 * b + r) (hr : r < 6) (S : ZS) : fMO_end P' S (nI b) (nI (q / 2)) = nI q := by
  have hl := g.nl
  obtain ⟨-, -, -, h⟩ := zprt g hq hk hr
  have z2 : (2 : Int32) = nI 2 := by decide
  have z0 : (0 : Int32) = nI 0 := by decide
  unfold fMO_end fMO_end_18
  simp only [zl]
  rw [g.2.1.2.2.1, nI_clamp (by omega)]
  rcases h with ⟨c, h0, -⟩ | ⟨c, h0, -⟩
  · rw [if_pos h0, z2, nI_mul, z0, nI_add]
    congr 1
    omega
  · rw [if_neg h0, z2, nI_mul, nI_1]
    congr 1
    omega
/-- holds set at a port of place k -/
def zhs (k q : Nat) (v : Int32) (S : ZS) : ZS := if S.F 14 q = v then S else ((S.setF 14 q v).setF 16 k 0).setI 11 1
def zhm (k q : Nat) (v : Int32) (S : ZS) : ZS := if S.F 10 q = v then S else (S.setF 10 q v).setF 14 k 0
theorem zn_set {P P' : ZS} {nb nl q b r : Nat} (g : zGeo P P' nb nl) (hq : q < 2 * nl) (hk : zpl P q = 6 * b + r) (hr : r < 6) (S : ZS) (v : Int32) : fPR_setHolds P S (nI q) v = zhs (6 * b + r) q v S := by
  have hl := g.nl
  have hn := g.nb
  obtain ⟨hb, -, h5, -⟩ := zprt g hq hk hr
  unfold fPR_setHolds zhs
  simp only [zl]
  rw [nI_clamp (by omega), h5, nI_clamp (by omega)]
theorem zn_chg {P P' : ZS} {nb nl q b r : Nat} (g : zGeo P P' nb nl) (hq : q < 2 * nl) (hk : zpl P q = 6 * b + r) (hr : r < 6) (S : ZS) (v : Int32) : fMO_change P' S (nI b) (nI (q / 2)) v = zhm (6 * b + r) q v S := by
  have hl := g.nl
  have hn := g.nb
  obtain ⟨hb, h2, -, -⟩ := zprt g hq hk hr
  have z6 : (6 : Int32) = nI 6 := by decide
  unfold fMO_change zhm fMO_at
  simp only [zl]
  rw [zn_end g hq hk hr, nI_clamp (by omega), g.2.1.2.2.2.2.1, nI_clamp (by omega), h2, z6, nI_mul, nI_add, nI_clamp (by omega)]
theorem zC.hold {no : Nat} {tk : Prop} {c : Int32} {m K : Nat} {S S' : ZS} (h : zC no tk c m K S S') (k q : Nat) (v : Int32) : zC no tk c m K (zhs k q v S) (zhm k q v S') := by
  unfold zhs zhm
  rw [h.g 10 14 (by decide)]
  by_cases d : S.F 14 q = v
  · rw [if_pos d, if_pos d]; exact h
  · rw [if_neg d, if_neg d]
    exact ((h.s 10 14 (by decide) (by decide) (by decide)).s 14 16 (by decide) (by decide) (by decide)).li (by decide) (by decide)
theorem zhs_F {k q : Nat} {v : Int32} {S : ZS} : (zhs k q v S).F 14 = upd (S.F 14) q v := by
  unfold zhs
  by_cases d : S.F 14 q = v
  · rw [if_pos d, ← d, upd_self]
  · rw [if_neg d]; rfl
theorem zhs_n {k q : Nat} {v : Int32} {S : ZS} {j : Nat} (h1 : j ≠ 14) (h2 : j ≠ 16) : (zhs k q v S).F j = S.F j := by
  unfold zhs
  by_cases d : S.F 14 q = v
  · rw [if_pos d]
  · rw [if_neg d]
    show ((S.setF 14 q v).setF 16 k 0).F j = _
    rw [zFsn _ h2, zFsn _ h1]
theorem zhs_16 {k q : Nat} {v : Int32} {S : ZS} (j : Nat) : (zhs k q v S).F 16 j = S.F 16 j ∨ (zhs k q v S).F 16 j = 0 := by
  unfold zhs
  by_cases d : S.F 14 q = v
  · rw [if_pos d]; exact Or.inl rfl
  · rw [if_neg d]
    have e9 : (((S.setF 14 q v).setF 16 k 0).setI 11 1).F 16 j = if j = k then 0 else S.F 16 j := by
      show ((S.setF 14 q v).setF 16 k 0).F 16 j = _
      rw [zFsk]
      unfold upd
      rw [zFsn _ (by decide)]
    rw [e9]
    by_cases e : j = k
    · rw [if_pos e]; exact Or.inr rfl
    · rw [if_neg e]; exact Or.inl rfl
theorem zhs_I {k q : Nat} {v : Int32} {S : ZS} {t : Nat} (h : t ≠ 11) : (zhs k q v S).I t = S.I t := by
  unfold zhs
  by_cases d : S.F 14 q = v
  · rw [if_pos d]
  · rw [if_neg d]
    exact zIsn _ h
theorem zhm_F {k q : Nat} {v : Int32} {S : ZS} : (zhm k q v S).F 10 = upd (S.F 10) q v := by
  unfold zhm
  by_cases d : S.F 10 q = v
  · rw [if_pos d, ← d, upd_self]
  · rw [if_neg d]; rfl
theorem zhm_n {k q : Nat} {v : Int32} {S : ZS} {j : Nat} (h1 : j ≠ 10) (h2 : j ≠ 14) : (zhm k q v S).F j = S.F j := by
  unfold zhm
  by_cases d : S.F 10 q = v
  · rw [if_pos d]
  · rw [if_neg d, zFsn _ h2, zFsn _ h1]
theorem zhm_I {k q : Nat} {v : Int32} {S : ZS} : (zhm k q v S).I = S.I := by
  unfold zhm
  by_cases d : S.F 10 q = v
  · rw [if_pos d]
  · rw [if_neg d]; rfl
theorem zhm_self {k q : Nat} {S : ZS} : zhm k q (S.F 10 q) S = S := if_pos rfl
theorem zhs_self {k q : Nat} {S : ZS} : zhs k q (S.F 14 q) S = S := if_pos rfl
/-! loops over a place's two ports, the class's -/
theorem zO_ne {a : Nat} (h : a < 1000) : ¬ zO (some a) = -1 := nI_ne (by omega)
theorem zOl_ne {a : Nat} (h : a < 1000) : ¬ zOl (some a) = -1 := nI_ne (by show a / 2 < 2 ^ 31; omega)
noncomputable def zw1 (P S : ZS) (x : Nat) : ZS := if P.F 7 x = -1 then S else fPR_setHolds P S (P.F 7 x) (S.F 14 (P.F 7 x).toNatClampNeg &&& (-9))
theorem zew1 (P : ZS) (rc : ZS → Int32 → Int32 → ZS) (S : ZS) {k x : Nat} (hk : k < 288) (hx : x ≤ 2 * k + 1) : fPR_endWaiting_4 P rc S (nI k) (nI x) = rc (zw1 P S x) (nI k) (nI (x + 1)) := by
  have z2 : (2 : Int32) = nI 2 := by decide
  unfold fPR_endWaiting_4 fPR_endWaiting_42 zw1
  simp only [zl]
  rw [z2, nI_mul, nI_1, if_neg (nI_nlt (by omega) (by omega)), nI_clamp (by omega), nI_1]
  by_cases c : P.F 7 x = -1
  · rw [if_pos c, if_pos c]
  · rw [if_neg c, if_neg c]
theorem zew2 (P : ZS) (rc : ZS → Int32 → Int32 → ZS) (S : ZS) {k : Nat} (hk : k < 288) : fPR_endWaiting_4 P rc S (nI k) (nI (2 * k + 1 + 1)) = S := by
  have z2 : (2 : Int32) = nI 2 := by decide
  unfold fPR_endWaiting_4
  simp only [zl]
  rw [z2, nI_mul, nI_1, if_pos (nI_lt (by omega) (by omega))]
theorem zew (P S : ZS) {k : Nat} (hk : k < 288) : fPR_endWaiting P S (nI k) = zw1 P (zw1 P S (2 * k)) (2 * k + 1) := by
  have z2 : (2 : Int32) = nI 2 := by decide
  unfold fPR_endWaiting
  simp only [zl]
  rw [z2, nI_mul, show (577 : Nat) = 574 + 1 + 1 + 1 from rfl, zfix_s, zew1 P _ S hk (by omega), zfix_s, zew1 P _ _ hk (by omega), zfix_s, zew2 P _ _ hk]
/-- WAITING ends at a port, if there is one -/
def zwO (k : Nat) (o : Option Nat) (S : ZS) : ZS := match o with
  | none => S
  | some a => zhs k a (S.F 14 a &&& (-9)) S
theorem zw1_O {P P' : ZS} {nb nl b r x : Nat} (g : zGeo P P' nb nl) (hr : r < 6) {o : Option Nat} (ho : ∀ a, o = some a → a < 2 * nl ∧ zpl P a = 6 * b + r) (hx : P.F 7 x = zO o) (S : ZS) : zw1 P S x = zwO (6 * b + r) o S := by
  have hl := g.nl
  unfold zw1
  rw [hx]
  cases o with
  | none => exact if_pos rfl
  | some a =>
    obtain ⟨h1, h2⟩ := ho a rfl
    rw [if_neg (zO_ne (by omega))]
    show fPR_setHolds P S (nI a) (S.F 14 (nI a).toNatClampNeg &&& (-9)) = zhs (6 * b + r) a (S.F 14 a &&& (-9)) S
    rw [nI_clamp (by omega), zn_set g h1 h2 hr]
theorem zew_g {P P' : ZS} {nb nl b r : Nat} (g : zGeo P P' nb nl) (hb : b < nb) (hr : r < 6) (S : ZS) : fPR_endWaiting P S (nI (6 * b + r)) = zwO (6 * b + r) (zB P nl (6 * b + r)) (zwO (6 * b + r) (zA P nl (6 * b + r)) S) := by
  have hn := g.nb
  obtain ⟨f1, f2⟩ := g.2.2.2.2.1 (6 * b + r) (by omega)
  rw [zew P S (by omega), zw1_O g hr (fun a h => zA_in h) f1, zw1_O g hr (fun a h => ⟨(zB_in h).1, (zB_in h).2.1⟩) f2]
/-! the reference's -/
theorem zat (P S : ZS) (b r : Nat) : fMO_at P S (nI b) (nI r) = nI (6 * b + r) := by
  have z6 : (6 : Int32) = nI 6 := by decide
  unfold fMO_at
  simp only [zl]
  rw [z6, nI_mul, nI_add]
noncomputable def zv1 (P S : ZS) (b r s : Int32) (x : Nat) : ZS := if P.F 6 x = -1 then S else fMO_change P S b (P.F 6 x) (S.F 10 (fMO_end P S b (P.F 6 x)).toNatClampNeg &&& (s ^^^ (-1)))
theorem zea1 (P : ZS) (rc : ZS → Int32 → Int32 → Int32 → Int32 → ZS) (S : ZS) (s : Int32) {b r i : Nat} (hb : b < 48) (hr : r < 6) (hi : i < 2) : fMO_endAll_3 P rc S (nI b) (nI r) s (nI i) = rc (zv1 P S (nI b) (nI r) s (2 * (6 * b + r) + i)) (nI b) (nI r) s (nI (i + 1)) := by
  have z2 : (2 : Int32) = nI 2 := by decide
  have z6 : (6 : Int32) = nI 6 := by decide
  unfold fMO_endAll_3 fMO_endAll_55 zv1
  simp only [zl]
  rw [zat, z2, if_neg (nI_ge (by omega) (by omega)), nI_mul, nI_add, nI_clamp (by omega), nI_1]
  by_cases c : P.F 6 (2 * (6 * b + r) + i) = -1
  · rw [if_pos c, if_pos c]
  · rw [if_neg c, if_neg c]
theorem zea2 (P : ZS) (rc : ZS → Int32 → Int32 → Int32 → Int32 → ZS) (S : ZS) (s b r : Int32) : fMO_endAll_3 P rc S b r s (nI (0 + 1 + 1)) = S := by
  unfold fMO_endAll_3
  rw [if_pos (by decide)]
theorem zea (P S : ZS) (s : Int32) {b r : Nat} (hb : b < 48) (hr : r < 6) : fMO_endAll P S (nI b) (nI r) s = zv1 P (zv1 P S (nI b) (nI r) s (2 * (6 * b + r) + 0)) (nI b) (nI r) s (2 * (6 * b + r) + (0 + 1)) := by
  have z0 : (0 : Int32) = nI 0 := by decide
  unfold fMO_endAll
  rw [z0, show (3 : Nat) = 0 + 1 + 1 + 1 from rfl, zfix_s, zea1 P _ S s hb hr (by omega), zfix_s, zea1 P _ _ s hb hr (by omega), zfix_s, zea2]
def zvO (k : Nat) (s : Int32) (o : Option Nat) (S : ZS) : ZS := match o with
  | none => S
  | some a => zhm k a (S.F 10 a &&& (s ^^^ (-1))) S
theorem zv1_O {P P' : ZS} {nb nl b r x : Nat} (g : zGeo P P' nb nl) (hr : r < 6) {o : Option Nat} (ho : ∀ a, o = some a → a < 2 * nl ∧ zpl P a = 6 * b + r) (hx : P'.F 6 x = zOl o) (S : ZS) (s : Int32) : zv1 P' S (nI b) (nI r) s x = zvO (6 * b + r) s o S := by
  have hl := g.nl
  unfold zv1
  rw [hx]
  cases o with
  | none => exact if_pos rfl
  | some a =>
    obtain ⟨h1, h2⟩ := ho a rfl
    rw [if_neg (zOl_ne (by omega))]
    show fMO_change P' S (nI b) (nI (a / 2)) (S.F 10 (fMO_end P' S (nI b) (nI (a / 2))).toNatClampNeg &&& (s ^^^ (-1))) = zhm (6 * b + r) a (S.F 10 a &&& (s ^^^ (-1))) S
    rw [zn_end g h1 h2 hr, nI_clamp (by omega), zn_chg g h1 h2 hr]
theorem zea_g {P P' : ZS} {nb nl b r : Nat} (g : zGeo P P' nb nl) (hb : b < nb) (hr : r < 6) (S : ZS) (s : Int32) : fMO_endAll P' S (nI b) (nI r) s = zvO (6 * b + r) s (zB P nl (6 * b + r)) (zvO (6 * b + r) s (zA P nl (6 * b + r)) S) := by
  have hn := g.nb
  obtain ⟨f1, f2⟩ := g.2.2.2.2.2.1 (6 * b + r) (by omega)
  rw [zea P' S s (by omega) hr, zv1_O g hr (fun a h => zA_in h) (show P'.F 6 (2 * (6 * b + r) + 0) = _ from f1), zv1_O g hr (fun a h => ⟨(zB_in h).1, (zB_in h).2.1⟩) (show P'.F 6 (2 * (6 * b + r) + (0 + 1)) = _ from f2)]
theorem zC.wO {no : Nat} {tk : Prop} {c : Int32} {m K : Nat} {S S' : ZS} (h : zC no tk c m K S S') (k : Nat) (o : Option Nat) : zC no tk c m K (zwO k o S) (zvO k 8 o S') := by
  cases o with
  | none => exact h
  | some a =>
    show zC no tk c m K (zhs k a (S.F 14 a &&& (-9)) S) (zhm k a (S'.F 10 a &&& (8 ^^^ (-1))) S')
    rw [h.g 10 14 (by decide), show ((8 : Int32) ^^^ (-1)) = -9 by decide]
    exact h.hold k a _
/-- WAITING ends at a place, on both sides -/
theorem zC.ew {no : Nat} {P P' : ZS} {nb nl b r : Nat} {tk : Prop} {c : Int32} {m K : Nat} {S S' : ZS} (h : zC no tk c m K S S') (g : zGeo P P' nb nl) (hb : b < nb) (hr : r < 6) : zC no tk c m K (fPR_endWaiting P S (nI (6 * b + r))) (fMO_endAll P' S' (nI b) (nI r) 8) := by
  rw [zew_g g hb hr, zea_g g hb hr]
  exact (h.wO _ _).wO _ _

/-! bits -/
theorem zbx {x y : Int32} (h : ∀ i, i < 32 → x.toBitVec.getLsbD i = y.toBitVec.getLsbD i) : x = y := by
  apply Int32.toBitVec_inj.mp
  apply BitVec.eq_of_getLsbD_eq
  exact h
theorem zb0 (i : Nat) : (0 : Int32).toBitVec.getLsbD i = false := BitVec.getLsbD_zero
theorem zdist (x y m : Int32) : (x ||| y) &&& m = (x &&& m) ||| (y &&& m) := zbx (fun i hi => by
  rw [Int32.toBitVec_and, Int32.toBitVec_or, Int32.toBitVec_or, Int32.toBitVec_and, Int32.toBitVec_and]
  rw [BitVec.getLsbD_and, BitVec.getLsbD_or, BitVec.getLsbD_or, BitVec.getLsbD_and, BitVec.getLsbD_and]
  cases x.toBitVec.getLsbD i <;> cases y.toBitVec.getLsbD i <;> cases m.toBitVec.getLsbD i <;> rfl)
theorem zor0 (x y : Int32) : x ||| y = 0 ↔ x = 0 ∧ y = 0 := by
  constructor
  · intro h
    have h' := congrArg Int32.toBitVec h
    rw [Int32.toBitVec_or] at h'
    have k : ∀ i, (x.toBitVec.getLsbD i || y.toBitVec.getLsbD i) = false := fun i => by
      have := congrArg (fun z : BitVec 32 => z.getLsbD i) h'
      rw [← zb0 i, ← BitVec.getLsbD_or]
      exact this
    refine ⟨zbx (fun i hi => ?_), zbx (fun i hi => ?_)⟩
    · rw [zb0]
      have := k i
      revert this
      cases x.toBitVec.getLsbD i <;> simp
    · rw [zb0]
      have := k i
      revert this
      cases y.toBitVec.getLsbD i <;> simp
  · rintro ⟨rfl, rfl⟩
    decide
theorem zorm0 (x y s : Int32) : (x ||| y) &&& s = 0 ↔ x &&& s = 0 ∧ y &&& s = 0 := by rw [zdist, zor0]
theorem zand0 (s : Int32) : (0 : Int32) &&& s = 0 := zbx (fun i hi => by
  rw [Int32.toBitVec_and, BitVec.getLsbD_and, zb0, Bool.false_and])
theorem zsubm {x y : Int32} {M N : Int32} (h : x &&& M = y &&& M) (hm : M &&& N = N) : x &&& N = y &&& N := by
  have t : x &&& M &&& N = y &&& M &&& N := congrArg (fun z => z &&& N) h
  rw [Int32.and_assoc, Int32.and_assoc, hm] at t
  exact t
theorem zkand {v w M : Int32} (h : w &&& M = M) : (v &&& w) &&& M = v &&& M := by rw [Int32.and_assoc, h]
theorem zkor {v w M : Int32} (h : w &&& M = 0) : (v ||| w) &&& M = v &&& M := by
  rw [zdist, h]
  exact zbx (fun i hi => by rw [Int32.toBitVec_or, BitVec.getLsbD_or, zb0, Bool.or_false])
theorem zand_all (x : Int32) : x &&& (-1) = x := zbx (fun i hi => by
  have h4 : (-1 : Int32).toBitVec.getLsbD i = true := (show ∀ i, i < 32 → (-1 : Int32).toBitVec.getLsbD i = true by decide) i hi
  rw [Int32.toBitVec_and, BitVec.getLsbD_and, h4, Bool.and_true])
theorem zclr {x M w : Int32} (hm : M ||| w = -1) (h : x &&& M = 0) : x &&& w = x := by
  have e : (M ||| w) &&& x = (M &&& x) ||| (w &&& x) := zdist M w x
  rw [hm, Int32.and_comm (-1), zand_all, Int32.and_comm M, h, Int32.and_comm w] at e
  have z : (0 : Int32) ||| (x &&& w) = x &&& w := zbx (fun i hi => by rw [Int32.toBitVec_or, BitVec.getLsbD_or, zb0, Bool.false_or])
  rw [z] at e
  exact e.symm
/-- the bits of x that are in 6, taken out -/
theorem zout (x M : Int32) : (x &&& ((x &&& 6) ^^^ (-1))) &&& M = x &&& ((6 : Int32) ^^^ (-1)) &&& M := by
  congr 1
  refine zbx (fun i hi => ?_)
  have h4 : (-1 : Int32).toBitVec.getLsbD i = true := (show ∀ i, i < 32 → (-1 : Int32).toBitVec.getLsbD i = true by decide) i hi
  rw [Int32.toBitVec_and, Int32.toBitVec_xor, Int32.toBitVec_and, Int32.toBitVec_and, Int32.toBitVec_xor]
  rw [BitVec.getLsbD_and, BitVec.getLsbD_xor, BitVec.getLsbD_and, BitVec.getLsbD_and, BitVec.getLsbD_xor, h4]
  cases x.toBitVec.getLsbD i <;> cases (6 : Int32).toBitVec.getLsbD i <;> rfl
/-! all holds of a place -/
def zhO (h : Nat → Int32) (o : Option Nat) : Int32 := match o with
  | none => 0
  | some a => h a
noncomputable def zh1 (P S : ZS) (x : Nat) : Int32 := if P.F 7 x = -1 then 0 else S.F 14 (P.F 7 x).toNatClampNeg
theorem zah1 (P S : ZS) (rc : Int32 → Int32 → Int32 → Int32) {k x : Nat} (v : Int32) (hk : k < 288) (hx : x ≤ 2 * k + 1) : fPR_allHolds_6 P S rc (nI k) v (nI x) = rc (nI k) (v ||| zh1 P S x) (nI (x + 1)) := by
  have z2 : (2 : Int32) = nI 2 := by decide
  unfold fPR_allHolds_6 fPR_allHolds_44 zh1
  simp only [zl]
  rw [z2, nI_mul, nI_1, if_neg (nI_nlt (by omega) (by omega)), nI_clamp (by omega), nI_1]
  by_cases c : P.F 7 x = -1
  · rw [if_pos c, if_pos c]
  · rw [if_neg c, if_neg c]
theorem zah2 (P S : ZS) (rc : Int32 → Int32 → Int32 → Int32) {k : Nat} (v : Int32) (hk : k < 288) : fPR_allHolds_6 P S rc (nI k) v (nI (2 * k + 1 + 1)) = v := by
  have z2 : (2 : Int32) = nI 2 := by decide
  unfold fPR_allHolds_6
  simp only [zl]
  rw [z2, nI_mul, nI_1, if_pos (nI_lt (by omega) (by omega))]
theorem zh1_O {P S : ZS} {x : Nat} {o : Option Nat} (hx : P.F 7 x = zO o) (ho : ∀ a, o = some a → a < 1000) : zh1 P S x = zhO (S.F 14) o := by
  unfold zh1
  rw [hx]
  cases o with
  | none => exact if_pos rfl
  | some a =>
    have h1 := ho a rfl
    rw [if_neg (zO_ne h1)]
    show S.F 14 (nI a).toNatClampNeg = S.F 14 a
    rw [nI_clamp (by omega)]
theorem zah_g {P P' : ZS} {nb nl b r : Nat} (g : zGeo P P' nb nl) (hb : b < nb) (hr : r < 6) (S : ZS) : fPR_allHolds P S (nI (6 * b + r)) = (0 ||| zhO (S.F 14) (zA P nl (6 * b + r))) ||| zhO (S.F 14) (zB P nl (6 * b + r)) := by
  have hn := g.nb
  have hl := g.nl
  have z2 : (2 : Int32) = nI 2 := by decide
  obtain ⟨f1, f2⟩ := g.2.2.2.2.1 (6 * b + r) (by omega)
  unfold fPR_allHolds
  simp only [zl]
  rw [z2, nI_mul, show (577 : Nat) = 574 + 1 + 1 + 1 from rfl, zfix_s, zah1 P S _ _ (by omega) (by omega), zfix_s, zah1 P S _ _ (by omega) (by omega), zfix_s, zah2 P S _ _ (by omega), zh1_O f1 (fun a h => by have := (zA_in h).1; omega), zh1_O f2 (fun a h => by have := (zB_in h).1; omega)]
noncomputable def zt1 (P S : ZS) (b s : Int32) (x : Nat) : Int32 := if P.F 6 x = -1 then 0 else S.F 10 (fMO_end P S b (P.F 6 x)).toNatClampNeg &&& s
theorem zhas1 (P S : ZS) (rc : Int32 → Int32 → Int32 → Int32 → Int32 → Int32) (s v : Int32) {b r i : Nat} (hb : b < 48) (hr : r < 6) (hi : i < 2) : fMO_has_6 P S rc (nI b) (nI r) s v (nI i) = rc (nI b) (nI r) s (if v = 0 ∧ zt1 P S (nI b) s (2 * (6 * b + r) + i) = 0 then 0 else 1) (nI (i + 1)) := by
  have z2 : (2 : Int32) = nI 2 := by decide
  have z6 : (6 : Int32) = nI 6 := by decide
  unfold fMO_has_6 fMO_has_57 fMO_has_61 fMO_has_62 zt1
  simp only [zl]
  rw [zat, z2, if_neg (nI_ge (by omega) (by omega)), nI_mul, nI_add, nI_clamp (by omega), nI_1]
  by_cases c : v = 0
  · rw [if_pos c]
    by_cases d : P.F 6 (2 * (6 * b + r) + i) = -1
    · rw [if_pos d, if_pos d, if_pos ⟨c, rfl⟩]
    · rw [if_neg d, if_neg d]
      by_cases e : S.F 10 (fMO_end P S (nI b) (P.F 6 (2 * (6 * b + r) + i))).toNatClampNeg &&& s = 0
      · rw [if_pos e, if_pos ⟨c, e⟩]
      · rw [if_neg e, if_neg (fun q => e q.2)]
  · rw [if_neg c, if_neg (fun q => c q.1)]
theorem zhas2 (P S : ZS) (rc : Int32 → Int32 → Int32 → Int32 → Int32 → Int32) (b r s v : Int32) : fMO_has_6 P S rc b r s v (nI (0 + 1 + 1)) = v := by
  unfold fMO_has_6
  rw [if_pos (by decide)]
theorem zt1_O {P P' : ZS} {nb nl b r x : Nat} (g : zGeo P P' nb nl) (hr : r < 6) {o : Option Nat} (ho : ∀ a, o = some a → a < 2 * nl ∧ zpl P a = 6 * b + r) (hx : P'.F 6 x = zOl o) (S : ZS) (s : Int32) : zt1 P' S (nI b) s x = zhO (S.F 10) o &&& s := by
  have hl := g.nl
  unfold zt1
  rw [hx]
  cases o with
  | none => rw [show zOl none = -1 from rfl, if_pos rfl]; exact (zand0 s).symm
  | some a =>
    obtain ⟨h1, h2⟩ := ho a rfl
    rw [if_neg (zOl_ne (by omega))]
    show S.F 10 (fMO_end P' S (nI b) (nI (a / 2))).toNatClampNeg &&& s = S.F 10 a &&& s
    rw [zn_end g h1 h2 hr, nI_clamp (by omega)]
theorem zhas_g {P P' : ZS} {nb nl b r : Nat} (g : zGeo P P' nb nl) (hb : b < nb) (hr : r < 6) (S : ZS) (s : Int32) : fMO_has P' S (nI b) (nI r) s = 0 ↔ (zhO (S.F 10) (zA P nl (6 * b + r)) &&& s = 0 ∧ zhO (S.F 10) (zB P nl (6 * b + r)) &&& s = 0) := by
  have hn := g.nb
  have z0 : (0 : Int32) = nI 0 := by decide
  obtain ⟨f1, f2⟩ := g.2.2.2.2.2.1 (6 * b + r) (by omega)
  have e : fMO_has P' S (nI b) (nI r) s = if (if (0 : Int32) = 0 ∧ zt1 P' S (nI b) s (2 * (6 * b + r) + 0) = 0 then (0 : Int32) else 1) = 0 ∧ zt1 P' S (nI b) s (2 * (6 * b + r) + (0 + 1)) = 0 then 0 else 1 := by
    unfold fMO_has
    rw [show (fun _ _ _ _ _ => (0 : Int32)) = (fun _ _ _ _ _ => (0 : Int32)) from rfl]
    rw [show zfix (fun _ _ _ _ _ => (0 : Int32)) (fMO_has_6 P' S) 3 (nI b) (nI r) s 0 0 = zfix (fun _ _ _ _ _ => (0 : Int32)) (fMO_has_6 P' S) (0 + 1 + 1 + 1) (nI b) (nI r) s 0 (nI 0) from rfl, zfix_s, zhas1 P' S _ s _ (by omega) hr (by omega), zfix_s, zhas1 P' S _ s _ (by omega) hr (by omega), zfix_s, zhas2]
  rw [e, zt1_O g hr (fun a h => zA_in h) (show P'.F 6 (2 * (6 * b + r) + 0) = _ from f1), zt1_O g hr (fun a h => ⟨(zB_in h).1, (zB_in h).2.1⟩) (show P'.F 6 (2 * (6 * b + r) + (0 + 1)) = _ from f2)]
  by_cases c : zhO (S.F 10) (zA P nl (6 * b + r)) &&& s = 0
  · rw [if_pos (show (0 : Int32) = 0 ∧ zhO (S.F 10) (zA P nl (6 * b + r)) &&& s = 0 from ⟨rfl, c⟩)]
    by_cases d : zhO (S.F 10) (zB P nl (6 * b + r)) &&& s = 0
    · rw [if_pos ⟨rfl, d⟩]; exact ⟨fun _ => ⟨c, d⟩, fun _ => rfl⟩
    · rw [if_neg (fun q => d q.2)]; exact ⟨fun q => absurd q (by decide), fun q => absurd q.2 d⟩
  · have n1 : ¬ ((0 : Int32) = 0 ∧ zhO (S.F 10) (zA P nl (6 * b + r)) &&& s = 0) := fun q => c q.2
    have n2 : ¬ ((1 : Int32) = 0 ∧ zhO (S.F 10) (zB P nl (6 * b + r)) &&& s = 0) := fun q => absurd q.1 (by decide)
    rw [if_neg n1, if_neg n2]
    exact ⟨fun q => absurd q (by decide), fun q => absurd q.1 c⟩
theorem zall_iff {P P' : ZS} {nb nl b r : Nat} {S S' : ZS} (g : zGeo P P' nb nl) (hb : b < nb) (hr : r < 6) (h10 : S'.F 10 = S.F 14) (s : Int32) : fPR_allHolds P S (nI (6 * b + r)) &&& s = 0 ↔ fMO_has P' S' (nI b) (nI r) s = 0 := by
  rw [zah_g g hb hr, zhas_g g hb hr, h10, zorm0, zorm0]
  exact ⟨fun q => ⟨q.1.2, q.2⟩, fun q => ⟨⟨zand0 s, q.1⟩, q.2⟩⟩
theorem zall_O {P P' : ZS} {nb nl b r : Nat} {S : ZS} (g : zGeo P P' nb nl) (hb : b < nb) (hr : r < 6) (s : Int32) : fPR_allHolds P S (nI (6 * b + r)) &&& s = 0 ↔ (zhO (S.F 14) (zA P nl (6 * b + r)) &&& s = 0 ∧ zhO (S.F 14) (zB P nl (6 * b + r)) &&& s = 0) := by
  rw [zah_g g hb hr, zorm0, zorm0]
  exact ⟨fun q => ⟨q.1.2, q.2⟩, fun q => ⟨⟨zand0 s, q.1⟩, q.2⟩⟩
/-! the port that has a place's command -/
theorem zcp1 (P S : ZS) (rc : Int32 → Int32 → Int32) {k x : Nat} (hk : k < 288) (hx : x ≤ 2 * k + 1) {o : Option Nat} (ho : P.F 7 x = zO o) (ha : ∀ a, o = some a → a < 1000) : fPR_commandPort_4 P S rc (nI k) (nI x) = if zhO (S.F 14) o &&& 6 = 0 then rc (nI k) (nI (x + 1)) else zO o := by
  have z2 : (2 : Int32) = nI 2 := by decide
  unfold fPR_commandPort_4 fPR_commandPort_42
  simp only [zl]
  rw [z2, nI_mul, nI_1, if_neg (nI_nlt (by omega) (by omega)), nI_clamp (by omega), nI_1, ho]
  cases o with
  | none => rw [show zO none = -1 from rfl, if_pos rfl, if_pos (show zhO (S.F 14) none &&& 6 = 0 from zand0 6)]
  | some a =>
    have h1 := ha a rfl
    rw [if_neg (zO_ne h1)]
    show (if S.F 14 (nI a).toNatClampNeg &&& 6 = 0 then _ else _) = if S.F 14 a &&& 6 = 0 then _ else _
    rw [nI_clamp (by omega)]
theorem zcp2 (P S : ZS) (rc : Int32 → Int32 → Int32) {k : Nat} (hk : k < 288) : fPR_commandPort_4 P S rc (nI k) (nI (2 * k + 1 + 1)) = -1 := by
  have z2 : (2 : Int32) = nI 2 := by decide
  unfold fPR_commandPort_4
  simp only [zl]
  rw [z2, nI_mul, nI_1, if_pos (nI_lt (by omega) (by omega))]
theorem zcp_g {P P' : ZS} {nb nl k : Nat} (g : zGeo P P' nb nl) (hk : k < 288) (S : ZS) : fPR_commandPort P S (nI k) = if zhO (S.F 14) (zA P nl k) &&& 6 = 0 then (if zhO (S.F 14) (zB P nl k) &&& 6 = 0 then -1 else zO (zB P nl k)) else zO (zA P nl k) := by
  have hl := g.nl
  have z2 : (2 : Int32) = nI 2 := by decide
  obtain ⟨f1, f2⟩ := g.2.2.2.2.1 k hk
  unfold fPR_commandPort
  simp only [zl]
  rw [z2, nI_mul, show (577 : Nat) = 574 + 1 + 1 + 1 from rfl, zfix_s, zcp1 P S _ hk (by omega) f1 (fun a h => by have := (zA_in h).1; omega), zfix_s, zcp1 P S _ hk (by omega) f2 (fun a h => by have := (zB_in h).1; omega), zfix_s, zcp2 P S _ hk]
/-- what the reference's commands say of the holds -/
def zcm (P : ZS) (nl k : Nat) (h : Nat → Int32) (c l : Int32) : Prop := (c = 0 ∧ ∀ q, q < 2 * nl → zpl P q = k → h q &&& 6 = 0) ∨ ∃ q, q < 2 * nl ∧ zpl P q = k ∧ (c = 2 ∨ c = 4) ∧ h q &&& 6 = c ∧ l = nI (q / 2) ∧ ∀ q', q' < 2 * nl → zpl P q' = k → q' ≠ q → h q' &&& 6 = 0
theorem zcmd {P P' : ZS} {nb nl k : Nat} (g : zGeo P P' nb nl) (hk : k < 288) {S : ZS} {c l : Int32} (h : zcm P nl k (S.F 14) c l) : (c = 0 ∧ fPR_commandPort P S (nI k) = -1) ∨ ∃ q, q < 2 * nl ∧ zpl P q = k ∧ fPR_commandPort P S (nI k) = nI q ∧ (c = 2 ∨ c = 4) ∧ S.F 14 q &&& 6 = c ∧ l = nI (q / 2) := by
  have n0 : ∀ o : Option Nat, (∀ a, o = some a → S.F 14 a &&& 6 = 0) → zhO (S.F 14) o &&& 6 = 0 := fun o ho => by
    cases o with
    | none => exact zand0 6
    | some a => exact ho a rfl
  rw [zcp_g g hk]
  rcases h with ⟨h0, hh⟩ | ⟨q, hq, hp, hc, h6, hl, ho⟩
  · refine Or.inl ⟨h0, ?_⟩
    rw [if_pos (n0 _ (fun a e => hh a (zA_in e).1 (zA_in e).2)), if_pos (n0 _ (fun a e => hh a (zB_in e).1 (zB_in e).2.1))]
  · refine Or.inr ⟨q, hq, hp, ?_, hc, h6, hl⟩
    have ne : ¬ S.F 14 q &&& 6 = 0 := by
      rw [h6]
      rcases hc with rfl | rfl <;> decide
    have co := g.2.2.2.2.2.2.1 q hq
    rw [hp] at co
    rcases co with e | e
    · rw [e]
      show (if S.F 14 q &&& 6 = 0 then _ else nI q) = _
      rw [if_neg ne]
    · obtain ⟨-, -, a, ea, la⟩ := zB_in e
      have h1 := zA_in ea
      rw [ea, e]
      show (if S.F 14 a &&& 6 = 0 then (if S.F 14 q &&& 6 = 0 then -1 else nI q) else nI a) = _
      rw [if_pos (ho a h1.1 h1.2 (by omega)), if_neg ne]

/-! a cast is put on a lane, on both sides -/
theorem zrow2 (S : ZS) (k : Nat) (f g : Nat → Int32) : (S.row k f).row k g = S.row k g := by
  show ((fun q => if q = k then g else (if q = k then f else S.F q)), S.I) = ((fun q => if q = k then g else S.F q), S.I)
  congr 1
  funext q
  by_cases c : q = k
  · rw [if_pos c, if_pos c]
  · rw [if_neg c, if_neg c, if_neg c]
theorem zrow1 (S : ZS) (k : Nat) : S.row k (S.F k) = S := by
  show ((fun q => if q = k then S.F k else S.F q), S.I) = S
  have e : (fun q => if q = k then S.F k else S.F q) = S.F := by
    funext q
    by_cases c : q = k
    · rw [if_pos c, c]
    · rw [if_neg c]
  rw [e]
  rfl
theorem zput {no : Nat} {tk : Prop} {c0 : Int32} {m K : Nat} {S S' : ZS} (h : zC no tk c0 m K S S') {L : Nat} (hL : L < 120) {x : Int32} (hx : zpk x (S'.I 11) (S'.I 12) (S'.I 13) (S'.I 14)) (P P' : ZS) (y0 y1 : Int32) (hy : y1 + y0 = nI L) : zC no tk c0 m (K + 1) (fWI_put P S (nI L) x) (fMO_put_28 P' S' y0 y1) := by
  have h0 := h
  obtain ⟨hE, hLn, hO, hS⟩ := h
  obtain ⟨c, c64, ec, hc⟩ := hLn L
  have e23 : S'.F 23 L = nI c := by rw [hE.1 (23, 12) (by decide)]; exact ec
  have z64 : (64 : Int32) = nI 64 := by decide
  unfold fWI_put fMO_put_28
  simp only [zl]
  rw [hy, nI_clamp (by omega), ec, e23]
  by_cases d : c = 64
  · rw [d, if_neg (by decide), if_pos (by decide)]
    exact h0.lost
  · rw [z64, if_pos (nI_lt (by omega) (by omega)), if_neg (fun q => d ((nI_eq (by omega) (by omega)).mp q)), nI_mul, nI_mul, nI_add, nI_add, nI_clamp (by omega), nI_clamp (by omega), nI_1, show L * 64 + c = 64 * L + c by omega]
    refine ⟨?_, fun L2 => ?_, ?_, ?_⟩
    · exact (((((hE.l (by decide)).r (by decide)).r (by decide)).r (by decide)).r (by decide)).s 23 12 (by decide)
    · obtain ⟨c2, c264, ec2, hc2⟩ := hLn L2
      have f12 : ((S.setF 11 (64 * L + c) x).setF 12 L (nI (c + 1))).F 12 = upd (S.F 12) L (nI (c + 1)) := by rw [zFsk, zFsn _ (by decide)]
      have f11 : ((S.setF 11 (64 * L + c) x).setF 12 L (nI (c + 1))).F 11 = upd (S.F 11) (64 * L + c) x := by rw [zFsn _ (by decide), zFsk]
      have old : ∀ k, 64 * L2 + k ≠ 64 * L + c → zpkA S S' (64 * L2 + k) → zpkA ((S.setF 11 (64 * L + c) x).setF 12 L (nI (c + 1))) (((((S'.setF 24 (64 * L + c) (S'.I 11)).setF 25 (64 * L + c) ((S'.setF 24 (64 * L + c) (S'.I 11)).I 12)).setF 26 (64 * L + c) (((S'.setF 24 (64 * L + c) (S'.I 11)).setF 25 (64 * L + c) ((S'.setF 24 (64 * L + c) (S'.I 11)).I 12)).I 13)).setF 27 (64 * L + c) ((((S'.setF 24 (64 * L + c) (S'.I 11)).setF 25 (64 * L + c) ((S'.setF 24 (64 * L + c) (S'.I 11)).I 12)).setF 26 (64 * L + c) (((S'.setF 24 (64 * L + c) (S'.I 11)).setF 25 (64 * L + c) ((S'.setF 24 (64 * L + c) (S'.I 11)).I 12)).I 13)).I 14)).setF 23 L (nI (c + 1))) (64 * L2 + k) := by
        intro k hne hp
        unfold zpkA at hp ⊢
        rw [f11, upd_ne _ _ hne]
        simp only [zFs, if_neg (by decide : ¬ (24 : Nat) = 23), if_neg (by decide : ¬ (24 : Nat) = 27), if_neg (by decide : ¬ (24 : Nat) = 26), if_neg (by decide : ¬ (24 : Nat) = 25), if_neg (by decide : ¬ (25 : Nat) = 23), if_neg (by decide : ¬ (25 : Nat) = 27), if_neg (by decide : ¬ (25 : Nat) = 26), if_neg (by decide : ¬ (25 : Nat) = 24), if_neg (by decide : ¬ (26 : Nat) = 23), if_neg (by decide : ¬ (26 : Nat) = 27), if_neg (by decide : ¬ (26 : Nat) = 25), if_neg (by decide : ¬ (26 : Nat) = 24), if_neg (by decide : ¬ (27 : Nat) = 23), if_neg (by decide : ¬ (27 : Nat) = 26), if_neg (by decide : ¬ (27 : Nat) = 25), if_neg (by decide : ¬ (27 : Nat) = 24), if_true, upd_ne _ _ hne]
        exact hp
      by_cases e : L2 = L
      · subst e
        have ecc : c2 = c := by
          rw [ec] at ec2
          exact ((nI_eq (by omega) (by omega)).mp ec2).symm
        subst ecc
        refine ⟨c2 + 1, by omega, by rw [f12, upd_at], fun k hk => ?_⟩
        by_cases ek : k = c2
        · subst ek
          unfold zpkA
          rw [f11, upd_at]
          simp only [zFs, if_neg (by decide : ¬ (24 : Nat) = 23), if_neg (by decide : ¬ (24 : Nat) = 27), if_neg (by decide : ¬ (24 : Nat) = 26), if_neg (by decide : ¬ (24 : Nat) = 25), if_neg (by decide : ¬ (25 : Nat) = 23), if_neg (by decide : ¬ (25 : Nat) = 27), if_neg (by decide : ¬ (25 : Nat) = 26), if_neg (by decide : ¬ (25 : Nat) = 24), if_neg (by decide : ¬ (26 : Nat) = 23), if_neg (by decide : ¬ (26 : Nat) = 27), if_neg (by decide : ¬ (26 : Nat) = 25), if_neg (by decide : ¬ (26 : Nat) = 24), if_neg (by decide : ¬ (27 : Nat) = 23), if_neg (by decide : ¬ (27 : Nat) = 26), if_neg (by decide : ¬ (27 : Nat) = 25), if_neg (by decide : ¬ (27 : Nat) = 24), if_true, upd_at]
          exact hx
        · exact old k (by omega) (hc2 k (by omega))
      · refine ⟨c2, c264, by rw [f12, upd_ne _ _ e]; exact ec2, fun k hk => old k (by omega) (hc2 k hk)⟩
    · refine hO.cg (fun b => ?_) ?_ ?_
      · rw [zFsn _ (by omega), zFsn _ (by omega)]
      · rw [zFsn _ (by decide), zFsn _ (by decide), zFsn _ (by decide), zFsn _ (by decide), zFsn _ (by decide)]
      · rw [zFsn _ (by decide), zFsn _ (by decide), zFsn _ (by decide), zFsn _ (by decide), zFsn _ (by decide)]
    · exact hS.mo (Nat.le_refl _) (by omega)
/-- the lane that leaves from a port -/
theorem zn_put {P P' : ZS} {nb nl q b r : Nat} (g : zGeo P P' nb nl) (hq : q < 2 * nl) (hk : zpl P q = 6 * b + r) (hr : r < 6) (S : ZS) : ∃ y0 y1 : Int32, y1 + y0 = nI (q ^^^ 1) ∧ fMO_put P' S (nI b) (nI (q / 2)) = if S.F 7 (q / 2) = 0 then fMO_put_28 P' S y0 y1 else S := by
  have hl := g.nl
  obtain ⟨-, -, -, h⟩ := zprt g hq hk hr
  have z2 : (2 : Int32) = nI 2 := by decide
  have z0 : (0 : Int32) = nI 0 := by decide
  have x1 : (q ^^^ 1) / 2 = q / 2 := by rw [Nat.xor_div_two]; simp
  have x2 : (q ^^^ 1) % 2 = (q % 2 + 1) % 2 := by
    have t : (q ^^^ 1).testBit 0 = !(q.testBit 0) := by rw [Nat.testBit_xor]; simp
    rcases Nat.mod_two_eq_zero_or_one q with c | c
    · rw [Nat.mod_two_eq_zero_iff_testBit_zero.mp c] at t
      have := Nat.mod_two_eq_one_iff_testBit_zero.mpr t
      omega
    · rw [Nat.mod_two_eq_one_iff_testBit_zero.mp c] at t
      have := Nat.mod_two_eq_zero_iff_testBit_zero.mpr t
      omega
  unfold fMO_put
  simp only [zl]
  rw [g.2.1.2.2.2.1, nI_clamp (by omega)]
  rcases h with ⟨c, -, h1⟩ | ⟨c, -, h1⟩
  · refine ⟨1, 2 * nI (q / 2), ?_, ?_⟩
    · rw [z2, nI_mul, nI_1]
      congr 1
      omega
    · rw [if_neg h1]
  · refine ⟨0, 2 * nI (q / 2), ?_, ?_⟩
    · rw [z2, nI_mul, z0, nI_add]
      congr 1
      omega
    · rw [if_pos h1]
theorem zdn (P S : ZS) {q : Nat} (hq : q < 1000) : fPR_isDown P S (nI q) = 0 ↔ S.F 14 q &&& 1 = 0 := by
  unfold fPR_isDown
  simp only [zl]
  rw [nI_clamp (by omega)]
  by_cases c : S.F 14 q &&& 1 = 0
  · rw [if_pos c]; exact ⟨fun _ => c, fun _ => rfl⟩
  · rw [if_neg c]; exact ⟨fun e => absurd e (by decide), fun e => absurd e c⟩
/-- from one port, if it is there and its link has not failed -/
noncomputable def zpO (P : ZS) (x : Int32) (o : Option Nat) (S : ZS) : ZS := match o with
  | none => S
  | some a => if fPR_isDown P S (nI a) = 0 then fWI_put P S (nI a ^^^ 1) x else S
noncomputable def zqO (P : ZS) (b : Int32) (o : Option Nat) (S : ZS) : ZS := match o with
  | none => S
  | some a => fMO_put P S b (nI (a / 2))
theorem zC.pO {no : Nat} {P P' : ZS} {nb nl b r : Nat} {tk : Prop} {c : Int32} {m K : Nat} {S S' : ZS} (h : zC no tk c m K S S') (g : zGeo P P' nb nl) (hr : r < 6) {o : Option Nat} (ho : ∀ a, o = some a → a < 2 * nl ∧ zpl P a = 6 * b + r) (hf : ∀ a, o = some a → (S.F 14 a &&& 1 = 0 ↔ S'.F 7 (a / 2) = 0)) {x : Int32} (hx : zpk x (S'.I 11) (S'.I 12) (S'.I 13) (S'.I 14)) : zC no tk c m (K + 1) (zpO P x o S) (zqO P' (nI b) o S') := by
  have hl := g.nl
  cases o with
  | none => exact h.mo (Nat.le_refl _) (by omega)
  | some a =>
    obtain ⟨h1, h2⟩ := ho a rfl
    obtain ⟨y0, y1, hy, e⟩ := zn_put g h1 h2 hr S'
    show zC no tk c m (K + 1) (if fPR_isDown P S (nI a) = 0 then fWI_put P S (nI a ^^^ 1) x else S) (fMO_put P' S' (nI b) (nI (a / 2)))
    rw [e]
    by_cases d : S'.F 7 (a / 2) = 0
    · rw [if_pos d, if_pos ((zdn P S (by omega)).mpr ((hf a rfl).mpr d)), zxor]
      exact zput h (by have := xor1_lt (a := a) (n := 60) (by omega); omega) hx P P' y0 y1 hy
    · rw [if_neg d, if_neg (fun q => d ((hf a rfl).mp ((zdn P S (by omega)).mp q)))]
      exact h.mo (Nat.le_refl _) (by omega)
theorem zpO_fr (P : ZS) (x : Int32) (o : Option Nat) (S : ZS) : (zpO P x o S).F 14 = S.F 14 := by
  cases o with
  | none => rfl
  | some a =>
    show (if fPR_isDown P S (nI a) = 0 then fWI_put P S (nI a ^^^ 1) x else S).F 14 = S.F 14
    split
    · exact (q_fWI_put P S _ x).2 14 (by decide)
    · rfl
theorem zqO_fr (P : ZS) (b : Int32) (o : Option Nat) (S : ZS) : (zqO P b o S).F 7 = S.F 7 ∧ ∀ t, t ∉ [5, 8] → (zqO P b o S).I t = S.I t := by
  cases o with
  | none => exact ⟨rfl, fun _ _ => rfl⟩
  | some a => exact ⟨(q_fMO_put P S b _).2 7 (by decide), fun t ht => (q_fMO_put P S b _).1 t ht⟩
theorem zpf1 (P : ZS) (rc : ZS → Int32 → Int32 → Int32 → ZS) (S : ZS) (v : Int32) {k x : Nat} (hk : k < 288) (hx : x ≤ 2 * k + 1) {o : Option Nat} (ho : P.F 7 x = zO o) (ha : ∀ a, o = some a → a < 1000) : fPR_putFromPorts_4 P rc S (nI k) v (nI x) = rc (zpO P v o S) (nI k) v (nI (x + 1)) := by
  have z2 : (2 : Int32) = nI 2 := by decide
  unfold fPR_putFromPorts_4 fPR_putFromPorts_51
  simp only [zl]
  rw [z2, nI_mul, nI_1, if_neg (nI_nlt (by omega) (by omega)), nI_clamp (by omega), nI_1, ho]
  cases o with
  | none => rw [show zO none = -1 from rfl, if_pos rfl]; rfl
  | some a =>
    have h1 := ha a rfl
    rw [if_neg (zO_ne h1)]
    show (if fPR_isDown P S (nI a) = 0 then rc (fWI_put P S (nI a ^^^ 1) v) _ _ _ else rc S _ _ _) = rc (if fPR_isDown P S (nI a) = 0 then fWI_put P S (nI a ^^^ 1) v else S) _ _ _
    by_cases d : fPR_isDown P S (nI a) = 0
    · rw [if_pos d, if_pos d]
    · rw [if_neg d, if_neg d]
theorem zpf2a (P : ZS) (rc : ZS → Int32 → Int32 → Int32 → ZS) (S : ZS) (v x y : Int32) (c : 2 * x + 1 < y) : fPR_putFromPorts_4 P rc S x v y = S := by
  rw [fPR_putFromPorts_4, zl, zl, if_pos c]
theorem zlast {k : Nat} (hk : k < 288) : 2 * nI k + 1 < nI (2 * k + 1 + 1) := by
  have z2 : (2 : Int32) = nI 2 := by decide
  rw [z2, nI_mul, nI_1]
  exact nI_lt (Nat.lt_succ_self _) (by omega)
theorem zpf2 (P : ZS) (rc : ZS → Int32 → Int32 → Int32 → ZS) (S : ZS) (v : Int32) {k : Nat} (hk : k < 288) : fPR_putFromPorts_4 P rc S (nI k) v (nI (2 * k + 1 + 1)) = S := zpf2a P rc S v _ _ (zlast hk)
theorem zpf_g {P P' : ZS} {nb nl k : Nat} (g : zGeo P P' nb nl) (hk : k < 288) (S : ZS) (v : Int32) : fPR_putFromPorts P S (nI k) v = zpO P v (zB P nl k) (zpO P v (zA P nl k) S) := by
  have hl := g.nl
  have z2 : (2 : Int32) = nI 2 := by decide
  obtain ⟨f1, f2⟩ := g.2.2.2.2.1 k hk
  unfold fPR_putFromPorts
  simp only [zl]
  rw [z2, nI_mul, show (577 : Nat) = 574 + 1 + 1 + 1 from rfl, zfix_s, zpf1 P _ S v hk (by omega) f1 (fun a h => by have := (zA_in h).1; omega), zfix_s, zpf1 P _ _ v hk (by omega) f2 (fun a h => by have := (zB_in h).1; omega), zfix_s, zpf2 P _ _ v hk]
theorem zpa1 (P : ZS) (rc : ZS → Int32 → Int32 → Int32 → ZS) (S : ZS) {b r i : Nat} (hb : b < 48) (hr : r < 6) (hi : i < 2) {o : Option Nat} (ho : P.F 6 (2 * (6 * b + r) + i) = zOl o) (ha : ∀ a, o = some a → a < 1000) : fMO_putAll_2 P rc S (nI b) (nI r) (nI i) = rc (zqO P (nI b) o S) (nI b) (nI r) (nI (i + 1)) := by
  have z2 : (2 : Int32) = nI 2 := by decide
  have z6 : (6 : Int32) = nI 6 := by decide
  unfold fMO_putAll_2 fMO_putAll_36
  simp only [zl]
  rw [zat, z2, if_neg (nI_ge (by omega) (by omega)), nI_mul, nI_add, nI_clamp (by omega), nI_1, ho]
  cases o with
  | none => rw [show zOl none = -1 from rfl, if_pos rfl]; rfl
  | some a => rw [if_neg (zOl_ne (ha a rfl))]; rfl
theorem zpa2 (P : ZS) (rc : ZS → Int32 → Int32 → Int32 → ZS) (S : ZS) (b r : Int32) : fMO_putAll_2 P rc S b r (nI (0 + 1 + 1)) = S := by
  unfold fMO_putAll_2
  rw [if_pos (by decide)]
theorem zpa_g {P P' : ZS} {nb nl b r : Nat} (g : zGeo P P' nb nl) (hb : b < nb) (hr : r < 6) (S : ZS) : fMO_putAll P' S (nI b) (nI r) = zqO P' (nI b) (zB P nl (6 * b + r)) (zqO P' (nI b) (zA P nl (6 * b + r)) S) := by
  have hn := g.nb
  have hl := g.nl
  have z0 : (0 : Int32) = nI 0 := by decide
  obtain ⟨f1, f2⟩ := g.2.2.2.2.2.1 (6 * b + r) (by omega)
  unfold fMO_putAll
  rw [z0, show (3 : Nat) = 0 + 1 + 1 + 1 from rfl, zfix_s, zpa1 P' _ S (by omega) hr (by omega) (show P'.F 6 (2 * (6 * b + r) + 0) = _ from f1) (fun a h => by have := (zA_in h).1; omega), zfix_s, zpa1 P' _ _ (by omega) hr (by omega) (show P'.F 6 (2 * (6 * b + r) + (0 + 1)) = _ from f2) (fun a h => by have := (zB_in h).1; omega), zfix_s, zpa2]
/-- a cast from all ports of a place -/
theorem zC.puts {no : Nat} {P P' : ZS} {nb nl b r : Nat} {tk : Prop} {c : Int32} {m K : Nat} {S S' : ZS} (h : zC no tk c m K S S') (g : zGeo P P' nb nl) (hb : b < nb) (hr : r < 6) (hf : ∀ a, a < 2 * nl → zpl P a = 6 * b + r → (S.F 14 a &&& 1 = 0 ↔ S'.F 7 (a / 2) = 0)) {x : Int32} (hx : zpk x (S'.I 11) (S'.I 12) (S'.I 13) (S'.I 14)) : zC no tk c m (K + 2) (fPR_putFromPorts P S (nI (6 * b + r)) x) (fMO_putAll P' S' (nI b) (nI r)) := by
  have hn := g.nb
  rw [zpf_g g (by omega), zpa_g g hb hr]
  have h1 := h.pO (o := zA P nl (6 * b + r)) g hr (fun a e => zA_in e) (fun a e => hf a (zA_in e).1 (zA_in e).2) hx
  obtain ⟨k1, k2⟩ := zqO_fr P' (nI b) (zA P nl (6 * b + r)) S'
  refine h1.pO (o := zB P nl (6 * b + r)) g hr (fun a e => ⟨(zB_in e).1, (zB_in e).2.1⟩) (fun a e => ?_) ?_
  · rw [zpO_fr, k1]
    exact hf a (zB_in e).1 (zB_in e).2.1
  · rw [k2 11 (by decide), k2 12 (by decide), k2 13 (by decide), k2 14 (by decide)]
    exact hx
/-! news -/
def zcl20 (b x : Nat) (f : Nat → Int32) (j : Nat) : Int32 := if 256 * b ≤ j ∧ j < 256 * b + x then -1 else f j
theorem zn41 (P X : ZS) (n m r : Int32) {b : Nat} (hb : b < 48) : ∀ (N x : Nat), x ≤ 256 → 256 - x < N → zfix (fun S9 _ _ _ _ _ => S9) (fMO_news_41 P) N (X.row 20 (zcl20 b x (X.F 20))) (nI b) n m r (nI x) = zfix (fun S9 _ _ _ => S9) (fMO_news_80 P) 7 (fMO_say P (X.row 20 (zcl20 b 256 (X.F 20))) 5 (nI b) n m) (nI b) r 0 := by
  have z256 : (256 : Int32) = nI 256 := by decide
  intro N
  induction N with
  | zero => intro x h1 h2; omega
  | succ N ih =>
    intro x h1 h2
    rw [zfix_s]
    generalize zfix (fun S9 _ _ _ _ _ => S9) (fMO_news_41 P) N = rc at ih ⊢
    unfold fMO_news_41
    simp only [zl]
    by_cases c : x = 256
    · rw [z256, if_pos (nI_le (by omega) (by omega)), c]
    · rw [z256, if_neg (nI_ge (by omega) (by omega)), nI_mul, nI_add, nI_clamp (by omega), nI_1]
      have e : (X.row 20 (zcl20 b x (X.F 20))).setF 20 (256 * b + x) (-1) = X.row 20 (zcl20 b (x + 1) (X.F 20)) := by
        show (X.row 20 (zcl20 b x (X.F 20))).row 20 (upd ((X.row 20 (zcl20 b x (X.F 20))).F 20) (256 * b + x) (-1)) = _
        rw [zrow2, ZS.row_self]
        congr 1
        funext j
        unfold upd zcl20
        by_cases d : j = 256 * b + x
        · rw [if_pos d, if_pos ⟨by omega, by omega⟩]
        · rw [if_neg d]
          by_cases d2 : 256 * b ≤ j ∧ j < 256 * b + x
          · rw [if_pos d2, if_pos ⟨d2.1, by omega⟩]
          · rw [if_neg d2, if_neg (fun q => d2 ⟨q.1, by omega⟩)]
      rw [e]
      exact ih (x + 1) (by omega) (by omega)
/-- casts of the news into the bridge's other rings -/
theorem zn80 {no : Nat} {P P' : ZS} {nb nl b r : Nat} {tk : Prop} {c : Int32} {m : Nat} {h14 f7 : Nat → Int32} (g : zGeo P P' nb nl) (hb : b < nb) (hr : r < 6) (hf : ∀ a, a < 2 * nl → zpl P a / 6 = b → zpl P a % 6 ≠ r → (h14 a &&& 1 = 0 ↔ f7 (a / 2) = 0)) {x a1 a2 a3 a4 : Int32} (hx : zpk x a1 a2 a3 a4) : ∀ (N i K : Nat) (S S' : ZS), i ≤ 6 → 6 - i < N → zC no tk c m K S S' → S.F 14 = h14 → S'.F 7 = f7 → (S'.I 11 = a1 ∧ S'.I 12 = a2 ∧ S'.I 13 = a3 ∧ S'.I 14 = a4) →
    zC no tk c m (K + 2 * (6 - i)) (zfix (fun S9 _ _ _ _ => S9) (fPR_takeNews_68 P) N S (nI (6 * b + r)) (nI b) x (nI i)) (zfix (fun S9 _ _ _ => S9) (fMO_news_80 P') N S' (nI b) (nI r) (nI i)) := by
  have hn := g.nb
  have z6 : (6 : Int32) = nI 6 := by decide
  intro N
  induction N with
  | zero => intro i K S S' h1 h2; omega
  | succ N ih =>
    intro i K S S' h1 h2 h e14 e7 es
    rw [zfix_s, zfix_s]
    generalize zfix (fun S9 _ _ _ _ => S9) (fPR_takeNews_68 P) N = rc at ih ⊢
    generalize zfix (fun S9 _ _ _ => S9) (fMO_news_80 P') N = rc' at ih ⊢
    unfold fPR_takeNews_68 fPR_takeNews_98 fMO_news_80 fMO_news_101
    simp only [zl]
    by_cases c6 : i = 6
    · rw [z6, if_pos (nI_le (by omega) (by omega)), if_pos (nI_le (by omega) (by omega))]
      exact h.mo (Nat.le_refl _) (by omega)
    · rw [z6, if_neg (nI_ge (by omega) (by omega)), if_neg (nI_ge (by omega) (by omega)), nI_rem (by omega) (by omega), nI_1, show (6 * b + r) % 6 = r by omega]
      by_cases d : i = r
      · subst d
        rw [if_pos rfl, if_pos rfl]
        exact (ih (i + 1) K S S' (by omega) (by omega) h e14 e7 es).mo (Nat.le_refl _) (by omega)
      · have d' : ¬ nI i = nI r := fun q => d ((nI_eq (by omega) (by omega)).mp q)
        rw [if_neg d', if_neg d', nI_mul, nI_add, show b * 6 + i = 6 * b + i by omega]
        have hp := h.puts (b := b) (r := i) (x := x) g hb (by omega) (fun a ha he => by
          rw [e14, e7]
          exact hf a ha (by omega) (by omega)) (by rw [es.1, es.2.1, es.2.2.1, es.2.2.2]; exact hx)
        have q1 := q_fPR_putFromPorts P S (nI (6 * b + i)) x
        have q2 := q_fMO_putAll P' S' (nI b) (nI i)
        exact (ih (i + 1) (K + 2) _ _ (by omega) (by omega) hp (by rw [q1.2 14 (by decide)]; exact e14) (by rw [q2.2 7 (by decide)]; exact e7) ⟨by rw [q2.1 11 (by decide)]; exact es.1, by rw [q2.1 12 (by decide)]; exact es.2.1, by rw [q2.1 13 (by decide)]; exact es.2.2.1, by rw [q2.1 14 (by decide)]; exact es.2.2.2⟩).mo (Nat.le_refl _) (by omega)
/-- NEWS on both sides -/
theorem zC.news {no : Nat} {P P' : ZS} {nb nl b r n mm : Nat} {tk : Prop} {c : Int32} {m K : Nat} {S S' : ZS} (h : zC no tk c m K S S') (g : zGeo P P' nb nl) (hb : b < nb) (hr : r < 6) (hnm : n ≤ 113) (hmm : mm ≤ 32767) (hf : ∀ a, a < 2 * nl → zpl P a / 6 = b → zpl P a % 6 ≠ r → (S.F 14 a &&& 1 = 0 ↔ S'.F 7 (a / 2) = 0)) : zC no tk c m (K + 12) (fPR_takeNews P S (nI (6 * b + r)) (nI n) (nI mm)) (fMO_news P' S' (nI b) (nI n) (nI mm) (nI r)) := by
  have hn := g.nb
  have z6 : (6 : Int32) = nI 6 := by decide
  have z114 : (114 : Int32) = nI 114 := by decide
  have z0 : (0 : Int32) = nI 0 := by decide
  unfold fPR_takeNews fMO_news
  simp only [zl]
  rw [z6, nI_div (by omega) (by omega), show (6 * b + r) / 6 = b by omega, z114, nI_mul, nI_mul, nI_add, nI_add, nI_clamp (by omega), nI_clamp (by omega), nI_clamp (by omega), show b * 114 + n = 114 * b + n by omega, h.g 19 21 (by decide)]
  by_cases d : S.F 21 (114 * b + n) < nI mm
  · rw [if_pos d, if_pos d]
    have k1 := (h.s (i := 114 * b + n) (v := nI mm) 19 21 (by decide) (by decide) (by decide)).s (i := b) (v := (S.setF 21 (114 * b + n) (nI mm)).F 22 b + 1) 18 22 (by decide) (by decide) (by decide)
    have e18 : (S'.setF 19 (114 * b + n) (nI mm)).F 18 b = (S.setF 21 (114 * b + n) (nI mm)).F 22 b := by
      rw [zFsn _ (by decide), zFsn _ (by decide), h.g 18 22 (by decide)]
    rw [e18]
    generalize hX : (S.setF 21 (114 * b + n) (nI mm)).setF 22 b ((S.setF 21 (114 * b + n) (nI mm)).F 22 b + 1) = X at k1 ⊢
    generalize hX' : (S'.setF 19 (114 * b + n) (nI mm)).setF 18 b ((S.setF 21 (114 * b + n) (nI mm)).F 22 b + 1) = X' at k1 ⊢
    have x14 : X.F 14 = S.F 14 := by rw [← hX, zFsn _ (by decide), zFsn _ (by decide)]
    have x7 : X'.F 7 = S'.F 7 := by rw [← hX', zFsn _ (by decide), zFsn _ (by decide)]
    have e0 : X' = X'.row 20 (zcl20 b 0 (X'.F 20)) := by
      have e9 : zcl20 b 0 (X'.F 20) = X'.F 20 := by
        funext j
        exact if_neg (fun q => by omega)
      rw [e9, zrow1]
    have e1 : zfix (fun S9 _ _ _ _ _ => S9) (fMO_news_41 P') 257 X' (nI b) (nI n) (nI mm) (nI r) 0 = zfix (fun S9 _ _ _ => S9) (fMO_news_80 P') 7 (fMO_say P' (X'.row 20 (zcl20 b 256 (X'.F 20))) 5 (nI b) (nI n) (nI mm)) (nI b) (nI r) 0 := by
      have q := zn41 P' X' (nI n) (nI mm) (nI r) (b := b) (by omega) 257 0 (by omega) (by omega)
      rw [← e0, ← z0] at q
      exact q
    rw [e1]
    have k2 : zC no tk c m K (fTA_forgetAll P X (nI b)) (X'.row 20 (zcl20 b 256 (X'.F 20))) := by
      show zC no tk c m K (X.row (28 + (nI b).toNatClampNeg) (fun _ => (-1))) _
      rw [nI_clamp (by omega)]
      refine ⟨(k1.1.lr (fun q hq => ?_)).rr (by decide), k1.2.1.cg ?_ ?_ ?_ ?_ ?_ ?_, fun b2 t2 hb2 ht2 => ?_, k1.2.2.2⟩
      · have : q.2 < 28 := (show ∀ q ∈ zprs, q.2 < 28 by decide) q hq
        omega
      · exact ZS.row_ne _ _ (by omega)
      · exact ZS.row_ne _ _ (by omega)
      · exact ZS.row_ne _ _ (by decide)
      · exact ZS.row_ne _ _ (by decide)
      · exact ZS.row_ne _ _ (by decide)
      · exact ZS.row_ne _ _ (by decide)
      · rw [ZS.row_self, ZS.row_ne X' _ (by decide : (21 : Nat) ≠ 20)]
        by_cases e : b2 = b
        · subst e
          rw [ZS.row_self]
          exact Or.inl ⟨rfl, if_pos ⟨by omega, by omega⟩⟩
        · rw [ZS.row_ne _ _ (by omega)]
          have e20 : zcl20 b 256 (X'.F 20) (256 * b2 + t2) = X'.F 20 (256 * b2 + t2) := if_neg (fun q => by omega)
          rw [e20]
          exact k1.2.2.1 b2 t2 hb2 ht2
    have k3 : zC no tk c m K (fTA_forgetAll P X (nI b)) (fMO_say P' (X'.row 20 (zcl20 b 256 (X'.F 20))) 5 (nI b) (nI n) (nI mm)) := by
      unfold fMO_say
      simp only [zl]
      exact (((k2.ri (by decide) (by decide)).ri (by decide) (by decide)).ri (by decide) (by decide)).ri (by decide) (by decide)
    have f14 : (fTA_forgetAll P X (nI b)).F 14 = S.F 14 := by
      rw [(q_fTA_forgetAll P X (nI b)).2 14 (by decide)]
      exact x14
    have f7 : (fMO_say P' (X'.row 20 (zcl20 b 256 (X'.F 20))) 5 (nI b) (nI n) (nI mm)).F 7 = S'.F 7 := by
      rw [(q_fMO_say P' _ 5 (nI b) (nI n) (nI mm)).2 7 (by decide), ZS.row_ne _ _ (by decide)]
      exact x7
    have hx : zpk (fCA_of P (fTA_forgetAll P X (nI b)) 5 (nI b) (nI n) (nI mm)) (nI 5) (nI b) (nI n) (nI mm) := ⟨5, b, n, mm, ⟨by omega, by omega, hnm, hmm⟩, rfl, rfl, rfl, rfl, rfl⟩
    have k4 := zn80 (tk := tk) (c := c) (m := m) g hb hr hf hx 7 0 K _ _ (by omega) (by omega) k3 f14 f7 ⟨rfl, rfl, rfl, rfl⟩
    rw [← z0] at k4
    exact k4.mo (Nat.le_refl _) (by omega)
  · rw [if_neg d, if_neg d]
    exact h.mo (Nat.le_refl _) (by omega)
