
/-! what holds say of failures, commands, owners -/
def zI (P : ZS) (nb nl : Nat) (h f cm cl : Nat → Int32) : Prop := (∀ q, q < 2 * nl → (h q &&& 1 = 0 ↔ f (q / 2) = 0)) ∧ (∀ k, zcm P nl k h (cm k) (cl k)) ∧ ∀ q, q < 2 * nl → h q &&& 16 = 0 ∨ P.F 6 (zpl P q % 6) = nI q
abbrev zIS (P : ZS) (nb nl : Nat) (S S' : ZS) : Prop := zI P nb nl (S.F 14) (S'.F 7) (S'.F 15) (S'.F 16)
/-- holds change, but DOWN, FORCED, MANUAL stay and no OWNER comes -/
def zhk (h h' : Nat → Int32) : Prop := (∀ q, h' q &&& 7 = h q &&& 7) ∧ ∀ q, h q &&& 16 = 0 → h' q &&& 16 = 0
theorem zhk.rf {h : Nat → Int32} : zhk h h := ⟨fun _ => rfl, fun _ e => e⟩
theorem zhk.t {h h' h'' : Nat → Int32} (a : zhk h h') (b : zhk h' h'') : zhk h h'' := ⟨fun q => (b.1 q).trans (a.1 q), fun q e => b.2 q (a.2 q e)⟩
theorem zhk.u {h : Nat → Int32} {p : Nat} {w : Int32} (hw : w &&& 7 = 7) : zhk h (upd h p (h p &&& w)) := by
  refine ⟨fun q => ?_, fun q e => ?_⟩
  · unfold upd
    by_cases c : q = p
    · rw [if_pos c, c, zkand hw]
    · rw [if_neg c]
  · unfold upd
    by_cases c : q = p
    · rw [if_pos c, ← c, Int32.and_assoc, Int32.and_comm w, ← Int32.and_assoc, e, zand0]
    · rw [if_neg c]; exact e
theorem zI.k {P : ZS} {nb nl : Nat} {h h' f cm cl : Nat → Int32} (hI : zI P nb nl h f cm cl) (k : zhk h h') : zI P nb nl h' f cm cl := by
  obtain ⟨h1, h2, h3⟩ := hI
  have k1 : ∀ q, h' q &&& 1 = h q &&& 1 := fun q => zsubm (k.1 q) (by decide)
  have k6 : ∀ q, h' q &&& 6 = h q &&& 6 := fun q => zsubm (k.1 q) (by decide)
  refine ⟨fun q hq => by rw [k1]; exact h1 q hq, fun c => ?_, fun q hq => ?_⟩
  · rcases h2 c with ⟨a, b⟩ | ⟨q, a1, a2, a3, a4, a5, a6⟩
    · exact Or.inl ⟨a, fun q hq hp => by rw [k6]; exact b q hq hp⟩
    · exact Or.inr ⟨q, a1, a2, a3, by rw [k6]; exact a4, a5, fun q' b1 b2 b3 => by rw [k6]; exact a6 q' b1 b2 b3⟩
  · rcases h3 q hq with e | e
    · exact Or.inl (k.2 q e)
    · exact Or.inr e
theorem zsh9 (P S : ZS) (x v : Int32) : (fPR_setHolds P S x v).F 14 = upd (S.F 14) x.toNatClampNeg v := by
  unfold fPR_setHolds
  simp only [zl]
  split
  · rename_i e
    rw [← e, upd_self]
  · rfl
theorem zw1_hk (P S : ZS) (x : Nat) : zhk (S.F 14) ((zw1 P S x).F 14) := by
  unfold zw1
  split
  · exact zhk.rf
  · rw [zsh9]
    exact zhk.u (by decide)
theorem zew_hk (P S : ZS) {k : Nat} (hk : k < 288) : zhk (S.F 14) ((fPR_endWaiting P S (nI k)).F 14) := by
  rw [zew P S hk]
  exact (zw1_hk P S _).t (zw1_hk P _ _)
theorem zeoh_hk (P S : ZS) (x : Int32) : zhk (S.F 14) ((fPR_endOwnerHold P S x).F 14) := by
  unfold fPR_endOwnerHold
  simp only [zl]
  split
  · exact zhk.rf
  · rw [zFsn _ (by decide), zsh9]
    exact zhk.u (by decide)
theorem zset_id (S : ZS) (k i : Nat) : S.setF k i (S.F k i) = S := by
  show S.row k (upd (S.F k) i (S.F k i)) = S
  rw [upd_self, zrow1]
/-! the owner's hold ends -/
theorem zn_own (P S : ZS) {b r : Nat} (hb : b < 48) (hr : r < 6) : fPL_isOwner P S (nI (6 * b + r)) = 0 ↔ ¬ P.F 3 r = nI b := by
  have z6 : (6 : Int32) = nI 6 := by decide
  unfold fPL_isOwner
  simp only [zl]
  rw [z6, nI_rem (by omega) (by omega), nI_div (by omega) (by omega), show (6 * b + r) % 6 = r by omega, show (6 * b + r) / 6 = b by omega, nI_clamp (by omega)]
  by_cases c : P.F 3 r = nI b
  · rw [if_pos c]; exact ⟨fun e => absurd e (by decide), fun e => absurd c e⟩
  · rw [if_neg c]; exact ⟨fun _ => c, fun _ => rfl⟩
theorem zn_owns (P S : ZS) (b : Int32) {r : Nat} (hr : r < 6) : fMO_owns P S b (nI r) = 0 ↔ ¬ P.F 3 r = b := by
  unfold fMO_owns
  simp only [zl]
  rw [nI_clamp (by omega)]
  by_cases c : P.F 3 r = b
  · rw [if_pos c]; exact ⟨fun e => absurd e (by decide), fun e => absurd c e⟩
  · rw [if_neg c]; exact ⟨fun _ => c, fun _ => rfl⟩
/-- what the reference does there -/
noncomputable def zeoM (P S : ZS) (b r : Nat) : ZS := if P.F 3 r = nI b then (fMO_endAll P S (nI b) (nI r) 16).setF 11 r 0 else S
theorem zC.eoh {no : Nat} {P P' : ZS} {nb nl b r : Nat} {tk : Prop} {c : Int32} {m K : Nat} {S S' : ZS} (h : zC no tk c m K S S') (g : zGeo P P' nb nl) (hb : b < nb) (hr : r < 6) (hl : ∃ l, l < nl ∧ zrg P l = r) (h3 : ∀ q, q < 2 * nl → S.F 14 q &&& 16 = 0 ∨ P.F 6 (zpl P q % 6) = nI q) : zC no tk c m K (fPR_endOwnerHold P S (nI (6 * b + r))) (zeoM P' S' b r) := by
  have hn := g.nb
  have hn2 := g.nl
  have z6 : (6 : Int32) = nI 6 := by decide
  have r3 : P'.F 3 = P.F 3 := g.2.1.2.2.2.2.2.1
  unfold zeoM
  rw [r3]
  unfold fPR_endOwnerHold
  simp only [zl]
  by_cases d : P.F 3 r = nI b
  · rw [if_neg (fun e => (zn_own P S (by omega) hr).mp e d), if_pos d, z6, nI_rem (by omega) (by omega), show (6 * b + r) % 6 = r by omega, nI_clamp (by omega)]
    obtain ⟨p, b2, hp, hb2, e6, epl, e3, -⟩ := g.2.2.2.2.2.2.2.1 r hr hl
    have eb : b2 = b := by
      rw [d] at e3
      exact ((nI_eq (by omega) (by omega)).mp e3).symm
    subst eb
    rw [e6, nI_clamp (by omega), zn_set g hp epl hr]
    have none9 : ∀ (o : Option Nat) (X' : ZS), (∀ a, o = some a → a < 2 * nl ∧ zpl P a = 6 * b2 + r) → X'.F 10 = S.F 14 → ¬ o = some p → zvO (6 * b2 + r) 16 o X' = X' := by
      intro o X' ho hX hne
      cases o with
      | none => rfl
      | some a =>
        obtain ⟨a1, a2⟩ := ho a rfl
        have ane : a ≠ p := fun e => hne (by rw [e])
        show zhm (6 * b2 + r) a (X'.F 10 a &&& (16 ^^^ (-1))) X' = X'
        have h0 : S.F 14 a &&& 16 = 0 := by
          rcases h3 a a1 with e | e
          · exact e
          · rw [a2, show (6 * b2 + r) % 6 = r by omega, e6] at e
            exact absurd ((nI_eq (by omega) (by omega)).mp e).symm ane
        have e9 : X'.F 10 a &&& (16 ^^^ (-1)) = X'.F 10 a := by
          rw [hX]
          exact zclr (by decide) h0
        rw [e9]
        exact zhm_self
    rw [zea_g g hb hr]
    have key : zvO (6 * b2 + r) 16 (zB P nl (6 * b2 + r)) (zvO (6 * b2 + r) 16 (zA P nl (6 * b2 + r)) S') = zhm (6 * b2 + r) p (S.F 14 p &&& (-17)) S' := by
      have h10 := h.g 10 14 (by decide)
      have co := g.2.2.2.2.2.2.1 p hp
      rw [epl] at co
      rcases co with e | e
      · have nB : ¬ zB P nl (6 * b2 + r) = some p := fun e2 => by
          obtain ⟨-, -, a, ea, la⟩ := zB_in e2
          rw [e] at ea
          cases ea
          omega
        rw [e]
        show zvO (6 * b2 + r) 16 (zB P nl (6 * b2 + r)) (zhm (6 * b2 + r) p (S'.F 10 p &&& (16 ^^^ (-1))) S') = _
        rw [h10, show ((16 : Int32) ^^^ (-1)) = -17 by decide]
        -- the other port has no such hold
        cases e2 : zB P nl (6 * b2 + r) with
        | none => rfl
        | some a =>
          obtain ⟨a1, a2, -⟩ := zB_in e2
          have ane : a ≠ p := fun e3 => nB (by rw [e2, e3])
          show zhm (6 * b2 + r) a ((zhm (6 * b2 + r) p (S.F 14 p &&& (-17)) S').F 10 a &&& (16 ^^^ (-1))) (zhm (6 * b2 + r) p (S.F 14 p &&& (-17)) S') = _
          have h0 : S.F 14 a &&& 16 = 0 := by
            rcases h3 a a1 with e3 | e3
            · exact e3
            · rw [a2, show (6 * b2 + r) % 6 = r by omega, e6] at e3
              exact absurd ((nI_eq (by omega) (by omega)).mp e3).symm ane
          have e9 : (zhm (6 * b2 + r) p (S.F 14 p &&& (-17)) S').F 10 a &&& (16 ^^^ (-1)) = (zhm (6 * b2 + r) p (S.F 14 p &&& (-17)) S').F 10 a := by
            rw [zhm_F, upd_ne _ _ ane, h10]
            exact zclr (by decide) h0
          rw [e9]
          exact zhm_self
      · have nA : ¬ zA P nl (6 * b2 + r) = some p := fun e2 => by
          obtain ⟨-, -, a, ea, la⟩ := zB_in e
          rw [e2] at ea
          cases ea
          omega
        rw [none9 _ S' (fun a q => zA_in q) h10 nA, e]
        show zhm (6 * b2 + r) p (S'.F 10 p &&& (16 ^^^ (-1))) S' = _
        rw [h10, show ((16 : Int32) ^^^ (-1)) = -17 by decide]
    rw [key]
    exact (h.hold _ _ _).s 11 17 (by decide) (by decide) (by decide)
  · rw [if_pos ((zn_own P S (by omega) hr).mpr d), if_neg d]
    exact h
theorem zeoM_fr {P S : ZS} {b r : Nat} : (zeoM P S b r).F 7 = S.F 7 ∧ (zeoM P S b r).F 15 = S.F 15 ∧ (zeoM P S b r).F 16 = S.F 16 ∧ ∀ t, (zeoM P S b r).I t = S.I t := by
  unfold zeoM
  split
  · have q := q_fMO_endAll P S (nI b) (nI r) 16
    refine ⟨?_, ?_, ?_, fun t => ?_⟩
    · rw [zFsn _ (by decide), q.2 7 (by decide)]
    · rw [zFsn _ (by decide), q.2 15 (by decide)]
    · rw [zFsn _ (by decide), q.2 16 (by decide)]
    · show (fMO_endAll P S (nI b) (nI r) 16).I t = _
      rw [q.1 t (by simp)]
  · exact ⟨rfl, rfl, rfl, fun _ => rfl⟩
/-! a hold ends -/
def zgd (nb : Nat) : Int32 := nI (2 * nb + 4)
theorem zn_eh {P P' : ZS} {nb nl q b r : Nat} (g : zGeo P P' nb nl) (hq : q < 2 * nl) (hk : zpl P q = 6 * b + r) (hr : r < 6) (S : ZS) (s : Int32) : fPR_endHold P S (nI q) s = (((zhs (6 * b + r) q ((S.F 14 q &&& (s ^^^ (-1))) ||| 8) S).setF 15 (6 * b + r) (zgd nb)).setI 10 (S.I 10 + 1)) := by
  have hn := g.nb
  have hn2 := g.nl
  have z2 : (2 : Int32) = nI 2 := by decide
  have z4 : (4 : Int32) = nI 4 := by decide
  obtain ⟨hb, -, h5, -⟩ := zprt g hq hk hr
  unfold fPR_endHold
  simp only [zl]
  rw [nI_clamp (by omega), zn_set g hq hk hr, h5, nI_clamp (by omega), g.1.1, z2, nI_mul, z4, nI_add]
  have e : ((zhs (6 * b + r) q ((S.F 14 q &&& (s ^^^ (-1))) ||| 8) S).setF 15 (6 * b + r) (nI (2 * nb + 4))).I 10 = S.I 10 := zhs_I (by decide)
  rw [e]
  rfl
theorem zn_ends {P P' : ZS} {nb nl q b r : Nat} (g : zGeo P P' nb nl) (hq : q < 2 * nl) (hk : zpl P q = 6 * b + r) (hr : r < 6) (S : ZS) (s : Int32) : fMO_ends P' S (nI b) (nI (q / 2)) s = (zhm (6 * b + r) q ((S.F 10 q &&& (s ^^^ (-1))) ||| 8) S).setF 13 (6 * b + r) (zgd nb) := by
  have hn := g.nb
  have hn2 := g.nl
  have z2 : (2 : Int32) = nI 2 := by decide
  have z4 : (4 : Int32) = nI 4 := by decide
  obtain ⟨hb, e2, -, -⟩ := zprt g hq hk hr
  unfold fMO_ends
  simp only [zl]
  rw [zn_end g hq hk hr, nI_clamp (by omega), zn_chg g hq hk hr, g.2.1.2.2.2.2.1, nI_clamp (by omega), e2, zat, nI_clamp (by omega), g.2.1.1, g.1.1, z2, nI_mul, z4, nI_add]
  rfl
/-- a hold ends on both sides, the stirs not yet counted -/
theorem zC.eh {no : Nat} {tk : Prop} {c : Int32} {m K : Nat} {S S' : ZS} (h : zC no tk c m K S S') (k q : Nat) (s w : Int32) : zC no tk c m K ((zhs k q ((S.F 14 q &&& s) ||| 8) S).setF 15 k w) ((zhm k q ((S'.F 10 q &&& s) ||| 8) S').setF 13 k w) := by
  rw [h.g 10 14 (by decide)]
  exact (h.hold k q _).s 13 15 (by decide) (by decide) (by decide)
/-- a command's hold is out -/
theorem zI.out {P : ZS} {nb nl : Nat} {h f cm cl : Nat → Int32} {q k : Nat} (hI : zI P nb nl h f cm cl) (hq : q < 2 * nl) (hp : zpl P q = k) (ho : ∀ q', q' < 2 * nl → zpl P q' = k → q' ≠ q → h q' &&& 6 = 0) : zI P nb nl (upd h q ((h q &&& ((h q &&& 6) ^^^ (-1))) ||| 8)) f (upd cm k 0) cl := by
  obtain ⟨h1, h2, h3⟩ := hI
  have v1 : ((h q &&& ((h q &&& 6) ^^^ (-1))) ||| 8) &&& 1 = h q &&& 1 := by rw [zkor (by decide), zout, zkand (by decide)]
  have v16 : ((h q &&& ((h q &&& 6) ^^^ (-1))) ||| 8) &&& 16 = h q &&& 16 := by rw [zkor (by decide), zout, zkand (by decide)]
  have v6 : ((h q &&& ((h q &&& 6) ^^^ (-1))) ||| 8) &&& 6 = 0 := by
    rw [zkor (by decide), zout, Int32.and_assoc, show ((6 : Int32) ^^^ (-1)) &&& 6 = 0 by decide, Int32.and_zero]
  generalize (h q &&& ((h q &&& 6) ^^^ (-1))) ||| 8 = v at v1 v16 v6
  refine ⟨fun a ha => ?_, fun c => ?_, fun a ha => ?_⟩
  · by_cases e : a = q
    · rw [e, upd_at, v1]; exact h1 q hq
    · rw [upd_ne _ _ e]; exact h1 a ha
  · by_cases e : c = k
    · subst e
      rw [upd_at]
      refine Or.inl ⟨rfl, fun a ha hpa => ?_⟩
      by_cases e2 : a = q
      · rw [e2, upd_at]; exact v6
      · rw [upd_ne _ _ e2]; exact ho a ha hpa e2
    · rw [upd_ne _ _ e]
      have ne : ∀ a, zpl P a = c → a ≠ q := fun a h9 e9 => e (by rw [← h9, e9, hp])
      rcases h2 c with ⟨a, b⟩ | ⟨a, a1, a2, a3, a4, a5, a6⟩
      · exact Or.inl ⟨a, fun q' b1 b2 => by rw [upd_ne _ _ (ne q' b2)]; exact b q' b1 b2⟩
      · exact Or.inr ⟨a, a1, a2, a3, by rw [upd_ne _ _ (ne a a2)]; exact a4, a5, fun q' b1 b2 b3 => by rw [upd_ne _ _ (ne q' b2)]; exact a6 q' b1 b2 b3⟩
  · by_cases e : a = q
    · rw [e, upd_at, v16]; exact h3 q hq
    · rw [upd_ne _ _ e]; exact h3 a ha
/-- a bridge's command in a ring ends, on both sides -/
theorem zC.ec {no : Nat} {P P' : ZS} {nb nl b r : Nat} {tk : Prop} {c : Int32} {m K : Nat} {S S' : ZS} (h : zC no tk c m K S S') (g : zGeo P P' nb nl) (hI : zIS P nb nl S S') (hb : b < nb) (hr : r < 6) :
    (fPR_endCommand P S (nI (6 * b + r)) = (S, 0) ∧ fMO_endCommand P' S' (nI b) (nI r) = (S', 0) ∧ S'.F 15 (6 * b + r) = 0) ∨
    ∃ T T' : ZS, fPR_endCommand P S (nI (6 * b + r)) = (T, 1) ∧ fMO_endCommand P' S' (nI b) (nI r) = (T', 1) ∧ zC no tk c (m + 1) (K + 1) T T' ∧ zIS P nb nl T T' ∧ T'.F 15 (6 * b + r) = 0 := by
  have hn := g.nb
  have hn2 := g.nl
  unfold fPR_endCommand fMO_endCommand
  simp only [zl]
  rw [zat, nI_clamp (by omega)]
  have hcm := hI.2.1 (6 * b + r)
  rcases zcmd g (by omega) hcm with ⟨e0, ep⟩ | ⟨q, hq, hp, ep, hc, h6, hl⟩
  · left
    rw [if_pos ep, if_pos e0]
    exact ⟨rfl, rfl, e0⟩
  · right
    have c0 : ¬ S'.F 15 (6 * b + r) = 0 := by
      rcases hc with e | e <;> rw [e] <;> decide
    rw [ep, if_neg (nI_ne (by omega)), if_neg c0, nI_clamp (by omega), zn_eh g hq hp hr, hl, zn_ends g hq hp hr, ← h6]
    refine ⟨_, _, rfl, rfl, ?_, ?_, ?_⟩
    · have k1 := h.eh (6 * b + r) q ((S.F 14 q &&& 6) ^^^ (-1)) (zgd nb)
      have k2 := (k1.r (k := 15) (i := 6 * b + r) (v := 0) (by decide) (by decide)).stir
      have e10 : ((zhs (6 * b + r) q ((S.F 14 q &&& ((S.F 14 q &&& 6) ^^^ (-1))) ||| 8) S).setF 15 (6 * b + r) (zgd nb)).I 10 = S.I 10 := zhs_I (by decide)
      rw [e10] at k2
      exact k2
    · have ho : ∀ q', q' < 2 * nl → zpl P q' = 6 * b + r → q' ≠ q → S.F 14 q' &&& 6 = 0 := by
        rcases hcm with ⟨a, -⟩ | ⟨a, a1, a2, a3, a4, a5, a6⟩
        · exact absurd a c0
        · have ea : a = q := by
            by_cases e : q = a
            · exact e.symm
            · have := a6 q hq hp e
              rw [h6] at this
              exact absurd this c0
          rw [ea] at a6
          exact a6
      have k := hI.out hq hp ho
      show zI P nb nl (((zhs (6 * b + r) q ((S.F 14 q &&& ((S.F 14 q &&& 6) ^^^ (-1))) ||| 8) S).setF 15 (6 * b + r) (zgd nb)).F 14) ((((zhm (6 * b + r) q ((S'.F 10 q &&& ((S.F 14 q &&& 6) ^^^ (-1))) ||| 8) S').setF 13 (6 * b + r) (zgd nb)).setF 15 (6 * b + r) 0).F 7) ((((zhm (6 * b + r) q ((S'.F 10 q &&& ((S.F 14 q &&& 6) ^^^ (-1))) ||| 8) S').setF 13 (6 * b + r) (zgd nb)).setF 15 (6 * b + r) 0).F 15) ((((zhm (6 * b + r) q ((S'.F 10 q &&& ((S.F 14 q &&& 6) ^^^ (-1))) ||| 8) S').setF 13 (6 * b + r) (zgd nb)).setF 15 (6 * b + r) 0).F 16)
      rw [zFsn _ (by decide), zhs_F, zFsn _ (by decide), zFsn _ (by decide), zhm_n (by decide) (by decide), zFsk, zFsn _ (by decide), zhm_n (by decide) (by decide), zFsn _ (by decide), zFsn _ (by decide), zhm_n (by decide) (by decide)]
      exact k
    · show (((zhm (6 * b + r) q ((S'.F 10 q &&& ((S.F 14 q &&& 6) ^^^ (-1))) ||| 8) S').setF 13 (6 * b + r) (zgd nb)).setF 15 (6 * b + r) 0).F 15 (6 * b + r) = 0
      rw [zFsk, upd_at]
/-- an owner takes its hold -/
theorem zI.own {P P' : ZS} {nb nl : Nat} {h f cm cl : Nat → Int32} {p : Nat} (hI : zI P nb nl h f cm cl) (hp : P.F 6 (zpl P p % 6) = nI p) : zI P nb nl (upd h p (h p ||| 16)) f cm cl := by
  obtain ⟨h1, h2, h3⟩ := hI
  have v1 : (h p ||| 16) &&& 1 = h p &&& 1 := zkor (by decide)
  have v6 : (h p ||| 16) &&& 6 = h p &&& 6 := zkor (by decide)
  generalize h p ||| 16 = v at v1 v6
  have k1 : ∀ q, upd h p v q &&& 1 = h q &&& 1 := fun q => by
    by_cases e : q = p
    · rw [e, upd_at, v1]
    · rw [upd_ne _ _ e]
  have k6 : ∀ q, upd h p v q &&& 6 = h q &&& 6 := fun q => by
    by_cases e : q = p
    · rw [e, upd_at, v6]
    · rw [upd_ne _ _ e]
  refine ⟨fun q hq => by rw [k1]; exact h1 q hq, fun c => ?_, fun q hq => ?_⟩
  · rcases h2 c with ⟨a, b⟩ | ⟨q, a1, a2, a3, a4, a5, a6⟩
    · exact Or.inl ⟨a, fun q hq hp => by rw [k6]; exact b q hq hp⟩
    · exact Or.inr ⟨q, a1, a2, a3, by rw [k6]; exact a4, a5, fun q' b1 b2 b3 => by rw [k6]; exact a6 q' b1 b2 b3⟩
  · by_cases e : q = p
    · rw [e]; exact Or.inr hp
    · rw [upd_ne _ _ e]; exact h3 q hq
theorem zn_th {P P' : ZS} {nb nl r p b : Nat} (g : zGeo P P' nb nl) (hr : r < 6) (hp : p < 2 * nl) (e6 : P.F 6 r = nI p) (epl : zpl P p = 6 * b + r) (S : ZS) : fPR_takeHold P S (nI r) = fPR_takeNews P ((zhs (6 * b + r) p (S.F 14 p ||| 16) S).setF 18 r (S.F 18 r + 1)) (nI (6 * b + r)) (nI (108 + r)) (S.F 18 r + 1) := by
  have hn2 := g.nl
  have z108 : (108 : Int32) + nI r = nI (108 + r) := nI_add 108 r
  obtain ⟨-, -, h5, -⟩ := zprt g hp epl hr
  have e14 : (nI p).toNatClampNeg = p := nI_clamp (by omega)
  have er : (nI r).toNatClampNeg = r := nI_clamp (by omega)
  rw [fPR_takeHold, zl, zl, zl, zl, zl, zl, zl, zl, zl, zl, zl, er, e6, e14, zn_set g hp epl hr, h5, z108, zFsk, upd_at, zhs_n (by decide) (by decide)]
theorem zn_thM {P P' : ZS} {nb nl r p b : Nat} (g : zGeo P P' nb nl) (hr : r < 6) (hp : p < 2 * nl) (e3 : P.F 3 r = nI b) (e4 : P.F 4 r = nI (p / 2)) (epl : zpl P p = 6 * b + r) (S : ZS) : fMO_takeHold P' S (nI r) = fMO_news P' (((zhm (6 * b + r) p (S.F 10 p ||| 16) S).setF 11 r 0).setF 12 r (S.F 12 r + 1)) (nI b) (nI (108 + r)) (S.F 12 r + 1) (nI r) := by
  have hn2 := g.nl
  have z108 : (108 : Int32) + nI r = nI (108 + r) := nI_add 108 r
  have r3 : P'.F 3 = P.F 3 := g.2.1.2.2.2.2.2.1
  have r4 : P'.F 4 = P.F 4 := g.2.1.2.2.2.2.2.2
  have e14 : (nI p).toNatClampNeg = p := nI_clamp (by omega)
  have er : (nI r).toNatClampNeg = r := nI_clamp (by omega)
  have e12 : ((zhm (6 * b + r) p (S.F 10 p ||| 16) S).setF 11 r 0).F 12 r = S.F 12 r := by rw [zFsn _ (by decide), zhm_n (by decide) (by decide)]
  rw [fMO_takeHold, zl, zl, zl, zl, zl, zl, zl, zl, zl, zl, zl, zl, zl, zl, zl, er, r3, r4, e3, e4, zn_end g hp epl hr, e14, zn_chg g hp epl hr, z108, zFsk, upd_at, e12]
theorem zC.th {no : Nat} {P P' : ZS} {nb nl r x : Nat} {tk : Prop} {c : Int32} {m K : Nat} {S S' : ZS} (h : zC no tk c m K S S') (g : zGeo P P' nb nl) (hI : zIS P nb nl S S') (hr : r < 6) (hl : ∃ l, l < nl ∧ zrg P l = r) (h17 : S.F 17 r = 0) (h18 : S.F 18 r + 1 = nI x) (hx : x ≤ 32767) :
    zC no tk c m (K + 12) (fPR_takeHold P S (nI r)) (fMO_takeHold P' S' (nI r)) ∧ zIS P nb nl (fPR_takeHold P S (nI r)) (fMO_takeHold P' S' (nI r)) := by
  have hn := g.nb
  have hn2 := g.nl
  obtain ⟨p, b, hp, hb, e6, epl, e3, e4⟩ := g.2.2.2.2.2.2.2.1 r hr hl
  have h12 : S'.F 12 r + 1 = nI x := by rw [h.g 12 18 (by decide)]; exact h18
  rw [zn_th g hr hp e6 epl, zn_thM g hr hp e3 e4 epl, h18, h12, h.g 10 14 (by decide)]
  have k1 := h.hold (6 * b + r) p (S.F 14 p ||| 16)
  have x14 : (zhs (6 * b + r) p (S.F 14 p ||| 16) S).F 14 = upd (S.F 14) p (S.F 14 p ||| 16) := zhs_F
  have x17 : (zhs (6 * b + r) p (S.F 14 p ||| 16) S).F 17 r = 0 := by rw [zhs_n (by decide) (by decide)]; exact h17
  have x7 : (zhm (6 * b + r) p (S.F 14 p ||| 16) S').F 7 = S'.F 7 := zhm_n (by decide) (by decide)
  have x15 : (zhm (6 * b + r) p (S.F 14 p ||| 16) S').F 15 = S'.F 15 := zhm_n (by decide) (by decide)
  have x16 : (zhm (6 * b + r) p (S.F 14 p ||| 16) S').F 16 = S'.F 16 := zhm_n (by decide) (by decide)
  generalize zhs (6 * b + r) p (S.F 14 p ||| 16) S = X at k1 x14 x17 ⊢
  generalize zhm (6 * b + r) p (S.F 14 p ||| 16) S' = X' at k1 x7 x15 x16 ⊢
  have x11 : X'.setF 11 r 0 = X' := by
    have e : X'.F 11 r = 0 := by rw [k1.g 11 17 (by decide)]; exact x17
    have e2 := zset_id X' 11 r
    rw [e] at e2
    exact e2
  rw [x11]
  have k2 := k1.s (i := r) (v := nI x) 12 18 (by decide) (by decide) (by decide)
  have hI2 : zI P nb nl (X.F 14) (X'.F 7) (X'.F 15) (X'.F 16) := by
    rw [x14, x7, x15, x16]
    exact zI.own (P' := P') hI (by rw [epl, show (6 * b + r) % 6 = r by omega]; exact e6)
  have y14 : (X.setF 18 r (nI x)).F 14 = X.F 14 := zFsn _ (by decide)
  have y7 : (X'.setF 12 r (nI x)).F 7 = X'.F 7 := zFsn _ (by decide)
  have y15 : (X'.setF 12 r (nI x)).F 15 = X'.F 15 := zFsn _ (by decide)
  have y16 : (X'.setF 12 r (nI x)).F 16 = X'.F 16 := zFsn _ (by decide)
  generalize X.setF 18 r (nI x) = Y at k2 y14 ⊢
  generalize X'.setF 12 r (nI x) = Y' at k2 y7 y15 y16 ⊢
  have i2 : zI P nb nl (Y.F 14) (Y'.F 7) (Y'.F 15) (Y'.F 16) := by
    rw [y14, y7, y15, y16]
    exact hI2
  generalize hN : 108 + r = N
  have k3 := k2.news (b := b) (r := r) (n := N) (mm := x) g hb hr (by omega) hx (fun a ha h1 h2 => i2.1 a ha)
  refine ⟨k3, ?_⟩
  have q1 := q_fPR_takeNews P Y (nI (6 * b + r)) (nI N) (nI x)
  have q2 := q_fMO_news P' Y' (nI b) (nI N) (nI x) (nI r)
  show zI P nb nl _ _ _ _
  rw [q1.2 14 (by decide), q2.2 7 (by decide), q2.2 15 (by decide), q2.2 16 (by decide)]
  exact i2

/-! bounds of the class's counters -/
def zop (P : ZS) (j : Nat) : Nat := 6 * (P.F 3 j).toNatClampNeg + j
def zbq (P : ZS) (n t k k2 : Nat) (row j : Nat) (v : Int32) : Prop := match row with
  | 12 => 2 * (P.I 1).toNatClampNeg ≤ j → v = 0
  | 13 => 0 ≤ v.toInt
  | 15 => 0 ≤ v.toInt
  | 16 => 0 ≤ v.toInt ∧ v.toInt ≤ (t : Int) + (if j < k then 1 else 0)
  | 17 => 0 ≤ v.toInt
  | 18 => 0 ≤ v.toInt ∧ v.toInt ≤ (t : Int) + 1 + (if zop P j < k2 then 1 else 0)
  | 19 => 0 ≤ v.toInt ∧ v.toInt ≤ (n : Int)
  | 20 => 0 ≤ v.toInt ∧ v.toInt ≤ (n : Int)
  | _ => True
abbrev zbr : List Nat := [12, 13, 15, 16, 17, 18, 19, 20]
theorem zbq_o {P : ZS} {n t k k2 row j : Nat} {v : Int32} (h : row ∉ zbr) : zbq P n t k k2 row j v := by
  unfold zbq
  split <;> first | trivial | exact absurd (by decide) h
def zBd (P : ZS) (n t k k2 : Nat) (S : ZS) : Prop := ∀ row j, zbq P n t k k2 row j (S.F row j)
theorem zBd.R {P S : ZS} {n t k k2 row : Nat} {f : Nat → Int32} (h : zBd P n t k k2 S) (hv : ∀ j, zbq P n t k k2 row j (f j)) : zBd P n t k k2 (S.row row f) := by
  intro q j
  by_cases c : q = row
  · subst c
    rw [ZS.row_self]
    exact hv j
  · rw [ZS.row_ne _ _ c]
    exact h q j
theorem zBd.F {P S : ZS} {n t k k2 row i : Nat} {v : Int32} (h : zBd P n t k k2 S) (hv : zbq P n t k k2 row i v) : zBd P n t k k2 (S.setF row i v) := by
  refine h.R (fun j => ?_)
  by_cases c : j = i
  · subst c
    rw [upd_at]
    exact hv
  · rw [upd_ne _ _ c]
    exact h row j
theorem zBd.Fo {P S : ZS} {n t k k2 row i : Nat} {v : Int32} (h : zBd P n t k k2 S) (hv : row ∉ zbr) : zBd P n t k k2 (S.setF row i v) := h.F (zbq_o hv)
theorem zBd.I {P S : ZS} {n t k k2 q : Nat} {v : Int32} (h : zBd P n t k k2 S) : zBd P n t k k2 (S.setI q v) := h
theorem zBd.cg {P S T : ZS} {n t k k2 : Nat} (h : zBd P n t k k2 S) (e : ∀ q ∈ zbr, T.F q = S.F q) : zBd P n t k k2 T := by
  intro q j
  by_cases c : q ∈ zbr
  · rw [e q c]; exact h q j
  · exact zbq_o c
theorem zBd.fr {P S T : ZS} {n t k k2 : Nat} {ws fs : List Nat} (h : zBd P n t k k2 S) (f : zfr 28 ws fs S T) (m : ∀ q ∈ zbr, min q 28 ∉ fs) : zBd P n t k k2 T := h.cg (fun q hq => f.2 q (m q hq))
theorem zbq16 {P : ZS} {n t k k2 j : Nat} : zbq P n t k k2 16 j 0 := by
  show 0 ≤ (0 : Int32).toInt ∧ (0 : Int32).toInt ≤ (t : Int) + (if j < k then 1 else 0)
  have z : (0 : Int32).toInt = 0 := by decide
  rw [z]
  split <;> omega
theorem zBd_set {P S : ZS} {n t k k2 : Nat} (h : zBd P n t k k2 S) (x v : Int32) : zBd P n t k k2 (fPR_setHolds P S x v) := by
  unfold fPR_setHolds
  simp only [zl]
  split
  · exact h
  · exact ((h.Fo (by decide)).F zbq16).I
theorem zBd_ewz {P : ZS} {n t k k2 : Nat} : ∀ (N : Nat) (S : ZS) (x y : Int32), zBd P n t k k2 S → zBd P n t k k2 (zfix (fun S9 _ _ => S9) (fPR_endWaiting_4 P) N S x y) := by
  intro N
  induction N with
  | zero => intro S x y h; rw [zfix_0]; exact h
  | succ N ih =>
    intro S x y h
    rw [zfix_s]
    generalize zfix (fun S9 _ _ => S9) (fPR_endWaiting_4 P) N = rc at ih ⊢
    unfold fPR_endWaiting_4 fPR_endWaiting_42
    simp only [zl]
    split
    · exact h
    · split
      · exact ih _ _ _ h
      · exact ih _ _ _ (zBd_set h _ _)
theorem zBd_ew {P S : ZS} {n t k k2 : Nat} (h : zBd P n t k k2 S) (x : Int32) : zBd P n t k k2 (fPR_endWaiting P S x) := zBd_ewz 577 S x _ h
theorem zBd_eoh {P S : ZS} {n t k k2 : Nat} (h : zBd P n t k k2 S) (x : Int32) : zBd P n t k k2 (fPR_endOwnerHold P S x) := by
  unfold fPR_endOwnerHold
  simp only [zl]
  split
  · exact h
  · exact (zBd_set h _ _).F (show 0 ≤ (0 : Int32).toInt by decide)
theorem zBd_eh {P S : ZS} {n t k k2 nb : Nat} (hB : P.I 0 = nI nb) (hb : nb ≤ 48) (h : zBd P n t k k2 S) (x s : Int32) : zBd P n t k k2 (fPR_endHold P S x s) := by
  have z2 : (2 : Int32) = nI 2 := by decide
  have z4 : (4 : Int32) = nI 4 := by decide
  unfold fPR_endHold
  simp only [zl]
  refine zBd.I ((zBd_set h _ _).F ?_)
  show 0 ≤ (2 * P.I 0 + 4).toInt
  rw [hB, z2, nI_mul, z4, nI_add, nI_toInt (by omega)]
  omega
theorem zBd_ec {P S : ZS} {n t k k2 nb : Nat} (hB : P.I 0 = nI nb) (hb : nb ≤ 48) (h : zBd P n t k k2 S) (x : Int32) : zBd P n t k k2 (fPR_endCommand P S x).1 := by
  unfold fPR_endCommand
  simp only [zl]
  split
  · exact h
  · exact zBd_eh hB hb h _ _
theorem zBd_bh {P S : ZS} {n t k k2 : Nat} (h : zBd P n t k k2 S) (x s : Int32) : zBd P n t k k2 (fPR_beginHold P S x s) := by
  unfold fPR_beginHold
  simp only [zl]
  exact zBd.I (zBd_eoh (zBd_set h _ _) _)
theorem zBd_put {P S : ZS} {n t k k2 nl L : Nat} (hI : P.I 1 = nI nl) (hn : nl ≤ 60) (hL : L < 2 * nl) (h : zBd P n t k k2 S) (x : Int32) : zBd P n t k k2 (fWI_put P S (nI L) x) := by
  unfold fWI_put
  simp only [zl]
  split
  · refine (h.Fo (by decide)).F ?_
    show 2 * (P.I 1).toNatClampNeg ≤ (nI L).toNatClampNeg → _
    rw [hI, nI_clamp (by omega), nI_clamp (by omega)]
    intro q
    omega
  · exact h.I
theorem zBd_pO {P P' S : ZS} {n t k k2 nb nl : Nat} (g : zGeo P P' nb nl) {o : Option Nat} (ho : ∀ a, o = some a → a < 2 * nl) (h : zBd P n t k k2 S) (x : Int32) : zBd P n t k k2 (zpO P x o S) := by
  have hn := g.nl
  cases o with
  | none => exact h
  | some a =>
    have h1 := ho a rfl
    show zBd P n t k k2 (if fPR_isDown P S (nI a) = 0 then fWI_put P S (nI a ^^^ 1) x else S)
    split
    · rw [zxor]
      exact zBd_put g.1.2.2.1 hn (xor1_lt h1) h x
    · exact h
theorem zBd_pf {P P' S : ZS} {n t k k2 nb nl p : Nat} (g : zGeo P P' nb nl) (hp : p < 288) (h : zBd P n t k k2 S) (x : Int32) : zBd P n t k k2 (fPR_putFromPorts P S (nI p) x) := by
  rw [zpf_g g hp]
  exact zBd_pO g (fun a e => (zB_in e).1) (zBd_pO g (fun a e => (zA_in e).1) h x) x
theorem zBd_n68 {P P' : ZS} {n t k k2 nb nl b r : Nat} (g : zGeo P P' nb nl) (hb : b < nb) (hr : r < 6) (x : Int32) : ∀ (N i : Nat) (S : ZS), i ≤ 6 → 6 - i < N → zBd P n t k k2 S → zBd P n t k k2 (zfix (fun S9 _ _ _ _ => S9) (fPR_takeNews_68 P) N S (nI (6 * b + r)) (nI b) x (nI i)) := by
  have hn := g.nb
  have z6 : (6 : Int32) = nI 6 := by decide
  intro N
  induction N with
  | zero => intro i S h1 h2; omega
  | succ N ih =>
    intro i S h1 h2 h
    rw [zfix_s]
    generalize zfix (fun S9 _ _ _ _ => S9) (fPR_takeNews_68 P) N = rc at ih ⊢
    unfold fPR_takeNews_68 fPR_takeNews_98
    simp only [zl]
    by_cases c6 : i = 6
    · rw [z6, if_pos (nI_le (by omega) (by omega))]
      exact h
    · rw [z6, if_neg (nI_ge (by omega) (by omega)), nI_mul, nI_add, nI_1]
      split
      · exact ih (i + 1) S (by omega) (by omega) h
      · exact ih (i + 1) _ (by omega) (by omega) (zBd_pf g (by omega) h x)
theorem zBd_nw {P P' S : ZS} {n t k k2 nb nl b r : Nat} (g : zGeo P P' nb nl) (hb : b < nb) (hr : r < 6) (h : zBd P n t k k2 S) (y z : Int32) : zBd P n t k k2 (fPR_takeNews P S (nI (6 * b + r)) y z) := by
  have hn := g.nb
  have z6 : (6 : Int32) = nI 6 := by decide
  have z0 : (0 : Int32) = nI 0 := by decide
  unfold fPR_takeNews
  simp only [zl]
  rw [z6, nI_div (by omega) (by omega), show (6 * b + r) / 6 = b by omega]
  split
  · rw [z0]
    refine zBd_n68 g hb hr _ 7 0 _ (by omega) (by omega) ?_
    exact ((h.Fo (by decide)).Fo (by decide)).fr (q_fTA_forgetAll P _ (nI b)) (by decide)
  · exact h
theorem zBd_hob {P S : ZS} {n t k k2 nb : Nat} (hB : P.I 0 = nI nb) (hb : nb ≤ 48) (h : zBd P n t k k2 S) (x y z : Int32) : zBd P n t k k2 (fPR_hearOfBlock P S x y z) := by
  have h2 := zBd_ew (zBd_eoh h x) x
  rw [fPR_hearOfBlock]
  repeat rw [zl]
  generalize fPR_endWaiting P (fPR_endOwnerHold P S x) x = X at h2 ⊢
  have h80 : ∀ q, zBd P n t k k2 (fPR_hearOfBlock_80 P X q) := fun q => by
    rw [fPR_hearOfBlock_80]
    repeat rw [zl]
    exact zBd_eh hB hb h2 _ _
  have h59 : ∀ a b c d e f, zBd P n t k k2 (fPR_hearOfBlock_59 P X a b c d e f) := fun a b c d e f => by
    rw [fPR_hearOfBlock_59]
    repeat rw [zl]
    split
    · split
      · split
        · exact h2
        · exact h80 _
      · exact h2
    · exact h80 _
  have h41 : ∀ a b c d e, zBd P n t k k2 (fPR_hearOfBlock_41 P X a b c d e) := fun a b c d e => by
    rw [fPR_hearOfBlock_41, fPR_hearOfBlock_58]
    split
    · split
      · exact h59 _ _ _ _ _ _
      · exact h59 _ _ _ _ _ _
    · exact h59 _ _ _ _ _ _
  split
  · exact h2
  · split
    · exact h41 _ _ _ _ _
    · exact h41 _ _ _ _ _
theorem zBd_hoh {P S : ZS} {n t k k2 : Nat} (h : zBd P n t k k2 S) (x : Int32) : zBd P n t k k2 (fPR_hearOfHealing P S x) := by
  have key : ∀ a b c, zBd P n t k k2 (fPR_hearOfHealing_21 P S a b c) := fun a b c => by
    unfold fPR_hearOfHealing_21
    simp only [zl]
    split
    · exact h
    · split
      · split
        · exact h.F (show 0 ≤ (60 : Int32).toInt by decide)
        · exact h
      · exact h
  unfold fPR_hearOfHealing
  simp only [zl]
  split
  · exact key _ _ _
  · exact key _ _ _
theorem zBd_h23 {P S : ZS} {n t k k2 nb : Nat} (hB : P.I 0 = nI nb) (hb : nb ≤ 48) (h : zBd P n t k k2 S) (x y z : Int32) : zBd P n t k k2 (fPR_hear_23 P S x y z) := by
  unfold fPR_hear_23
  simp only [zl]
  split
  · split
    · exact zBd_hob hB hb h _ _ _
    · split
      · exact zBd_hob hB hb h _ _ _
      · split
        · exact zBd_hob hB hb h _ _ _
        · split
          · exact zBd_hoh h _
          · split
            · exact zBd_ew h _
            · exact h
  · exact h
theorem zBd_hear {P P' S : ZS} {n t k k2 nb nl b r : Nat} (g : zGeo P P' nb nl) (hb : b < nb) (hr : r < 6) (h : zBd P n t k k2 S) (y : Int32) : zBd P n t k k2 (fPR_hear P S (nI (6 * b + r)) y) := by
  rw [fPR_hear]
  repeat rw [zl]
  split
  · exact zBd_h23 g.1.1 g.nb h _ _ _
  · exact zBd_h23 g.1.1 g.nb (zBd_nw g hb hr h _ _) _ _ _
theorem zBd_lo {P S : ZS} {n t k k2 : Nat} (h : zBd P n t k k2 S) (x : Int32) : zBd P n t k k2 (fWI_losesOne P S x).1 := by
  unfold fWI_losesOne
  simp only [zl]
  split
  · exact h
  · rename_i c
    refine zBd.I (h.F ?_)
    have h0 : 0 ≤ (S.F 13 x.toNatClampNeg).toInt := h 13 _
    have z0 : (0 : Int32).toInt = 0 := by decide
    have z1 : (1 : Int32).toInt = 1 := by decide
    have hne : (S.F 13 x.toNatClampNeg).toInt ≠ 0 := fun e => c (Int32.toInt_inj.mp (e.trans z0.symm))
    have hlt := Int32.toInt_lt (S.F 13 x.toNatClampNeg)
    show 0 ≤ (S.F 13 x.toNatClampNeg - 1).toInt
    rw [Int32.toInt_sub, z1, zbm ⟨by omega, by omega⟩]
    omega
/-! a bridge hears, on both sides -/
theorem zhb_t (P S : ZS) (x a s q o : Int32) : fPR_hearOfBlock_41 P S x a s q o = if (o = 2 ∧ ¬ a = 2) ∨ (o = a ∧ ¬ x / 6 ≤ s) then fPR_hearOfBlock_80 P S q else S := by
  have n1 : ¬ (1 : Int32) = 0 := by decide
  unfold fPR_hearOfBlock_41 fPR_hearOfBlock_58 fPR_hearOfBlock_59
  simp only [zl, if_neg n1, if_true]
  by_cases c1 : o = 2
  · rw [if_pos c1]
    by_cases c2 : a = 2
    · rw [if_pos c2, if_pos (show o = a by rw [c1, c2])]
      by_cases c3 : x / 6 ≤ s
      · rw [if_pos c3, if_neg (fun q => q.elim (fun q => q.2 c2) (fun q => q.2 c3))]
      · rw [if_neg c3, if_pos (Or.inr ⟨by rw [c1, c2], c3⟩)]
    · rw [if_neg c2, if_pos (Or.inl ⟨c1, c2⟩)]
  · rw [if_neg c1]
    by_cases c2 : o = a
    · rw [if_pos c2]
      by_cases c3 : x / 6 ≤ s
      · rw [if_pos c3, if_neg (fun q => q.elim (fun q => c1 q.1) (fun q => q.2 c3))]
      · rw [if_neg c3, if_pos (Or.inr ⟨c2, c3⟩)]
    · rw [if_neg c2, if_neg (fun q => q.elim (fun q => c1 q.1) (fun q => c2 q.1))]
noncomputable def zhtl (P S : ZS) (b r a s c : Int32) : ZS := (if c = 4 then (if a = 0 then fMO_hears_126 P S b r a s c else (if a = 1 then fMO_hears_126 P S b r a s c else fMO_hears_130 P S b r a s c)) else fMO_hears_130 P S b r a s c)
theorem zhtl_e (P S : ZS) (b r a s c : Int32) : zhtl P S b r a s c = if (c = 4 ∧ (a = 0 ∨ a = 1)) ∨ (¬ b ≤ s ∧ ((c = 4 ∧ a = 2) ∨ (c = 2 ∧ a = 1))) then (fMO_endCommand P S b r).1 else S := by
  have n1 : ¬ (1 : Int32) = 0 := by decide
  have e0 : fMO_hears_171 P S b r 0 = S := by unfold fMO_hears_171; rw [if_pos rfl]
  have e1 : fMO_hears_171 P S b r 1 = (fMO_endCommand P S b r).1 := by unfold fMO_hears_171; rw [if_neg n1]; rfl
  have d1 : ∀ a s c, fMO_hears_126 P S b r a s c = (fMO_endCommand P S b r).1 := fun a s c => by
    unfold fMO_hears_126 fMO_hears_131 fMO_hears_166
    rw [if_neg n1, e1]
  have d0 : fMO_hears_130 P S b r a s c = if ¬ b ≤ s ∧ ((c = 4 ∧ a = 2) ∨ (c = 2 ∧ a = 1)) then (fMO_endCommand P S b r).1 else S := by
    unfold fMO_hears_130 fMO_hears_131 fMO_hears_155 fMO_hears_166 fMO_hears_170
    rw [if_pos rfl, e0, e1]
    by_cases c3 : b ≤ s
    · rw [if_pos c3, if_neg (fun q => q.1 c3)]
    · rw [if_neg c3]
      by_cases c4 : c = 4
      · rw [if_pos c4]
        have n2 : ¬ c = 2 := fun q => by rw [c4] at q; exact absurd q (by decide)
        by_cases c5 : a = 2
        · rw [if_pos c5, if_pos ⟨c3, Or.inl ⟨c4, c5⟩⟩]
        · rw [if_neg c5, if_neg n2, if_neg (fun q => q.2.elim (fun q => c5 q.2) (fun q => n2 q.1))]
      · rw [if_neg c4]
        by_cases c5 : c = 2
        · rw [if_pos c5]
          by_cases c6 : a = 1
          · rw [if_pos c6, if_pos ⟨c3, Or.inr ⟨c5, c6⟩⟩]
          · rw [if_neg c6, if_neg (fun q => q.2.elim (fun q => c4 q.1) (fun q => c6 q.2))]
        · rw [if_neg c5, if_neg (fun q => q.2.elim (fun q => c4 q.1) (fun q => c5 q.1))]
  unfold zhtl
  rw [d1, d0]
  by_cases c4 : c = 4
  · rw [if_pos c4]
    by_cases a0 : a = 0
    · rw [if_pos a0, if_pos (Or.inl ⟨c4, Or.inl a0⟩)]
    · rw [if_neg a0]
      by_cases a1 : a = 1
      · rw [if_pos a1, if_pos (Or.inl ⟨c4, Or.inr a1⟩)]
      · rw [if_neg a1]
        by_cases c9 : ¬ b ≤ s ∧ ((c = 4 ∧ a = 2) ∨ (c = 2 ∧ a = 1))
        · rw [if_pos c9, if_pos (Or.inr c9)]
        · rw [if_neg c9, if_neg (fun q => q.elim (fun q => q.2.elim a0 a1) c9)]
  · rw [if_neg c4]
    by_cases c9 : ¬ b ≤ s ∧ ((c = 4 ∧ a = 2) ∨ (c = 2 ∧ a = 1))
    · rw [if_pos c9, if_pos (Or.inr c9)]
    · rw [if_neg c9, if_neg (fun q => q.elim (fun q => c4 q.1) c9)]
/-- of a block: what comes behind the owner's hold -/
theorem zC.blk {no : Nat} {P P' : ZS} {nb nl b r a s : Nat} {tk : Prop} {c : Int32} {m K : Nat} {S S' : ZS} (h : zC no tk c m K S S') (g : zGeo P P' nb nl) (hI : zIS P nb nl S S') (hb : b < nb) (hr : r < 6) (ha : a ≤ 2) (hs : s ≤ 47) :
    zC no tk c m (K + 1) (if fPR_commandPort P S (nI (6 * b + r)) = -1 then S else if S.F 14 (fPR_commandPort P S (nI (6 * b + r))).toNatClampNeg &&& 2 = 0 then fPR_hearOfBlock_41 P S (nI (6 * b + r)) (nI a) (nI s) (fPR_commandPort P S (nI (6 * b + r))) 2 else fPR_hearOfBlock_41 P S (nI (6 * b + r)) (nI a) (nI s) (fPR_commandPort P S (nI (6 * b + r))) 1) (zhtl P' S' (nI b) (nI r) (nI a) (nI s) (S'.F 15 (6 * b + r))) ∧
    zIS P nb nl (if fPR_commandPort P S (nI (6 * b + r)) = -1 then S else if S.F 14 (fPR_commandPort P S (nI (6 * b + r))).toNatClampNeg &&& 2 = 0 then fPR_hearOfBlock_41 P S (nI (6 * b + r)) (nI a) (nI s) (fPR_commandPort P S (nI (6 * b + r))) 2 else fPR_hearOfBlock_41 P S (nI (6 * b + r)) (nI a) (nI s) (fPR_commandPort P S (nI (6 * b + r))) 1) (zhtl P' S' (nI b) (nI r) (nI a) (nI s) (S'.F 15 (6 * b + r))) := by
  have hn := g.nb
  have hn2 := g.nl
  have z6 : (6 : Int32) = nI 6 := by decide
  rw [zhtl_e]
  have hcm := hI.2.1 (6 * b + r)
  have ec := h.ec g hI hb hr
  have n02 : ¬ (0 : Int32) = 2 := by decide
  have n04 : ¬ (0 : Int32) = 4 := by decide
  have n24 : ¬ (2 : Int32) = 4 := by decide
  have n42 : ¬ (4 : Int32) = 2 := by decide
  have n12 : ¬ (1 : Int32) = 2 := by decide
  rcases zcmd g (by omega) hcm with ⟨e0, ep⟩ | ⟨q, hq, hp, ep, hc, h6, hl⟩
  · rw [if_pos ep, e0, if_neg (fun q => q.elim (fun q => n04 q.1) (fun q => q.2.elim (fun q => n04 q.1) (fun q => n02 q.1)))]
    exact ⟨h.mo (Nat.le_refl _) (by omega), hI⟩
  · have c0 : ¬ S'.F 15 (6 * b + r) = 0 := by
      rcases hc with e | e <;> rw [e] <;> decide
    have e80 : fPR_hearOfBlock_80 P S (nI q) = (fPR_endCommand P S (nI (6 * b + r))).1 := by
      rw [fPR_hearOfBlock_80, fPR_endCommand]
      repeat rw [zl]
      rw [ep, if_neg (nI_ne (by omega))]
    have fin : zC no tk c m (K + 1) (fPR_endCommand P S (nI (6 * b + r))).1 (fMO_endCommand P' S' (nI b) (nI r)).1 ∧ zIS P nb nl (fPR_endCommand P S (nI (6 * b + r))).1 (fMO_endCommand P' S' (nI b) (nI r)).1 := by
      rcases ec with ⟨e1, e2, -⟩ | ⟨T, T', e1, e2, k1, k2, -⟩
      · rw [e1, e2]; exact ⟨h.mo (Nat.le_refl _) (by omega), hI⟩
      · rw [e1, e2]; exact ⟨k1.mo (by omega) (Nat.le_refl _), k2⟩
    have keep : zC no tk c m (K + 1) S S' ∧ zIS P nb nl S S' := ⟨h.mo (Nat.le_refl _) (by omega), hI⟩
    rw [ep, if_neg (nI_ne (by omega)), nI_clamp (by omega), zhb_t, zhb_t, e80, z6, nI_div (by omega) (by omega), show (6 * b + r) / 6 = b by omega]
    have h2 : S.F 14 q &&& 2 = S'.F 15 (6 * b + r) &&& 2 := by rw [← h6, Int32.and_assoc, show (6 : Int32) &&& 2 = 2 by decide]
    rcases hc with e | e
    · -- FORCED
      rw [e] at h2 ⊢
      rw [if_neg (by rw [h2]; decide)]
      by_cases y : (1 : Int32) = nI a ∧ ¬ nI b ≤ nI s
      · rw [if_pos (Or.inr y), if_pos (Or.inr ⟨y.2, Or.inr ⟨rfl, y.1.symm⟩⟩)]
        exact fin
      · rw [if_neg (fun q => q.elim (fun q => n12 q.1) y), if_neg (fun q => q.elim (fun q => n24 q.1) (fun q => q.2.elim (fun k => n24 k.1) (fun k => y ⟨k.2.symm, q.1⟩)))]
        exact keep
    · -- MANUAL
      rw [e] at h2 ⊢
      rw [if_pos (by rw [h2]; decide)]
      rcases (by omega : a = 0 ∨ a = 1 ∨ a = 2) with rfl | rfl | rfl
      · rw [if_pos (Or.inl ⟨rfl, by decide⟩), if_pos (Or.inl ⟨rfl, Or.inl (by decide)⟩)]
        exact fin
      · rw [if_pos (Or.inl ⟨rfl, by decide⟩), if_pos (Or.inl ⟨rfl, Or.inr (by decide)⟩)]
        exact fin
      · by_cases y : ¬ nI b ≤ nI s
        · rw [if_pos (Or.inr ⟨by decide, y⟩), if_pos (Or.inr ⟨y, Or.inl ⟨rfl, by decide⟩⟩)]
          exact fin
        · rw [if_neg (fun q => q.elim (fun q => q.2 (by decide)) (fun q => y q.2)), if_neg (fun q => q.elim (fun q => q.2.elim (fun k => absurd k (by decide)) (fun k => absurd k (by decide))) (fun q => y q.1))]
          exact keep
theorem zhealing (P S : ZS) (x : Int32) : fPR_hearOfHealing P S x = if ¬ fPL_isOwner P S x = 0 ∧ fPR_allHolds P S x &&& 23 = 0 ∧ S.F 17 (x - x / 6 * 6).toNatClampNeg = 0 then S.setF 17 (x - x / 6 * 6).toNatClampNeg 60 else S := by
  have n1 : ¬ (1 : Int32) = 0 := by decide
  unfold fPR_hearOfHealing fPR_hearOfHealing_21
  simp only [zl, if_neg n1, if_true]
  by_cases c1 : fPR_allHolds P S x &&& 23 = 0
  · rw [if_pos c1]
    by_cases c2 : fPL_isOwner P S x = 0
    · rw [if_pos c2, if_neg (fun q => q.1 c2)]
    · rw [if_neg c2]
      by_cases c3 : S.F 17 (x - x / 6 * 6).toNatClampNeg = 0
      · rw [if_pos c3, if_pos ⟨c2, c1, c3⟩]
      · rw [if_neg c3, if_neg (fun q => c3 q.2.2)]
  · have n9 : ¬ (¬ fPL_isOwner P S x = 0 ∧ fPR_allHolds P S x &&& 23 = 0 ∧ S.F 17 (x - x / 6 * 6).toNatClampNeg = 0) := fun q => c1 q.2.1
    rw [if_neg c1, if_neg n9]
    split <;> rfl
theorem zC.h23 {no : Nat} {P P' : ZS} {nb nl b r a s : Nat} {tk : Prop} {c : Int32} {m K : Nat} {S S' : ZS} (h : zC no tk c m K S S') (g : zGeo P P' nb nl) (hI : zIS P nb nl S S') (hb : b < nb) (hr : r < 6) (hl : ∃ l, l < nl ∧ zrg P l = r) (ha : a ≤ 5) (hs : s ≤ 47) {x : Int32} (hx : ∀ S, fCA_sourceOf P S x = nI s) :
    zC no tk c m (K + 1) (fPR_hear_23 P S (nI (6 * b + r)) x (nI a)) (fMO_hears P' S' (nI b) (nI r) (nI a) (nI s)) ∧ zIS P nb nl (fPR_hear_23 P S (nI (6 * b + r)) x (nI a)) (fMO_hears P' S' (nI b) (nI r) (nI a) (nI s)) := by
  have hn := g.nb
  have r3 : P'.F 3 = P.F 3 := g.2.1.2.2.2.2.2.1
  have z6 : (6 : Int32) = nI 6 := by decide
  have keep : zC no tk c m (K + 1) S S' ∧ zIS P nb nl S S' := ⟨h.mo (Nat.le_refl _) (by omega), hI⟩
  unfold fPR_hear_23 fMO_hears
  simp only [zl]
  rw [zat, nI_clamp (by omega), nI_clamp (by omega), h.g 13 15 (by decide), hx]
  by_cases gd : S.F 15 (6 * b + r) ≤ 0
  · have gd' : ¬ 0 < S.F 15 (6 * b + r) := fun q => by
      have := Int32.le_iff_toInt_le.mp gd
      have := Int32.lt_iff_toInt_lt.mp q
      omega
    rw [if_pos gd, if_neg gd']
    -- what a block does
    have blk : a ≤ 2 → zC no tk c m (K + 1) (fPR_hearOfBlock P S (nI (6 * b + r)) (nI a) (nI s)) (if fMO_owns P' S' (nI b) (nI r) = 0 then fMO_hears_91 P' S' (nI b) (nI r) (nI a) (nI s) else fMO_hears_91 P' ((fMO_endAll P' S' (nI b) (nI r) 16).setF 11 r 0) (nI b) (nI r) (nI a) (nI s)) ∧ zIS P nb nl (fPR_hearOfBlock P S (nI (6 * b + r)) (nI a) (nI s)) (if fMO_owns P' S' (nI b) (nI r) = 0 then fMO_hears_91 P' S' (nI b) (nI r) (nI a) (nI s) else fMO_hears_91 P' ((fMO_endAll P' S' (nI b) (nI r) 16).setF 11 r 0) (nI b) (nI r) (nI a) (nI s)) := by
      intro ha2
      have eM : (if fMO_owns P' S' (nI b) (nI r) = 0 then fMO_hears_91 P' S' (nI b) (nI r) (nI a) (nI s) else fMO_hears_91 P' ((fMO_endAll P' S' (nI b) (nI r) 16).setF 11 r 0) (nI b) (nI r) (nI a) (nI s)) = fMO_hears_91 P' (zeoM P' S' b r) (nI b) (nI r) (nI a) (nI s) := by
        unfold zeoM
        by_cases d : P'.F 3 r = nI b
        · rw [if_neg (fun e => (zn_owns P' S' (nI b) hr).mp e d), if_pos d]
        · rw [if_pos ((zn_owns P' S' (nI b) hr).mpr d), if_neg d]
      rw [eM]
      have k1 := h.eoh g hb hr hl hI.2.2
      have I1 : zIS P nb nl (fPR_endOwnerHold P S (nI (6 * b + r))) (zeoM P' S' b r) := by
        obtain ⟨f7, f15, f16, -⟩ := zeoM_fr (P := P') (S := S') (b := b) (r := r)
        show zI P nb nl _ _ _ _
        rw [f7, f15, f16]
        exact hI.k (zeoh_hk P S _)
      generalize zeoM P' S' b r = X' at k1 I1 ⊢
      unfold fPR_hearOfBlock
      simp only [zl]
      generalize fPR_endOwnerHold P S (nI (6 * b + r)) = X at k1 I1 ⊢
      have k2 := k1.ew g hb hr
      have I2 : zIS P nb nl (fPR_endWaiting P X (nI (6 * b + r))) (fMO_endAll P' X' (nI b) (nI r) 8) := by
        have q := q_fMO_endAll P' X' (nI b) (nI r) 8
        show zI P nb nl _ _ _ _
        rw [q.2 7 (by decide), q.2 15 (by decide), q.2 16 (by decide)]
        exact I1.k (zew_hk P X (by omega))
      unfold fMO_hears_91
      simp only [zl]
      rw [zat, nI_clamp (by omega)]
      generalize fPR_endWaiting P X (nI (6 * b + r)) = Y at k2 I2 ⊢
      generalize fMO_endAll P' X' (nI b) (nI r) 8 = Y' at k2 I2 ⊢
      exact k2.blk g I2 hb hr ha2 hs
    rcases (by omega : a = 0 ∨ a = 1 ∨ a = 2 ∨ a = 3 ∨ a = 4 ∨ a = 5) with e | e | e | e | e | e
    · have b9 := blk (by omega)
      subst e
      rw [if_pos (by decide), if_neg (by decide), if_neg (by decide), if_neg (by decide)]
      exact b9
    · have b9 := blk (by omega)
      subst e
      rw [if_neg (by decide), if_pos (by decide), if_neg (by decide), if_neg (by decide), if_neg (by decide)]
      exact b9
    · have b9 := blk (by omega)
      subst e
      rw [if_neg (by decide), if_neg (by decide), if_pos (by decide), if_neg (by decide), if_neg (by decide), if_neg (by decide)]
      exact b9
    · subst e
      rw [if_neg (by decide), if_neg (by decide), if_neg (by decide), if_pos (by decide), if_neg (by decide), if_pos (by decide), zhealing, z6, nI_rem (by omega) (by omega), show (6 * b + r) % 6 = r by omega, nI_clamp (by omega), h.g 11 17 (by decide)]
      by_cases d : P.F 3 r = nI b
      · have d' : P'.F 3 r = nI b := by rw [r3]; exact d
        rw [if_neg (fun e => (zn_owns P' S' (nI b) hr).mp e d')]
        by_cases d2 : fMO_has P' S' (nI b) (nI r) 23 = 0
        · have d2' := (zall_iff g hb hr (h.g 10 14 (by decide)) 23).mpr d2
          rw [if_pos d2]
          by_cases d3 : S.F 17 r = 0
          · rw [if_pos d3, if_pos ⟨fun e => (zn_own P S (by omega) hr).mp e d, d2', d3⟩]
            refine ⟨(h.s 11 17 (by decide) (by decide) (by decide)).mo (Nat.le_refl _) (by omega), ?_⟩
            show zI P nb nl _ _ _ _
            rw [zFsn _ (by decide), zFsn _ (by decide), zFsn _ (by decide), zFsn _ (by decide)]
            exact hI
          · rw [if_neg d3, if_neg (fun q => d3 q.2.2)]
            exact keep
        · rw [if_neg d2, if_neg (fun q => d2 ((zall_iff g hb hr (h.g 10 14 (by decide)) 23).mp q.2.1))]
          exact keep
      · have d' : ¬ P'.F 3 r = nI b := by rw [r3]; exact d
        rw [if_pos ((zn_owns P' S' (nI b) hr).mpr d'), if_neg (fun q => q.1 ((zn_own P S (by omega) hr).mpr d))]
        exact keep
    · subst e
      rw [if_neg (by decide), if_neg (by decide), if_neg (by decide), if_neg (by decide), if_pos (by decide), if_neg (by decide), if_neg (by decide), if_pos (by decide)]
      have k2 := h.ew g hb hr
      have I2 : zIS P nb nl (fPR_endWaiting P S (nI (6 * b + r))) (fMO_endAll P' S' (nI b) (nI r) 8) := by
        have q := q_fMO_endAll P' S' (nI b) (nI r) 8
        show zI P nb nl _ _ _ _
        rw [q.2 7 (by decide), q.2 15 (by decide), q.2 16 (by decide)]
        exact hI.k (zew_hk P S (by omega))
      have e9 : fMO_hears_91 P' S' (nI b) (nI r) (nI 4) (nI s) = fMO_endAll P' S' (nI b) (nI r) 8 := by
        unfold fMO_hears_91
        simp only [zl]
        show zhtl P' (fMO_endAll P' S' (nI b) (nI r) 8) (nI b) (nI r) (nI 4) (nI s) _ = _
        rw [zhtl_e]
        exact if_neg (fun q => q.elim (fun q => q.2.elim (fun k => absurd k (by decide)) (fun k => absurd k (by decide))) (fun q => q.2.elim (fun k => absurd k.2 (by decide)) (fun k => absurd k.2 (by decide))))
      rw [e9]
      exact ⟨k2.mo (Nat.le_refl _) (by omega), I2⟩
    · subst e
      rw [if_neg (by decide), if_neg (by decide), if_neg (by decide), if_neg (by decide), if_neg (by decide), if_pos (by decide)]
      exact keep
  · have gd' : 0 < S.F 15 (6 * b + r) := znle gd
    rw [if_neg gd, if_pos gd']
    exact keep

/-! a cast arrives, on both sides -/
theorem zlk2 {P P' : ZS} {nb nl q q2 : Nat} (g : zGeo P P' nb nl) (hq : q < 2 * nl) (hq2 : q2 < 2 * nl) (he : zpl P q = zpl P q2) (hl : q / 2 = q2 / 2) : q = q2 := by
  have e1 : zpl P q = 6 * (zpl P q / 6) + zpl P q % 6 := by omega
  have e2 : zpl P q2 = 6 * (zpl P q / 6) + zpl P q % 6 := by omega
  obtain ⟨-, -, -, h1⟩ := zprt g hq e1 (by omega)
  obtain ⟨-, -, -, h2⟩ := zprt g hq2 e2 (by omega)
  rw [← hl] at h2
  rcases h1 with ⟨a, b, c⟩ | ⟨a, b, c⟩
  · rcases h2 with ⟨a2, b2, c2⟩ | ⟨a2, b2, c2⟩
    · omega
    · exact absurd b b2
  · rcases h2 with ⟨a2, b2, c2⟩ | ⟨a2, b2, c2⟩
    · exact absurd b2 b
    · omega
/-- the other port of a port's place -/
def zoth (P : ZS) (nl q : Nat) : Option Nat := if zA P nl (zpl P q) = some q then zB P nl (zpl P q) else zA P nl (zpl P q)
theorem zoth_in {P : ZS} {nl q a : Nat} (h : zoth P nl q = some a) : a < 2 * nl ∧ zpl P a = zpl P q := by
  unfold zoth at h
  split at h
  · exact ⟨(zB_in h).1, (zB_in h).2.1⟩
  · exact zA_in h
theorem zn_oth {P P' : ZS} {nb nl q b r : Nat} (g : zGeo P P' nb nl) (hq : q < 2 * nl) (hk : zpl P q = 6 * b + r) (hr : r < 6) (S : ZS) : fPL_otherPort P S (nI q) = zO (zoth P nl q) := by
  have hl := g.nl
  have hn := g.nb
  have z2 : (2 : Int32) = nI 2 := by decide
  obtain ⟨hb, -, h5, -⟩ := zprt g hq hk hr
  obtain ⟨f1, f2⟩ := g.2.2.2.2.1 (6 * b + r) (by omega)
  unfold fPL_otherPort zoth
  simp only [zl]
  rw [nI_clamp (by omega), h5, z2, nI_mul, nI_clamp (by omega), nI_1, nI_clamp (by omega), f1, f2, hk]
  by_cases c : zA P nl (6 * b + r) = some q
  · rw [c]
    show (if nI q = nI q then _ else _) = _
    rw [if_pos rfl, if_pos rfl]
  · have co := g.2.2.2.2.2.2.1 q hq
    rw [hk] at co
    have eB := co.resolve_left c
    obtain ⟨-, -, a, ea, la⟩ := zB_in eB
    have := (zA_in ea).1
    rw [ea]
    show (if nI a = nI q then _ else _) = zO (if some a = some q then _ else _)
    rw [if_neg (fun e => by have := (nI_eq (by omega) (by omega)).mp e; omega), if_neg (fun e => by cases e; omega)]
/-- the reference's way on -/
noncomputable def zsO (P : ZS) (b : Int32) (l : Nat) (o : Option Nat) (S : ZS) : ZS := match o with
  | none => S
  | some a => if a / 2 = l then S else fMO_put P S b (nI (a / 2))
theorem zar1 (P : ZS) (rc : ZS → Int32 → Int32 → Int32 → Int32 → ZS) (S : ZS) {l b r i : Nat} (hl : l < 60) (hb : b < 48) (hr : r < 6) (hi : i < 2) {o : Option Nat} (ho : P.F 6 (2 * (6 * b + r) + i) = zOl o) (ha : ∀ a, o = some a → a < 1000) : fMO_arrive_165 P rc S (nI l) (nI b) (nI r) (nI i) = rc (zsO P (nI b) l o S) (nI l) (nI b) (nI r) (nI (i + 1)) := by
  have z2 : (2 : Int32) = nI 2 := by decide
  unfold fMO_arrive_165 fMO_arrive_210
  simp only [zl]
  rw [zat, z2, if_neg (nI_ge (by omega) (by omega)), nI_mul, nI_add, nI_clamp (by omega), nI_1, ho]
  cases o with
  | none => rw [show zOl none = -1 from rfl, if_pos rfl]; rfl
  | some a =>
    have h1 := ha a rfl
    rw [if_neg (zOl_ne h1)]
    show (if nI (a / 2) = nI l then rc S _ _ _ _ else rc (fMO_put P S (nI b) (nI (a / 2))) _ _ _ _) = rc (if a / 2 = l then S else fMO_put P S (nI b) (nI (a / 2))) _ _ _ _
    by_cases c : a / 2 = l
    · rw [if_pos (by rw [c]), if_pos c]
    · rw [if_neg (fun e => c ((nI_eq (by omega) (by omega)).mp e)), if_neg c]
theorem zar2 (P : ZS) (rc : ZS → Int32 → Int32 → Int32 → Int32 → ZS) (S : ZS) (l b r : Int32) : fMO_arrive_165 P rc S l b r (nI (0 + 1 + 1)) = S := by
  rw [fMO_arrive_165, if_pos (by decide)]
theorem zar_g {P P' : ZS} {nb nl q b r : Nat} (g : zGeo P P' nb nl) (hq : q < 2 * nl) (hk : zpl P q = 6 * b + r) (hr : r < 6) (S : ZS) : zfix (fun S9 _ _ _ _ => S9) (fMO_arrive_165 P') 3 S (nI (q / 2)) (nI b) (nI r) 0 = zqO P' (nI b) (zoth P nl q) S := by
  have hl := g.nl
  have hn := g.nb
  have z0 : (0 : Int32) = nI 0 := by decide
  obtain ⟨hb, -⟩ := zprt g hq hk hr
  obtain ⟨f1, f2⟩ := g.2.2.2.2.2.1 (6 * b + r) (by omega)
  rw [z0, show (3 : Nat) = 0 + 1 + 1 + 1 from rfl, zfix_s, zar1 P' _ S (by omega) (by omega) hr (by omega) (show P'.F 6 (2 * (6 * b + r) + 0) = _ from f1) (fun a h => by have := (zA_in h).1; omega), zfix_s, zar1 P' _ _ (by omega) (by omega) hr (by omega) (show P'.F 6 (2 * (6 * b + r) + (0 + 1)) = _ from f2) (fun a h => by have := (zB_in h).1; omega), zfix_s, zar2]
  unfold zoth
  rw [hk]
  have dif : ∀ a, a < 2 * nl → zpl P a = 6 * b + r → a ≠ q → ¬ a / 2 = q / 2 := fun a h1 h2 h3 h4 => h3 (zlk2 g h1 hq (by rw [h2, hk]) h4)
  by_cases c : zA P nl (6 * b + r) = some q
  · rw [if_pos c, c]
    have e1 : zsO P' (nI b) (q / 2) (some q) S = S := if_pos rfl
    rw [e1]
    cases e : zB P nl (6 * b + r) with
    | none => rfl
    | some a =>
      obtain ⟨a1, a2, x, ex, lx⟩ := zB_in e
      rw [c] at ex
      cases ex
      exact if_neg (dif a a1 a2 (by omega))
  · have co := g.2.2.2.2.2.2.1 q hq
    rw [hk] at co
    have eB := co.resolve_left c
    obtain ⟨-, -, a, ea, la⟩ := zB_in eB
    have hA := zA_in ea
    rw [if_neg c, eB, ea]
    have e1 : zsO P' (nI b) (q / 2) (some a) S = fMO_put P' S (nI b) (nI (a / 2)) := if_neg (dif a hA.1 hA.2 (by omega))
    rw [e1]
    exact if_pos rfl
theorem zqO_fr2 (P : ZS) (b : Int32) (o : Option Nat) (S : ZS) {j : Nat} (hj : j ∉ [23, 24, 25, 26, 27]) (hj2 : j < 100) : (zqO P b o S).F j = S.F j := by
  cases o with
  | none => rfl
  | some a => exact (q_fMO_put P S b _).2 j (by rw [Nat.min_eq_left (by omega)]; exact hj)
theorem zpO_eq (P : ZS) (x : Int32) {o : Option Nat} (ho : ∀ a, o = some a → a < 1000) (S : ZS) : (if zO o = -1 then S else if fPR_isDown P S (zO o) = 0 then fWI_put P S (zO o ^^^ 1) x else S) = zpO P x o S := by
  cases o with
  | none => exact if_pos rfl
  | some a => rw [if_neg (zO_ne (ho a rfl))]; rfl
/-- a cast that arrives over a lane -/
theorem zC.arr {no : Nat} {P P' : ZS} {nb nl q i a s nm mm n t k k2 : Nat} {tk : Prop} {c : Int32} {m K : Nat} {S S' : ZS} (h : zC no tk c m K S S') (g : zGeo P P' nb nl) (hI : zIS P nb nl S S') (hBd : zBd P n t k k2 S) (hq : q < 2 * nl) (hi : i < 7680) (hc : a ≤ 5 ∧ s ≤ 47 ∧ nm ≤ 113 ∧ mm ≤ 32767) (c1 : S'.F 29 i = nI a) (c2 : S'.F 30 i = nI s) (c3 : S'.F 31 i = nI nm) (c4 : S'.F 32 i = nI mm) :
    zC no tk c m (K + 15) (fPR_arrive P S (nI q) (zcast a s nm mm)) (fMO_arrive P' S' (nI q) (nI i)) ∧ zIS P nb nl (fPR_arrive P S (nI q) (zcast a s nm mm)) (fMO_arrive P' S' (nI q) (nI i)) ∧ zBd P n t k k2 (fPR_arrive P S (nI q) (zcast a s nm mm)) := by
  have hn := g.nb
  have hn2 := g.nl
  obtain ⟨ha, hs, hnm, hmm⟩ := hc
  have z2 : (2 : Int32) = nI 2 := by decide
  have z6 : (6 : Int32) = nI 6 := by decide
  have z0 : (0 : Int32) = nI 0 := by decide
  obtain ⟨b, r, hr, hk⟩ : ∃ b r, r < 6 ∧ zpl P q = 6 * b + r := ⟨zpl P q / 6, zpl P q % 6, by omega, by omega⟩
  obtain ⟨hb, e2, e5, hend⟩ := zprt g hq hk hr
  have hl := zrg_of g hq hk hr
  have keep : zC no tk c m (K + 15) S S' ∧ zIS P nb nl S S' ∧ zBd P n t k k2 S := ⟨h.mo (Nat.le_refl _) (by omega), hI, hBd⟩
  have r0 : P'.F 0 = P.F 0 := g.2.1.2.2.1
  have r1 : P'.F 1 = P.F 1 := g.2.1.2.2.2.1
  have r2 : P'.F 2 = P.F 2 := g.2.1.2.2.2.2.1
  have cq : (nI q).toNatClampNeg = q := nI_clamp (by omega)
  have cl : (nI (q / 2)).toNatClampNeg = q / 2 := nI_clamp (by omega)
  rw [fPR_arrive, fMO_arrive]
  repeat (first | rw [zl] | rw [zl2])
  rw [z2, nI_rem (by omega) (by omega), nI_div (by omega) (by omega), cq, cl, r0, r1, h.g 9 13 (by decide)]
  by_cases d : S'.F 7 (q / 2) = 0
  · have d' : fPR_isDown P S (nI q) = 0 := (zdn P S (by omega)).mpr ((hI.1 q hq).mpr d)
    rw [if_pos d', if_pos d]
    have h13 : 0 ≤ (S.F 13 (q / 2)).toInt := hBd 13 (q / 2)
    by_cases d2 : S.F 13 (q / 2) = 0
    · have d2' : S.F 13 (q / 2) ≤ 0 := by rw [d2]; decide
      have el : fWI_losesOne P S (nI (q / 2)) = (S, 0) := by
        unfold fWI_losesOne
        simp only [zl]
        rw [nI_clamp (by omega), if_pos d2]
      have eM : (if nI (q % 2) = 0 then fMO_arrive_70 P' S' (nI i) (nI (q / 2)) (P.F 0 (q / 2)) else fMO_arrive_70 P' S' (nI i) (nI (q / 2)) (P.F 1 (q / 2))) = fMO_arrive_70 P' S' (nI i) (nI (q / 2)) (nI b) := by
        rcases hend with ⟨p1, p2, -⟩ | ⟨p1, -, p2⟩
        · rw [p1, if_pos (by decide), p2]
        · rw [p1, if_neg (by decide), p2]
      rw [if_pos d2', eM, el, if_pos rfl, e5, zc_src ha hs hnm hmm, z6, nI_div (by omega) (by omega), show (6 * b + r) / 6 = b by omega]
      have ci : (nI i).toNatClampNeg = i := nI_clamp (by omega)
      rw [fMO_arrive_70]
      repeat rw [zl]
      rw [ci, cl, c1, c2, r2, e2]
      by_cases d3 : s = b
      · rw [if_pos (by rw [d3]), if_pos (by rw [d3])]
        exact keep
      · have d3' : ¬ nI s = nI b := fun e => d3 ((nI_eq (by omega) (by omega)).mp e)
        rw [if_neg d3', if_neg d3', c3, c4, zn_oth g hq hk hr]
        -- hears, then on
        have fin : ∀ (K2 : Nat) (X X' : ZS), K2 ≤ K + 12 → zC no tk c m K2 X X' → zIS P nb nl X X' → zBd P n t k k2 X → X'.F 31 i = nI nm → X'.F 32 i = nI mm →
            zC no tk c m (K + 15) (zpO P (zcast a s nm mm) (zoth P nl q) (fPR_hear_23 P X (nI (6 * b + r)) (zcast a s nm mm) (nI a))) (fMO_arrive_130 P' X' (nI i) (nI (q / 2)) (nI b) (nI a) (nI s) (nI r)) ∧ zIS P nb nl (zpO P (zcast a s nm mm) (zoth P nl q) (fPR_hear_23 P X (nI (6 * b + r)) (zcast a s nm mm) (nI a))) (fMO_arrive_130 P' X' (nI i) (nI (q / 2)) (nI b) (nI a) (nI s) (nI r)) ∧ zBd P n t k k2 (zpO P (zcast a s nm mm) (zoth P nl q) (fPR_hear_23 P X (nI (6 * b + r)) (zcast a s nm mm) (nI a))) := by
          intro K2 X X' hK2 kX iX bX x31 x32
          obtain ⟨k1, i1⟩ := kX.h23 g iX hb hr hl ha hs (x := zcast a s nm mm) (fun S => zc_src ha hs hnm hmm P S)
          have b1 : zBd P n t k k2 (fPR_hear_23 P X (nI (6 * b + r)) (zcast a s nm mm) (nI a)) := zBd_h23 g.1.1 hn bX _ _ _
          have q9 := q_fMO_hears P' X' (nI b) (nI r) (nI a) (nI s)
          rw [fMO_arrive_130]
          repeat rw [zl]
          rw [ci, q9.2 31 (by decide), q9.2 32 (by decide), x31, x32]
          generalize fPR_hear_23 P X (nI (6 * b + r)) (zcast a s nm mm) (nI a) = Y at k1 i1 b1 ⊢
          generalize fMO_hears P' X' (nI b) (nI r) (nI a) (nI s) = Y' at k1 i1 ⊢
          rw [zar_g g hq hk hr]
          have k3 : zC no tk c m (K2 + 1) Y (fMO_say P' Y' (nI a) (nI s) (nI nm) (nI mm)) := by
            unfold fMO_say
            simp only [zl]
            exact (((k1.ri (by decide) (by decide)).ri (by decide) (by decide)).ri (by decide) (by decide)).ri (by decide) (by decide)
          have i3 : zIS P nb nl Y (fMO_say P' Y' (nI a) (nI s) (nI nm) (nI mm)) := i1
          have x1 : (fMO_say P' Y' (nI a) (nI s) (nI nm) (nI mm)).I 11 = nI a := rfl
          have x2 : (fMO_say P' Y' (nI a) (nI s) (nI nm) (nI mm)).I 12 = nI s := rfl
          have x3 : (fMO_say P' Y' (nI a) (nI s) (nI nm) (nI mm)).I 13 = nI nm := rfl
          have x4 : (fMO_say P' Y' (nI a) (nI s) (nI nm) (nI mm)).I 14 = nI mm := rfl
          generalize fMO_say P' Y' (nI a) (nI s) (nI nm) (nI mm) = Z' at k3 i3 x1 x2 x3 x4 ⊢
          have k4 := k3.pO (o := zoth P nl q) (b := b) (r := r) (x := zcast a s nm mm) g hr (fun a2 e => by rw [← hk]; exact zoth_in e) (fun a2 e => i3.1 a2 (zoth_in e).1) (by rw [x1, x2, x3, x4]; exact ⟨a, s, nm, mm, ⟨ha, hs, hnm, hmm⟩, rfl, rfl, rfl, rfl, rfl⟩)
          refine ⟨k4.mo (Nat.le_refl _) (by omega), ?_, zBd_pO g (fun a2 e => (zoth_in e).1) b1 _⟩
          show zI P nb nl _ _ _ _
          rw [zpO_fr, zqO_fr2 _ _ _ _ (by decide) (by decide), zqO_fr2 _ _ _ _ (by decide) (by decide), zqO_fr2 _ _ _ _ (by decide) (by decide)]
          exact i3
        have eC : ∀ X : ZS, (if zO (zoth P nl q) = -1 then X else if fPR_isDown P X (zO (zoth P nl q)) = 0 then fWI_put P X (zO (zoth P nl q) ^^^ 1) (zcast a s nm mm) else X) = zpO P (zcast a s nm mm) (zoth P nl q) X := fun X => zpO_eq P _ (fun a2 e => by have := (zoth_in e).1; omega) X
        rw [eC]
        rw [fPR_hear]
        repeat rw [zl]
        rw [zc_kind ha hs hnm hmm, zc_name ha hs hnm hmm, zc_num ha hs hnm hmm]
        by_cases d4 : nI a = 3
        · rw [if_pos d4, if_pos d4]
          exact fin K S S' (by omega) h hI hBd c3 c4
        · rw [if_neg d4, if_neg d4]
          have q1 := q_fPR_takeNews P S (nI (6 * b + r)) (nI nm) (nI mm)
          have q2 := q_fMO_news P' S' (nI b) (nI nm) (nI mm) (nI r)
          refine fin (K + 12) _ _ (Nat.le_refl _) (h.news g hb hr hnm hmm (fun a2 h1 _ _ => hI.1 a2 h1)) ?_ (zBd_nw g hb hr hBd _ _) (by rw [q2.2 31 (by decide)]; exact c3) (by rw [q2.2 32 (by decide)]; exact c4)
          show zI P nb nl _ _ _ _
          rw [q1.2 14 (by decide), q2.2 7 (by decide), q2.2 15 (by decide), q2.2 16 (by decide)]
          exact hI
    · have d2' : ¬ S.F 13 (q / 2) ≤ 0 := fun e => by
        have z : (0 : Int32).toInt = 0 := by decide
        have := Int32.le_iff_toInt_le.mp e
        exact d2 (Int32.toInt_inj.mp (by omega))
      have b9 := zBd_lo hBd (nI (q / 2))
      have el : fWI_losesOne P S (nI (q / 2)) = ((S.setF 13 (q / 2) (S.F 13 (q / 2) - 1)).setI 9 (S.I 9 + 1), 1) := by
        unfold fWI_losesOne
        simp only [zl]
        rw [nI_clamp (by omega), if_neg d2]
        rfl
      rw [if_neg d2']
      rw [el] at b9 ⊢
      rw [if_neg (by decide : ¬ (1 : Int32) = 0)]
      refine ⟨((h.s (i := q / 2) (v := S.F 13 (q / 2) - 1) 9 13 (by decide) (by decide) (by decide)).lost).mo (Nat.le_refl _) (by omega), ?_, b9⟩
      show zI P nb nl ((S.setF 13 (q / 2) (S.F 13 (q / 2) - 1)).F 14) ((S'.setF 9 (q / 2) (S.F 13 (q / 2) - 1)).F 7) ((S'.setF 9 (q / 2) (S.F 13 (q / 2) - 1)).F 15) ((S'.setF 9 (q / 2) (S.F 13 (q / 2) - 1)).F 16)
      rw [zFsn _ (by decide), zFsn _ (by decide), zFsn _ (by decide), zFsn _ (by decide)]
      exact hI
  · have d' : ¬ fPR_isDown P S (nI q) = 0 := fun e => d ((hI.1 q hq).mp ((zdn P S (by omega)).mp e))
    rw [if_neg d', if_neg d]
    exact keep

/-! casts come off the links, on both sides -/
def zok (S X : ZS) (i : Nat) : Prop := X.F 29 i = S.F 24 i ∧ X.F 30 i = S.F 25 i ∧ X.F 31 i = S.F 26 i ∧ X.F 32 i = S.F 27 i
def zTI (S X : ZS) (L : Nat) : Prop := X.I = S.I ∧ (∀ j, j ∉ [23, 28, 29, 30, 31, 32] → X.F j = S.F j) ∧ (∀ j, X.F 23 j = if j < L then 0 else S.F 23 j) ∧ ∀ M, M < L → X.F 28 M = S.F 23 M ∧ ∀ k, k < (S.F 23 M).toNatClampNeg → zok S X (64 * M + k)
theorem zturnM {P S : ZS} {nl : Nat} (hI : P.I 2 = nI nl) (hn : nl ≤ 60) (h64 : ∀ L, ∃ c : Nat, c ≤ 64 ∧ S.F 23 L = nI c) : zTI S (fMO_turn P S) (2 * nl) := by
  have z2 : (2 : Int32) = nI 2 := by decide
  have z64 : (64 : Int32) = nI 64 := by decide
  have z0 : (0 : Int32) = nI 0 := by decide
  have outer : ∀ (N L : Nat) (X : ZS), L ≤ 2 * nl → 2 * nl - L < N → zTI S X L → zTI S (zfix (fun S9 _ => S9) (fMO_turn_2 P) N X (nI L)) (2 * nl) := by
    intro N
    induction N with
    | zero => intro L X h1 h2; omega
    | succ N ih =>
      intro L X h1 h2 hX
      rw [zfix_s]
      generalize zfix (fun S9 _ => S9) (fMO_turn_2 P) N = rc at ih ⊢
      unfold fMO_turn_2
      simp only [zl]
      rw [hI, z2, nI_mul]
      by_cases c : L = 2 * nl
      · rw [if_pos (nI_le (by omega) (by omega)), ← c]
        exact hX
      · rw [if_neg (nI_ge (by omega) (by omega)), nI_clamp (by omega), z64, nI_mul]
        obtain ⟨cc, hcc, ecc⟩ := h64 L
        have x23 : X.F 23 L = nI cc := by
          rw [hX.2.2.1 L, if_neg (Nat.lt_irrefl _)]
          exact ecc
        rw [x23]
        have inner : ∀ (M k : Nat) (Y : ZS), k ≤ cc → cc - k < M → zTI S Y L → Y.F 28 L = nI cc → (∀ k', k' < k → zok S Y (64 * L + k')) → zTI S (zfix (fun S9 _ _ => S9) (fMO_turn_29 P rc) M Y (nI L) (nI (64 * L + k))) (2 * nl) := by
          intro M
          induction M with
          | zero => intro k Y g1 g2; omega
          | succ M ih2 =>
            intro k Y g1 g2 hY y28 hk
            rw [zfix_s]
            generalize zfix (fun S9 _ _ => S9) (fMO_turn_29 P rc) M = rd at ih2 ⊢
            unfold fMO_turn_29
            simp only [zl]
            have y23 : Y.F 23 L = nI cc := by
              rw [hY.2.2.1 L, if_neg (Nat.lt_irrefl _)]
              exact ecc
            rw [z64, nI_mul, nI_clamp (by omega), y23, nI_add]
            by_cases d : k = cc
            · rw [if_pos (nI_le (by omega) (by omega)), nI_1]
              refine ih (L + 1) (Y.setF 23 L 0) (by omega) (by omega) ⟨hY.1, fun j hj => ?_, fun j => ?_, fun M' hM' => ?_⟩
              · rw [zFsn _ (fun e => hj (by rw [e]; decide))]
                exact hY.2.1 j hj
              · rw [zFsk]
                unfold upd
                by_cases e : j = L
                · rw [if_pos e, if_pos (by omega)]
                · rw [if_neg e, hY.2.2.1 j]
                  by_cases e2 : j < L
                  · rw [if_pos e2, if_pos (by omega)]
                  · rw [if_neg e2, if_neg (by omega)]
              · have cp : ∀ i, zok S Y i → zok S (Y.setF 23 L 0) i := fun i h => by
                  unfold zok at h ⊢
                  rw [zFsn _ (by decide), zFsn _ (by decide), zFsn _ (by decide), zFsn _ (by decide)]
                  exact h
                rw [zFsn _ (by decide)]
                by_cases e : M' = L
                · subst e
                  rw [y28, ecc]
                  refine ⟨rfl, fun k' hk' => cp _ (hk k' ?_)⟩
                  rw [nI_clamp (by omega)] at hk'
                  omega
                · obtain ⟨w1, w2⟩ := hY.2.2.2 M' (by omega)
                  exact ⟨w1, fun k' hk' => cp _ (w2 k' hk')⟩
            · rw [if_neg (nI_ge (by omega) (by omega)), nI_clamp (by omega), nI_1]
              have e25 : ∀ v, (Y.setF 29 (64 * L + k) v).F 25 = Y.F 25 := fun v => zFsn _ (by decide)
              have e26 : ∀ v w, ((Y.setF 29 (64 * L + k) v).setF 30 (64 * L + k) w).F 26 = Y.F 26 := fun v w => by rw [zFsn _ (by decide), zFsn _ (by decide)]
              have e27 : ∀ v w u, (((Y.setF 29 (64 * L + k) v).setF 30 (64 * L + k) w).setF 31 (64 * L + k) u).F 27 = Y.F 27 := fun v w u => by rw [zFsn _ (by decide), zFsn _ (by decide), zFsn _ (by decide)]
              rw [e25, e26, e27, hY.2.1 24 (by decide), hY.2.1 25 (by decide), hY.2.1 26 (by decide), hY.2.1 27 (by decide)]
              generalize hZ : (((Y.setF 29 (64 * L + k) (S.F 24 (64 * L + k))).setF 30 (64 * L + k) (S.F 25 (64 * L + k))).setF 31 (64 * L + k) (S.F 26 (64 * L + k))).setF 32 (64 * L + k) (S.F 27 (64 * L + k)) = Z
              have zn : ∀ j, j ∉ [29, 30, 31, 32] → Z.F j = Y.F j := fun j hj => by
                rw [← hZ, zFsn _ (fun e => hj (by rw [e]; decide)), zFsn _ (fun e => hj (by rw [e]; decide)), zFsn _ (fun e => hj (by rw [e]; decide)), zFsn _ (fun e => hj (by rw [e]; decide))]
              have z29 : Z.F 29 = upd (Y.F 29) (64 * L + k) (S.F 24 (64 * L + k)) := by rw [← hZ, zFsn _ (by decide), zFsn _ (by decide), zFsn _ (by decide), zFsk]
              have z30 : Z.F 30 = upd (Y.F 30) (64 * L + k) (S.F 25 (64 * L + k)) := by rw [← hZ, zFsn _ (by decide), zFsn _ (by decide), zFsk, zFsn _ (by decide)]
              have z31 : Z.F 31 = upd (Y.F 31) (64 * L + k) (S.F 26 (64 * L + k)) := by rw [← hZ, zFsn _ (by decide), zFsk, zFsn _ (by decide), zFsn _ (by decide)]
              have z32 : Z.F 32 = upd (Y.F 32) (64 * L + k) (S.F 27 (64 * L + k)) := by rw [← hZ, zFsk, zFsn _ (by decide), zFsn _ (by decide), zFsn _ (by decide)]
              have zI9 : Z.I = Y.I := by rw [← hZ]; rfl
              have cp : ∀ i, (i = 64 * L + k ∨ zok S Y i) → zok S Z i := fun i h => by
                unfold zok
                rw [z29, z30, z31, z32]
                unfold upd
                by_cases e : i = 64 * L + k
                · rw [if_pos e, if_pos e, if_pos e, if_pos e, e]
                  exact ⟨rfl, rfl, rfl, rfl⟩
                · rw [if_neg e, if_neg e, if_neg e, if_neg e]
                  exact h.resolve_left e
              refine ih2 (k + 1) Z (by omega) (by omega) ⟨zI9.trans hY.1, fun j hj => ?_, fun j => ?_, fun M' hM' => ?_⟩ (by rw [zn 28 (by decide)]; exact y28) (fun k' hk' => ?_)
              · rw [zn j (fun e => hj (by simp at e ⊢; omega))]
                exact hY.2.1 j hj
              · rw [zn 23 (by decide)]
                exact hY.2.2.1 j
              · obtain ⟨w1, w2⟩ := hY.2.2.2 M' hM'
                exact ⟨by rw [zn 28 (by decide)]; exact w1, fun k9 h9 => cp _ (Or.inr (w2 k9 h9))⟩
              · by_cases e : k' = k
                · exact cp _ (Or.inl (by rw [e]))
                · exact cp _ (Or.inr (hk k' (by omega)))
        refine inner 7681 0 (X.setF 28 L (nI cc)) (Nat.zero_le _) (by omega) ⟨hX.1, fun j hj => ?_, fun j => ?_, fun M' hM' => ?_⟩ (by rw [zFsk, upd_at]) (fun k' hk' => absurd hk' (Nat.not_lt_zero _))
        · rw [zFsn _ (fun e => hj (by rw [e]; decide))]
          exact hX.2.1 j hj
        · rw [zFsn _ (by decide)]
          exact hX.2.2.1 j
        · obtain ⟨w1, w2⟩ := hX.2.2.2 M' hM'
          refine ⟨?_, fun k9 h9 => ?_⟩
          · rw [zFsk, upd_ne _ _ (by omega)]
            exact w1
          · have w3 := w2 k9 h9
            unfold zok at w3 ⊢
            rw [zFsn _ (by decide), zFsn _ (by decide), zFsn _ (by decide), zFsn _ (by decide)]
            exact w3
  unfold fMO_turn
  rw [z0]
  exact outer 121 0 S (Nat.zero_le _) (by omega) ⟨rfl, fun _ _ => rfl, fun j => by rw [if_neg (Nat.not_lt_zero _)], fun M hM => absurd hM (Nat.not_lt_zero _)⟩
/-- casts that are about to arrive -/
def zCo (nl : Nat) (S S' : ZS) : Prop := ∀ L, L < 2 * nl → ∃ c : Nat, c ≤ 64 ∧ S.F 10 L = nI c ∧ S'.F 28 L = nI c ∧ ∀ k, k < c → zpk (S.F 9 (64 * L + k)) (S'.F 29 (64 * L + k)) (S'.F 30 (64 * L + k)) (S'.F 31 (64 * L + k)) (S'.F 32 (64 * L + k))
theorem zC.turn {no : Nat} {P P' : ZS} {nb nl n t k k2 : Nat} {tk : Prop} {c : Int32} {m K : Nat} {S S' : ZS} (h : zC no tk c m K S S') (g : zGeo P P' nb nl) (hI : zIS P nb nl S S') (hBd : zBd P n t k k2 S) :
    zC no tk c m K (zturnf P S) (fMO_turn P' S') ∧ zIS P nb nl (zturnf P S) (fMO_turn P' S') ∧ zBd P n t k k2 (zturnf P S) ∧ zCo nl (zturnf P S) (fMO_turn P' S') := by
  have hn2 := g.nl
  have h23 : S'.F 23 = S.F 12 := h.g 23 12 (by decide)
  have h64 : ∀ L, ∃ c : Nat, c ≤ 64 ∧ S'.F 23 L = nI c := fun L => by
    obtain ⟨c, a, b, -⟩ := h.2.1 L
    exact ⟨c, a, by rw [h23]; exact b⟩
  have hP2 : P'.I 2 = nI nl := g.2.1.2.1.trans g.1.2.2.1
  obtain ⟨tI, tF, t23, tc⟩ := zturnM hP2 hn2 h64
  generalize fMO_turn P' S' = T' at tI tF t23 tc ⊢
  have q := q_zturnf P S
  have f12 : (zturnf P S).F 12 = fun _ => 0 := rfl
  have f9 : (zturnf P S).F 9 = S.F 11 := rfl
  have f10 : (zturnf P S).F 10 = S.F 12 := rfl
  have z23 : T'.F 23 = fun _ => 0 := by
    funext j
    rw [t23 j]
    by_cases e : j < 2 * nl
    · rw [if_pos e]
    · rw [if_neg e, h23]
      exact hBd 12 j (by rw [g.1.2.2.1, nI_clamp (by omega)]; omega)
  have hE : zEq (zturnf P S) T' := by
    refine ⟨fun p hp => ?_, ?_⟩
    · by_cases e : p = (23, 12)
      · rw [e]
        exact z23.trans f12.symm
      · have w1 : p.1 ∉ [23, 28, 29, 30, 31, 32] := (show ∀ p ∈ zprs, p ≠ (23, 12) → p.1 ∉ [23, 28, 29, 30, 31, 32] by decide) p hp e
        have w2 : min p.2 28 ∉ [9, 10, 11, 12] := (show ∀ p ∈ zprs, p ≠ (23, 12) → min p.2 28 ∉ [9, 10, 11, 12] by decide) p hp e
        rw [tF p.1 w1, q.2 p.2 w2]
        exact h.1.1 p hp
    · rw [tI]
      exact h.1.2
  refine ⟨⟨hE, fun L => ⟨0, by omega, by rw [f12]; rfl, fun k hk => absurd hk (Nat.not_lt_zero _)⟩, ?_, ?_⟩, ?_, ?_, fun L hL => ?_⟩
  · intro b2 t2 hb2 ht2
    rw [tF 20 (by decide), tF 21 (by decide), q.2 (28 + b2) (by rw [Nat.min_eq_right (by omega)]; decide)]
    exact h.2.2.1 b2 t2 hb2 ht2
  · obtain ⟨e, a, b, d, f⟩ := h.2.2.2
    exact ⟨e, a, b, d, fun t9 => by rw [tI]; exact f t9⟩
  · show zI P nb nl _ _ _ _
    rw [q.2 14 (by decide), tF 7 (by decide), tF 15 (by decide), tF 16 (by decide)]
    exact hI
  · intro row j
    by_cases e : row = 12
    · subst e
      intro _
      rfl
    · by_cases e2 : row ∈ zbr
      · rw [q.2 row ((show ∀ x ∈ zbr, x ≠ 12 → min x 28 ∉ [9, 10, 11, 12] by decide) row e2 e)]
        exact hBd row j
      · exact zbq_o e2
  · obtain ⟨c2, a, b, d⟩ := h.2.1 L
    obtain ⟨w1, w2⟩ := tc L hL
    have eS : S'.F 23 L = nI c2 := by rw [h23]; exact b
    refine ⟨c2, a, b, by rw [w1]; exact eS, fun k hk => ?_⟩
    have w3 := w2 k (by rw [eS, nI_clamp (by omega)]; exact hk)
    obtain ⟨v1, v2, v3, v4⟩ := w3
    rw [v1, v2, v3, v4]
    exact d k hk
/-- what the protocol leaves on the reference's side -/
def zKI (S T : ZS) : Prop := (∀ t, t ∉ [5, 8, 11, 12, 13, 14] → T.I t = S.I t) ∧ T.F 22 = S.F 22
theorem zKI.rf {S : ZS} : zKI S S := ⟨fun _ _ => rfl, rfl⟩
theorem zKI.t {S X Y : ZS} (h : zKI S X) (h2 : zKI X Y) : zKI S Y := ⟨fun t ht => (h2.1 t ht).trans (h.1 t ht), h2.2.trans h.2⟩
/-- the states of the two sides while casts arrive -/
def zAR (no : Nat) (P : ZS) (nb nl n t : Nat) (tk : Prop) (c : Int32) (m K : Nat) (A A' S S' : ZS) : Prop := zC no tk c m K S S' ∧ zIS P nb nl S S' ∧ zBd P n t 0 0 S ∧ (S.F 9 = A.F 9 ∧ S.F 10 = A.F 10) ∧ (S'.F 28 = A'.F 28 ∧ S'.F 29 = A'.F 29 ∧ S'.F 30 = A'.F 30 ∧ S'.F 31 = A'.F 31 ∧ S'.F 32 = A'.F 32)
theorem zarrs {no : Nat} {P P' : ZS} {nb nl n t : Nat} {tk : Prop} {c : Int32} {m : Nat} {A A' : ZS} (g : zGeo P P' nb nl) (hC : zCo nl A A') (E : ZS → ZS) (hE : ∀ X, zfix (fun S9 _ => S9) (fMO_tick_68 P') 49 X 0 = E X) : ∀ (N x K : Nat) (S S' : ZS), x ≤ 2 * nl → 2 * nl - x < N → zAR no P nb nl n t tk c m K A A' S S' →
    ∃ U' : ZS, zfix (fun S9 _ => S9) (fMO_tick_21 P') N S' (nI x) = E U' ∧ zAR no P nb nl n t tk c m (K + 960 * (2 * nl - x)) A A' (zfix (fun S9 _ => S9) (fPR_arriveAll_9 P) N S (nI x)) U' ∧ zKI S' U' := by
  have hn2 := g.nl
  have z2 : (2 : Int32) = nI 2 := by decide
  have z0 : (0 : Int32) = nI 0 := by decide
  have z64 : (64 : Int32) = nI 64 := by decide
  have hP2 : P'.I 2 = nI nl := g.2.1.2.1.trans g.1.2.2.1
  intro N
  induction N with
  | zero => intro x K S S' h1 h2; omega
  | succ N ih =>
    intro x K S S' h1 h2 hR
    rw [zfix_s, zfix_s]
    generalize zfix (fun S9 _ => S9) (fMO_tick_21 P') N = rc' at ih ⊢
    generalize zfix (fun S9 _ => S9) (fPR_arriveAll_9 P) N = rc at ih ⊢
    unfold fMO_tick_21 fPR_arriveAll_9 fWI_countArriving
    simp only [zl]
    rw [hP2, g.1.2.2.1, z2, nI_mul]
    by_cases d : x = 2 * nl
    · rw [if_pos (nI_le (by omega) (by omega)), if_pos (nI_le (by omega) (by omega))]
      refine ⟨S', hE S', ?_⟩
      obtain ⟨a1, a2⟩ := hR
      exact ⟨⟨a1.mo (Nat.le_refl _) (by omega), a2⟩, zKI.rf⟩
    · rw [if_neg (nI_ge (by omega) (by omega)), if_neg (nI_ge (by omega) (by omega)), nI_clamp (by omega)]
      obtain ⟨cc, hcc, e10, e28, hpk⟩ := hC x (by omega)
      rw [hR.2.2.2.1.2, e10]
      have inner : ∀ (M i K : Nat) (S S' : ZS), i ≤ cc → cc - i < M → zAR no P nb nl n t tk c m K A A' S S' → ∃ U' : ZS, zfix (fun S9 _ _ => S9) (fMO_tick_33 P' rc') M S' (nI x) (nI i) = E U' ∧ zAR no P nb nl n t tk c m (K + 15 * (cc - i) + 960 * (2 * nl - (x + 1))) A A' (zfix (fun S9 _ _ _ => S9) (fPR_arriveAll_33 P rc) M S (nI x) (nI cc) (nI i)) U' ∧ zKI S' U' := by
        intro M
        induction M with
        | zero => intro i K S S' g1 g2; omega
        | succ M ih2 =>
          intro i K S S' g1 g2 hR
          rw [zfix_s, zfix_s]
          generalize zfix (fun S9 _ _ => S9) (fMO_tick_33 P' rc') M = rd' at ih2 ⊢
          generalize zfix (fun S9 _ _ _ => S9) (fPR_arriveAll_33 P rc) M = rd at ih2 ⊢
          unfold fMO_tick_33 fPR_arriveAll_33 fWI_arrivingCast
          simp only [zl]
          obtain ⟨a1, a2, a3, ⟨a4, a5⟩, a6, a7, a8, a9, a10⟩ := hR
          rw [nI_clamp (by omega), a6, e28]
          by_cases d2 : i = cc
          · rw [if_pos (nI_le (by omega) (by omega)), if_pos (nI_le (by omega) (by omega)), nI_1]
            obtain ⟨U', e1, e2, e3⟩ := ih (x + 1) K S S' (by omega) (by omega) ⟨a1, a2, a3, ⟨a4, a5⟩, a6, a7, a8, a9, a10⟩
            exact ⟨U', e1, ⟨e2.1.mo (Nat.le_refl _) (by omega), e2.2⟩, e3⟩
          · rw [if_neg (nI_ge (by omega) (by omega)), if_neg (nI_ge (by omega) (by omega)), z64, nI_mul, nI_mul, nI_add, nI_add, nI_1, nI_clamp (by omega), a4, show x * 64 + i = 64 * x + i by omega]
            obtain ⟨ka, ks, kn, km, hr9, p1, p2, p3, p4, p5⟩ := hpk i (by omega)
            rw [p5]
            have k1 := a1.arr (i := 64 * x + i) g a2 a3 (show x < 2 * nl by omega) (by omega) hr9 (by rw [a7]; exact p1) (by rw [a8]; exact p2) (by rw [a9]; exact p3) (by rw [a10]; exact p4)
            have q1 := q_fPR_arrive P S (nI x) (zcast ka ks kn km)
            have q2 := q_fMO_arrive P' S' (nI x) (nI (64 * x + i))
            obtain ⟨U', e1, e2, e3⟩ := ih2 (i + 1) (K + 15) _ _ (by omega) (by omega) ⟨k1.1, k1.2.1, k1.2.2, ⟨by rw [q1.2 9 (by decide)]; exact a4, by rw [q1.2 10 (by decide)]; exact a5⟩, by rw [q2.2 28 (by decide)]; exact a6, by rw [q2.2 29 (by decide)]; exact a7, by rw [q2.2 30 (by decide)]; exact a8, by rw [q2.2 31 (by decide)]; exact a9, by rw [q2.2 32 (by decide)]; exact a10⟩
            exact ⟨U', e1, ⟨e2.1.mo (Nat.le_refl _) (by omega), e2.2⟩, zKI.t ⟨fun t ht => q2.1 t ht, q2.2 22 (by decide)⟩ e3⟩
      rw [z0]
      obtain ⟨U', e1, e2, e3⟩ := inner 65 0 K S S' (Nat.zero_le _) (by omega) hR
      rw [← z0] at e1 ⊢
      exact ⟨U', e1, ⟨e2.1.mo (Nat.le_refl _) (by omega), e2.2⟩, e3⟩
/-- all casts arrive, on both sides -/
theorem zC.arrs {no : Nat} {P P' : ZS} {nb nl n t : Nat} {tk : Prop} {c : Int32} {m K : Nat} {S S' : ZS} (h : zC no tk c m K S S') (g : zGeo P P' nb nl) (hI : zIS P nb nl S S') (hBd : zBd P n t 0 0 S) :
    ∃ U' : ZS, zfix (fun S9 _ => S9) (fMO_tick_21 P') 121 (fMO_turn P' S') 0 = zfix (fun S9 _ => S9) (fMO_tick_68 P') 49 U' 0 ∧ zC no tk c m (K + 960 * (2 * nl)) (fPR_arriveAll P S) U' ∧ zIS P nb nl (fPR_arriveAll P S) U' ∧ zBd P n t 0 0 (fPR_arriveAll P S) ∧ zKI S' U' := by
  have hn2 := g.nl
  have z0 : (0 : Int32) = nI 0 := by decide
  obtain ⟨k1, k2, k3, k4⟩ := h.turn g hI hBd
  obtain ⟨U', e1, ⟨e2, e3, e4, -⟩, e5⟩ := zarrs (n := n) (t := t) (tk := tk) (c := c) (m := m) g k4 (fun X => zfix (fun S9 _ => S9) (fMO_tick_68 P') 49 X 0) (fun _ => rfl) 121 0 K _ _ (Nat.zero_le _) (by omega) ⟨k1, k2, k3, ⟨rfl, rfl⟩, rfl, rfl, rfl, rfl, rfl⟩
  unfold fPR_arriveAll
  simp only [zl]
  rw [← z0] at e1 e2 e3 e4
  have q9 := q_fMO_turn P' S'
  exact ⟨U', e1, e2.mo (Nat.le_refl _) (by omega), e3, e4, zKI.t ⟨fun t _ => q9.1 t (by simp), q9.2 22 (by decide)⟩ e5⟩
