
/-! what a bridge sends, on both sides -/
theorem zC.say {no : Nat} {tk : Prop} {c : Int32} {m K : Nat} {S S' : ZS} (h : zC no tk c m K S S') (P' : ZS) (a b d e : Int32) : zC no tk c m K S (fMO_say P' S' a b d e) := by
  unfold fMO_say
  simp only [zl]
  exact (((h.ri (by decide) (by decide)).ri (by decide) (by decide)).ri (by decide) (by decide)).ri (by decide) (by decide)
theorem zC.snd {no : Nat} {P P' : ZS} {nb nl b r a nm mm : Nat} {tk : Prop} {c : Int32} {m K : Nat} {S S' : ZS} (h : zC no tk c m K S S') (g : zGeo P P' nb nl) (hI : zIS P nb nl S S') (hb : b < nb) (hr : r < 6) (ha : a ≤ 5) (hnm : nm ≤ 113) (hmm : mm ≤ 32767) : zC no tk c m (K + 2) (fPR_putFromPorts P S (nI (6 * b + r)) (zcast a b nm mm)) (fMO_sends_203 P' (fMO_say P' S' (nI a) (nI b) (nI nm) (nI mm)) (nI b) (nI r)) := by
  have hn := g.nb
  exact (h.say P' (nI a) (nI b) (nI nm) (nI mm)).puts g hb hr (fun q hq hp => hI.1 q hq) ⟨a, b, nm, mm, ⟨ha, by omega, hnm, hmm⟩, rfl, rfl, rfl, rfl, rfl⟩
theorem zse1 {P P' : ZS} {nb nl b r i : Nat} (g : zGeo P P' nb nl) (hb : b < nb) (hr : r < 6) (hi : i < 2) (rc : ZS → Int32 → Int32 → Int32 → Int32 → Int32 → ZS) (S : ZS) (d : Int32) {o : Option Nat} (ho : ∀ a, o = some a → a < 2 * nl ∧ zpl P a = 6 * b + r) (hx : P'.F 6 (2 * (6 * b + r) + i) = zOl o) : fMO_sends_12 P' rc S (nI b) (nI r) (nI (6 * b + r)) d (nI i) = rc S (nI b) (nI r) (nI (6 * b + r)) (if zhO (S.F 10) o &&& 1 = 0 then d else zOl o) (nI i + (-1)) := by
  have hn := g.nb
  have hn2 := g.nl
  have z2 : (2 : Int32) = nI 2 := by decide
  have z0 : (0 : Int32) = nI 0 := by decide
  rw [fMO_sends_12, if_neg (nI_pos (by omega))]
  simp only [zl, fMO_sends_58, fMO_sends_60]
  rw [z2, nI_mul, nI_add, nI_clamp (by omega), hx]
  cases o with
  | none => rw [show zOl none = -1 from rfl, if_pos rfl, if_pos (show zhO (S.F 10) none &&& 1 = 0 from zand0 1)]
  | some a =>
    obtain ⟨h1, h2⟩ := ho a rfl
    rw [if_neg (zOl_ne (by omega))]
    show (if S.F 10 (fMO_end P' S (nI b) (nI (a / 2))).toNatClampNeg &&& 1 = 0 then _ else _) = rc S _ _ _ (if S.F 10 a &&& 1 = 0 then d else zOl (some a)) _
    rw [zn_end g h1 h2 hr, nI_clamp (by omega)]
    by_cases e : S.F 10 a &&& 1 = 0
    · rw [if_pos e, if_pos e]
    · rw [if_neg e, if_neg e]
/-- the commands, by the holds of a place -/
theorem zcm_bits {P P' : ZS} {nb nl b r : Nat} {S : ZS} {c l : Int32} (g : zGeo P P' nb nl) (hb : b < nb) (hr : r < 6) (h : zcm P nl (6 * b + r) (S.F 14) c l) : (fPR_allHolds P S (nI (6 * b + r)) &&& 2 = 0 ↔ ¬ c = 2) ∧ (fPR_allHolds P S (nI (6 * b + r)) &&& 4 = 0 ↔ ¬ c = 4) := by
  rw [zall_O g hb hr, zall_O g hb hr]
  have dn : ∀ x M : Int32, (6 : Int32) &&& M = M → x &&& 6 = 0 → x &&& M = 0 := fun x M hM h6 => by
    rw [← hM, ← Int32.and_assoc, h6, zand0]
  have n0 : ∀ (o : Option Nat) (M : Int32), (6 : Int32) &&& M = M → (∀ a, o = some a → S.F 14 a &&& 6 = 0) → zhO (S.F 14) o &&& M = 0 := fun o M hM ho => by
    cases o with
    | none => exact zand0 M
    | some a => exact dn _ M hM (ho a rfl)
  rcases h with ⟨h0, hh⟩ | ⟨q, hq, hp, hc, h6, hl, ho⟩
  · have a9 : ∀ a, zA P nl (6 * b + r) = some a → S.F 14 a &&& 6 = 0 := fun a e => hh a (zA_in e).1 (zA_in e).2
    have b9 : ∀ a, zB P nl (6 * b + r) = some a → S.F 14 a &&& 6 = 0 := fun a e => hh a (zB_in e).1 (zB_in e).2.1
    refine ⟨⟨fun _ e => ?_, fun _ => ⟨n0 _ 2 (by decide) a9, n0 _ 2 (by decide) b9⟩⟩, ⟨fun _ e => ?_, fun _ => ⟨n0 _ 4 (by decide) a9, n0 _ 4 (by decide) b9⟩⟩⟩
    · rw [h0] at e; exact absurd e (by decide)
    · rw [h0] at e; exact absurd e (by decide)
  · have hM : ∀ M : Int32, (6 : Int32) &&& M = M → S.F 14 q &&& M = c &&& M := fun M hM => by rw [← h6, Int32.and_assoc, hM]
    have co := g.2.2.2.2.2.2.1 q hq
    rw [hp] at co
    have key : ∀ M : Int32, (6 : Int32) &&& M = M → ((zhO (S.F 14) (zA P nl (6 * b + r)) &&& M = 0 ∧ zhO (S.F 14) (zB P nl (6 * b + r)) &&& M = 0) ↔ c &&& M = 0) := fun M h9 => by
      rcases co with e | e
      · rw [e]
        show (S.F 14 q &&& M = 0 ∧ _) ↔ _
        rw [hM M h9]
        refine ⟨fun x => x.1, fun x => ⟨x, n0 _ M h9 (fun a ea => ?_)⟩⟩
        obtain ⟨a1, a2, x9, ex, lx⟩ := zB_in ea
        rw [e] at ex
        cases ex
        exact ho a a1 a2 (by omega)
      · obtain ⟨-, -, x9, ex, lx⟩ := zB_in e
        rw [e, ex]
        show (S.F 14 x9 &&& M = 0 ∧ S.F 14 q &&& M = 0) ↔ _
        rw [hM M h9]
        exact ⟨fun x => x.2, fun x => ⟨dn _ M h9 (ho x9 (zA_in ex).1 (zA_in ex).2 (by omega)), x⟩⟩
    rw [key 2 (by decide), key 4 (by decide)]
    rcases hc with e | e <;> rw [e] <;> decide
theorem zge {x : Int32} {n : Nat} (h : 0 ≤ x.toInt ∧ x.toInt ≤ (n : Int)) : ∃ v : Nat, v ≤ n ∧ x = nI v := ⟨x.toNatClampNeg, by
  show x.toInt.toNat ≤ n
  omega, znI (b := (n : Int)) h⟩
/-- what the reference sends, by the link that has failed -/
noncomputable def zsM (P S : ZS) (b r : Nat) (d : Int32) : ZS := if S.F 15 (6 * b + r) = 2 then fMO_sends_203 P (fMO_say P S 1 (nI b) (nI (60 + b)) (S.F 17 b)) (nI b) (nI r) else if d = -1 then (if S.F 15 (6 * b + r) = 4 then fMO_sends_203 P (fMO_say P S 2 (nI b) (nI (60 + b)) (S.F 17 b)) (nI b) (nI r) else if fMO_has P S (nI b) (nI r) 8 = 0 then (if fMO_has P S (nI b) (nI r) 16 = 0 then S else fMO_sends_203 P (fMO_say P S 4 (nI b) (nI (108 + r)) (S.F 12 r)) (nI b) (nI r)) else fMO_sends_203 P (fMO_say P S 3 (nI b) 0 0) (nI b) (nI r)) else fMO_sends_203 P (fMO_say P S 0 (nI b) d (S.F 8 d.toNatClampNeg)) (nI b) (nI r)
noncomputable def zdM (P S : ZS) (nl k : Nat) : Int32 := if zhO (S.F 10) (zA P nl k) &&& 1 = 0 then (if zhO (S.F 10) (zB P nl k) &&& 1 = 0 then -1 else zOl (zB P nl k)) else zOl (zA P nl k)
theorem zse2 (P : ZS) (rc : ZS → Int32 → Int32 → Int32 → Int32 → Int32 → ZS) (S : ZS) {b r : Nat} (hb : b < 48) (hr : r < 6) (d : Int32) : fMO_sends_12 P rc S (nI b) (nI r) (nI (6 * b + r)) d (-1) = zsM P S b r d := by
  have cb : (nI b).toNatClampNeg = b := nI_clamp (by omega)
  have cr : (nI r).toNatClampNeg = r := nI_clamp (by omega)
  have ck : (nI (6 * b + r)).toNatClampNeg = 6 * b + r := nI_clamp (by omega)
  have e60 : (60 : Int32) + nI b = nI (60 + b) := nI_add 60 b
  have e108 : (108 : Int32) + nI r = nI (108 + r) := nI_add 108 r
  rw [fMO_sends_12, if_pos (by decide)]
  repeat rw [zl]
  rw [cb, cr, ck, e60, e108]
  rfl
theorem zsnds {P P' : ZS} {nb nl b r : Nat} (g : zGeo P P' nb nl) (hb : b < nb) (hr : r < 6) (S : ZS) : fMO_sends P' S (nI b) (nI r) = zsM P' S b r (zdM P S nl (6 * b + r)) := by
  have hn := g.nb
  obtain ⟨f1, f2⟩ := g.2.2.2.2.2.1 (6 * b + r) (by omega)
  have e3 : zfix (fun S9 _ _ _ _ _ => S9) (fMO_sends_12 P') 3 S (nI b) (nI r) (nI (6 * b + r)) (-1) 1 = zfix (fun S9 _ _ _ _ _ => S9) (fMO_sends_12 P') (0 + 1 + 1 + 1) S (nI b) (nI r) (nI (6 * b + r)) (-1) (nI 1) := rfl
  have a1 : (nI 1 + (-1) : Int32) = nI 0 := by decide
  have a0 : (nI 0 + (-1) : Int32) = -1 := by decide
  rw [fMO_sends, zl, zat, e3, zfix_s, zse1 g hb hr (by omega) _ S _ (fun a e => ⟨(zB_in e).1, (zB_in e).2.1⟩) f2, a1, zfix_s, zse1 g hb hr (by omega) _ S _ (fun a e => zA_in e) f1, a0, zfix_s, zse2 P' _ S (by omega) hr]
  rfl
/-- what the class sends -/
noncomputable def zcC (P S : ZS) (b r : Nat) (al : Int32) : Int32 := if al &&& 2 = 0 then (if al &&& 1 = 0 then (if al &&& 4 = 0 then (if al &&& 8 = 0 then (if al &&& 16 = 0 then -1 else fCA_of P S 4 (nI b) (nI (108 + r)) (S.F 18 r)) else fCA_of P S 3 (nI b) 0 0) else fCA_of P S 2 (nI b) (nI (60 + b)) (S.F 20 b)) else fCA_of P S 0 (nI b) (fPR_lesserFailedLink P S (nI (6 * b + r))) (S.F 19 (fPR_lesserFailedLink P S (nI (6 * b + r))).toNatClampNeg)) else fCA_of P S 1 (nI b) (nI (60 + b)) (S.F 20 b)
theorem zcst (P S : ZS) {b r : Nat} (hb : b < 48) (hr : r < 6) : fPR_castToSend P S (nI (6 * b + r)) = zcC P S b r (fPR_allHolds P S (nI (6 * b + r))) := by
  have cb : (nI b).toNatClampNeg = b := nI_clamp (by omega)
  have cr : (nI r).toNatClampNeg = r := nI_clamp (by omega)
  have e60 : (60 : Int32) + nI b = nI (60 + b) := nI_add 60 b
  have e108 : (108 : Int32) + nI r = nI (108 + r) := nI_add 108 r
  have z6 : (6 : Int32) = nI 6 := by decide
  have em : nI (6 * b + r) - nI (6 * b + r) / 6 * 6 = nI r := by rw [z6, nI_rem (by omega) (by omega), show (6 * b + r) % 6 = r by omega]
  have ed : nI (6 * b + r) / 6 = nI b := by rw [z6, nI_div (by omega) (by omega), show (6 * b + r) / 6 = b by omega]
  rw [fPR_castToSend]
  repeat rw [zl]
  rw [em, ed, cb, cr, e60, e108]
  rfl
/-- the lesser link that has failed -/
theorem zless {P P' : ZS} {nb nl b r a0 : Nat} {S : ZS} (g : zGeo P P' nb nl) (hb : b < nb) (hr : r < 6) (hA : zA P nl (6 * b + r) = some a0) (S' : ZS) (h10 : S'.F 10 = S.F 14) (c1 : ¬ fPR_allHolds P S (nI (6 * b + r)) &&& 1 = 0) : ∃ l, l < nl ∧ zdM P S' nl (6 * b + r) = nI l ∧ fPR_lesserFailedLink P S (nI (6 * b + r)) = nI l := by
  have hn := g.nb
  have hn2 := g.nl
  have z2 : (2 : Int32) = nI 2 := by decide
  obtain ⟨p1, p2⟩ := g.2.2.2.2.1 (6 * b + r) (by omega)
  have a1 := zall_O (S := S) g hb hr 1
  have hA1 := zA_in hA
  have ck : (nI (2 * (6 * b + r))).toNatClampNeg = 2 * (6 * b + r) := nI_clamp (by omega)
  have ck1 : (nI (2 * (6 * b + r) + 1)).toNatClampNeg = 2 * (6 * b + r) + 1 := nI_clamp (by omega)
  unfold zdM
  rw [h10, fPR_lesserFailedLink]
  repeat rw [zl]
  rw [z2, nI_mul, ck, nI_1, ck1, p1, p2, hA]
  by_cases w : S.F 14 a0 &&& 1 = 0
  · have w1 : zhO (S.F 14) (some a0) &&& 1 = 0 := w
    have w2 : ¬ zhO (S.F 14) (zB P nl (6 * b + r)) &&& 1 = 0 := fun e => c1 (a1.mpr ⟨by rw [hA]; exact w, e⟩)
    have w3 : fPR_isDown P S (zO (some a0)) = 0 := (zdn P S (by omega)).mpr w
    rw [if_pos w1, if_neg w2, if_pos w3, fPR_lesserFailedLink_37, zl]
    cases e : zB P nl (6 * b + r) with
    | none => rw [e] at w2; exact absurd (zand0 1) w2
    | some a2 =>
      have := (zB_in e).1
      refine ⟨a2 / 2, by omega, rfl, ?_⟩
      have e9 : zO (some a2) = nI a2 := rfl
      rw [e9, z2, nI_div (by omega) (by omega)]
  · have w1 : ¬ zhO (S.F 14) (some a0) &&& 1 = 0 := w
    have w3 : ¬ fPR_isDown P S (zO (some a0)) = 0 := fun e => w ((zdn P S (by omega)).mp e)
    rw [if_neg w1, if_neg w3, fPR_lesserFailedLink_37, zl]
    refine ⟨a0 / 2, by omega, rfl, ?_⟩
    have e9 : zO (some a0) = nI a0 := rfl
    rw [e9, z2, nI_div (by omega) (by omega)]
theorem zC.spk {no : Nat} {P P' : ZS} {nb nl b r n t k k2 a0 : Nat} {tk : Prop} {c : Int32} {m K : Nat} {S S' : ZS} (h : zC no tk c m K S S') (g : zGeo P P' nb nl) (hI : zIS P nb nl S S') (hBd : zBd P n t k k2 S) (hb : b < nb) (hr : r < 6) (hA : zA P nl (6 * b + r) = some a0) (ht : t ≤ 20000) (hn9 : n ≤ 1000) : zC no tk c m (K + 2) (fPR_speak P S (nI (6 * b + r))) (fMO_sends P' S' (nI b) (nI r)) := by
  have hn := g.nb
  have hn2 := g.nl
  have h10 : S'.F 10 = S.F 14 := h.g 10 14 (by decide)
  have e17 : S'.F 17 = S.F 20 := h.g 17 20 (by decide)
  have e12 : S'.F 12 = S.F 18 := h.g 12 18 (by decide)
  have e8 : S'.F 8 = S.F 19 := h.g 8 19 (by decide)
  obtain ⟨v20, l20, e20⟩ := zge (n := n) (hBd 20 b)
  have q18 : 0 ≤ (S.F 18 r).toInt ∧ (S.F 18 r).toInt ≤ ((t + 2 : Nat) : Int) := by
    have w : 0 ≤ (S.F 18 r).toInt ∧ (S.F 18 r).toInt ≤ (t : Int) + 1 + (if zop P r < k2 then 1 else 0) := hBd 18 r
    refine ⟨w.1, ?_⟩
    have w2 := w.2
    split at w2 <;> omega
  obtain ⟨v18, l18, e18⟩ := zge q18
  have fin : ∀ a nm mm : Nat, a ≤ 5 → nm ≤ 113 → mm ≤ 32767 → zC no tk c m (K + 2) (if zcast a b nm mm = -1 then S else fPR_putFromPorts P S (nI (6 * b + r)) (zcast a b nm mm)) (fMO_sends_203 P' (fMO_say P' S' (nI a) (nI b) (nI nm) (nI mm)) (nI b) (nI r)) := by
    intro a nm mm q1 q2 q3
    rw [if_neg (zc_ne q1 (by omega) q2 q3)]
    exact h.snd g hI hb hr q1 q2 q3
  have keep : zC no tk c m (K + 2) S S' := h.mo (Nat.le_refl _) (by omega)
  obtain ⟨b2, b4⟩ := zcm_bits g hb hr (hI.2.1 (6 * b + r))
  have a8 := zall_iff (S := S) (S' := S') g hb hr h10 8
  have a16 := zall_iff (S := S) (S' := S') g hb hr h10 16
  have a1 := zall_O (S := S) g hb hr 1
  have less := fun c1 => zless (S := S) g hb hr hA S' h10 c1
  have d0 : fPR_allHolds P S (nI (6 * b + r)) &&& 1 = 0 → zdM P S' nl (6 * b + r) = -1 := fun c1 => by
    obtain ⟨w1, w2⟩ := a1.mp c1
    unfold zdM
    rw [h10, if_pos w1, if_pos w2]
  rw [fPR_speak, zl, zl, zcst P S (by omega) hr, zsnds g hb hr]
  generalize fPR_allHolds P S (nI (6 * b + r)) = al at b2 b4 a8 a16 less d0
  generalize zdM P S' nl (6 * b + r) = d at less d0
  unfold zcC zsM
  rw [e17, e12, e8, e20, e18]
  by_cases c2 : S'.F 15 (6 * b + r) = 2
  · rw [if_pos c2, if_neg (fun e => b2.mp e c2)]
    exact fin 1 (60 + b) v20 (by omega) (by omega) (by omega)
  · rw [if_neg c2, if_pos (b2.mpr c2)]
    by_cases c1 : al &&& 1 = 0
    · rw [if_pos (d0 c1), if_pos c1]
      by_cases c4 : S'.F 15 (6 * b + r) = 4
      · rw [if_pos c4, if_neg (fun e => b4.mp e c4)]
        exact fin 2 (60 + b) v20 (by omega) (by omega) (by omega)
      · rw [if_neg c4, if_pos (b4.mpr c4)]
        by_cases c8 : fMO_has P' S' (nI b) (nI r) 8 = 0
        · rw [if_pos c8, if_pos (a8.mpr c8)]
          by_cases c16 : fMO_has P' S' (nI b) (nI r) 16 = 0
          · rw [if_pos c16, if_pos (a16.mpr c16), if_pos rfl]
            exact keep
          · rw [if_neg c16, if_neg (fun e => c16 (a16.mp e))]
            exact fin 4 (108 + r) v18 (by omega) (by omega) (by omega)
        · rw [if_neg c8, if_neg (fun e => c8 (a8.mp e))]
          exact fin 3 0 0 (by omega) (by omega) (by omega)
    · obtain ⟨l, hl, eD, eL⟩ := less c1
      obtain ⟨v19, l19, e19⟩ := zge (n := n) (hBd 19 l)
      have cl : (nI l).toNatClampNeg = l := nI_clamp (by omega)
      have nd : ¬ nI l = -1 := nI_ne (by omega)
      rw [if_neg c1, eD, if_neg nd, eL, cl, e19]
      exact fin 0 l v19 (by omega) (by omega) (by omega)

/-! a bridge's turn in a ring, on both sides -/
noncomputable def zg1 (S : ZS) (k : Nat) : ZS := if S.F 15 k ≤ 0 then S else S.setF 15 k (S.F 15 k - 1)
noncomputable def zg2 (P S : ZS) (k : Nat) : ZS := if fPL_isOwner P S (nI k) = 0 then S else fPR_runClock P S (nI k)
noncomputable def zg3 (P S : ZS) (k : Nat) : ZS := if S.F 15 k = 0 then (if fPR_allHolds P S (nI k) &&& 23 = 0 then S else fPR_endWaiting P S (nI k)) else S
noncomputable def zg4 (P S : ZS) (k : Nat) : ZS := if fPR_isSendingPhase P (S.setF 16 k (S.F 16 k + 1)) (S.F 16 k + 1) = 0 then S.setF 16 k (S.F 16 k + 1) else fPR_speak P (S.setF 16 k (S.F 16 k + 1)) (nI k)
theorem zta (P : ZS) (rc : ZS → Int32 → ZS) (S : ZS) {nb k : Nat} (hB : P.I 0 = nI nb) (hb : nb ≤ 48) (hk : k < 6 * nb) : fPR_turnAll_2 P rc S (nI k) = rc (if P.F 7 (2 * k) = -1 then S else zg4 P (zg3 P (zg2 P (zg1 S k) k) k) k) (nI (k + 1)) := by
  have z2 : (2 : Int32) = nI 2 := by decide
  have z6 : (6 : Int32) = nI 6 := by decide
  have e94 : ∀ X, fPR_turnAll_94 P rc X (nI k) = rc (zg4 P X k) (nI (k + 1)) := fun X => by
    unfold fPR_turnAll_94 fPR_turnAll_121 zg4
    simp only [zl]
    rw [nI_clamp (by omega), zFsk, upd_at, nI_1]
    by_cases c : fPR_isSendingPhase P (X.setF 16 k (X.F 16 k + 1)) (X.F 16 k + 1) = 0
    · rw [if_pos c, if_pos c]
    · rw [if_neg c, if_neg c]
  have e69 : ∀ X, fPR_turnAll_69 P rc X (nI k) = rc (zg4 P (zg3 P X k) k) (nI (k + 1)) := fun X => by
    unfold fPR_turnAll_69 zg3
    simp only [zl]
    rw [nI_clamp (by omega), e94, e94]
    by_cases c : X.F 15 k = 0
    · rw [if_pos c, if_pos c]
      by_cases d : fPR_allHolds P X (nI k) &&& 23 = 0
      · rw [if_pos d, if_pos d]
      · rw [if_neg d, if_neg d]
    · rw [if_neg c, if_neg c]
  have e53 : ∀ X, fPR_turnAll_53 P rc X (nI k) = rc (zg4 P (zg3 P (zg2 P X k) k) k) (nI (k + 1)) := fun X => by
    unfold fPR_turnAll_53 zg2
    simp only [zl]
    rw [e69, e69]
    by_cases c : fPL_isOwner P X (nI k) = 0
    · rw [if_pos c, if_pos c]
    · rw [if_neg c, if_neg c]
  rw [fPR_turnAll_2]
  simp only [zl]
  rw [hB, z6, nI_mul, if_neg (nI_ge (by omega) (by omega)), z2, nI_mul, nI_clamp (by omega), nI_clamp (by omega), e53, e53]
  unfold fPR_turnAll_121
  simp only [zl]
  rw [nI_1]
  by_cases c : P.F 7 (2 * k) = -1
  · rw [if_pos c, if_pos c]
  · rw [if_neg c, if_neg c]
    unfold zg1
    by_cases d : S.F 15 k ≤ 0
    · rw [if_pos d, if_pos d]
    · rw [if_neg d, if_neg d]
noncomputable def zf1 (S : ZS) (k : Nat) : ZS := if S.F 13 k ≤ 0 then S.setF 13 k 0 else S.setF 13 k (S.F 13 k - 1)
noncomputable def zf2 (P S : ZS) (b r : Nat) : ZS := if fMO_owns P S (nI b) (nI r) = 0 then S else if fMO_has P S (nI b) (nI r) 23 = 0 then (if S.F 11 r ≤ 0 then (if fMO_has P S (nI b) (nI r) 8 = 0 then S else S.setF 11 r 60) else if S.F 11 r - 1 = 0 then fMO_takeHold P (S.setF 11 r (S.F 11 r - 1)) (nI r) else S.setF 11 r (S.F 11 r - 1)) else S
noncomputable def zf3 (P S : ZS) (b r : Nat) : ZS := if S.F 13 (6 * b + r) = 0 then (if fMO_has P S (nI b) (nI r) 23 = 0 then S else fMO_endAll P S (nI b) (nI r) 8) else S
noncomputable def zf4 (P S : ZS) (b r : Nat) : ZS := if S.F 14 (6 * b + r) + 1 ≤ 3 ∨ S.F 14 (6 * b + r) + 1 - (S.F 14 (6 * b + r) + 1) / 5 * 5 = 3 then fMO_sends P (S.setF 14 (6 * b + r) (S.F 14 (6 * b + r) + 1)) (nI b) (nI r) else S.setF 14 (6 * b + r) (S.F 14 (6 * b + r) + 1)
theorem ztf (P S : ZS) {b r : Nat} (hb : b < 48) (hr : r < 6) : fMO_tickOf P S (nI b) (nI r) = zf4 P (zf3 P (zf2 P (zf1 S (6 * b + r)) b r) b r) b r := by
  have e136 : ∀ X, fMO_tickOf_136 P X (nI b) (nI r) (nI (6 * b + r)) = zf4 P X b r := fun X => by
    unfold zf4
    rw [fMO_tickOf_136]
    repeat rw [zl]
    repeat rw [fMO_tickOf_168]
    repeat rw [zl]
    rw [nI_clamp (by omega), zFsk, upd_at]
    by_cases c : X.F 14 (6 * b + r) + 1 ≤ 3
    · rw [if_pos c, if_pos (Or.inl c)]
    · rw [if_neg c]
      by_cases d : X.F 14 (6 * b + r) + 1 - (X.F 14 (6 * b + r) + 1) / 5 * 5 = 3
      · rw [if_pos d, if_pos (Or.inr d)]
      · rw [if_neg d, if_neg (fun q => q.elim c d)]
  have e108 : ∀ X, fMO_tickOf_108 P X (nI b) (nI r) (nI (6 * b + r)) = zf4 P (zf3 P X b r) b r := fun X => by
    unfold zf3
    rw [fMO_tickOf_108]
    repeat rw [zl]
    rw [nI_clamp (by omega), e136, e136]
    by_cases c : X.F 13 (6 * b + r) = 0
    · rw [if_pos c, if_pos c]
      by_cases d : fMO_has P X (nI b) (nI r) 23 = 0
      · rw [if_pos d, if_pos d]
      · rw [if_neg d, if_neg d]
    · rw [if_neg c, if_neg c]
  have e32 : ∀ X v, fMO_tickOf_32 P X (nI b) (nI r) (nI (6 * b + r)) v (nI (6 * b + r)) = zf4 P (zf3 P (zf2 P (X.setF 13 (6 * b + r) v) b r) b r) b r := fun X v => by
    rw [fMO_tickOf_32]
    repeat rw [zl]
    rw [nI_clamp (by omega)]
    generalize X.setF 13 (6 * b + r) v = Y
    rw [nI_clamp (by omega), e108, e108, e108, e108, zFsk, upd_at]
    unfold zf2
    by_cases c : fMO_owns P Y (nI b) (nI r) = 0
    · rw [if_pos c, if_pos c]
    · rw [if_neg c, if_neg c]
      by_cases d : fMO_has P Y (nI b) (nI r) 23 = 0
      · rw [if_pos d, if_pos d]
        by_cases e : Y.F 11 r ≤ 0
        · rw [if_pos e, if_pos e]
          by_cases f : fMO_has P Y (nI b) (nI r) 8 = 0
          · rw [if_pos f, if_pos f]
          · rw [if_neg f, if_neg f]
        · rw [if_neg e, if_neg e]
          by_cases f : Y.F 11 r - 1 = 0
          · rw [if_pos f, if_pos f]
          · rw [if_neg f, if_neg f]
      · rw [if_neg d, if_neg d]
  rw [fMO_tickOf]
  repeat rw [zl]
  rw [zat, nI_clamp (by omega), e32, e32]
  unfold zf1
  by_cases c : S.F 13 (6 * b + r) ≤ 0
  · rw [if_pos c, if_pos c]
  · rw [if_neg c, if_neg c]
theorem zI_of {P : ZS} {nb nl : Nat} {S S' T T' : ZS} (h : zIS P nb nl S S') (h1 : T.F 14 = S.F 14) (h2 : T'.F 7 = S'.F 7) (h3 : T'.F 15 = S'.F 15) (h4 : T'.F 16 = S'.F 16) : zIS P nb nl T T' := by
  show zI P nb nl _ _ _ _
  rw [h1, h2, h3, h4]
  exact h
theorem zle0 {x : Int32} (h : 0 ≤ x.toInt) : x ≤ 0 ↔ x = 0 := by
  have z : (0 : Int32).toInt = 0 := by decide
  constructor
  · intro e
    have := Int32.le_iff_toInt_le.mp e
    exact Int32.toInt_inj.mp (by omega)
  · intro e
    rw [e]
    decide
theorem zdec {x : Int32} (h : 0 ≤ x.toInt) (hne : ¬ x = 0) : 0 ≤ (x - 1).toInt := by
  have z0 : (0 : Int32).toInt = 0 := by decide
  have z1 : (1 : Int32).toInt = 1 := by decide
  have : x.toInt ≠ 0 := fun e => hne (Int32.toInt_inj.mp (e.trans z0.symm))
  have hlt := Int32.toInt_lt x
  rw [Int32.toInt_sub, z1, zbm ⟨by omega, by omega⟩]
  omega
theorem zbr_c {row : Nat} (h : row ∈ zbr) : row = 12 ∨ row = 13 ∨ row = 15 ∨ row = 16 ∨ row = 17 ∨ row = 18 ∨ row = 19 ∨ row = 20 := by simpa [zbr] using h
/-- bounds that are looser -/
theorem zBd.lo {P S : ZS} {n t k k2 n' t' k' k2' : Nat} (h : zBd P n t k k2 S) (hn : n ≤ n') (h16 : ∀ j : Nat, (t : Int) + (if j < k then 1 else 0) ≤ (t' : Int) + (if j < k' then 1 else 0)) (h18 : ∀ j : Nat, (t : Int) + 1 + (if zop P j < k2 then 1 else 0) ≤ (t' : Int) + 1 + (if zop P j < k2' then 1 else 0)) : zBd P n' t' k' k2' S := by
  intro row j
  by_cases c : row ∈ zbr
  · rcases zbr_c c with rfl | rfl | rfl | rfl | rfl | rfl | rfl | rfl
    · exact h 12 j
    · exact h 13 j
    · exact h 15 j
    · have w : 0 ≤ (S.F 16 j).toInt ∧ (S.F 16 j).toInt ≤ (t : Int) + (if j < k then 1 else 0) := h 16 j
      exact ⟨w.1, Int.le_trans w.2 (h16 j)⟩
    · exact h 17 j
    · have w : 0 ≤ (S.F 18 j).toInt ∧ (S.F 18 j).toInt ≤ (t : Int) + 1 + (if zop P j < k2 then 1 else 0) := h 18 j
      exact ⟨w.1, Int.le_trans w.2 (h18 j)⟩
    · have w : 0 ≤ (S.F 19 j).toInt ∧ (S.F 19 j).toInt ≤ (n : Int) := h 19 j
      exact ⟨w.1, by have := w.2; omega⟩
    · have w : 0 ≤ (S.F 20 j).toInt ∧ (S.F 20 j).toInt ≤ (n : Int) := h 20 j
      exact ⟨w.1, by have := w.2; omega⟩
  · exact zbq_o c
theorem zBd.up {P S : ZS} {n t k k2 k3 : Nat} (h : zBd P n t k k2 S) (hk : k2 ≤ k3) : zBd P n t k k3 S := h.lo (Nat.le_refl _) (fun _ => Int.le_refl _) (fun j => by
  by_cases d : zop P j < k2
  · rw [if_pos d, if_pos (by omega)]; exact Int.le_refl _
  · rw [if_neg d]; split <;> omega)
theorem zBd.up1 {P S : ZS} {n t k k2 k3 : Nat} (h : zBd P n t k k2 S) (hk : k ≤ k3) : zBd P n t k3 k2 S := h.lo (Nat.le_refl _) (fun j => by
  by_cases d : j < k
  · rw [if_pos d, if_pos (by omega)]; exact Int.le_refl _
  · rw [if_neg d]; split <;> omega) (fun _ => Int.le_refl _)
theorem zBd.upn {P S : ZS} {n t k k2 n2 : Nat} (h : zBd P n t k k2 S) (hk : n ≤ n2) : zBd P n2 t k k2 S := h.lo hk (fun _ => Int.le_refl _) (fun _ => Int.le_refl _)
theorem zBd_tick {P S : ZS} {n t nb : Nat} (h : zBd P n t (6 * nb) (6 * nb) S) : zBd P n (t + 1) 0 0 S := h.lo (Nat.le_refl _) (fun j => by
  rw [if_neg (Nat.not_lt_zero j)]
  split <;> omega) (fun j => by
  rw [if_neg (Nat.not_lt_zero _)]
  split <;> omega)
/-- the states of the two sides while bridges take their turns -/
def zTR (no : Nat) (P : ZS) (nb nl n t k : Nat) (tk : Prop) (c : Int32) (m K : Nat) (S S' : ZS) : Prop := zC no tk c m K S S' ∧ zIS P nb nl S S' ∧ zBd P n t k k S
theorem zturn1 {no : Nat} {P P' : ZS} {nb nl b r n t a0 : Nat} {tk : Prop} {c : Int32} {m K : Nat} {S S' : ZS} (g : zGeo P P' nb nl) (hb : b < nb) (hr : r < 6) (hA : zA P nl (6 * b + r) = some a0) (ht : t ≤ 20000) (hn9 : n ≤ 1000) (hR : zTR no P nb nl n t (6 * b + r) tk c m K S S') :
    zTR no P nb nl n t (6 * b + r + 1) tk c m (K + 14) (zg4 P (zg3 P (zg2 P (zg1 S (6 * b + r)) (6 * b + r)) (6 * b + r)) (6 * b + r)) (zf4 P' (zf3 P' (zf2 P' (zf1 S' (6 * b + r)) b r) b r) b r) := by
  have hn := g.nb
  have hn2 := g.nl
  have z6 : (6 : Int32) = nI 6 := by decide
  have r3 : P'.F 3 = P.F 3 := g.2.1.2.2.2.2.2.1
  have hAi := zA_in hA
  have hl := zrg_of g hAi.1 hAi.2 hr
  obtain ⟨h, hI, hBd⟩ := hR
  -- guard
  have s1 : zC no tk c m K (zg1 S (6 * b + r)) (zf1 S' (6 * b + r)) ∧ zIS P nb nl (zg1 S (6 * b + r)) (zf1 S' (6 * b + r)) ∧ zBd P n t (6 * b + r) (6 * b + r) (zg1 S (6 * b + r)) := by
    have g15 : 0 ≤ (S.F 15 (6 * b + r)).toInt := hBd 15 _
    unfold zg1 zf1
    rw [h.g 13 15 (by decide)]
    by_cases d : S.F 15 (6 * b + r) ≤ 0
    · rw [if_pos d, if_pos d]
      have e : S'.setF 13 (6 * b + r) 0 = S' := by
        have e1 : S'.F 13 (6 * b + r) = 0 := by rw [h.g 13 15 (by decide)]; exact (zle0 g15).mp d
        have e2 := zset_id S' 13 (6 * b + r)
        rw [e1] at e2
        exact e2
      rw [e]
      exact ⟨h, hI, hBd⟩
    · rw [if_neg d, if_neg d]
      refine ⟨h.s 13 15 (by decide) (by decide) (by decide), ?_, hBd.F ?_⟩
      · exact zI_of hI (zFsn _ (by decide)) (zFsn _ (by decide)) (zFsn _ (by decide)) (zFsn _ (by decide))
      · exact zdec g15 (fun e => d ((zle0 g15).mpr e))
  generalize zg1 S (6 * b + r) = S1 at s1 ⊢
  generalize zf1 S' (6 * b + r) = S1' at s1 ⊢
  obtain ⟨h1, hI1, hB1⟩ := s1
  -- clock
  have s2 : zC no tk c m (K + 12) (zg2 P S1 (6 * b + r)) (zf2 P' S1' b r) ∧ zIS P nb nl (zg2 P S1 (6 * b + r)) (zf2 P' S1' b r) ∧ zBd P n t (6 * b + r) (6 * b + r + 1) (zg2 P S1 (6 * b + r)) := by
    have keep : zC no tk c m (K + 12) S1 S1' ∧ zIS P nb nl S1 S1' ∧ zBd P n t (6 * b + r) (6 * b + r + 1) S1 := ⟨h1.mo (Nat.le_refl _) (by omega), hI1, hB1.up (by omega)⟩
    have g17 : 0 ≤ (S1.F 17 r).toInt := hB1 17 _
    have h10 : S1'.F 10 = S1.F 14 := h1.g 10 14 (by decide)
    unfold zg2 zf2
    by_cases d : P.F 3 r = nI b
    · rw [if_neg (fun e => (zn_own P S1 (by omega) hr).mp e d), if_neg (fun e => (zn_owns P' S1' (nI b) hr).mp e (by rw [r3]; exact d))]
      rw [fPR_runClock]
      repeat rw [zl]
      repeat rw [fPR_runClock_46]
      repeat rw [zl]
      rw [z6, nI_rem (by omega) (by omega), show (6 * b + r) % 6 = r by omega, nI_clamp (by omega), h1.g 11 17 (by decide)]
      by_cases d2 : fMO_has P' S1' (nI b) (nI r) 23 = 0
      · rw [if_pos ((zall_iff g hb hr h10 23).mpr d2), if_pos d2]
        by_cases d3 : S1.F 17 r = 0
        · rw [if_pos d3, if_pos ((zle0 g17).mpr d3)]
          by_cases d4 : fMO_has P' S1' (nI b) (nI r) 8 = 0
          · rw [if_pos ((zall_iff g hb hr h10 8).mpr d4), if_pos d4]
            have e : S1.setF 17 r 0 = S1 := by
              have e2 := zset_id S1 17 r
              rw [d3] at e2
              exact e2
            rw [e]
            exact keep
          · rw [if_neg (fun e => d4 ((zall_iff g hb hr h10 8).mp e)), if_neg d4]
            refine ⟨(h1.s 11 17 (by decide) (by decide) (by decide)).mo (Nat.le_refl _) (by omega), ?_, (hB1.up (by omega)).F (show 0 ≤ (60 : Int32).toInt by decide)⟩
            exact zI_of hI1 (zFsn _ (by decide)) (zFsn _ (by decide)) (zFsn _ (by decide)) (zFsn _ (by decide))
        · rw [if_neg d3, if_neg (fun e => d3 ((zle0 g17).mp e)), zFsk, upd_at]
          have k1 := h1.s (i := r) (v := S1.F 17 r - 1) 11 17 (by decide) (by decide) (by decide)
          have i1 : zIS P nb nl (S1.setF 17 r (S1.F 17 r - 1)) (S1'.setF 11 r (S1.F 17 r - 1)) := zI_of hI1 (zFsn _ (by decide)) (zFsn _ (by decide)) (zFsn _ (by decide)) (zFsn _ (by decide))
          have b1 : zBd P n t (6 * b + r) (6 * b + r) (S1.setF 17 r (S1.F 17 r - 1)) := hB1.F (zdec g17 d3)
          by_cases d5 : S1.F 17 r - 1 = 0
          · rw [if_pos d5, if_pos d5]
            have w : 0 ≤ (S1.F 18 r).toInt ∧ (S1.F 18 r).toInt ≤ (t : Int) + 1 + (if zop P r < 6 * b + r then 1 else 0) := hB1 18 r
            have eo : zop P r = 6 * b + r := by unfold zop; rw [d, nI_clamp (by omega)]
            rw [eo, if_neg (Nat.lt_irrefl _)] at w
            obtain ⟨v, lv, ev⟩ := zge (n := t + 1) ⟨w.1, by have := w.2; omega⟩
            have e18 : (S1.setF 17 r (S1.F 17 r - 1)).F 18 r + 1 = nI (v + 1) := by rw [zFsn _ (by decide), ev, nI_1]
            obtain ⟨k2, i2⟩ := k1.th g i1 hr hl (by rw [zFsk, upd_at]; exact d5) e18 (by omega)
            refine ⟨k2, i2, ?_⟩
            obtain ⟨p, b2, hp, hb2, e6, epl, e3, -⟩ := g.2.2.2.2.2.2.2.1 r hr hl
            rw [zn_th g hr hp e6 epl, e18]
            refine zBd_nw g hb2 hr ?_ _ _
            rw [← zn_set g hp epl hr]
            refine (zBd_set (b1.up (by omega)) _ _).F ?_
            show 0 ≤ (nI (v + 1)).toInt ∧ (nI (v + 1)).toInt ≤ (t : Int) + 1 + (if zop P r < 6 * b + r + 1 then 1 else 0)
            rw [eo, if_pos (Nat.lt_succ_self _), nI_toInt (by omega)]
            omega
          · rw [if_neg d5, if_neg d5]
            exact ⟨k1.mo (Nat.le_refl _) (by omega), i1, b1.up (by omega)⟩
      · rw [if_neg (fun e => d2 ((zall_iff g hb hr h10 23).mp e)), if_neg d2]
        exact keep
    · rw [if_pos ((zn_own P S1 (by omega) hr).mpr d), if_pos ((zn_owns P' S1' (nI b) hr).mpr (by rw [r3]; exact d))]
      exact keep
  generalize zg2 P S1 (6 * b + r) = S2 at s2 ⊢
  generalize zf2 P' S1' b r = S2' at s2 ⊢
  obtain ⟨h2, hI2, hB2⟩ := s2
  -- waiting
  have s3 : zC no tk c m (K + 12) (zg3 P S2 (6 * b + r)) (zf3 P' S2' b r) ∧ zIS P nb nl (zg3 P S2 (6 * b + r)) (zf3 P' S2' b r) ∧ zBd P n t (6 * b + r) (6 * b + r + 1) (zg3 P S2 (6 * b + r)) := by
    have h10 : S2'.F 10 = S2.F 14 := h2.g 10 14 (by decide)
    unfold zg3 zf3
    rw [h2.g 13 15 (by decide)]
    by_cases d : S2.F 15 (6 * b + r) = 0
    · rw [if_pos d, if_pos d]
      by_cases d2 : fMO_has P' S2' (nI b) (nI r) 23 = 0
      · rw [if_pos ((zall_iff g hb hr h10 23).mpr d2), if_pos d2]
        exact ⟨h2, hI2, hB2⟩
      · rw [if_neg (fun e => d2 ((zall_iff g hb hr h10 23).mp e)), if_neg d2]
        have q := q_fMO_endAll P' S2' (nI b) (nI r) 8
        refine ⟨h2.ew g hb hr, ?_, zBd_ew hB2 _⟩
        show zI P nb nl _ _ _ _
        rw [q.2 7 (by decide), q.2 15 (by decide), q.2 16 (by decide)]
        exact hI2.k (zew_hk P S2 (by omega))
    · rw [if_neg d, if_neg d]
      exact ⟨h2, hI2, hB2⟩
  generalize zg3 P S2 (6 * b + r) = S3 at s3 ⊢
  generalize zf3 P' S2' b r = S3' at s3 ⊢
  obtain ⟨h3, hI3, hB3⟩ := s3
  -- phase
  have w16 : 0 ≤ (S3.F 16 (6 * b + r)).toInt ∧ (S3.F 16 (6 * b + r)).toInt ≤ (t : Int) + (if 6 * b + r < 6 * b + r then 1 else 0) := hB3 16 _
  rw [if_neg (Nat.lt_irrefl _)] at w16
  obtain ⟨u, lu, eu⟩ := zge (n := t) ⟨w16.1, by have := w16.2; omega⟩
  have e14 : S3'.F 14 (6 * b + r) + 1 = nI (u + 1) := by rw [h3.g 14 16 (by decide), eu, nI_1]
  have e16 : S3.F 16 (6 * b + r) + 1 = nI (u + 1) := by rw [eu, nI_1]
  unfold zg4 zf4
  rw [e14, e16]
  have k4 := h3.s (i := 6 * b + r) (v := nI (u + 1)) 14 16 (by decide) (by decide) (by decide)
  have i4 : zIS P nb nl (S3.setF 16 (6 * b + r) (nI (u + 1))) (S3'.setF 14 (6 * b + r) (nI (u + 1))) := zI_of hI3 (zFsn _ (by decide)) (zFsn _ (by decide)) (zFsn _ (by decide)) (zFsn _ (by decide))
  have b4 : zBd P n t (6 * b + r + 1) (6 * b + r + 1) (S3.setF 16 (6 * b + r) (nI (u + 1))) := by
    refine (hB3.up1 (by omega)).F ?_
    show 0 ≤ (nI (u + 1)).toInt ∧ (nI (u + 1)).toInt ≤ (t : Int) + (if 6 * b + r < 6 * b + r + 1 then 1 else 0)
    rw [if_pos (Nat.lt_succ_self _), nI_toInt (by omega)]
    omega
  generalize S3.setF 16 (6 * b + r) (nI (u + 1)) = S4 at k4 i4 b4 ⊢
  generalize S3'.setF 14 (6 * b + r) (nI (u + 1)) = S4' at k4 i4 ⊢
  have z1 : (1 : Int32) = nI 1 := by decide
  have z2 : (2 : Int32) = nI 2 := by decide
  have z3 : (3 : Int32) = nI 3 := by decide
  have z5 : (5 : Int32) = nI 5 := by decide
  have n1 : ¬ (1 : Int32) = 0 := by decide
  have eP : fPR_isSendingPhase P S4 (nI (u + 1)) = 0 ↔ ¬ (nI (u + 1) ≤ 3 ∨ nI (u + 1) - nI (u + 1) / 5 * 5 = 3) := by
    have x1 : nI (u + 1) = 1 ↔ u + 1 = 1 := by rw [z1]; exact nI_eq (by omega) (by omega)
    have x2 : nI (u + 1) = 2 ↔ u + 1 = 2 := by rw [z2]; exact nI_eq (by omega) (by omega)
    have x3 : nI (u + 1) ≤ 3 ↔ u + 1 ≤ 3 := by rw [z3]; exact nI_leI (by omega) (by omega)
    have x5 : nI (u + 1) - nI (u + 1) / 5 * 5 = 3 ↔ (u + 1) % 5 = 3 := by rw [z5, nI_rem (by omega) (by omega), z3]; exact nI_eq (by omega) (by omega)
    rw [fPR_isSendingPhase]
    repeat rw [fPR_isSendingPhase_17]
    repeat rw [zl]
    by_cases c1 : nI (u + 1) = 1
    · rw [if_pos c1]
      exact ⟨fun e => absurd e n1, fun e => absurd (Or.inl (x3.mpr (by have := x1.mp c1; omega))) e⟩
    · rw [if_neg c1]
      by_cases c2 : nI (u + 1) = 2
      · rw [if_pos c2]
        exact ⟨fun e => absurd e n1, fun e => absurd (Or.inl (x3.mpr (by have := x2.mp c2; omega))) e⟩
      · rw [if_neg c2]
        by_cases c3 : nI (u + 1) - nI (u + 1) / 5 * 5 = 3
        · rw [if_pos c3]
          exact ⟨fun e => absurd e n1, fun e => absurd (Or.inr c3) e⟩
        · rw [if_neg c3]
          refine ⟨fun _ e => e.elim (fun e => c3 (x5.mpr ?_)) c3, fun _ => rfl⟩
          have := x3.mp e
          have q1 : u + 1 ≠ 1 := fun e => c1 (x1.mpr e)
          have q2 : u + 1 ≠ 2 := fun e => c2 (x2.mpr e)
          omega
  by_cases d : nI (u + 1) ≤ 3 ∨ nI (u + 1) - nI (u + 1) / 5 * 5 = 3
  · rw [if_pos d, if_neg (fun e => eP.mp e d)]
    have q1 := q_fPR_speak P S4 (nI (6 * b + r))
    have q2 := q_fMO_sends P' S4' (nI b) (nI r)
    refine ⟨(k4.spk g i4 b4 hb hr hA ht hn9).mo (Nat.le_refl _) (by omega), zI_of i4 (q1.2 14 (by decide)) (q2.2 7 (by decide)) (q2.2 15 (by decide)) (q2.2 16 (by decide)), ?_⟩
    rw [fPR_speak]
    repeat rw [zl]
    split
    · exact b4
    · exact zBd_pf g (by omega) b4 _
  · rw [if_neg d, if_pos (eP.mpr d)]
    exact ⟨k4.mo (Nat.le_refl _) (by omega), i4, b4⟩
/-- all bridges take their turns -/
noncomputable def zfinM (P U : ZS) : ZS := if U.I 8 = 0 then fMO_tick_136 P U (U.I 7 + 1) else fMO_tick_136 P U 0
theorem zturns {no : Nat} {P P' : ZS} {nb nl n t : Nat} {tk : Prop} {c : Int32} {m : Nat} (g : zGeo P P' nb nl) (ht : t ≤ 20000) (hn9 : n ≤ 1000) : ∀ (N b K : Nat) (S S' : ZS), b ≤ nb → nb - b < N → zTR no P nb nl n t (6 * b) tk c m K S S' → ∀ M, 6 * (nb - b) < M →
    ∃ U' : ZS, zfix (fun S9 _ => S9) (fMO_tick_68 P') N S' (nI b) = zfinM P' U' ∧ zTR no P nb nl n t (6 * nb) tk c m (K + 84 * (nb - b)) (zfix (fun S9 _ => S9) (fPR_turnAll_2 P) M S (nI (6 * b))) U' ∧ zKI S' U' := by
  have hn := g.nb
  have hn2 := g.nl
  have z0 : (0 : Int32) = nI 0 := by decide
  have z2 : (2 : Int32) = nI 2 := by decide
  have z6 : (6 : Int32) = nI 6 := by decide
  have hP1 : P'.I 1 = nI nb := g.2.1.1.trans g.1.1
  intro N
  induction N with
  | zero => intro b K S S' h1 h2; omega
  | succ N ih =>
    intro b K S S' h1 h2 hR M hM
    rw [zfix_s]
    generalize zfix (fun S9 _ => S9) (fMO_tick_68 P') N = rc' at ih ⊢
    rw [fMO_tick_68]
    repeat rw [zl]
    rw [hP1]
    by_cases d : b = nb
    · rw [if_pos (nI_le (by omega) (by omega))]
      refine ⟨S', rfl, ?_⟩
      obtain ⟨M2, eM⟩ : ∃ M2, M = M2 + 1 := ⟨M - 1, by omega⟩
      rw [eM, zfix_s]
      have e : ∀ rc, fPR_turnAll_2 P rc S (nI (6 * b)) = S := fun rc => by
        rw [fPR_turnAll_2]
        repeat rw [zl]
        rw [g.1.1, z6, nI_mul, if_pos (nI_le (by omega) (by omega))]
      rw [e]
      have hR2 : zTR no P nb nl n t (6 * nb) tk c m K S S' := by
        rw [show 6 * nb = 6 * b by omega]
        exact hR
      exact ⟨⟨hR2.1.mo (Nat.le_refl _) (by omega), hR2.2⟩, zKI.rf⟩
    · rw [if_neg (nI_ge (by omega) (by omega))]
      have inner : ∀ (R r K : Nat) (S S' : ZS), r ≤ 6 → 6 - r < R → zTR no P nb nl n t (6 * b + r) tk c m K S S' → ∀ M, 6 * nb - (6 * b + r) < M → ∃ U' : ZS, zfix (fun S9 _ _ => S9) (fMO_tick_78 P' rc') R S' (nI b) (nI r) = zfinM P' U' ∧ zTR no P nb nl n t (6 * nb) tk c m (K + 14 * (6 - r) + 84 * (nb - (b + 1))) (zfix (fun S9 _ => S9) (fPR_turnAll_2 P) M S (nI (6 * b + r))) U' ∧ zKI S' U' := by
        intro R
        induction R with
        | zero => intro r K S S' g1 g2; omega
        | succ R ih2 =>
          intro r K S S' g1 g2 hR M hM
          rw [zfix_s]
          generalize zfix (fun S9 _ _ => S9) (fMO_tick_78 P' rc') R = rd' at ih2 ⊢
          rw [fMO_tick_78]
          repeat rw [zl]
          repeat rw [fMO_tick_106]
          repeat rw [zl]
          by_cases d6 : r = 6
          · rw [z6, if_pos (nI_le (by omega) (by omega)), nI_1]
            have hR2 : zTR no P nb nl n t (6 * (b + 1)) tk c m K S S' := by
              rw [show 6 * (b + 1) = 6 * b + r by omega]
              exact hR
            obtain ⟨U', e1, e2, e3⟩ := ih (b + 1) K S S' (by omega) (by omega) hR2 M (by omega)
            rw [show 6 * (b + 1) = 6 * b + r by omega] at e2
            exact ⟨U', e1, ⟨e2.1.mo (Nat.le_refl _) (by omega), e2.2⟩, e3⟩
          · obtain ⟨f1, -⟩ := g.2.2.2.2.2.1 (6 * b + r) (by omega)
            obtain ⟨p1, -⟩ := g.2.2.2.2.1 (6 * b + r) (by omega)
            rw [z6, if_neg (nI_ge (by omega) (by omega)), zat, z2, nI_mul, nI_clamp (by omega), f1, nI_1]
            obtain ⟨M2, eM⟩ : ∃ M2, M = M2 + 1 := ⟨M - 1, by omega⟩
            rw [eM, zfix_s, zta P _ S g.1.1 hn (by omega), p1]
            cases hA : zA P nl (6 * b + r) with
            | none =>
              rw [show zOl none = -1 from rfl, show zO none = -1 from rfl, if_pos rfl, if_pos rfl]
              have hR2 : zTR no P nb nl n t (6 * b + (r + 1)) tk c m K S S' := ⟨hR.1, hR.2.1, (hR.2.2.up (by omega)).up1 (by omega)⟩
              obtain ⟨U', e1, e2, e3⟩ := ih2 (r + 1) K S S' (by omega) (by omega) hR2 M2 (by omega)
              exact ⟨U', e1, ⟨e2.1.mo (Nat.le_refl _) (by omega), e2.2⟩, e3⟩
            | some a0 =>
              have ha0 := (zA_in hA).1
              have q9 := q_fMO_tickOf P' S' (nI b) (nI r)
              rw [if_neg (zOl_ne (by omega)), if_neg (zO_ne (by omega))]
              rw [ztf P' S' (by omega) (by omega)] at q9 ⊢
              have s := zturn1 (c := c) (m := m) (K := K) g (by omega) (by omega) hA ht hn9 hR
              obtain ⟨U', e1, e2, e3⟩ := ih2 (r + 1) (K + 14) _ _ (by omega) (by omega) s M2 (by omega)
              exact ⟨U', e1, ⟨e2.1.mo (Nat.le_refl _) (by omega), e2.2⟩, zKI.t ⟨fun t ht => q9.1 t ht, q9.2 22 (by decide)⟩ e3⟩
      rw [z0]
      obtain ⟨U', e1, e2, e3⟩ := inner 7 0 K S S' (Nat.zero_le _) (by omega) hR M (by omega)
      exact ⟨U', e1, ⟨e2.1.mo (Nat.le_refl _) (by omega), e2.2⟩, e3⟩
theorem zC.turns {no : Nat} {P P' : ZS} {nb nl n t : Nat} {tk : Prop} {c : Int32} {m K : Nat} {S S' : ZS} (h : zC no tk c m K S S') (g : zGeo P P' nb nl) (ht : t ≤ 20000) (hn9 : n ≤ 1000) (hI : zIS P nb nl S S') (hBd : zBd P n t 0 0 S) : ∃ U' : ZS, zfix (fun S9 _ => S9) (fMO_tick_68 P') 49 S' 0 = zfinM P' U' ∧ zC no tk c m (K + 84 * nb) (fPR_turnAll P S) U' ∧ zIS P nb nl (fPR_turnAll P S) U' ∧ zBd P n t (6 * nb) (6 * nb) (fPR_turnAll P S) ∧ zKI S' U' := by
  have hn := g.nb
  have z0 : (0 : Int32) = nI 0 := by decide
  obtain ⟨U', e1, e2, e3⟩ := zturns (tk := tk) (c := c) (m := m) g ht hn9 49 0 K S S' (Nat.zero_le _) (by omega) ⟨h, hI, hBd⟩ 289 (by omega)
  rw [← z0] at e1
  refine ⟨U', e1, ?_⟩
  unfold fPR_turnAll
  rw [z0]
  exact ⟨e2.1, e2.2.1, e2.2.2, e3⟩

/-! calls: a link fails, heals; a command is given -/
theorem zC.bh {no : Nat} {P P' : ZS} {nb nl q b r : Nat} {tk : Prop} {c : Int32} {m K : Nat} {S S' : ZS} (h : zC no tk c m K S S') (ht : ¬ tk) (g : zGeo P P' nb nl) (hq : q < 2 * nl) (hk : zpl P q = 6 * b + r) (hr : r < 6) (s : Int32) (hs : s &&& 16 = 0) (h3 : ∀ q, q < 2 * nl → S.F 14 q &&& 16 = 0 ∨ P.F 6 (zpl P q % 6) = nI q) : zC no tk c (m + 1) (K + 1) (fPR_beginHold P S (nI q) s) (fMO_begins P' S' (nI b) (nI (q / 2)) s) := by
  have hn := g.nb
  have hn2 := g.nl
  obtain ⟨hb, e2, e5, -⟩ := zprt g hq hk hr
  have r2 : P'.F 2 = P.F 2 := g.2.1.2.2.2.2.1
  unfold fPR_beginHold fMO_begins
  simp only [zl]
  rw [nI_clamp (by omega), zn_set g hq hk hr, e5, zn_end g hq hk hr, nI_clamp (by omega), zn_chg g hq hk hr, nI_clamp (by omega), r2, e2, nI_clamp (by omega), h.g 10 14 (by decide)]
  have k1 := h.hold (6 * b + r) q (S.F 14 q ||| s)
  have x14 : (zhs (6 * b + r) q (S.F 14 q ||| s) S).F 14 = upd (S.F 14) q (S.F 14 q ||| s) := zhs_F
  generalize zhs (6 * b + r) q (S.F 14 q ||| s) S = X at k1 x14 ⊢
  generalize zhm (6 * b + r) q (S.F 14 q ||| s) S' = X' at k1 ⊢
  have k2 := k1.eoh g hb hr (zrg_of g hq hk hr) (fun a ha => by
    rw [x14]
    by_cases e : a = q
    · rw [e, upd_at, zkor hs]; exact h3 q hq
    · rw [upd_ne _ _ e]; exact h3 a ha)
  have eM : (if fMO_owns P' X' (nI b) (nI r) = 0 then X' else (fMO_endAll P' X' (nI b) (nI r) 16).setF 11 r 0) = zeoM P' X' b r := by
    unfold zeoM
    by_cases d : P'.F 3 r = nI b
    · rw [if_neg (fun e => (zn_owns P' X' (nI b) hr).mp e d), if_pos d]
    · rw [if_pos ((zn_owns P' X' (nI b) hr).mpr d), if_neg d]
  rw [eM]
  exact k2.stirn ht
/-- what it does to the holds -/
theorem zbh_h {P : ZS} (S : ZS) {q : Nat} (hq : q < 1000) (s : Int32) : zhk (upd (S.F 14) q (S.F 14 q ||| s)) ((fPR_beginHold P S (nI q) s).F 14) := by
  unfold fPR_beginHold
  simp only [zl]
  have e := zeoh_hk P (fPR_setHolds P S (nI q) (S.F 14 (nI q).toNatClampNeg ||| s)) (P.F 5 (nI q).toNatClampNeg)
  rw [zsh9, nI_clamp (by omega)] at e
  rw [nI_clamp (by omega)]
  exact e
theorem zbg_fr (P S : ZS) (b l s : Int32) : (fMO_begins P S b l s).F 7 = S.F 7 ∧ (fMO_begins P S b l s).F 15 = S.F 15 ∧ (fMO_begins P S b l s).F 16 = S.F 16 := ⟨(q_fMO_begins P S b l s).2 7 (by decide), (q_fMO_begins P S b l s).2 15 (by decide), (q_fMO_begins P S b l s).2 16 (by decide)⟩
/-- one end of a link that fails -/
theorem zC.br1 {no : Nat} {P P' : ZS} {nb nl q b r x n t : Nat} {tk : Prop} {c : Int32} {m K : Nat} {S S' : ZS} (h : zC no tk c m K S S') (ht : ¬ tk) (g : zGeo P P' nb nl) (hq : q < 2 * nl) (hk : zpl P q = 6 * b + r) (hr : r < 6) (hx : x ≤ 32767) (h19 : S.F 19 (q / 2) = nI x) (hBd : zBd P n t 0 0 S)
    (h3 : ∀ a, a < 2 * nl → S.F 14 a &&& 16 = 0 ∨ P.F 6 (zpl P a % 6) = nI a) (h1 : ∀ a, a < 2 * nl → a / 2 ≠ q / 2 → (S.F 14 a &&& 1 = 0 ↔ S'.F 7 (a / 2) = 0)) :
    ∃ T T' : ZS, (∀ rc x1, fPR_breakLink_14 P rc S (nI (q / 2)) (nI q) = rc T (nI (q / 2)) (nI (q + 1)) ∨ x1 = (0 : Int32)) ∧ (∀ rc (k : Int32), fMO_fail_74 P' rc S' (nI (q / 2)) k (nI b) = rc T' (nI (q / 2)) (k + 1)) ∧ zC no tk c (m + 1) (K + 13) T T' ∧ zBd P n t 0 0 T ∧
      T.F 19 = S.F 19 ∧ T'.F 7 = S'.F 7 ∧ T'.F 15 = S'.F 15 ∧ T'.F 16 = S'.F 16 ∧ (∀ a, T.F 14 a &&& 1 = if a = q then 1 else S.F 14 a &&& 1) ∧ (∀ a, T.F 14 a &&& 6 = S.F 14 a &&& 6) ∧ (∀ a, S.F 14 a &&& 16 = 0 → T.F 14 a &&& 16 = 0) ∧ zKI S' T' := by
  have hn := g.nb
  have hn2 := g.nl
  have z2 : (2 : Int32) = nI 2 := by decide
  obtain ⟨hb, e2, e5, -⟩ := zprt g hq hk hr
  have r2 : P'.F 2 = P.F 2 := g.2.1.2.2.2.2.1
  have k1 := h.hold (6 * b + r) q (S.F 14 q &&& (-9))
  have x14 : (zhs (6 * b + r) q (S.F 14 q &&& (-9)) S).F 14 = upd (S.F 14) q (S.F 14 q &&& (-9)) := zhs_F
  have x19 : (zhs (6 * b + r) q (S.F 14 q &&& (-9)) S).F 19 = S.F 19 := zhs_n (by decide) (by decide)
  have x7 : (zhm (6 * b + r) q (S.F 14 q &&& (-9)) S').F 7 = S'.F 7 := zhm_n (by decide) (by decide)
  have x15 : (zhm (6 * b + r) q (S.F 14 q &&& (-9)) S').F 15 = S'.F 15 := zhm_n (by decide) (by decide)
  have x16 : (zhm (6 * b + r) q (S.F 14 q &&& (-9)) S').F 16 = S'.F 16 := zhm_n (by decide) (by decide)
  have xI : (zhm (6 * b + r) q (S.F 14 q &&& (-9)) S').I = S'.I := zhm_I
  have x22 : (zhm (6 * b + r) q (S.F 14 q &&& (-9)) S').F 22 = S'.F 22 := zhm_n (by decide) (by decide)
  have xB : zBd P n t 0 0 (zhs (6 * b + r) q (S.F 14 q &&& (-9)) S) := by
    rw [← zn_set g hq hk hr]
    exact zBd_set hBd _ _
  have eC : fPR_setHolds P S (nI q) (S.F 14 q &&& (-9)) = zhs (6 * b + r) q (S.F 14 q &&& (-9)) S := zn_set g hq hk hr S _
  have eM : fMO_change P' S' (nI b) (nI (q / 2)) (S'.F 10 q &&& (-9)) = zhm (6 * b + r) q (S.F 14 q &&& (-9)) S' := by rw [zn_chg g hq hk hr, h.g 10 14 (by decide)]
  generalize zhs (6 * b + r) q (S.F 14 q &&& (-9)) S = X at k1 x14 x19 xB eC
  generalize zhm (6 * b + r) q (S.F 14 q &&& (-9)) S' = X' at k1 x7 x15 x16 xI x22 eM
  have x3 : ∀ a, a < 2 * nl → X.F 14 a &&& 16 = 0 ∨ P.F 6 (zpl P a % 6) = nI a := fun a ha => by
    rw [x14]
    by_cases e : a = q
    · rw [e, upd_at, zkand (by decide)]; exact h3 q hq
    · rw [upd_ne _ _ e]; exact h3 a ha
  have k2 := k1.bh ht g hq hk hr 1 (by decide) x3
  have y14 := zbh_h (P := P) X (q := q) (by omega) 1
  obtain ⟨y7, y15, y16⟩ := zbg_fr P' X' (nI b) (nI (q / 2)) 1
  have y19 : (fPR_beginHold P X (nI q) 1).F 19 = X.F 19 := (q_fPR_beginHold P X (nI q) 1).2 19 (by decide)
  have yB := zBd_bh xB (nI q) 1
  have bit1 : ∀ a, (fPR_beginHold P X (nI q) 1).F 14 a &&& 1 = if a = q then 1 else S.F 14 a &&& 1 := fun a => by
    rw [zsubm (y14.1 a) (show (7 : Int32) &&& 1 = 1 by decide)]
    by_cases e : a = q
    · rw [e, if_pos rfl, upd_at, zdist, show (1 : Int32) &&& 1 = 1 by decide]
      have : ∀ y : Int32, (y &&& 1) ||| 1 = 1 := fun y => zbx (fun i hi => by
        rw [Int32.toBitVec_or, BitVec.getLsbD_or, Int32.toBitVec_and, BitVec.getLsbD_and]
        cases y.toBitVec.getLsbD i <;> cases (1 : Int32).toBitVec.getLsbD i <;> rfl)
      exact this _
    · rw [if_neg e, upd_ne _ _ e, x14, upd_ne _ _ e]
  have bit6 : ∀ a, (fPR_beginHold P X (nI q) 1).F 14 a &&& 6 = S.F 14 a &&& 6 := fun a => by
    rw [zsubm (y14.1 a) (show (7 : Int32) &&& 6 = 6 by decide)]
    by_cases e : a = q
    · rw [e, upd_at, zkor (by decide), x14, upd_at, zkand (by decide)]
    · rw [upd_ne _ _ e, x14, upd_ne _ _ e]
  have bit16 : ∀ a, S.F 14 a &&& 16 = 0 → (fPR_beginHold P X (nI q) 1).F 14 a &&& 16 = 0 := fun a ha => by
    refine y14.2 a ?_
    by_cases e : a = q
    · rw [e, upd_at, zkor (by decide), x14, upd_at, zkand (by decide), ← e]; exact ha
    · rw [upd_ne _ _ e, x14, upd_ne _ _ e]; exact ha
  have k3 := k2.news (b := b) (r := r) (n := q / 2) (mm := x) g hb hr (by omega) hx (fun a ha a1 a2 => by
    have ne : a / 2 ≠ q / 2 := fun e => by
      obtain ⟨-, w2, -⟩ := zprt g ha (b := zpl P a / 6) (r := zpl P a % 6) (by omega) (by omega)
      rw [e, e2] at w2
      exact a2 ((nI_eq (by omega) (by omega)).mp w2).symm
    rw [bit1 a, if_neg (fun e => ne (by rw [e])), y7, x7]
    exact h1 a ha ne)
  have q1 := q_fPR_takeNews P (fPR_beginHold P X (nI q) 1) (nI (6 * b + r)) (nI (q / 2)) (nI x)
  have q2 := q_fMO_news P' (fMO_begins P' X' (nI b) (nI (q / 2)) 1) (nI b) (nI (q / 2)) (nI x) (nI r)
  have e19 : (fPR_beginHold P X (nI q) 1).F 19 (q / 2) = nI x := by rw [y19, x19]; exact h19
  have e8 : (fMO_begins P' X' (nI b) (nI (q / 2)) 1).F 8 (q / 2) = nI x := by rw [k2.g 8 19 (by decide)]; exact e19
  refine ⟨_, _, fun rc x1 => Or.inl ?_, fun rc k => ?_, k3, zBd_nw g hb hr yB _ _, by rw [q1.2 19 (by decide), y19, x19], by rw [q2.2 7 (by decide), y7, x7], by rw [q2.2 15 (by decide), y15, x15], by rw [q2.2 16 (by decide), y16, x16], fun a => by rw [q1.2 14 (by decide)]; exact bit1 a, fun a => by rw [q1.2 14 (by decide)]; exact bit6 a, fun a ha => by rw [q1.2 14 (by decide)]; exact bit16 a ha, ⟨fun t ht => by rw [q2.1 t ht, (q_fMO_begins P' X' (nI b) (nI (q / 2)) 1).1 t (by simp), xI], by rw [q2.2 22 (by decide), (q_fMO_begins P' X' (nI b) (nI (q / 2)) 1).2 22 (by decide), x22]⟩⟩
  · rw [fPR_breakLink_14]
    simp only [zl]
    have c9 : ¬ 2 * nI (q / 2) + 1 < nI q := by
      rw [z2, nI_mul, nI_1]
      exact nI_nlt (by omega) (by omega)
    rw [if_neg c9, nI_clamp (by omega), nI_clamp (by omega), eC, e5, e19, nI_1]
  · rw [fMO_fail_74]
    simp only [zl]
    rw [zn_end g hq hk hr, nI_clamp (by omega), nI_clamp (by omega), eM, e8, r2, e2]
/-- a link fails -/
theorem zC.brk {no : Nat} {P P' : ZS} {nb nl l x n t : Nat} {tk : Prop} {c : Int32} {m K : Nat} {S S' : ZS} (h : zC no tk c m K S S') (ht : ¬ tk) (g : zGeo P P' nb nl) (hI : zIS P nb nl S S') (hBd : zBd P n t 0 0 S) (hl : l < nl) (hx : x ≤ 32767) (hxn : x ≤ n + 1) (h19 : S.F 19 l + 1 = nI x) :
    ∃ U' : ZS, zfix (fun S9 _ _ => (S9, 0)) (fMO_fail_50 P') 3 ((S'.setF 7 l 1).setF 8 l ((S'.setF 7 l 1).F 8 l + 1)) (nI l) 0 = (fMO_look P' (U'.setI 7 0), 1) ∧ zC no tk c (m + 2) (K + 26) (fPR_breakLink P S (nI l)) U' ∧ zIS P nb nl (fPR_breakLink P S (nI l)) U' ∧ zBd P (n + 1) t 0 0 (fPR_breakLink P S (nI l)) ∧ zKI S' U' := by
  have hn := g.nb
  have hn2 := g.nl
  have z2 : (2 : Int32) = nI 2 := by decide
  have z0 : (0 : Int32) = nI 0 := by decide
  have r0 : P'.F 0 = P.F 0 := g.2.1.2.2.1
  have r1 : P'.F 1 = P.F 1 := g.2.1.2.2.2.1
  -- the counters
  have e8 : (S'.setF 7 l 1).F 8 l + 1 = nI x := by rw [zFsn _ (by decide), h.g 8 19 (by decide)]; exact h19
  rw [e8]
  have k0 : zC no tk c m K (S.setF 19 l (nI x)) ((S'.setF 7 l 1).setF 8 l (nI x)) := (h.r (k := 7) (by decide) (by decide)).s 8 19 (by decide) (by decide) (by decide)
  have b0 : zBd P (n + 1) t 0 0 (S.setF 19 l (nI x)) := by
    have up : zBd P (n + 1) t 0 0 S := hBd.upn (by omega)
    refine up.F ?_
    show 0 ≤ (nI x).toInt ∧ (nI x).toInt ≤ ((n + 1 : Nat) : Int)
    rw [nI_toInt (by omega)]
    omega
  have s14 : (S.setF 19 l (nI x)).F 14 = S.F 14 := zFsn _ (by decide)
  have s7 : ((S'.setF 7 l 1).setF 8 l (nI x)).F 7 = upd (S'.F 7) l 1 := by rw [zFsn _ (by decide), zFsk]
  have s15 : ((S'.setF 7 l 1).setF 8 l (nI x)).F 15 = S'.F 15 := by rw [zFsn _ (by decide), zFsn _ (by decide)]
  have s16 : ((S'.setF 7 l 1).setF 8 l (nI x)).F 16 = S'.F 16 := by rw [zFsn _ (by decide), zFsn _ (by decide)]
  have s19 : (S.setF 19 l (nI x)).F 19 l = nI x := by rw [zFsk, upd_at]
  have sz : zKI S' ((S'.setF 7 l 1).setF 8 l (nI x)) := ⟨fun _ _ => rfl, by rw [zFsn _ (by decide), zFsn _ (by decide)]⟩
  unfold fPR_breakLink
  simp only [zl]
  rw [nI_clamp (by omega), h19, z2, nI_mul]
  generalize S.setF 19 l (nI x) = X at k0 b0 s14 s19 ⊢
  generalize (S'.setF 7 l 1).setF 8 l (nI x) = X' at k0 s7 s15 s16 sz ⊢
  -- the first end
  obtain ⟨b1, r9, hr9, hk1⟩ : ∃ b r, r < 6 ∧ zpl P (2 * l) = 6 * b + r := ⟨zpl P (2 * l) / 6, zpl P (2 * l) % 6, by omega, by omega⟩
  obtain ⟨b2, r8, hr8, hk2⟩ : ∃ b r, r < 6 ∧ zpl P (2 * l + 1) = 6 * b + r := ⟨zpl P (2 * l + 1) / 6, zpl P (2 * l + 1) % 6, by omega, by omega⟩
  have d1 : 2 * l / 2 = l := by omega
  have d2 : (2 * l + 1) / 2 = l := by omega
  obtain ⟨-, -, -, en1⟩ := zprt g (show 2 * l < 2 * nl by omega) hk1 hr9
  obtain ⟨-, -, -, en2⟩ := zprt g (show 2 * l + 1 < 2 * nl by omega) hk2 hr8
  have f1 : P.F 0 l = nI b1 := by
    rcases en1 with ⟨-, e, -⟩ | ⟨e, -⟩
    · rw [d1] at e; exact e
    · omega
  have f2 : P.F 1 l = nI b2 := by
    rcases en2 with ⟨e, -⟩ | ⟨-, -, e⟩
    · omega
    · rw [d2] at e; exact e
  obtain ⟨T, T', eT, eT', kT, bT, t19, t7, t15, t16, t1, t6, tq, tz⟩ := k0.br1 ht g (show 2 * l < 2 * nl by omega) hk1 hr9 hx (by rw [d1]; exact s19) b0 (fun a ha => by rw [s14]; exact hI.2.2 a ha) (fun a ha hne => by
    rw [d1] at hne
    rw [s14, s7, upd_ne _ _ hne]
    exact hI.1 a ha)
  obtain ⟨U, U', eU, eU', kU, bU, u19, u7, u15, u16, u1, u6, uq, uz⟩ := kT.br1 ht g (show 2 * l + 1 < 2 * nl by omega) hk2 hr8 hx (by rw [d2, t19]; exact s19) bT (fun a ha => by
    rcases hI.2.2 a ha with e | e
    · exact Or.inl (tq a (by rw [s14]; exact e))
    · exact Or.inr e) (fun a ha hne => by
    rw [d2] at hne
    rw [t1 a, if_neg (fun e => hne (by rw [e, d1])), s14, t7, s7, upd_ne _ _ hne]
    exact hI.1 a ha)
  rw [d1] at eT eT'
  rw [d2] at eU eU'
  -- the class's loop
  have eC : zfix (fun S9 _ _ => S9) (fPR_breakLink_14 P) 121 X (nI l) (nI (2 * l)) = U := by
    rw [show (121 : Nat) = 118 + 1 + 1 + 1 from rfl, zfix_s, (eT _ 1).resolve_right (by decide), zfix_s, (eU _ 1).resolve_right (by decide), zfix_s]
    have c3 : 2 * nI l + 1 < nI (2 * l + 1 + 1) := zlast (by omega)
    rw [fPR_breakLink_14, zl, zl, if_pos c3]
  have e50 : ∀ (rc : ZS → Int32 → Int32 → (ZS × Int32)) (Y : ZS), fMO_fail_50 P' rc Y (nI l) 0 = fMO_fail_74 P' rc Y (nI l) 0 (nI b1) := fun rc Y => by
    rw [fMO_fail_50, if_neg (by decide), if_pos rfl, zl, nI_clamp (by omega), r0, f1]
  have e51 : ∀ (rc : ZS → Int32 → Int32 → (ZS × Int32)) (Y : ZS), fMO_fail_50 P' rc Y (nI l) (0 + 1) = fMO_fail_74 P' rc Y (nI l) (0 + 1) (nI b2) := fun rc Y => by
    rw [fMO_fail_50, if_neg (by decide), if_neg (by decide), zl, nI_clamp (by omega), r1, f2]
  have e52 : ∀ (rc : ZS → Int32 → Int32 → (ZS × Int32)) (Y : ZS), fMO_fail_50 P' rc Y (nI l) (0 + 1 + 1) = (fMO_look P' (Y.setI 7 0), 1) := fun rc Y => by
    rw [fMO_fail_50, if_pos (by decide), zl, zl]
  have eR : zfix (fun S9 _ _ => (S9, 0)) (fMO_fail_50 P') 3 X' (nI l) 0 = (fMO_look P' (U'.setI 7 0), 1) := by
    rw [show (3 : Nat) = 0 + 1 + 1 + 1 from rfl, zfix_s, e50, eT', zfix_s, e51, eU', zfix_s, e52]
  rw [eC]
  refine ⟨U', eR, kU.mo (by omega) (by omega), ?_, bU, (sz.t tz).t uz⟩
  have h1 : ∀ a, U.F 14 a &&& 1 = if a = 2 * l ∨ a = 2 * l + 1 then 1 else S.F 14 a &&& 1 := fun a => by
    rw [u1 a, t1 a, s14]
    by_cases x1 : a = 2 * l + 1
    · rw [if_pos x1, if_pos (Or.inr x1)]
    · rw [if_neg x1]
      by_cases x0 : a = 2 * l
      · rw [if_pos x0, if_pos (Or.inl x0)]
      · rw [if_neg x0, if_neg (fun e => e.elim x0 x1)]
  have h6 : ∀ a, U.F 14 a &&& 6 = S.F 14 a &&& 6 := fun a => by rw [u6, t6, s14]
  show zI P nb nl _ _ _ _
  rw [u7, t7, s7, u15, t15, s15, u16, t16, s16]
  refine ⟨fun a ha => ?_, fun k => ?_, fun a ha => ?_⟩
  · rw [h1 a]
    by_cases x : a = 2 * l ∨ a = 2 * l + 1
    · rw [if_pos x, show a / 2 = l by omega, upd_at]
    · rw [if_neg x, upd_ne _ _ (by omega)]
      exact hI.1 a ha
  · rcases hI.2.1 k with ⟨a, b⟩ | ⟨a, a1, a2, a3, a4, a5, a6⟩
    · exact Or.inl ⟨a, fun q hq hp => by rw [h6]; exact b q hq hp⟩
    · exact Or.inr ⟨a, a1, a2, a3, by rw [h6]; exact a4, a5, fun q' b1 b2 b3 => by rw [h6]; exact a6 q' b1 b2 b3⟩
  · rcases hI.2.2 a ha with e | e
    · exact Or.inl (uq a (tq a (by rw [s14]; exact e)))
    · exact Or.inr e
/-- a link heals -/
theorem zC.mnd {no : Nat} {P P' : ZS} {nb nl l n t : Nat} {tk : Prop} {c : Int32} {m K : Nat} {S S' : ZS} (h : zC no tk c m K S S') (ht : ¬ tk) (g : zGeo P P' nb nl) (hI : zIS P nb nl S S') (hBd : zBd P n t 0 0 S) (hl : l < nl) :
    zC no tk c (m + 2) (K + 2) (fPR_mendLink P S (nI l)) (fMO_ends P' (fMO_ends P' (S'.setF 7 l 0) (P'.F 0 l) (nI l) 1) (P'.F 1 l) (nI l) 1) ∧ zIS P nb nl (fPR_mendLink P S (nI l)) (fMO_ends P' (fMO_ends P' (S'.setF 7 l 0) (P'.F 0 l) (nI l) 1) (P'.F 1 l) (nI l) 1) ∧ zBd P n t 0 0 (fPR_mendLink P S (nI l)) := by
  have hn := g.nb
  have hn2 := g.nl
  have z2 : (2 : Int32) = nI 2 := by decide
  obtain ⟨b1, r9, hr9, hk1⟩ : ∃ b r, r < 6 ∧ zpl P (2 * l) = 6 * b + r := ⟨zpl P (2 * l) / 6, zpl P (2 * l) % 6, by omega, by omega⟩
  obtain ⟨b2, r8, hr8, hk2⟩ : ∃ b r, r < 6 ∧ zpl P (2 * l + 1) = 6 * b + r := ⟨zpl P (2 * l + 1) / 6, zpl P (2 * l + 1) % 6, by omega, by omega⟩
  have d1 : 2 * l / 2 = l := by omega
  have d2 : (2 * l + 1) / 2 = l := by omega
  have q1 : 2 * l < 2 * nl := by omega
  have q2 : 2 * l + 1 < 2 * nl := by omega
  obtain ⟨-, -, -, en1⟩ := zprt g q1 hk1 hr9
  obtain ⟨-, -, -, en2⟩ := zprt g q2 hk2 hr8
  have f1 : P'.F 0 l = nI b1 := by
    rw [g.2.1.2.2.1]
    rcases en1 with ⟨-, e, -⟩ | ⟨e, -⟩
    · rw [d1] at e; exact e
    · omega
  have f2 : P'.F 1 l = nI b2 := by
    rw [g.2.1.2.2.2.1]
    rcases en2 with ⟨e, -⟩ | ⟨-, -, e⟩
    · omega
    · rw [d2] at e; exact e
  have bd : zBd P n t 0 0 (fPR_mendLink P S (nI l)) := by
    rw [fPR_mendLink]
    repeat rw [zl]
    exact zBd_eh g.1.1 hn (zBd_eh g.1.1 hn hBd _ _) _ _
  have k0 : zC no tk c m K S (S'.setF 7 l 0) := h.r (by decide) (by decide)
  have s7 : (S'.setF 7 l 0).F 7 = upd (S'.F 7) l 0 := zFsk _ _ _ _
  have s15 : (S'.setF 7 l 0).F 15 = S'.F 15 := zFsn _ (by decide)
  have s16 : (S'.setF 7 l 0).F 16 = S'.F 16 := zFsn _ (by decide)
  have eC : fPR_mendLink P S (nI l) = fPR_endHold P (fPR_endHold P S (nI (2 * l)) 1) (nI (2 * l + 1)) 1 := by
    rw [fPR_mendLink]
    repeat rw [zl]
    rw [z2, nI_mul, nI_1]
  rw [eC] at bd ⊢
  rw [f1, f2]
  generalize S'.setF 7 l 0 = X' at k0 s7 s15 s16 ⊢
  have E1 : fMO_ends P' X' (nI b1) (nI l) 1 = (zhm (6 * b1 + r9) (2 * l) ((X'.F 10 (2 * l) &&& (1 ^^^ (-1))) ||| 8) X').setF 13 (6 * b1 + r9) (zgd nb) := by
    have w := zn_ends g q1 hk1 hr9 X' 1
    rw [d1] at w
    exact w
  have k1 := (k0.eh (6 * b1 + r9) (2 * l) (1 ^^^ (-1)) (zgd nb)).stirn ht
  have e10 : ((zhs (6 * b1 + r9) (2 * l) ((S.F 14 (2 * l) &&& (1 ^^^ (-1))) ||| 8) S).setF 15 (6 * b1 + r9) (zgd nb)).I 10 = S.I 10 := zhs_I (by decide)
  rw [e10, ← zn_eh g q1 hk1 hr9, ← E1] at k1
  have y14 : (fPR_endHold P S (nI (2 * l)) 1).F 14 = upd (S.F 14) (2 * l) ((S.F 14 (2 * l) &&& (1 ^^^ (-1))) ||| 8) := by
    rw [zn_eh g q1 hk1 hr9]
    show ((zhs (6 * b1 + r9) (2 * l) ((S.F 14 (2 * l) &&& (1 ^^^ (-1))) ||| 8) S).setF 15 (6 * b1 + r9) (zgd nb)).F 14 = _
    rw [zFsn _ (by decide), zhs_F]
  have w1 := q_fMO_ends P' X' (nI b1) (nI l) 1
  have y7 := w1.2 7 (by decide)
  have y15 := w1.2 15 (by decide)
  have y16 := w1.2 16 (by decide)
  generalize fMO_ends P' X' (nI b1) (nI l) 1 = Y' at k1 y7 y15 y16 ⊢
  generalize fPR_endHold P S (nI (2 * l)) 1 = Y at k1 y14 bd ⊢
  have E2 : fMO_ends P' Y' (nI b2) (nI l) 1 = (zhm (6 * b2 + r8) (2 * l + 1) ((Y'.F 10 (2 * l + 1) &&& (1 ^^^ (-1))) ||| 8) Y').setF 13 (6 * b2 + r8) (zgd nb) := by
    have w := zn_ends g q2 hk2 hr8 Y' 1
    rw [d2] at w
    exact w
  have k2 := (k1.eh (6 * b2 + r8) (2 * l + 1) (1 ^^^ (-1)) (zgd nb)).stirn ht
  have e11 : ((zhs (6 * b2 + r8) (2 * l + 1) ((Y.F 14 (2 * l + 1) &&& (1 ^^^ (-1))) ||| 8) Y).setF 15 (6 * b2 + r8) (zgd nb)).I 10 = Y.I 10 := zhs_I (by decide)
  rw [e11, ← zn_eh g q2 hk2 hr8, ← E2] at k2
  refine ⟨k2, ?_, bd⟩
  have u14 : (fPR_endHold P Y (nI (2 * l + 1)) 1).F 14 = upd (Y.F 14) (2 * l + 1) ((Y.F 14 (2 * l + 1) &&& (1 ^^^ (-1))) ||| 8) := by
    rw [zn_eh g q2 hk2 hr8]
    show ((zhs (6 * b2 + r8) (2 * l + 1) ((Y.F 14 (2 * l + 1) &&& (1 ^^^ (-1))) ||| 8) Y).setF 15 (6 * b2 + r8) (zgd nb)).F 14 = _
    rw [zFsn _ (by decide), zhs_F]
  have w2 := q_fMO_ends P' Y' (nI b2) (nI l) 1
  show zI P nb nl _ _ _ _
  rw [u14, w2.2 7 (by decide), w2.2 15 (by decide), w2.2 16 (by decide), y7, y15, y16, s7, s15, s16, y14]
  have v1 : ∀ y : Int32, ((y &&& (1 ^^^ (-1))) ||| 8) &&& 1 = 0 := fun y => by rw [zkor (by decide), Int32.and_assoc, show ((1 : Int32) ^^^ (-1)) &&& 1 = 0 by decide, Int32.and_zero]
  have v6 : ∀ y : Int32, ((y &&& (1 ^^^ (-1))) ||| 8) &&& 6 = y &&& 6 := fun y => by rw [zkor (by decide), zkand (by decide)]
  have v16 : ∀ y : Int32, ((y &&& (1 ^^^ (-1))) ||| 8) &&& 16 = y &&& 16 := fun y => by rw [zkor (by decide), zkand (by decide)]
  have ne1 : (2 * l + 1 : Nat) ≠ 2 * l := by omega
  have hM : ∀ (M : Int32), (∀ y : Int32, ((y &&& (1 ^^^ (-1))) ||| 8) &&& M = y &&& M) → ∀ a, upd (upd (S.F 14) (2 * l) ((S.F 14 (2 * l) &&& (1 ^^^ (-1))) ||| 8)) (2 * l + 1) ((upd (S.F 14) (2 * l) ((S.F 14 (2 * l) &&& (1 ^^^ (-1))) ||| 8) (2 * l + 1) &&& (1 ^^^ (-1))) ||| 8) a &&& M = S.F 14 a &&& M := fun M hv a => by
    by_cases x1 : a = 2 * l + 1
    · rw [x1, upd_at, hv, upd_ne _ _ ne1]
    · rw [upd_ne _ _ x1]
      by_cases x0 : a = 2 * l
      · rw [x0, upd_at, hv]
      · rw [upd_ne _ _ x0]
  refine ⟨fun a ha => ?_, fun k => ?_, fun a ha => ?_⟩
  · by_cases x1 : a = 2 * l + 1
    · rw [x1, upd_at, v1, show (2 * l + 1) / 2 = l by omega, upd_at]
    · rw [upd_ne _ _ x1]
      by_cases x0 : a = 2 * l
      · rw [x0, upd_at, v1, show 2 * l / 2 = l by omega, upd_at]
      · rw [upd_ne _ _ x0, upd_ne _ _ (by omega)]
        exact hI.1 a ha
  · have h6 := hM 6 v6
    rcases hI.2.1 k with ⟨a, b⟩ | ⟨a, a1, a2, a3, a4, a5, a6⟩
    · exact Or.inl ⟨a, fun q hq hp => by rw [h6]; exact b q hq hp⟩
    · exact Or.inr ⟨a, a1, a2, a3, by rw [h6]; exact a4, a5, fun q' b1 b2 b3 => by rw [h6]; exact a6 q' b1 b2 b3⟩
  · rw [hM 16 v16]
    exact hI.2.2 a ha

/-! a command is given -/
theorem zI.give {P : ZS} {nb nl : Nat} {h f cm cl : Nat → Int32} {q k : Nat} {kd : Int32} (hI : zI P nb nl h f cm cl) (hq : q < 2 * nl) (hp : zpl P q = k) (hkd : kd = 2 ∨ kd = 4) (h0 : cm k = 0) : zI P nb nl (upd h q (h q ||| kd)) f (upd cm k kd) (upd cl k (nI (q / 2))) := by
  obtain ⟨h1, h2, h3⟩ := hI
  have all0 : ∀ a, a < 2 * nl → zpl P a = k → h a &&& 6 = 0 := by
    rcases h2 k with ⟨-, b⟩ | ⟨a, -, -, a3, -⟩
    · exact b
    · rw [h0] at a3
      rcases a3 with e | e <;> exact absurd e (by decide)
  have k0 : kd &&& 1 = 0 := by rcases hkd with e | e <;> rw [e] <;> decide
  have k6 : kd &&& 6 = kd := by rcases hkd with e | e <;> rw [e] <;> decide
  have k16 : kd &&& 16 = 0 := by rcases hkd with e | e <;> rw [e] <;> decide
  have v1 : (h q ||| kd) &&& 1 = h q &&& 1 := zkor k0
  have v16 : (h q ||| kd) &&& 16 = h q &&& 16 := zkor k16
  have v6 : (h q ||| kd) &&& 6 = kd := by
    rw [zdist, all0 q hq hp, k6]
    exact zbx (fun i hi => by rw [Int32.toBitVec_or, BitVec.getLsbD_or, zb0, Bool.false_or])
  generalize h q ||| kd = v at v1 v16 v6
  refine ⟨fun a ha => ?_, fun c => ?_, fun a ha => ?_⟩
  · by_cases e : a = q
    · rw [e, upd_at, v1]; exact h1 q hq
    · rw [upd_ne _ _ e]; exact h1 a ha
  · by_cases e : c = k
    · subst e
      rw [upd_at, upd_at]
      exact Or.inr ⟨q, hq, hp, hkd, by rw [upd_at]; exact v6, rfl, fun a ha hpa hne => by rw [upd_ne _ _ hne]; exact all0 a ha hpa⟩
    · rw [upd_ne _ _ e, upd_ne _ _ e]
      have ne : ∀ a, zpl P a = c → a ≠ q := fun a h9 e9 => e (by rw [← h9, e9, hp])
      rcases h2 c with ⟨a, b⟩ | ⟨a, a1, a2, a3, a4, a5, a6⟩
      · exact Or.inl ⟨a, fun q' b1 b2 => by rw [upd_ne _ _ (ne q' b2)]; exact b q' b1 b2⟩
      · exact Or.inr ⟨a, a1, a2, a3, by rw [upd_ne _ _ (ne a a2)]; exact a4, a5, fun q' b1 b2 b3 => by rw [upd_ne _ _ (ne q' b2)]; exact a6 q' b1 b2 b3⟩
  · by_cases e : a = q
    · rw [e, upd_at, v16]; exact h3 q hq
    · rw [upd_ne _ _ e]; exact h3 a ha
/-- the command that is there already -/
theorem zfresh {P P' : ZS} {nb nl q b r : Nat} {S S' : ZS} {kd : Int32} (g : zGeo P P' nb nl) (hI : zIS P nb nl S S') (hq : q < 2 * nl) (hk : zpl P q = 6 * b + r) (hr : r < 6) (hkd : kd = 2 ∨ kd = 4) : S.F 14 q &&& kd = 0 ↔ ¬ (S'.F 15 (6 * b + r) = kd ∧ S'.F 16 (6 * b + r) = nI (q / 2)) := by
  have hn2 := g.nl
  obtain ⟨hb, -⟩ := zprt g hq hk hr
  have k6 : (6 : Int32) &&& kd = kd := by rcases hkd with e | e <;> rw [e] <;> decide
  have kne : ¬ kd = 0 := by rcases hkd with e | e <;> rw [e] <;> decide
  have e6 : S.F 14 q &&& kd = (S.F 14 q &&& 6) &&& kd := by rw [Int32.and_assoc, k6]
  rcases hI.2.1 (6 * b + r) with ⟨a, b9⟩ | ⟨a, a1, a2, a3, a4, a5, a6⟩
  · rw [e6, b9 q hq hk, zand0]
    exact ⟨fun _ e => kne (by rw [← e.1]; exact a), fun _ => rfl⟩
  · by_cases e : q = a
    · subst e
      rw [e6, a4]
      constructor
      · intro w e2
        rw [e2.1] at w
        have : kd &&& kd = kd := by rcases hkd with e | e <;> rw [e] <;> decide
        rw [this] at w
        exact kne w
      · intro w
        have ne : ¬ S'.F 15 (6 * b + r) = kd := fun e2 => w ⟨e2, a5⟩
        rcases a3 with e3 | e3 <;> rcases hkd with e4 | e4
        · exact absurd (e3.trans e4.symm) ne
        · rw [e3, e4]; decide
        · rw [e3, e4]; decide
        · exact absurd (e3.trans e4.symm) ne
    · rw [e6, a6 q hq hk e, zand0]
      refine ⟨fun _ e2 => e ?_, fun _ => rfl⟩
      have e3 := e2.2
      rw [a5] at e3
      exact zlk2 g hq a1 (by rw [hk, a2]) ((nI_eq (by omega) (by omega)).mp e3).symm
theorem zC.ord {no : Nat} {P P' : ZS} {nb nl q b r x n t : Nat} {tk : Prop} {c : Int32} {m K : Nat} {S S' : ZS} {kd : Int32} (h : zC no tk c m K S S') (ht : ¬ tk) (g : zGeo P P' nb nl) (hI : zIS P nb nl S S') (hBd : zBd P n t 0 0 S) (hq : q < 2 * nl) (hk : zpl P q = 6 * b + r) (hr : r < 6) (hkd : kd = 2 ∨ kd = 4) (hx : x ≤ 32767) (hxn : x ≤ n + 1) (h20 : S.F 20 b + 1 = nI x) (hf : S.F 14 q &&& kd = 0) :
    ∃ T T' : ZS, fPR_giveCommand P S (nI q) kd = (T, 1) ∧ fMO_order_94 P' S' (nI b) (nI (q / 2)) (nI (6 * b + r)) kd 1 = (fMO_look P' (T'.setI 7 0), 1) ∧ zC no tk c (m + 1) (K + 14) T T' ∧ zIS P nb nl T T' ∧ zBd P (n + 1) t 0 0 T ∧ zKI S' T' := by
  have hn := g.nb
  have hn2 := g.nl
  have z6 : (6 : Int32) = nI 6 := by decide
  have z60 : (60 : Int32) = nI 60 := by decide
  obtain ⟨hb, e2, e5, -⟩ := zprt g hq hk hr
  have r2 : P'.F 2 = P.F 2 := g.2.1.2.2.2.2.1
  have k16 : kd &&& 16 = 0 := by rcases hkd with e | e <;> rw [e] <;> decide
  have n1 : ¬ (1 : Int32) = 0 := by decide
  have up : zBd P (n + 1) t 0 0 S := hBd.upn (by omega)
  -- what ends first
  have step1 : ∃ Y Y' : ZS, (∃ v, fPR_endCommand P S (nI (6 * b + r)) = (Y, v)) ∧ (∃ v, fMO_endCommand P' S' (nI b) (nI r) = (Y', v)) ∧ zC no tk c m (K + 1) Y Y' ∧ zIS P nb nl Y Y' ∧ Y'.F 15 (6 * b + r) = 0 ∧ Y.F 20 = S.F 20 ∧ zBd P (n + 1) t 0 0 Y ∧ zKI S' Y' := by
    have b9 := zBd_ec g.1.1 hn up (nI (6 * b + r))
    have q9 := q_fPR_endCommand P S (nI (6 * b + r))
    have q8 := q_fMO_endCommand P' S' (nI b) (nI r)
    rcases h.ec g hI hb hr with ⟨w1, w2, w3⟩ | ⟨T, T', w1, w2, w3, w4, w5⟩
    · exact ⟨S, S', ⟨_, w1⟩, ⟨_, w2⟩, h.mo (Nat.le_refl _) (by omega), hI, w3, rfl, up, zKI.rf⟩
    · rw [w1] at b9 q9
      rw [w2] at q8
      exact ⟨T, T', ⟨_, w1⟩, ⟨_, w2⟩, w3.mo (by omega) (Nat.le_refl _), w4, w5, q9.2 20 (by decide), b9, ⟨fun t ht => q8.1 t (fun e => ht (by simp at e ⊢; omega)), q8.2 22 (by decide)⟩⟩
  obtain ⟨Y, Y', ⟨v, eY⟩, ⟨v', eY'⟩, kY, iY, y15, y20, bY, zY9⟩ := step1
  have k1 : zC no tk c m (K + 1) Y ((Y'.setF 15 (6 * b + r) kd).setF 16 (6 * b + r) (nI (q / 2))) := (kY.r (by decide) (by decide)).r (by decide) (by decide)
  have x7 : ((Y'.setF 15 (6 * b + r) kd).setF 16 (6 * b + r) (nI (q / 2))).F 7 = Y'.F 7 := by rw [zFsn _ (by decide), zFsn _ (by decide)]
  have x15 : ((Y'.setF 15 (6 * b + r) kd).setF 16 (6 * b + r) (nI (q / 2))).F 15 = upd (Y'.F 15) (6 * b + r) kd := by rw [zFsn _ (by decide), zFsk]
  have x16 : ((Y'.setF 15 (6 * b + r) kd).setF 16 (6 * b + r) (nI (q / 2))).F 16 = upd (Y'.F 16) (6 * b + r) (nI (q / 2)) := by rw [zFsk, zFsn _ (by decide)]
  rw [fPR_giveCommand, fMO_order_94]
  repeat (first | rw [zl] | rw [zl2])
  rw [nI_clamp (by omega), if_pos hf, if_neg n1, e5, z6, nI_div (by omega) (by omega), show (6 * b + r) / 6 = b by omega, nI_clamp (by omega), nI_clamp (by omega), r2, e2, eY, eY', z60, nI_add, nI_clamp (by omega)]
  have xz : zKI Y' ((Y'.setF 15 (6 * b + r) kd).setF 16 (6 * b + r) (nI (q / 2))) := ⟨fun _ _ => rfl, by rw [zFsn _ (by decide), zFsn _ (by decide)]⟩
  generalize (Y'.setF 15 (6 * b + r) kd).setF 16 (6 * b + r) (nI (q / 2)) = X' at k1 x7 x15 x16 xz ⊢
  have k2 := k1.bh ht g hq hk hr kd k16 iY.2.2
  have w14 := zbh_h (P := P) Y (q := q) (by omega) kd
  obtain ⟨w7, w15, w16⟩ := zbg_fr P' X' (nI b) (nI (q / 2)) kd
  have w20 : (fPR_beginHold P Y (nI q) kd).F 20 b + 1 = nI x := by rw [(q_fPR_beginHold P Y (nI q) kd).2 20 (by decide), y20]; exact h20
  have wB := zBd_bh bY (nI q) kd
  have iW : zIS P nb nl (fPR_beginHold P Y (nI q) kd) (fMO_begins P' X' (nI b) (nI (q / 2)) kd) := by
    show zI P nb nl _ _ _ _
    rw [w7, w15, w16, x7, x15, x16]
    exact (zI.give iY hq hk hkd y15).k w14
  generalize fPR_beginHold P Y (nI q) kd = W at k2 w20 wB iW ⊢
  have wz : zKI X' (fMO_begins P' X' (nI b) (nI (q / 2)) kd) := ⟨fun t _ => (q_fMO_begins P' X' (nI b) (nI (q / 2)) kd).1 t (by simp), (q_fMO_begins P' X' (nI b) (nI (q / 2)) kd).2 22 (by decide)⟩
  generalize fMO_begins P' X' (nI b) (nI (q / 2)) kd = W' at k2 iW wz ⊢
  rw [k2.g 17 20 (by decide), w20, zFsk, upd_at, zFsk, upd_at]
  have k3 := k2.s (i := b) (v := nI x) 17 20 (by decide) (by decide) (by decide)
  have i3 : zIS P nb nl (W.setF 20 b (nI x)) (W'.setF 17 b (nI x)) := zI_of iW (zFsn _ (by decide)) (zFsn _ (by decide)) (zFsn _ (by decide)) (zFsn _ (by decide))
  have b3 : zBd P (n + 1) t 0 0 (W.setF 20 b (nI x)) := by
    refine wB.F ?_
    show 0 ≤ (nI x).toInt ∧ (nI x).toInt ≤ ((n + 1 : Nat) : Int)
    rw [nI_toInt (by omega)]
    omega
  generalize W.setF 20 b (nI x) = V at k3 i3 b3 ⊢
  have vz : zKI W' (W'.setF 17 b (nI x)) := ⟨fun _ _ => rfl, zFsn _ (by decide)⟩
  generalize W'.setF 17 b (nI x) = V' at k3 i3 vz ⊢
  have k4 := k3.news (b := b) (r := r) (n := 60 + b) (mm := x) g hb hr (by omega) hx (fun a ha _ _ => i3.1 a ha)
  have q1 := q_fPR_takeNews P V (nI (6 * b + r)) (nI (60 + b)) (nI x)
  have q2 := q_fMO_news P' V' (nI b) (nI (60 + b)) (nI x) (nI r)
  refine ⟨_, _, rfl, ?_, k4.mo (Nat.le_refl _) (by omega), zI_of i3 (q1.2 14 (by decide)) (q2.2 7 (by decide)) (q2.2 15 (by decide)) (q2.2 16 (by decide)), zBd_nw g hb hr b3 _ _, (((zY9.t xz).t wz).t vz).t ⟨fun t ht => q2.1 t ht, q2.2 22 (by decide)⟩⟩
  rw [fMO_order_175, zl]

/-! which bridges open links join, on both sides -/
abbrev zopn (h : Nat → Int32) (l : Nat) : Prop := h (2 * l) = 0 ∧ h (2 * l + 1) = 0
def zgc (P : ZS) (h : Nat → Int32) (nb : Nat) : Nat → Nat → Int32
  | 0 => fun i => nI i
  | l + 1 => if zopn h l then zgo (zgc P h nb l) nb (zgc P h nb l (P.F 1 l).toNatClampNeg) (zgc P h nb l (P.F 0 l).toNatClampNeg) else zgc P h nb l
/-- the open ones of the first l links make a circle -/
def zcc (P : ZS) (h : Nat → Int32) (nb : Nat) : Nat → Prop
  | 0 => False
  | l + 1 => zcc P h nb l ∨ (zopn h l ∧ zgc P h nb l (P.F 0 l).toNatClampNeg = zgc P h nb l (P.F 1 l).toNatClampNeg)
theorem zcc_or {P : ZS} {h : Nat → Int32} {nb l : Nat} (q : zcc P h nb (l + 1)) : zcc P h nb l ∨ (zopn h l ∧ zgc P h nb l (P.F 0 l).toNatClampNeg = zgc P h nb l (P.F 1 l).toNatClampNeg) := q
theorem zcc_l {P : ZS} {h : Nat → Int32} {nb l : Nat} (q : zcc P h nb l) : zcc P h nb (l + 1) := Or.inl q
theorem zcc_r {P : ZS} {h : Nat → Int32} {nb l : Nat} (o : zopn h l) (e : zgc P h nb l (P.F 0 l).toNatClampNeg = zgc P h nb l (P.F 1 l).toNatClampNeg) : zcc P h nb (l + 1) := Or.inr ⟨o, e⟩
noncomputable def zif (p : Prop) : Int32 := @ite Int32 p (Classical.propDecidable p) 1 0
theorem zif_t {p : Prop} (h : p) : zif p = 1 := by unfold zif; exact @if_pos _ (Classical.propDecidable p) h _ _ _
theorem zif_f {p : Prop} (h : ¬ p) : zif p = 0 := by unfold zif; exact @if_neg _ (Classical.propDecidable p) h _ _ _
theorem zif_0 {p : Prop} : zif p = 0 ↔ ¬ p := by
  by_cases h : p
  · rw [zif_t h]; exact ⟨fun e => absurd e (by decide), fun e => absurd h e⟩
  · rw [zif_f h]; exact ⟨fun _ => h, fun _ => rfl⟩
theorem zgc_s (P : ZS) (h : Nat → Int32) (nb l : Nat) : zgc P h nb (l + 1) = if zopn h l then zgo (zgc P h nb l) nb (zgc P h nb l (P.F 1 l).toNatClampNeg) (zgc P h nb l (P.F 0 l).toNatClampNeg) else zgc P h nb l := rfl
theorem zopC {P S : ZS} {l : Nat} (hl : l < 60) : fPR_isOpen P S (nI l) = 0 ↔ ¬ zopn (S.F 14) l := by
  have z2 : (2 : Int32) = nI 2 := by decide
  have n1 : ¬ (1 : Int32) = 0 := by decide
  unfold fPR_isOpen fPR_isOpen_28
  simp only [zl]
  rw [z2, nI_mul, nI_1, nI_clamp (by omega), nI_clamp (by omega)]
  by_cases c : S.F 14 (2 * l) = 0
  · rw [if_pos c]
    by_cases d : S.F 14 (2 * l + 1) = 0
    · rw [if_pos d]; exact ⟨fun e => absurd e n1, fun e => absurd ⟨c, d⟩ e⟩
    · rw [if_neg d]; exact ⟨fun _ e => d e.2, fun _ => rfl⟩
  · rw [if_neg c]; exact ⟨fun _ e => c e.1, fun _ => rfl⟩
theorem zopM {P S : ZS} {l : Nat} (hl : l < 60) (h1 : S.F 10 (2 * l) &&& 1 = 0 → S.F 7 l = 0) : fMO_isOpen P S (nI l) = 0 ↔ ¬ zopn (S.F 10) l := by
  have z2 : (2 : Int32) = nI 2 := by decide
  have n1 : ¬ (1 : Int32) = 0 := by decide
  unfold fMO_isOpen fMO_isOpen_37
  simp only [zl]
  rw [nI_clamp (by omega), z2, nI_mul, nI_1, nI_clamp (by omega), nI_clamp (by omega)]
  by_cases c : S.F 10 (2 * l) = 0
  · rw [if_pos (h1 (by rw [c]; exact zand0 1)), if_pos c]
    by_cases d : S.F 10 (2 * l + 1) = 0
    · rw [if_pos d]; exact ⟨fun e => absurd e n1, fun e => absurd ⟨c, d⟩ e⟩
    · rw [if_neg d]; exact ⟨fun _ e => d e.2, fun _ => rfl⟩
  · rw [if_neg c]
    refine ⟨fun _ e => c e.1, fun _ => ?_⟩
    split <;> rfl
/-- groups have a root each; how many -/
def zrt (nb : Nat) (g : Nat → Int32) (c : Nat) : Prop := (∀ i, i < nb → ∃ j, j < nb ∧ g i = nI j ∧ g j = nI j) ∧ zct (fun i => g i = nI i) nb = c
theorem zct_rm {p p' : Nat → Prop} {j : Nat} (hp : p j) (he : ∀ i, p' i ↔ (p i ∧ i ≠ j)) : ∀ n, (n ≤ j → zct p' n = zct p n) ∧ (j < n → zct p n = zct p' n + 1)
  | 0 => ⟨fun _ => rfl, fun h => absurd h (Nat.not_lt_zero _)⟩
  | n + 1 => by
    obtain ⟨i1, i2⟩ := zct_rm hp he n
    refine ⟨fun h => ?_, fun h => ?_⟩
    · by_cases c : p n
      · rw [zct_1 c, zct_1 ((he n).mpr ⟨c, by omega⟩), i1 (by omega)]
      · rw [zct_0 c, zct_0 (fun q => c ((he n).mp q).1), i1 (by omega)]
    · by_cases e : n = j
      · subst e
        rw [zct_1 hp, zct_0 (fun q => ((he n).mp q).2 rfl), i1 (Nat.le_refl _)]
      · by_cases c : p n
        · rw [zct_1 c, zct_1 ((he n).mpr ⟨c, e⟩), i2 (by omega)]
        · rw [zct_0 c, zct_0 (fun q => c ((he n).mp q).1), i2 (by omega)]
theorem zct_pos2 {p : Nat → Prop} : ∀ n, 0 < zct p n ↔ ∃ i, i < n ∧ p i
  | 0 => ⟨fun h => absurd h (Nat.lt_irrefl _), fun ⟨i, h, _⟩ => absurd h (Nat.not_lt_zero _)⟩
  | n + 1 => by
    have ih := zct_pos2 (p := p) n
    by_cases c : p n
    · rw [zct_1 c]
      exact ⟨fun _ => ⟨n, Nat.lt_succ_self n, c⟩, fun _ => Nat.succ_pos _⟩
    · rw [zct_0 c, ih]
      exact ⟨fun ⟨i, a, q⟩ => ⟨i, Nat.lt_succ_of_lt a, q⟩, fun ⟨i, a, q⟩ => ⟨i, Nat.lt_of_le_of_ne (Nat.le_of_lt_succ a) (fun e => c (e ▸ q)), q⟩⟩
theorem zrt_join {nb c a b : Nat} {g g' : Nat → Int32} (hb48 : nb ≤ 48) (h : zrt nb g c) (ha : a < nb) (hb : b < nb) (hne : ¬ g a = g b) (hg : ∀ i, g' i = zgo g nb (g a) (g b) i) : ∃ c', c = c' + 1 ∧ zrt nb g' c' := by
  obtain ⟨h1, h2⟩ := h
  obtain ⟨ja, la, ea, ra⟩ := h1 a ha
  obtain ⟨jb, lb, eb, rb⟩ := h1 b hb
  have gi : ∀ i, i < nb → g' i = if g i = g b then g a else g i := fun i hi => by
    rw [hg i]
    unfold zgo
    by_cases e : g i = g b
    · rw [if_pos ⟨hi, e⟩, if_pos e]
    · rw [if_neg (fun q => e q.2), if_neg e]
  have root : ∀ i, i < nb → (g' i = nI i ↔ (g i = nI i ∧ i ≠ jb)) := fun i hi => by
    rw [gi i hi]
    by_cases e : g i = g b
    · rw [if_pos e]
      constructor
      · intro w
        rw [ea] at w
        have : ja = i := (nI_eq (by omega) (by omega)).mp w
        subst this
        exact absurd (by rw [ea, ← ra]; exact e) hne
      · rintro ⟨w1, w2⟩
        rw [w1, eb] at e
        exact absurd ((nI_eq (by omega) (by omega)).mp e) w2
    · rw [if_neg e]
      exact ⟨fun w => ⟨w, fun e2 => e (by rw [e2, rb, eb])⟩, fun w => w.1⟩
  have cnt := (zct_rm (p := fun i => g i = nI i) (p' := fun i => g i = nI i ∧ i ≠ jb) (j := jb) rb (fun i => Iff.rfl) nb).2 lb
  refine ⟨zct (fun i => g i = nI i ∧ i ≠ jb) nb, by rw [← h2]; exact cnt, fun i hi => ?_, zct_congr nb (fun j hj => root j hj)⟩
  obtain ⟨j, lj, ej, rj⟩ := h1 i hi
  by_cases e : g i = g b
  · refine ⟨ja, la, ?_, ?_⟩
    · rw [gi i hi, if_pos e, ea]
    · rw [gi ja la, if_neg (fun q => hne (by rw [ea, ← ra]; exact q))]
      exact ra
  · refine ⟨j, lj, ?_, ?_⟩
    · rw [gi i hi, if_neg e, ej]
    · rw [gi j lj, if_neg (fun q => e (by rw [ej, ← rj]; exact q))]
      exact rj
theorem zrt_one {nb c : Nat} {g : Nat → Int32} (hb48 : nb ≤ 48) (h : zrt nb g c) (h0 : 0 < nb) : c ≤ 1 ↔ ∀ i, i < nb → g i = g 0 := by
  obtain ⟨h1, h2⟩ := h
  obtain ⟨j0, l0, e0, r0⟩ := h1 0 h0
  have cnt := (zct_rm (p := fun i => g i = nI i) (p' := fun i => g i = nI i ∧ i ≠ j0) (j := j0) r0 (fun i => Iff.rfl) nb).2 l0
  constructor
  · intro hc i hi
    have z : ¬ 0 < zct (fun i => g i = nI i ∧ i ≠ j0) nb := by omega
    rw [zct_pos2] at z
    obtain ⟨j, lj, ej, rj⟩ := h1 i hi
    by_cases e : j = j0
    · rw [ej, e0, e]
    · exact absurd ⟨j, lj, rj, e⟩ z
  · intro hall
    have z : ¬ 0 < zct (fun i => g i = nI i ∧ i ≠ j0) nb := fun q => by
      obtain ⟨i, hi, w1, w2⟩ := (zct_pos2 nb).mp q
      have := hall i hi
      rw [w1, e0] at this
      exact w2 ((nI_eq (by omega) (by omega)).mp this)
    omega
/-- the class's groups -/
theorem zgrpC {P : ZS} {nb nl : Nat} (hp : zPn P nb nl) {h : Nat → Int32} : ∀ (n l : Nat) (X : ZS) (c : Nat), l ≤ nl → nl - l < n → X.F 14 = h → zsm nb (X.F 27) (zgc P h nb l) → X.I 15 = nI nb → X.I 6 = zif (zcc P h nb l) → zrt nb (X.F 27) c → X.I 14 = nI c →
    ∃ c', zsm nb ((zfix (fun S9 _ => S9) (fRG_groupByOpenLinks_21 P) n X (nI l)).F 27) (zgc P h nb nl) ∧ (zfix (fun S9 _ => S9) (fRG_groupByOpenLinks_21 P) n X (nI l)).I 6 = zif (zcc P h nb nl) ∧ zrt nb ((zfix (fun S9 _ => S9) (fRG_groupByOpenLinks_21 P) n X (nI l)).F 27) c' ∧ (zfix (fun S9 _ => S9) (fRG_groupByOpenLinks_21 P) n X (nI l)).I 14 = nI c' := by
  obtain ⟨hB, hb48, hL, hl60, hR, hE⟩ := hp
  intro n
  induction n with
  | zero => intro l X c h1 h2; omega
  | succ n ih =>
    intro l X c h1 h2 h14 hs h15 h6 hr hc
    rw [zfix_s]
    generalize zfix (fun S9 _ => S9) (fRG_groupByOpenLinks_21 P) n = rc at ih ⊢
    unfold fRG_groupByOpenLinks_21 fRG_groupByOpenLinks_76
    simp only [zl, zl2]
    rw [hL]
    by_cases d : l = nl
    · rw [if_pos (nI_le (by omega) (by omega)), ← d]
      exact ⟨c, hs, h6, hr, hc⟩
    · rw [if_neg (nI_ge (by omega) (by omega)), nI_clamp (by omega), nI_1]
      obtain ⟨la, lb, -⟩ := hE l (by omega)
      by_cases o : zopn h l
      · have o' : ¬ fPR_isOpen P X (nI l) = 0 := fun e => (zopC (by omega)).mp e (by rw [h14]; exact o)
        rw [if_neg o']
        by_cases e : X.F 27 (P.F 0 l).toNatClampNeg = X.F 27 (P.F 1 l).toNatClampNeg
        · have ej : fGR_join P X (P.F 0 l) (P.F 1 l) = (X, 0) := by
            simp only [fGR_join, zl]
            rw [if_pos e]
          have e' := (hs _ _ la lb).mp e
          rw [ej, if_pos rfl]
          refine ih (l + 1) (X.setI 6 1) c (by omega) (by omega) h14 ?_ h15 ?_ hr hc
          · rw [zgc_s, if_pos o]
            intro i j hi hj
            have hh : ∀ q, zgo (zgc P h nb l) nb (zgc P h nb l (P.F 1 l).toNatClampNeg) (zgc P h nb l (P.F 0 l).toNatClampNeg) q = zgc P h nb l q := fun q => by
              unfold zgo
              by_cases w : q < nb ∧ zgc P h nb l q = zgc P h nb l (P.F 0 l).toNatClampNeg
              · rw [if_pos w, ← e', ← w.2]
              · rw [if_neg w]
            rw [hh i, hh j]
            exact hs i j hi hj
          · exact (zif_t (zcc_r o e')).symm
        · have e' : ¬ zgc P h nb l (P.F 0 l).toNatClampNeg = zgc P h nb l (P.F 1 l).toNatClampNeg := fun q => e ((hs _ _ la lb).mpr q)
          have qj := q_fGR_join P X (P.F 0 l) (P.F 1 l)
          obtain ⟨X1, e1, f1, g14, g15⟩ := zgj (P := P) (S := X) (a := P.F 0 l) (b := P.F 1 l) h15 hb48 e
          rw [e1] at qj
          obtain ⟨c', ec, hr'⟩ := zrt_join hb48 hr la lb e f1
          rw [e1, if_neg (by decide : ¬ (1 : Int32) = 0)]
          refine ih (l + 1) X1 c' (by omega) (by omega) ?_ ?_ g15 ?_ hr' ?_
          · exact (qj.2 14 (by decide)).trans h14
          · rw [zgc_s, if_pos o]
            exact zsm_join la lb hs f1 (fun i => rfl)
          · have e6 : X1.I 6 = X.I 6 := qj.1 6 (by decide)
            rw [e6, h6]
            by_cases w : zcc P h nb l
            · rw [zif_t w, zif_t (zcc_l w)]
            · rw [zif_f w, zif_f (fun q => (zcc_or q).elim w (fun q => e' q.2))]
          · rw [g14, hc, ec]
            exact nI_pred c'
      · have o' : fPR_isOpen P X (nI l) = 0 := (zopC (by omega)).mpr (by rw [h14]; exact o)
        rw [if_pos o']
        refine ih (l + 1) X c (by omega) (by omega) h14 ?_ h15 ?_ hr hc
        · rw [zgc_s, if_neg o]
          exact hs
        · rw [h6]
          by_cases w : zcc P h nb l
          · rw [zif_t w, zif_t (zcc_l w)]
          · rw [zif_f w, zif_f (fun q => (zcc_or q).elim w (fun q => o q.1))]
/-- what the class's groups say of the holds -/
def zGp (P : ZS) (nb nl : Nat) (S : ZS) : Prop := zsm nb (S.F 27) (zgc P (S.F 14) nb nl) ∧ S.I 6 = zif (zcc P (S.F 14) nb nl) ∧ ∃ c, c ≤ 48 ∧ zrt nb (S.F 27) c ∧ S.I 14 = nI c
theorem zct_le2 {p : Nat → Prop} (n : Nat) : zct p n ≤ n := zct_le n
theorem zgrp {P : ZS} {nb nl : Nat} (hp : zPn P nb nl) (S : ZS) : zGp P nb nl (fRG_groupByOpenLinks P S) := by
  have hB := hp.1
  have hb48 := hp.2.1
  have hl60 := hp.2.2.2.1
  have z0 : (0 : Int32) = nI 0 := by decide
  have q9 := q_fRG_groupByOpenLinks P S
  have e14 : (fRG_groupByOpenLinks P S).F 14 = S.F 14 := q9.2 14 (by decide)
  unfold zGp
  rw [e14]
  unfold fRG_groupByOpenLinks
  simp only [zl]
  rw [hB]
  obtain ⟨s1, s2, s3⟩ := zsep (P := P) (S := S) (nb := nb) hb48
  have q8 := q_fGR_separate P S (nI nb)
  rw [z0]
  have rt : zrt nb (fun i => (fGR_separate P S (nI nb)).F 27 i) nb := by
    refine ⟨fun i hi => ⟨i, hi, s1 i hi, s1 i hi⟩, ?_⟩
    have : ∀ n, n ≤ nb → zct (fun i => (fGR_separate P S (nI nb)).F 27 i = nI i) n = n := by
      intro n
      induction n with
      | zero => intro _; rfl
      | succ n ih => intro hn; rw [zct_1 (s1 n (by omega)), ih (by omega)]
    exact this nb (Nat.le_refl _)
  obtain ⟨c', w1, w2, w3, w4⟩ := zgrpC hp (h := S.F 14) 61 0 ((fGR_separate P S (nI nb)).setI 6 (nI 0)) nb (Nat.zero_le _) (by omega) (q8.2 14 (by decide)) (fun i j hi hj => by
    show (fGR_separate P S (nI nb)).F 27 i = (fGR_separate P S (nI nb)).F 27 j ↔ nI i = nI j
    rw [s1 i hi, s1 j hj]) s3 (by
    show nI 0 = zif (zcc P (S.F 14) nb 0)
    rw [zif_f (show ¬ zcc P (S.F 14) nb 0 from fun q => q)]
    rfl) rt s2
  refine ⟨w1, w2, c', ?_, w3, w4⟩
  have := w3.2
  have := zct_le2 (p := fun i => (zfix (fun S9 _ => S9) (fRG_groupByOpenLinks_21 P) 61 ((fGR_separate P S (nI nb)).setI 6 (nI 0)) (nI 0)).F 27 i = nI i) nb
  omega
/-- the reference looks at the open links -/
theorem zgrpM {P P' : ZS} {nb nl : Nat} (hp : zPn P nb nl) (hr : zRP P P') {h f : Nat → Int32} (h1 : ∀ l, l < nl → h (2 * l) &&& 1 = 0 → f l = 0) : ∀ (n l : Nat) (X : ZS), l ≤ nl → nl - l < n → X.F 10 = h → X.F 7 = f → (∀ i, i < nb → X.F 33 i = zgc P h nb l i) →
    (zfix (fun S9 _ _ => S9) (fMO_look_35 P') n X (zif (zcc P h nb l)) (nI l)).I 9 = X.I 9 + zif (zcc P h nb nl) ∧ ∀ i, i < nb → (zfix (fun S9 _ _ => S9) (fMO_look_35 P') n X (zif (zcc P h nb l)) (nI l)).F 33 i = zgc P h nb nl i := by
  obtain ⟨hB, hb48, hL, hl60, hR, hE⟩ := hp
  obtain ⟨r1, r2, r3, r4, r5, -⟩ := hr
  intro n
  induction n with
  | zero => intro l X g1 g2; omega
  | succ n ih =>
    intro l X g1 g2 h10 h7 hs
    rw [zfix_s]
    generalize zfix (fun S9 _ _ => S9) (fMO_look_35 P') n = rc at ih ⊢
    unfold fMO_look_35 fMO_look_70 fMO_look_74 fMO_look_79 fMO_look_100
    simp only [zl, zl2]
    rw [r2, hL, r3, r4]
    by_cases d : l = nl
    · rw [if_pos (nI_le (by omega) (by omega)), ← d]
      by_cases w : zcc P h nb l
      · rw [zif_t w, if_neg (by decide)]
        exact ⟨rfl, hs⟩
      · rw [zif_f w, if_pos rfl]
        exact ⟨rfl, hs⟩
    · rw [if_neg (nI_ge (by omega) (by omega)), nI_clamp (by omega), nI_1]
      obtain ⟨la, lb, -⟩ := hE l (by omega)
      have same : (if zif (zcc P h nb l) = 0 then rc X 0 (nI (l + 1)) else rc X 1 (nI (l + 1))) = rc X (zif (zcc P h nb l)) (nI (l + 1)) := by
        by_cases w : zcc P h nb l
        · rw [zif_t w, if_neg (by decide)]
        · rw [zif_f w, if_pos rfl]
      by_cases o : zopn h l
      · have o' : ¬ fMO_isOpen P' X (nI l) = 0 := fun e => (zopM (by omega) (by rw [h10, h7]; exact h1 l (by omega))).mp e (by rw [h10]; exact o)
        rw [if_neg o']
        have qj := q_fMO_join P' X (P.F 0 l) (P.F 1 l)
        obtain ⟨X1, e1, f1⟩ := zmj (P := P') (S := X) (a := P.F 0 l) (b := P.F 1 l) (r1.trans hB) hb48
        rw [e1] at qj
        rw [e1]
        have x10 : X1.F 10 = h := (qj.2 10 (by decide)).trans h10
        have x7 : X1.F 7 = f := (qj.2 7 (by decide)).trans h7
        have x9 : X1.I 9 = X.I 9 := qj.1 9 (by decide)
        have x33 : ∀ i, i < nb → X1.F 33 i = zgc P h nb (l + 1) i := fun i hi => by
          rw [f1 i, zgc_s, if_pos o]
          unfold zgo
          rw [hs i hi, hs _ la, hs _ lb]
        rw [hs _ la, hs _ lb]
        have same1 : (if zif (zcc P h nb l) = 0 then rc X1 0 (nI (l + 1)) else rc X1 1 (nI (l + 1))) = rc X1 (zif (zcc P h nb l)) (nI (l + 1)) := by
          by_cases w : zcc P h nb l
          · rw [zif_t w, if_neg (by decide)]
          · rw [zif_f w, if_pos rfl]
        by_cases e : zgc P h nb l (P.F 0 l).toNatClampNeg = zgc P h nb l (P.F 1 l).toNatClampNeg
        · rw [if_pos e, if_pos rfl]
          have k := ih (l + 1) X1 (by omega) (by omega) x10 x7 x33
          rw [zif_t (zcc_r o e), x9] at k
          exact k
        · rw [if_neg e, if_neg (by decide : ¬ (1 : Int32) = 0), same1]
          have k := ih (l + 1) X1 (by omega) (by omega) x10 x7 x33
          have ez : zif (zcc P h nb (l + 1)) = zif (zcc P h nb l) := by
            by_cases w : zcc P h nb l
            · rw [zif_t w, zif_t (zcc_l w)]
            · rw [zif_f w, zif_f (fun q => (zcc_or q).elim w (fun q => e q.2))]
          rw [ez, x9] at k
          exact k
      · have o' : fMO_isOpen P' X (nI l) = 0 := (zopM (by omega) (by rw [h10, h7]; exact h1 l (by omega))).mpr (by rw [h10]; exact o)
        rw [if_pos o', same]
        have k := ih (l + 1) X (by omega) (by omega) h10 h7 (fun i hi => by rw [zgc_s, if_neg o]; exact hs i hi)
        have ez : zif (zcc P h nb (l + 1)) = zif (zcc P h nb l) := by
          by_cases w : zcc P h nb l
          · rw [zif_t w, zif_t (zcc_l w)]
          · rw [zif_f w, zif_f (fun q => (zcc_or q).elim w (fun q => o q.1))]
        rw [ez] at k
        exact k
theorem zlook {P P' : ZS} {nb nl : Nat} (hp : zPn P nb nl) (hr : zRP P P') (S : ZS) (h0 : S.I 3 = 0) (h1 : ∀ l, l < nl → S.F 10 (2 * l) &&& 1 = 0 → S.F 7 l = 0) :
    (fMO_look P' S).I 9 = S.I 9 + zif (zcc P (S.F 10) nb nl) ∧ ∀ i, i < nb → (fMO_look P' S).F 33 i = zgc P (S.F 10) nb nl i := by
  have z0 : (0 : Int32) = nI 0 := by decide
  have hB := hp.1
  have hb48 := hp.2.1
  have hl60 := hp.2.2.2.1
  have r1 := hr.1
  unfold fMO_look
  simp only [zl]
  rw [h0, if_pos (by decide)]
  have key : ∀ (n b : Nat) (X : ZS), b ≤ nb → nb - b < n → X.F 10 = S.F 10 → X.F 7 = S.F 7 → X.I 9 = S.I 9 → (∀ i, i < b → X.F 33 i = nI i) → (zfix (fun S9 _ => S9) (fMO_look_10 P') n X (nI b)).I 9 = S.I 9 + zif (zcc P (S.F 10) nb nl) ∧ ∀ i, i < nb → (zfix (fun S9 _ => S9) (fMO_look_10 P') n X (nI b)).F 33 i = zgc P (S.F 10) nb nl i := by
    intro n
    induction n with
    | zero => intro b X g1 g2; omega
    | succ n ih =>
      intro b X g1 g2 x10 x7 x9 xs
      rw [zfix_s]
      generalize zfix (fun S9 _ => S9) (fMO_look_10 P') n = rc at ih ⊢
      unfold fMO_look_10
      simp only [zl]
      rw [r1, hB]
      by_cases d : b = nb
      · rw [if_pos (nI_le (by omega) (by omega))]
        have k := zgrpM hp hr (h := S.F 10) (f := S.F 7) h1 61 0 X (Nat.zero_le _) (by omega) x10 x7 (fun i hi => xs i (by omega))
        rw [zif_f (fun q => q : ¬ zcc P (S.F 10) nb 0), x9, ← z0] at k
        exact k
      · rw [if_neg (nI_ge (by omega) (by omega)), nI_clamp (by omega), nI_1]
        refine ih (b + 1) (X.setF 33 b (nI b)) (by omega) (by omega) ?_ ?_ x9 (fun i hi => ?_)
        · rw [zFsn _ (by decide)]; exact x10
        · rw [zFsn _ (by decide)]; exact x7
        · rw [zset27]
          by_cases e : i = b
          · rw [if_pos e, e]
          · rw [if_neg e]; exact xs i (by omega)
  rw [z0]
  exact key 49 0 S (Nat.zero_le _) (by omega) rfl rfl rfl (fun i hi => absurd hi (Nat.not_lt_zero _))
