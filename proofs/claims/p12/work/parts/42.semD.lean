
/-! link: both refuse, or both add the same link -/
def zadd (P : ZS) (x0 x1 x2 : Int32) : ZS := (((((P.setF 0 (P.I 1).toNatClampNeg x0).setF 1 (P.I 1).toNatClampNeg x1).setF 2 (P.I 1).toNatClampNeg x2).setF 5 (2 * P.I 1).toNatClampNeg (x0 * 6 + x2)).setF 5 (2 * P.I 1 + 1).toNatClampNeg (x1 * 6 + x2)).setI 1 (P.I 1 + 1)
def zaddM (P : ZS) (x0 x1 x2 : Int32) : ZS := (((P.setF 0 (P.I 2).toNatClampNeg x0).setF 1 (P.I 2).toNatClampNeg x1).setF 2 (P.I 2).toNatClampNeg x2).setI 2 (P.I 2 + 1)
theorem zadd_eq (P S : ZS) (x0 x1 x2 : Int32) : fPL_addLink P S x0 x1 x2 = (zadd P x0 x1 x2, S, P.I 1) := by
  simp only [fPL_addLink, zl]
  rfl
theorem zln0 (P S : ZS) (x0 x1 x2 : Int32) : ∃ S1, fMO_link_34 P S x0 x1 x2 0 = (P, S1, 0) := by
  refine ⟨S.setI 3 1, ?_⟩
  simp only [fMO_link_34, fMO_link_54, fMO_link_55, zl, zl2, zgoF0]
  repeat' split
  all_goals first | rfl | (rename_i h; exact absurd trivial h)
theorem zln1 {P S : ZS} {x0 x1 x2 : Int32} (h : P.I 0 = 0) (h2 : ¬ 60 ≤ P.I 2) : fMO_link_34 P S x0 x1 x2 1 = (zaddM P x0 x1 x2, S.setI 3 0, P.I 2) := by
  simp only [fMO_link_34, fMO_link_54, fMO_link_55, zl, zl2, zgoT, zgoF1]
  rw [if_pos h, if_neg h2, if_neg (by decide : ¬ (1 : Int32) = 0), Int32.add_sub_cancel]
  rfl
theorem zln2 {P S : ZS} {x0 x1 x2 : Int32} (h : ¬ P.I 0 = 0 ∨ 60 ≤ P.I 2) : ∃ S1, fMO_link_34 P S x0 x1 x2 1 = (P, S1, 0) := by
  refine ⟨S.setI 3 2, ?_⟩
  simp only [fMO_link_34, fMO_link_54, fMO_link_55, zl, zl2, zgoT, zgoF1]
  by_cases c : P.I 0 = 0
  · have d : 60 ≤ P.I 2 := h.resolve_left (fun q => q c)
    rw [if_pos c, if_pos d, if_pos trivial]
  · rw [if_neg c, if_pos trivial]
theorem zrem6 {b r : Int32} (hb : zr 0 47 b) (hr : zr 0 5 r) : (b * 6 + r) - (b * 6 + r) / 6 * 6 = r := by
  have z6 : (6 : Int32).toInt = 6 := by decide
  have b1 := hb.1
  have b2 := hb.2
  have r1 := hr.1
  have r2 := hr.2
  have e1 : (b * 6).toInt = b.toInt * 6 := by rw [Int32.toInt_mul, z6, zbm ⟨by omega, by omega⟩]
  have e2 : (b * 6 + r).toInt = b.toInt * 6 + r.toInt := by rw [Int32.toInt_add, e1, zbm ⟨by omega, by omega⟩]
  have k := (zr_rem (lo := 0) (hi := 5) (x := b * 6 + r) (y := 6) (c := 6) (a := 0) (b := 287) ⟨by omega, by omega⟩ (by decide) rfl (by decide)).2
  apply Int32.toInt_inj.mp
  rw [k, e2]
  omega
theorem zsetI_F (T : ZS) (t : Nat) (v : Int32) : (T.setI t v).F = T.F := rfl
theorem zadd_F {P : ZS} {x0 x1 x2 : Int32} {k : Nat} (h0 : k ≠ 0) (h1 : k ≠ 1) (h2 : k ≠ 2) (h5 : k ≠ 5) : (zadd P x0 x1 x2).F k = P.F k := by
  unfold zadd
  rw [zsetI_F, zset_ne h5, zset_ne h5, zset_ne h2, zset_ne h1, zset_ne h0]
theorem zaddM_F {P : ZS} {x0 x1 x2 : Int32} {k : Nat} (h0 : k ≠ 0) (h1 : k ≠ 1) (h2 : k ≠ 2) : (zaddM P x0 x1 x2).F k = P.F k := by
  unfold zaddM
  rw [zsetI_F, zset_ne h2, zset_ne h1, zset_ne h0]
theorem zadd_0 {P : ZS} {x0 x1 x2 : Int32} (j : Nat) : (zadd P x0 x1 x2).F 0 j = if j = (P.I 1).toNatClampNeg then x0 else P.F 0 j := by
  unfold zadd
  rw [zsetI_F, zset_ne (by decide), zset_ne (by decide), zset_ne (by decide), zset_ne (by decide), zset27]
theorem zadd_1 {P : ZS} {x0 x1 x2 : Int32} (j : Nat) : (zadd P x0 x1 x2).F 1 j = if j = (P.I 1).toNatClampNeg then x1 else P.F 1 j := by
  unfold zadd
  rw [zsetI_F, zset_ne (by decide), zset_ne (by decide), zset_ne (by decide), zset27, zset_ne (by decide)]
theorem zadd_2 {P : ZS} {x0 x1 x2 : Int32} (j : Nat) : (zadd P x0 x1 x2).F 2 j = if j = (P.I 1).toNatClampNeg then x2 else P.F 2 j := by
  unfold zadd
  rw [zsetI_F, zset_ne (by decide), zset_ne (by decide), zset27, zset_ne (by decide), zset_ne (by decide)]
theorem zadd_5 {P : ZS} {x0 x1 x2 : Int32} (j : Nat) : (zadd P x0 x1 x2).F 5 j = if j = (2 * P.I 1 + 1).toNatClampNeg then x1 * 6 + x2 else if j = (2 * P.I 1).toNatClampNeg then x0 * 6 + x2 else P.F 5 j := by
  unfold zadd
  rw [zsetI_F, zset27, zset27, zset_ne (by decide), zset_ne (by decide), zset_ne (by decide)]
theorem zaddM_0 {P : ZS} {x0 x1 x2 : Int32} (j : Nat) : (zaddM P x0 x1 x2).F 0 j = if j = (P.I 2).toNatClampNeg then x0 else P.F 0 j := by
  unfold zaddM
  rw [zsetI_F, zset_ne (by decide), zset_ne (by decide), zset27]
theorem zaddM_1 {P : ZS} {x0 x1 x2 : Int32} (j : Nat) : (zaddM P x0 x1 x2).F 1 j = if j = (P.I 2).toNatClampNeg then x1 else P.F 1 j := by
  unfold zaddM
  rw [zsetI_F, zset_ne (by decide), zset27, zset_ne (by decide)]
theorem zaddM_2 {P : ZS} {x0 x1 x2 : Int32} (j : Nat) : (zaddM P x0 x1 x2).F 2 j = if j = (P.I 2).toNatClampNeg then x2 else P.F 2 j := by
  unfold zaddM
  rw [zsetI_F, zset27, zset_ne (by decide), zset_ne (by decide)]
theorem zadd_I {P : ZS} {x0 x1 x2 : Int32} : (zadd P x0 x1 x2).I 0 = P.I 0 ∧ (zadd P x0 x1 x2).I 1 = P.I 1 + 1 ∧ (zadd P x0 x1 x2).I 2 = P.I 2 := ⟨rfl, rfl, rfl⟩
theorem zaddM_I {P : ZS} {x0 x1 x2 : Int32} : (zaddM P x0 x1 x2).I 0 = P.I 0 ∧ (zaddM P x0 x1 x2).I 1 = P.I 1 ∧ (zaddM P x0 x1 x2).I 2 = P.I 2 + 1 := ⟨rfl, rfl, rfl⟩
set_option maxHeartbeats 4000000 in
set_option maxRecDepth 100000 in
theorem zadd_iv {P P' : ZS} {x0 x1 x2 : Int32} (h : zIv P P') (d : P.I 2 = 0) (hl : (P.I 1).toInt < 60) (a0 : 0 ≤ x0.toInt ∧ x0.toInt < (P.I 0).toInt) (a1 : 0 ≤ x1.toInt ∧ x1.toInt < (P.I 0).toInt) (a2 : zr 0 5 x2) (hne : ¬ x0 = x1) (k1 : cok (zadd P x0 x1 x2)) (k2 : mok (zaddM P' x0 x1 x2)) : zIv (zadd P x0 x1 x2) (zaddM P' x0 x1 x2) := by
  obtain ⟨hc, hm, hr, hs, hm2, ⟨nb, nl, hp, hc0⟩, hq⟩ := h
  obtain ⟨r1, r2, r3, r4, r5, r6, r7⟩ := hr
  obtain ⟨hB, hb, hI, hn, hg, hL⟩ := hp
  have lnl : nl < 60 := by rw [hI, nI_toInt (by omega)] at hl; omega
  have cl : (P.I 1).toNatClampNeg = nl := by rw [hI, nI_clamp (by omega)]
  have z2 : (2 : Int32) = nI 2 := by decide
  have e2 : 2 * P.I 1 = nI (2 * nl) := by rw [hI, z2, nI_mul]
  have c2 : (2 * P.I 1).toNatClampNeg = 2 * nl := by rw [e2, nI_clamp (by omega)]
  have c3 : (2 * P.I 1 + 1).toNatClampNeg = 2 * nl + 1 := by rw [e2, nI_1, nI_clamp (by omega)]
  have bnb : (P.I 0).toInt = nb := by rw [hB, nI_toInt (by omega)]
  have q0 : zr 0 47 x0 := ⟨a0.1, by omega⟩
  have q1 : zr 0 47 x1 := ⟨a1.1, by omega⟩
  have t0 := ztn q0 (by decide)
  have t1 := ztn q1 (by decide)
  have F0 : ∀ j, (zadd P x0 x1 x2).F 0 j = if j = nl then x0 else P.F 0 j := fun j => by rw [zadd_0, cl]
  have F1 : ∀ j, (zadd P x0 x1 x2).F 1 j = if j = nl then x1 else P.F 1 j := fun j => by rw [zadd_1, cl]
  have F2 : ∀ j, (zadd P x0 x1 x2).F 2 j = if j = nl then x2 else P.F 2 j := fun j => by rw [zadd_2, cl]
  have F5 : ∀ j, (zadd P x0 x1 x2).F 5 j = if j = 2 * nl + 1 then x1 * 6 + x2 else if j = 2 * nl then x0 * 6 + x2 else P.F 5 j := fun j => by rw [zadd_5, c2, c3]
  have F3 : (zadd P x0 x1 x2).F 3 = P.F 3 := zadd_F (by decide) (by decide) (by decide) (by decide)
  have F4 : (zadd P x0 x1 x2).F 4 = P.F 4 := zadd_F (by decide) (by decide) (by decide) (by decide)
  have F6 : (zadd P x0 x1 x2).F 6 = P.F 6 := zadd_F (by decide) (by decide) (by decide) (by decide)
  have F7 : (zadd P x0 x1 x2).F 7 = P.F 7 := zadd_F (by decide) (by decide) (by decide) (by decide)
  have F8 : (zadd P x0 x1 x2).F 8 = P.F 8 := zadd_F (by decide) (by decide) (by decide) (by decide)
  obtain ⟨i0, i1, i2⟩ := zadd_I (P := P) (x0 := x0) (x1 := x1) (x2 := x2)
  obtain ⟨j0, j1, j2⟩ := zaddM_I (P := P') (x0 := x0) (x1 := x1) (x2 := x2)
  have I1 : (zadd P x0 x1 x2).I 1 = nI (nl + 1) := by rw [i1, hI, nI_1]
  have cl' : (P'.I 2).toNatClampNeg = nl := by rw [r2]; exact cl
  have G0 : ∀ j, (zaddM P' x0 x1 x2).F 0 j = (zadd P x0 x1 x2).F 0 j := fun j => by rw [zaddM_0, F0, cl', r3]
  have G1 : ∀ j, (zaddM P' x0 x1 x2).F 1 j = (zadd P x0 x1 x2).F 1 j := fun j => by rw [zaddM_1, F1, cl', r4]
  have G2 : ∀ j, (zaddM P' x0 x1 x2).F 2 j = (zadd P x0 x1 x2).F 2 j := fun j => by rw [zaddM_2, F2, cl', r5]
  have G3 : (zaddM P' x0 x1 x2).F 3 = (zadd P x0 x1 x2).F 3 := by rw [F3, zaddM_F (by decide) (by decide) (by decide), r6]
  have G4 : (zaddM P' x0 x1 x2).F 4 = (zadd P x0 x1 x2).F 4 := by rw [F4, zaddM_F (by decide) (by decide) (by decide), r7]
  have g0 : (zaddM P' x0 x1 x2).I 1 = (zadd P x0 x1 x2).I 0 := by rw [j1, i0, r1]
  have g1 : (zaddM P' x0 x1 x2).I 2 = (zadd P x0 x1 x2).I 1 := by rw [j2, i1, r2]
  have g2 : (zaddM P' x0 x1 x2).I 0 = (zadd P x0 x1 x2).I 2 := by rw [j0, i2, hs]
  have B1 : (zadd P x0 x1 x2).I 0 = nI nb := by rw [i0, hB]
  have D1 : (zadd P x0 x1 x2).I 2 = 0 := by rw [i2, d]
  generalize zadd P x0 x1 x2 = N at F0 F1 F2 F3 F4 F5 F6 F7 F8 I1 G0 G1 G2 G3 G4 g0 g1 g2 B1 D1 k1 ⊢
  generalize zaddM P' x0 x1 x2 = N' at G0 G1 G2 G3 G4 g0 g1 g2 k2 ⊢
  refine ⟨k1, k2, ⟨g0, g1, funext G0, funext G1, funext G2, G3, G4⟩, g2, fun j => by rw [F3, F4]; exact hm2 j, ⟨nb, nl + 1, ⟨B1, hb, I1, by omega, fun j => ?_, fun l hl => ?_⟩, fun q hq6 hne8 => ?_⟩, Or.inl ⟨D1, ?_⟩⟩
  · rw [F2 j]
    by_cases e : j = nl
    · rw [if_pos e]; exact a2
    · rw [if_neg e]; exact hg j
  · rw [F0 l, F1 l]
    by_cases e : l = nl
    · rw [if_pos e, if_pos e]
      exact ⟨by omega, by omega, hne, q0, q1⟩
    · rw [if_neg e, if_neg e]
      exact hL l (by omega)
  · rw [F8] at hne8
    obtain ⟨l, w, w2⟩ := hc0 q hq6 hne8
    exact ⟨l, by omega, by rw [F2 l, if_neg (by omega)]; exact w2⟩
  · rcases hq with ⟨_, p1, p2, p3, p4⟩ | ⟨hq, _⟩
    · refine ⟨by rw [F7]; exact p1, by rw [F6]; exact p2, fun q hq2 hq3 => ?_, fun j => ?_⟩
      · have hq1 := hq2.1
        have tq := ztn hq2 (by decide)
        rw [I1, nI_toInt (by omega)] at hq3
        have zz : (2 : Int32).toInt = 2 := by decide
        have ed : (q / 2).toInt = q.toInt / 2 := by
          have hne2 : (2 : Int32) ≠ -1 := by decide
          first
            | rw [Int32.toInt_div_of_ne_right (Or.inr hne2)]
            | rw [Int32.toInt_div_of_ne_right _ _ hne2]
          rw [zz, Int.tdiv_eq_ediv_of_nonneg (by omega)]
        have td := ztn (x := q / 2) (a := 0) (b := 1000) ⟨by omega, by omega⟩ (by decide)
        rw [F5, F2]
        by_cases e1 : q.toNatClampNeg = 2 * nl + 1
        · rw [if_pos e1, if_pos (by omega)]
          exact zrem6 q1 a2
        · rw [if_neg e1]
          by_cases e9 : q.toNatClampNeg = 2 * nl
          · rw [if_pos e9, if_pos (by omega)]
            exact zrem6 q0 a2
          · rw [if_neg e9, if_neg (by omega)]
            exact p3 q hq2 (by rw [hI, nI_toInt (by omega)]; omega)
      · rw [F4]
        rcases p4 j with w | w
        · exact Or.inl w
        · refine Or.inr ?_
          rw [I1, nI_toInt (by omega)]
          rw [hI, nI_toInt (by omega)] at w
          omega
    · exact absurd d hq
theorem zlink {P P' : ZS} (h : zIv P P') (S S' : ZS) (x0 x1 x2 : Int32) : (∃ k S1, fRG_link P S x0 x1 x2 = .error k ∧ fMO_link P' S' x0 x1 x2 = (P', S1, 0)) ∨
    (∃ S1, fRG_link P S x0 x1 x2 = .ok (zadd P x0 x1 x2, S, P.I 1) ∧ fMO_link P' S' x0 x1 x2 = (zaddM P' x0 x1 x2, S1, P.I 1) ∧ (cok (zadd P x0 x1 x2) → mok (zaddM P' x0 x1 x2) → zIv (zadd P x0 x1 x2) (zaddM P' x0 x1 x2))) := by
  have h0 := h
  obtain ⟨hc, hm, hr, hs, hm2, -, -⟩ := h
  have r2 := hr.2.1
  have n10 : ¬ (1 : Int32) = 0 := by decide
  have z60 : (60 : Int32).toInt = 60 := by decide
  simp only [fRG_link, fMO_link, fMO_link_33, zl]
  rcases zqB hr S S' x0 with ⟨m1, c1⟩ | ⟨m1, c1, a0⟩
  · obtain ⟨S1, e⟩ := zln0 P' S' x0 x1 x2
    rw [m1, c1, if_pos rfl, e]
    exact Or.inl ⟨1, S1, rfl, rfl⟩
  · rw [m1, c1, if_neg n10]
    rcases zqB hr S S' x1 with ⟨m2, c2⟩ | ⟨m2, c2, a1⟩
    · obtain ⟨S1, e⟩ := zln0 P' S' x0 x1 x2
      rw [m2, c2, if_pos rfl, e]
      exact Or.inl ⟨1, S1, rfl, rfl⟩
    · rw [m2, c2, if_neg n10]
      rcases zqR P S P' S' x2 with ⟨m3, c3⟩ | ⟨m3, c3, a2⟩
      · obtain ⟨S1, e⟩ := zln0 P' S' x0 x1 x2
        rw [m3, c3, if_pos rfl, e]
        exact Or.inl ⟨1, S1, rfl, rfl⟩
      · rw [m3, c3, if_neg n10]
        by_cases ne : x0 = x1
        · obtain ⟨S1, e⟩ := zln0 P' S' x0 x1 x2
          rw [if_pos ne, if_pos ne, e]
          exact Or.inl ⟨1, S1, rfl, rfl⟩
        · rw [if_neg ne, if_neg ne]
          by_cases d : P.I 2 = 0
          · have en : fRG_requireNotStarted P S = .ok () := by
              simp only [fRG_requireNotStarted, zl]
              rw [if_pos d]
            by_cases f : P.I 1 < 60
            · have f' : ¬ 60 ≤ P'.I 2 := fun q => by
                rw [r2] at q
                have := Int32.le_iff_toInt_le.mp q
                have := Int32.lt_iff_toInt_lt.mp f
                omega
              have lt := Int32.lt_iff_toInt_lt.mp f
              rw [zln1 (by rw [hs]; exact d) f', en]
              refine Or.inr ⟨_, ?_, by rw [r2], fun k1 k2 => zadd_iv h0 d (by omega) a0 a1 a2 ne k1 k2⟩
              show (if P.I 1 < 60 then Except.ok (zl3 (fPL_addLink P S x0 x1 x2) (fun P17 S16 k15 => (P17, S16, k15))) else .error 2) = _
              rw [if_pos f, zadd_eq]
              rfl
            · obtain ⟨S1, e⟩ := zln2 (P := P') (S := S') (x0 := x0) (x1 := x1) (x2 := x2) (Or.inr (by rw [r2]; exact znlt f))
              rw [e, en]
              refine Or.inl ⟨2, S1, ?_, rfl⟩
              show (if P.I 1 < 60 then Except.ok (zl3 (fPL_addLink P S x0 x1 x2) (fun P17 S16 k15 => (P17, S16, k15))) else .error 2) = _
              rw [if_neg f]
          · have en : fRG_requireNotStarted P S = .error 2 := by
              simp only [fRG_requireNotStarted, zl]
              rw [if_neg d]
            obtain ⟨S1, e⟩ := zln2 (P := P') (S := S') (x0 := x0) (x1 := x1) (x2 := x2) (Or.inl (by rw [hs]; exact d))
            rw [e, en]
            exact Or.inl ⟨2, S1, rfl, rfl⟩
