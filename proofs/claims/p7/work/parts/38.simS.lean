
/-- nothing changed the holds, unless it says so -/
def zhc (S T : ZS) : Prop := T.I 11 = 0 → (S.I 11 = 0 ∧ T.F 14 = S.F 14)
theorem zhc.rf {S : ZS} : zhc S S := fun h => ⟨h, rfl⟩
theorem zhc.t {S X Y : ZS} (h : zhc S X) (h2 : zhc X Y) : zhc S Y := fun e => ⟨(h (h2 e).1).1, (h2 e).2.trans (h (h2 e).1).2⟩
theorem zhc.fr {ws fs : List Nat} {S X Y : ZS} (h : zhc S X) (h2 : zfr 28 ws fs X Y) (m : min 14 28 ∉ fs) (m2 : 11 ∉ ws) : zhc S Y := h.t (fun e => ⟨by rw [← h2.1 11 m2]; exact e, h2.2 14 m⟩)
theorem zhc.I {S X : ZS} {t : Nat} {v : Int32} (h : zhc S X) (m : 11 ≠ t) : zhc S (X.setI t v) := h.t (fun e => ⟨by
  have e2 : (if 11 = t then v else X.I 11) = 0 := e
  rw [if_neg m] at e2
  exact e2, rfl⟩)
theorem zhc.R {S X : ZS} {k : Nat} {f : Nat → Int32} (h : zhc S X) (m : 14 ≠ k) : zhc S (X.row k f) := h.t (fun e => ⟨e, ZS.row_ne X f m⟩)
theorem zhc.F {S X : ZS} {k i : Nat} {v : Int32} (h : zhc S X) (m : 14 ≠ k) : zhc S (X.setF k i v) := h.R m
def zhcA (S : ZS) (y : ZS) : Prop := zhc S y
def zhcB (S : ZS) (y : ZS × Int32) : Prop := zhc S y.1
def zhcC (S : ZS) (y : ZS × ZS × Int32) : Prop := zhc S y.2.1
def zhcD (S : ZS) (y : ZS × ZS) : Prop := zhc S y.2
theorem zu_s {β : Type} {Z : β → Prop} {S v : ZS} {f : ZS → β} (hv : zhc S v) (h : ∀ x, zhc S x → Z (f x)) : Z (zl v f) := h v hv
theorem zu_2 {β : Type} {Z : β → Prop} {S : ZS} {v : ZS × Int32} {f : ZS → Int32 → β} (hv : zhc S v.1) (h : ∀ x k, zhc S x → Z (f x k)) : Z (zl2 v f) := h _ _ hv
theorem zu_d {β : Type} {Z : β → Prop} {S : ZS} {v : ZS × ZS} {f : ZS → ZS → β} (hv : zhc S v.2) (h : ∀ p x, zhc S x → Z (f p x)) : Z (zl2 v f) := h _ _ hv
theorem zu_3 {β : Type} {Z : β → Prop} {S : ZS} {v : ZS × ZS × Int32} {f : ZS → ZS → Int32 → β} (hv : zhc S v.2.1) (h : ∀ p x k, zhc S x → Z (f p x k)) : Z (zl3 v f) := h _ _ _ hv
theorem hc_fPR_setHolds (P S : ZS) (x v : Int32) : zhcA S (fPR_setHolds P S x v) := by
  unfold fPR_setHolds
  refine zq_l (fun k1 => ?_)
  refine zq_if zhc.rf ?_
  intro e
  exact absurd (show (1 : Int32) = 0 from e) (by decide)
theorem hc_fPR_endHold (P S : ZS) (x0 : Int32) (x1 : Int32) : zhcA S (fPR_endHold P S x0 x1) := by
  unfold fPR_endHold
  have hS : zhc S S := zhc.rf
  refine zq_l (fun k1 => ?_)
  refine zq_l (fun k2 => ?_)
  refine zq_l (fun k3 => ?_)
  refine zq_l (fun k4 => ?_)
  refine zu_s (hS.t (hc_fPR_setHolds _ _ _ _)) (fun S6 hS6 => ?_)
  refine zq_l (fun k8 => ?_)
  refine zq_l (fun k9 => ?_)
  refine zq_l (fun k10 => ?_)
  refine zq_l (fun k11 => ?_)
  refine zu_s (hS6.F (by decide)) (fun S12 hS12 => ?_)
  refine zq_l (fun k14 => ?_)
  refine zq_l (fun k15 => ?_)
  refine zu_s (hS12.I (by decide)) (fun S16 hS16 => ?_)
  exact hS16
theorem hc_fPR_endCommand (P S : ZS) (x0 : Int32) : zhcB S (fPR_endCommand P S x0) := by
  unfold fPR_endCommand
  have hS : zhc S S := zhc.rf
  refine zq_l (fun k2 => ?_)
  refine zq_if ?_ ?_
  · skip
    exact hS
  · skip
    refine zq_l (fun k3 => ?_)
    refine zq_l (fun k4 => ?_)
    refine zu_s (hS.t (hc_fPR_endHold _ _ _ _)) (fun S6 hS6 => ?_)
    exact hS6
theorem hc_fPR_endOwnerHold (P S : ZS) (x0 : Int32) : zhcA S (fPR_endOwnerHold P S x0) := by
  unfold fPR_endOwnerHold
  have hS : zhc S S := zhc.rf
  refine zq_l (fun k2 => ?_)
  refine zq_if ?_ ?_
  · skip
    exact hS
  · skip
    refine zq_l (fun k3 => ?_)
    refine zq_l (fun k4 => ?_)
    refine zq_l (fun k5 => ?_)
    refine zq_l (fun k6 => ?_)
    refine zu_s (hS.t (hc_fPR_setHolds _ _ _ _)) (fun S8 hS8 => ?_)
    refine zq_l (fun k10 => ?_)
    refine zu_s (hS8.F (by decide)) (fun S11 hS11 => ?_)
    exact hS11
theorem hc_fPR_beginHold (P S : ZS) (x0 : Int32) (x1 : Int32) : zhcA S (fPR_beginHold P S x0 x1) := by
  unfold fPR_beginHold
  have hS : zhc S S := zhc.rf
  refine zq_l (fun k1 => ?_)
  refine zq_l (fun k2 => ?_)
  refine zu_s (hS.t (hc_fPR_setHolds _ _ _ _)) (fun S4 hS4 => ?_)
  refine zq_l (fun k6 => ?_)
  refine zu_s (hS4.t (hc_fPR_endOwnerHold _ _ _)) (fun S8 hS8 => ?_)
  refine zq_l (fun k10 => ?_)
  refine zq_l (fun k11 => ?_)
  refine zu_s (hS8.I (by decide)) (fun S12 hS12 => ?_)
  exact hS12
theorem hc_fPR_endWaiting_42 (P : ZS) (rc4 : ZS → Int32 → Int32 → (ZS)) (S_42 : ZS) (x42_1 : Int32) (x42_2 : Int32) (hrc4 : ∀ (a0 : ZS) (a1 : Int32) (a2 : Int32), zhcA a0 (rc4 a0 a1 a2)) : zhcA S_42 (fPR_endWaiting_42 P rc4 S_42 x42_1 x42_2) := by
  unfold fPR_endWaiting_42
  have hS_42 : zhc S_42 S_42 := zhc.rf
  refine zq_l (fun k1 => ?_)
  exact zhc.t hS_42 (hrc4 _ _ _)
theorem hc_fPR_endWaiting_4 (P : ZS) (rc4 : ZS → Int32 → Int32 → (ZS)) (S_4 : ZS) (x4_1 : Int32) (x4_2 : Int32) (hrc4 : ∀ (a0 : ZS) (a1 : Int32) (a2 : Int32), zhcA a0 (rc4 a0 a1 a2)) : zhcA S_4 (fPR_endWaiting_4 P rc4 S_4 x4_1 x4_2) := by
  unfold fPR_endWaiting_4
  have hS_4 : zhc S_4 S_4 := zhc.rf
  refine zq_l (fun k2 => ?_)
  refine zq_l (fun k3 => ?_)
  refine zq_if ?_ ?_
  · skip
    exact hS_4
  · skip
    refine zq_l (fun k4 => ?_)
    refine zq_if ?_ ?_
    · skip
      exact zhc.t hS_4 (hc_fPR_endWaiting_42 _ rc4 _ _ _ hrc4)
    · skip
      refine zq_l (fun k5 => ?_)
      refine zq_l (fun k6 => ?_)
      refine zu_s (hS_4.t (hc_fPR_setHolds _ _ _ _)) (fun S8 hS8 => ?_)
      exact zhc.t hS8 (hc_fPR_endWaiting_42 _ rc4 _ _ _ hrc4)
theorem hz_fPR_endWaiting_4 (P : ZS) : ∀ (n : Nat) (S_4 : ZS) (x4_1 : Int32) (x4_2 : Int32), zhcA S_4 (zfix (fun S9 _ _ => S9) (fPR_endWaiting_4 P) n S_4 x4_1 x4_2) := by
  intro n
  induction n with
  | zero => intro S_4 x4_1 x4_2; rw [zfix_0]; exact zhc.rf
  | succ n ih => intro S_4 x4_1 x4_2; rw [zfix_s]; exact hc_fPR_endWaiting_4 P _ _ _ _  ih
theorem hc_fPR_endWaiting (P S : ZS) (x0 : Int32) : zhcA S (fPR_endWaiting P S x0) := by
  unfold fPR_endWaiting
  have hS : zhc S S := zhc.rf
  refine zq_l (fun k10 => ?_)
  exact zhc.t hS (hz_fPR_endWaiting_4 P  577 _ _ _)
theorem hc_fPR_takeHold (P S : ZS) (x0 : Int32) : zhcA S (fPR_takeHold P S x0) := by
  unfold fPR_takeHold
  have hS : zhc S S := zhc.rf
  refine zq_l (fun k1 => ?_)
  refine zq_l (fun k2 => ?_)
  refine zq_l (fun k3 => ?_)
  refine zu_s (hS.t (hc_fPR_setHolds _ _ _ _)) (fun S5 hS5 => ?_)
  refine zq_l (fun k7 => ?_)
  refine zq_l (fun k8 => ?_)
  refine zu_s (hS5.F (by decide)) (fun S9 hS9 => ?_)
  refine zq_l (fun k11 => ?_)
  refine zq_l (fun k12 => ?_)
  refine zq_l (fun k13 => ?_)
  refine zu_s (hS9.fr (q_fPR_takeNews _ _ _ _ _) (by decide) (by decide)) (fun S15 hS15 => ?_)
  exact hS15
theorem hc_fPR_takeAllHolds_26 (P : ZS) (rc2 : ZS → Int32 → (ZS)) (S_26 : ZS) (x26_1 : Int32) (hrc2 : ∀ (a0 : ZS) (a1 : Int32), zhcA a0 (rc2 a0 a1)) : zhcA S_26 (fPR_takeAllHolds_26 P rc2 S_26 x26_1) := by
  unfold fPR_takeAllHolds_26
  have hS_26 : zhc S_26 S_26 := zhc.rf
  refine zq_l (fun k1 => ?_)
  exact zhc.t hS_26 (hrc2 _ _)
theorem hc_fPR_takeAllHolds_2 (P : ZS) (rc2 : ZS → Int32 → (ZS)) (S_2 : ZS) (x2_1 : Int32) (hrc2 : ∀ (a0 : ZS) (a1 : Int32), zhcA a0 (rc2 a0 a1)) : zhcA S_2 (fPR_takeAllHolds_2 P rc2 S_2 x2_1) := by
  unfold fPR_takeAllHolds_2
  have hS_2 : zhc S_2 S_2 := zhc.rf
  refine zq_if ?_ ?_
  · skip
    exact hS_2
  · skip
    refine zq_l (fun k2 => ?_)
    refine zq_if ?_ ?_
    · skip
      exact zhc.t hS_2 (hc_fPR_takeAllHolds_26 _ rc2 _ _ hrc2)
    · skip
      refine zu_s (hS_2.t (hc_fPR_takeHold _ _ _)) (fun S4 hS4 => ?_)
      exact zhc.t hS4 (hc_fPR_takeAllHolds_26 _ rc2 _ _ hrc2)
theorem hz_fPR_takeAllHolds_2 (P : ZS) : ∀ (n : Nat) (S_2 : ZS) (x2_1 : Int32), zhcA S_2 (zfix (fun S9 _ => S9) (fPR_takeAllHolds_2 P) n S_2 x2_1) := by
  intro n
  induction n with
  | zero => intro S_2 x2_1; rw [zfix_0]; exact zhc.rf
  | succ n ih => intro S_2 x2_1; rw [zfix_s]; exact hc_fPR_takeAllHolds_2 P _ _ _  ih
theorem hc_fPR_takeAllHolds (P S : ZS) : zhcA S (fPR_takeAllHolds P S) := by
  unfold fPR_takeAllHolds
  have hS : zhc S S := zhc.rf
  exact zhc.t hS (hz_fPR_takeAllHolds_2 P  7 _ _)
theorem hc_fPR_breakLink_14 (P : ZS) (rc14 : ZS → Int32 → Int32 → (ZS)) (S_14 : ZS) (x14_1 : Int32) (x14_2 : Int32) (hrc14 : ∀ (a0 : ZS) (a1 : Int32) (a2 : Int32), zhcA a0 (rc14 a0 a1 a2)) : zhcA S_14 (fPR_breakLink_14 P rc14 S_14 x14_1 x14_2) := by
  unfold fPR_breakLink_14
  have hS_14 : zhc S_14 S_14 := zhc.rf
  refine zq_l (fun k1 => ?_)
  refine zq_l (fun k2 => ?_)
  refine zq_if ?_ ?_
  · skip
    exact hS_14
  · skip
    refine zq_l (fun k3 => ?_)
    refine zq_l (fun k4 => ?_)
    refine zu_s (hS_14.t (hc_fPR_setHolds _ _ _ _)) (fun S6 hS6 => ?_)
    refine zu_s (hS6.t (hc_fPR_beginHold _ _ _ _)) (fun S9 hS9 => ?_)
    refine zq_l (fun k11 => ?_)
    refine zq_l (fun k12 => ?_)
    refine zu_s (hS9.fr (q_fPR_takeNews _ _ _ _ _) (by decide) (by decide)) (fun S14 hS14 => ?_)
    refine zq_l (fun k16 => ?_)
    exact zhc.t hS14 (hrc14 _ _ _)
theorem hz_fPR_breakLink_14 (P : ZS) : ∀ (n : Nat) (S_14 : ZS) (x14_1 : Int32) (x14_2 : Int32), zhcA S_14 (zfix (fun S9 _ _ => S9) (fPR_breakLink_14 P) n S_14 x14_1 x14_2) := by
  intro n
  induction n with
  | zero => intro S_14 x14_1 x14_2; rw [zfix_0]; exact zhc.rf
  | succ n ih => intro S_14 x14_1 x14_2; rw [zfix_s]; exact hc_fPR_breakLink_14 P _ _ _ _  ih
theorem hc_fPR_breakLink (P S : ZS) (x0 : Int32) : zhcA S (fPR_breakLink P S x0) := by
  unfold fPR_breakLink
  have hS : zhc S S := zhc.rf
  refine zq_l (fun k17 => ?_)
  refine zq_l (fun k18 => ?_)
  refine zu_s (hS.F (by decide)) (fun S19 hS19 => ?_)
  refine zq_l (fun k21 => ?_)
  exact zhc.t hS19 (hz_fPR_breakLink_14 P  121 _ _ _)
theorem hc_fPR_mendLink (P S : ZS) (x0 : Int32) : zhcA S (fPR_mendLink P S x0) := by
  unfold fPR_mendLink
  have hS : zhc S S := zhc.rf
  refine zq_l (fun k1 => ?_)
  refine zu_s (hS.t (hc_fPR_endHold _ _ _ _)) (fun S3 hS3 => ?_)
  refine zq_l (fun k5 => ?_)
  refine zq_l (fun k6 => ?_)
  refine zu_s (hS3.t (hc_fPR_endHold _ _ _ _)) (fun S8 hS8 => ?_)
  exact hS8
theorem hc_fPR_giveCommand (P S : ZS) (x0 : Int32) (x1 : Int32) : zhcB S (fPR_giveCommand P S x0 x1) := by
  unfold fPR_giveCommand
  have hS : zhc S S := zhc.rf
  refine zq_l (fun k1 => ?_)
  refine zq_l (fun k2 => ?_)
  refine zq_if ?_ ?_
  · skip
    refine zq_l (fun k3 => ?_)
    refine zq_l (fun k4 => ?_)
    refine zu_2 (hS.t (hc_fPR_endCommand _ _ _)) (fun S7 k6 hS7 => ?_)
    refine zu_s (hS7.t (hc_fPR_beginHold _ _ _ _)) (fun S10 hS10 => ?_)
    refine zq_l (fun k12 => ?_)
    refine zq_l (fun k13 => ?_)
    refine zu_s (hS10.F (by decide)) (fun S14 hS14 => ?_)
    refine zq_l (fun k16 => ?_)
    refine zq_l (fun k17 => ?_)
    refine zu_s (hS14.fr (q_fPR_takeNews _ _ _ _ _) (by decide) (by decide)) (fun S19 hS19 => ?_)
    exact hS19
  · skip
    exact hS
theorem hc_fPR_hearOfBlock_80 (P : ZS) (S_80 : ZS) (x80_4 : Int32) : zhcA S_80 (fPR_hearOfBlock_80 P S_80 x80_4) := by
  unfold fPR_hearOfBlock_80
  have hS_80 : zhc S_80 S_80 := zhc.rf
  refine zq_l (fun k1 => ?_)
  refine zq_l (fun k2 => ?_)
  refine zu_s (hS_80.t (hc_fPR_endHold _ _ _ _)) (fun S4 hS4 => ?_)
  exact hS4
theorem hc_fPR_hearOfBlock_59 (P : ZS) (S_59 : ZS) (x59_1 : Int32) (x59_2 : Int32) (x59_3 : Int32) (x59_4 : Int32) (x59_5 : Int32) (y59_0 : Int32) : zhcA S_59 (fPR_hearOfBlock_59 P S_59 x59_1 x59_2 x59_3 x59_4 x59_5 y59_0) := by
  unfold fPR_hearOfBlock_59
  have hS_59 : zhc S_59 S_59 := zhc.rf
  refine zq_if ?_ ?_
  · skip
    refine zq_if ?_ ?_
    · skip
      refine zq_l (fun k6 => ?_)
      refine zq_if ?_ ?_
      · skip
        exact hS_59
      · skip
        exact zhc.t hS_59 (hc_fPR_hearOfBlock_80 _ _ _ )
    · skip
      exact hS_59
  · skip
    exact zhc.t hS_59 (hc_fPR_hearOfBlock_80 _ _ _ )
theorem hc_fPR_hearOfBlock_58 (P : ZS) (S_58 : ZS) (x58_1 : Int32) (x58_2 : Int32) (x58_3 : Int32) (x58_4 : Int32) (x58_5 : Int32) : zhcA S_58 (fPR_hearOfBlock_58 P S_58 x58_1 x58_2 x58_3 x58_4 x58_5) := by
  unfold fPR_hearOfBlock_58
  have hS_58 : zhc S_58 S_58 := zhc.rf
  exact zhc.t hS_58 (hc_fPR_hearOfBlock_59 _ _ _ _ _ _ _ _ )
theorem hc_fPR_hearOfBlock_41 (P : ZS) (S_41 : ZS) (x41_1 : Int32) (x41_2 : Int32) (x41_3 : Int32) (x41_4 : Int32) (y41_0 : Int32) : zhcA S_41 (fPR_hearOfBlock_41 P S_41 x41_1 x41_2 x41_3 x41_4 y41_0) := by
  unfold fPR_hearOfBlock_41
  have hS_41 : zhc S_41 S_41 := zhc.rf
  refine zq_if ?_ ?_
  · skip
    refine zq_if ?_ ?_
    · skip
      exact zhc.t hS_41 (hc_fPR_hearOfBlock_58 _ _ _ _ _ _ _ )
    · skip
      exact zhc.t hS_41 (hc_fPR_hearOfBlock_59 _ _ _ _ _ _ _ _ )
  · skip
    exact zhc.t hS_41 (hc_fPR_hearOfBlock_58 _ _ _ _ _ _ _ )
theorem hc_fPR_hearOfBlock (P S : ZS) (x0 : Int32) (x1 : Int32) (x2 : Int32) : zhcA S (fPR_hearOfBlock P S x0 x1 x2) := by
  unfold fPR_hearOfBlock
  have hS : zhc S S := zhc.rf
  refine zu_s (hS.t (hc_fPR_endOwnerHold _ _ _)) (fun S8 hS8 => ?_)
  refine zu_s (hS8.t (hc_fPR_endWaiting _ _ _)) (fun S11 hS11 => ?_)
  refine zq_l (fun k14 => ?_)
  refine zq_if ?_ ?_
  · skip
    exact hS11
  · skip
    refine zq_l (fun k15 => ?_)
    refine zq_l (fun k16 => ?_)
    refine zq_if ?_ ?_
    · skip
      exact zhc.t hS11 (hc_fPR_hearOfBlock_41 _ _ _ _ _ _ _ )
    · skip
      exact zhc.t hS11 (hc_fPR_hearOfBlock_41 _ _ _ _ _ _ _ )
theorem hc_fPR_hear_23 (P : ZS) (S_23 : ZS) (x23_1 : Int32) (x23_2 : Int32) (x23_3 : Int32) : zhcA S_23 (fPR_hear_23 P S_23 x23_1 x23_2 x23_3) := by
  unfold fPR_hear_23
  have hS_23 : zhc S_23 S_23 := zhc.rf
  refine zq_l (fun k1 => ?_)
  refine zq_if ?_ ?_
  · skip
    refine zq_if ?_ ?_
    · skip
      refine zq_l (fun k3 => ?_)
      refine zu_s (hS_23.t (hc_fPR_hearOfBlock _ _ _ _ _)) (fun S5 hS5 => ?_)
      exact hS5
    · skip
      refine zq_if ?_ ?_
      · skip
        refine zq_l (fun k8 => ?_)
        refine zu_s (hS_23.t (hc_fPR_hearOfBlock _ _ _ _ _)) (fun S10 hS10 => ?_)
        exact hS10
      · skip
        refine zq_if ?_ ?_
        · skip
          refine zq_l (fun k13 => ?_)
          refine zu_s (hS_23.t (hc_fPR_hearOfBlock _ _ _ _ _)) (fun S15 hS15 => ?_)
          exact hS15
        · skip
          refine zq_if ?_ ?_
          · skip
            refine zu_s (hS_23.fr (q_fPR_hearOfHealing _ _ _) (by decide) (by decide)) (fun S18 hS18 => ?_)
            exact hS18
          · skip
            refine zq_if ?_ ?_
            · skip
              refine zu_s (hS_23.t (hc_fPR_endWaiting _ _ _)) (fun S21 hS21 => ?_)
              exact hS21
            · skip
              exact hS_23
  · skip
    exact hS_23
theorem hc_fPR_hear (P S : ZS) (x0 : Int32) (x1 : Int32) : zhcA S (fPR_hear P S x0 x1) := by
  unfold fPR_hear
  have hS : zhc S S := zhc.rf
  refine zq_l (fun k24 => ?_)
  refine zq_if ?_ ?_
  · skip
    exact zhc.t hS (hc_fPR_hear_23 _ _ _ _ _ )
  · skip
    refine zq_l (fun k26 => ?_)
    refine zq_l (fun k28 => ?_)
    refine zu_s (hS.fr (q_fPR_takeNews _ _ _ _ _) (by decide) (by decide)) (fun S30 hS30 => ?_)
    exact zhc.t hS30 (hc_fPR_hear_23 _ _ _ _ _ )
theorem hc_fPR_arrive (P S : ZS) (x0 : Int32) (x1 : Int32) : zhcA S (fPR_arrive P S x0 x1) := by
  unfold fPR_arrive
  have hS : zhc S S := zhc.rf
  refine zq_l (fun k2 => ?_)
  refine zq_if ?_ ?_
  · skip
    refine zq_l (fun k3 => ?_)
    refine zu_2 (hS.fr (q_fWI_losesOne _ _ _) (by decide) (by decide)) (fun S6 k5 hS6 => ?_)
    refine zq_if ?_ ?_
    · skip
      refine zq_l (fun k8 => ?_)
      refine zq_l (fun k10 => ?_)
      refine zq_l (fun k11 => ?_)
      refine zq_if ?_ ?_
      · skip
        exact hS6
      · skip
        refine zu_s (hS6.t (hc_fPR_hear _ _ _ _)) (fun S13 hS13 => ?_)
        refine zq_l (fun k16 => ?_)
        refine zq_if ?_ ?_
        · skip
          exact hS13
        · skip
          refine zq_l (fun k18 => ?_)
          refine zq_if ?_ ?_
          · skip
            refine zq_l (fun k19 => ?_)
            refine zu_s (hS13.fr (q_fWI_put _ _ _ _) (by decide) (by decide)) (fun S21 hS21 => ?_)
            exact hS21
          · skip
            exact hS13
    · skip
      exact hS6
  · skip
    exact hS
theorem hc_fPR_arriveAll_33 (P : ZS) (rc9 : ZS → Int32 → (ZS)) (rc33 : ZS → Int32 → Int32 → Int32 → (ZS)) (S_33 : ZS) (x33_1 : Int32) (x33_2 : Int32) (x33_3 : Int32) (hrc9 : ∀ (a0 : ZS) (a1 : Int32), zhcA a0 (rc9 a0 a1)) (hrc33 : ∀ (a0 : ZS) (a1 : Int32) (a2 : Int32) (a3 : Int32), zhcA a0 (rc33 a0 a1 a2 a3)) : zhcA S_33 (fPR_arriveAll_33 P rc9 rc33 S_33 x33_1 x33_2 x33_3) := by
  unfold fPR_arriveAll_33
  have hS_33 : zhc S_33 S_33 := zhc.rf
  refine zq_if ?_ ?_
  · skip
    refine zq_l (fun k1 => ?_)
    exact zhc.t hS_33 (hrc9 _ _)
  · skip
    refine zq_l (fun k3 => ?_)
    refine zu_s (hS_33.t (hc_fPR_arrive _ _ _ _)) (fun S5 hS5 => ?_)
    refine zq_l (fun k7 => ?_)
    exact zhc.t hS5 (hrc33 _ _ _ _)
theorem hz_fPR_arriveAll_33 (P : ZS) (rc9 : ZS → Int32 → (ZS)) (hrc9 : ∀ (a0 : ZS) (a1 : Int32), zhcA a0 (rc9 a0 a1)) : ∀ (n : Nat) (S_33 : ZS) (x33_1 : Int32) (x33_2 : Int32) (x33_3 : Int32), zhcA S_33 (zfix (fun S9 _ _ _ => S9) (fPR_arriveAll_33 P rc9) n S_33 x33_1 x33_2 x33_3) := by
  intro n
  induction n with
  | zero => intro S_33 x33_1 x33_2 x33_3; rw [zfix_0]; exact zhc.rf
  | succ n ih => intro S_33 x33_1 x33_2 x33_3; rw [zfix_s]; exact hc_fPR_arriveAll_33 P rc9 _ _ _ _ _ hrc9 ih
theorem hc_fPR_arriveAll_9 (P : ZS) (rc9 : ZS → Int32 → (ZS)) (S_9 : ZS) (x9_1 : Int32) (hrc9 : ∀ (a0 : ZS) (a1 : Int32), zhcA a0 (rc9 a0 a1)) : zhcA S_9 (fPR_arriveAll_9 P rc9 S_9 x9_1) := by
  unfold fPR_arriveAll_9
  have hS_9 : zhc S_9 S_9 := zhc.rf
  refine zq_l (fun k8 => ?_)
  refine zq_l (fun k9 => ?_)
  refine zq_if ?_ ?_
  · skip
    exact hS_9
  · skip
    refine zq_l (fun k11 => ?_)
    exact zhc.t hS_9 (hz_fPR_arriveAll_33 P rc9 hrc9 65 _ _ _ _)
theorem hz_fPR_arriveAll_9 (P : ZS) : ∀ (n : Nat) (S_9 : ZS) (x9_1 : Int32), zhcA S_9 (zfix (fun S9 _ => S9) (fPR_arriveAll_9 P) n S_9 x9_1) := by
  intro n
  induction n with
  | zero => intro S_9 x9_1; rw [zfix_0]; exact zhc.rf
  | succ n ih => intro S_9 x9_1; rw [zfix_s]; exact hc_fPR_arriveAll_9 P _ _ _  ih
theorem hc_fPR_arriveAll (P S : ZS) : zhcA S (fPR_arriveAll P S) := by
  unfold fPR_arriveAll
  have hS : zhc S S := zhc.rf
  refine zu_s (hS.fr (q_zturnf _ _) (by decide) (by decide)) (fun S13 hS13 => ?_)
  exact zhc.t hS13 (hz_fPR_arriveAll_9 P  121 _ _)
theorem hc_fPR_runClock_46 (P : ZS) (S_46 : ZS) (y46_0 : Int32) (y46_1 : Int32) : zhcA S_46 (fPR_runClock_46 P S_46 y46_0 y46_1) := by
  unfold fPR_runClock_46
  have hS_46 : zhc S_46 S_46 := zhc.rf
  refine zu_s (hS_46.F (by decide)) (fun S1 hS1 => ?_)
  exact hS1
theorem hc_fPR_runClock (P S : ZS) (x0 : Int32) : zhcA S (fPR_runClock P S x0) := by
  unfold fPR_runClock
  have hS : zhc S S := zhc.rf
  refine zq_l (fun k3 => ?_)
  refine zq_l (fun k5 => ?_)
  refine zq_l (fun k6 => ?_)
  refine zq_if ?_ ?_
  · skip
    refine zq_l (fun k7 => ?_)
    refine zq_if ?_ ?_
    · skip
      refine zq_l (fun k16 => ?_)
      refine zq_if ?_ ?_
      · skip
        exact zhc.t hS (hc_fPR_runClock_46 _ _ _ _ )
      · skip
        exact zhc.t hS (hc_fPR_runClock_46 _ _ _ _ )
    · skip
      refine zq_l (fun k8 => ?_)
      refine zq_l (fun k9 => ?_)
      refine zu_s (hS.F (by decide)) (fun S10 hS10 => ?_)
      refine zq_l (fun k12 => ?_)
      refine zq_if ?_ ?_
      · skip
        refine zu_s (hS10.t (hc_fPR_takeHold _ _ _)) (fun S14 hS14 => ?_)
        exact hS14
      · skip
        exact hS10
  · skip
    exact hS
theorem hc_fPR_turnAll_121 (P : ZS) (rc2 : ZS → Int32 → (ZS)) (S_121 : ZS) (x121_1 : Int32) (hrc2 : ∀ (a0 : ZS) (a1 : Int32), zhcA a0 (rc2 a0 a1)) : zhcA S_121 (fPR_turnAll_121 P rc2 S_121 x121_1) := by
  unfold fPR_turnAll_121
  have hS_121 : zhc S_121 S_121 := zhc.rf
  refine zq_l (fun k1 => ?_)
  exact zhc.t hS_121 (hrc2 _ _)
theorem hc_fPR_turnAll_94 (P : ZS) (rc2 : ZS → Int32 → (ZS)) (S_94 : ZS) (x94_1 : Int32) (hrc2 : ∀ (a0 : ZS) (a1 : Int32), zhcA a0 (rc2 a0 a1)) : zhcA S_94 (fPR_turnAll_94 P rc2 S_94 x94_1) := by
  unfold fPR_turnAll_94
  have hS_94 : zhc S_94 S_94 := zhc.rf
  refine zq_l (fun k2 => ?_)
  refine zq_l (fun k3 => ?_)
  refine zu_s (hS_94.F (by decide)) (fun S4 hS4 => ?_)
  refine zq_l (fun k6 => ?_)
  refine zq_l (fun k8 => ?_)
  refine zq_if ?_ ?_
  · skip
    exact zhc.t hS4 (hc_fPR_turnAll_121 _ rc2 _ _ hrc2)
  · skip
    refine zu_s (hS4.fr (q_fPR_speak _ _ _) (by decide) (by decide)) (fun S10 hS10 => ?_)
    exact zhc.t hS10 (hc_fPR_turnAll_121 _ rc2 _ _ hrc2)
theorem hc_fPR_turnAll_69 (P : ZS) (rc2 : ZS → Int32 → (ZS)) (S_69 : ZS) (x69_1 : Int32) (hrc2 : ∀ (a0 : ZS) (a1 : Int32), zhcA a0 (rc2 a0 a1)) : zhcA S_69 (fPR_turnAll_69 P rc2 S_69 x69_1) := by
  unfold fPR_turnAll_69
  have hS_69 : zhc S_69 S_69 := zhc.rf
  refine zq_l (fun k12 => ?_)
  refine zq_if ?_ ?_
  · skip
    refine zq_l (fun k14 => ?_)
    refine zq_l (fun k15 => ?_)
    refine zq_if ?_ ?_
    · skip
      exact zhc.t hS_69 (hc_fPR_turnAll_94 _ rc2 _ _ hrc2)
    · skip
      refine zu_s (hS_69.t (hc_fPR_endWaiting _ _ _)) (fun S17 hS17 => ?_)
      exact zhc.t hS17 (hc_fPR_turnAll_94 _ rc2 _ _ hrc2)
  · skip
    exact zhc.t hS_69 (hc_fPR_turnAll_94 _ rc2 _ _ hrc2)
theorem hc_fPR_turnAll_53 (P : ZS) (rc2 : ZS → Int32 → (ZS)) (S_53 : ZS) (x53_1 : Int32) (hrc2 : ∀ (a0 : ZS) (a1 : Int32), zhcA a0 (rc2 a0 a1)) : zhcA S_53 (fPR_turnAll_53 P rc2 S_53 x53_1) := by
  unfold fPR_turnAll_53
  have hS_53 : zhc S_53 S_53 := zhc.rf
  refine zq_l (fun k20 => ?_)
  refine zq_if ?_ ?_
  · skip
    exact zhc.t hS_53 (hc_fPR_turnAll_69 _ rc2 _ _ hrc2)
  · skip
    refine zu_s (hS_53.t (hc_fPR_runClock _ _ _)) (fun S22 hS22 => ?_)
    exact zhc.t hS22 (hc_fPR_turnAll_69 _ rc2 _ _ hrc2)
theorem hc_fPR_turnAll_2 (P : ZS) (rc2 : ZS → Int32 → (ZS)) (S_2 : ZS) (x2_1 : Int32) (hrc2 : ∀ (a0 : ZS) (a1 : Int32), zhcA a0 (rc2 a0 a1)) : zhcA S_2 (fPR_turnAll_2 P rc2 S_2 x2_1) := by
  unfold fPR_turnAll_2
  have hS_2 : zhc S_2 S_2 := zhc.rf
  refine zq_l (fun k24 => ?_)
  refine zq_l (fun k25 => ?_)
  refine zq_if ?_ ?_
  · skip
    exact hS_2
  · skip
    refine zq_l (fun k26 => ?_)
    refine zq_l (fun k27 => ?_)
    refine zq_if ?_ ?_
    · skip
      exact zhc.t hS_2 (hc_fPR_turnAll_121 _ rc2 _ _ hrc2)
    · skip
      refine zq_l (fun k28 => ?_)
      refine zq_if ?_ ?_
      · skip
        exact zhc.t hS_2 (hc_fPR_turnAll_53 _ rc2 _ _ hrc2)
      · skip
        refine zq_l (fun k29 => ?_)
        refine zq_l (fun k30 => ?_)
        refine zu_s (hS_2.F (by decide)) (fun S31 hS31 => ?_)
        exact zhc.t hS31 (hc_fPR_turnAll_53 _ rc2 _ _ hrc2)
theorem hz_fPR_turnAll_2 (P : ZS) : ∀ (n : Nat) (S_2 : ZS) (x2_1 : Int32), zhcA S_2 (zfix (fun S9 _ => S9) (fPR_turnAll_2 P) n S_2 x2_1) := by
  intro n
  induction n with
  | zero => intro S_2 x2_1; rw [zfix_0]; exact zhc.rf
  | succ n ih => intro S_2 x2_1; rw [zfix_s]; exact hc_fPR_turnAll_2 P _ _ _  ih
theorem hc_fPR_turnAll (P S : ZS) : zhcA S (fPR_turnAll P S) := by
  unfold fPR_turnAll
  have hS : zhc S S := zhc.rf
  exact zhc.t hS (hz_fPR_turnAll_2 P  289 _ _)

/-! the start: a place has two ports at most -/
theorem zffd {nb nl : Nat} : ∀ (n r : Nat) (P S : ZS) (f : Int32), zPn P nb nl → r ≤ 6 → 6 - r < n → (zfix (fun P9 S9 _ _ => (P9, S9, 0)) fPL_firstFault_21 n P S f (nI r)).2.2 = 0 → ∀ q, r ≤ q → q < 6 → ∀ b, b < nb → zdg P (nI b) (nI q) nl ≤ 2 := by
  have z6 : (6 : Int32) = nI 6 := by decide
  intro n
  induction n with
  | zero => intro r P S f hp h1 h2; omega
  | succ n ih =>
    intro r P S f hp h1 h2 h0 q q1 q2 b hb
    rw [zfix_s] at h0
    generalize zfix (fun P9 S9 _ _ => (P9, S9, 0)) fPL_firstFault_21 n = rc at ih h0
    simp only [fPL_firstFault_21, fPL_firstFault_62, fPL_firstFault_56, zl, zl3] at h0
    rw [z6, if_neg (nI_ge (by omega) (by omega))] at h0
    have n1 : ¬ (1 + nI r : Int32) = 0 := fun e => by
      rw [Int32.add_comm, nI_1] at e
      exact nI_ne0 (by omega) (by omega) e
    by_cases k4 : fPL_hasLinks P S (nI r) = 0
    · rw [if_pos k4, nI_1] at h0
      by_cases e : q = r
      · subst e
        have : ¬ 0 < zdg P (nI b) (nI q) nl := fun w => by
          obtain ⟨l, hl, h2, -⟩ := (zdg_pos nl).mp w
          exact (zhl_iff (S := S) hp.2.2.1 hp.2.2.2.1).mpr ⟨l, hl, h2⟩ k4
        omega
      · exact ih (r + 1) P S f hp (by omega) (by omega) h0 q (by omega) q2 b hb
    · rw [if_neg k4] at h0
      by_cases k6 : (fPL_hasRightShape P S (nI r) f).2.2 = 0
      · rw [if_pos k6] at h0
        exact absurd h0 n1
      · rw [if_neg k6] at h0
        by_cases k11 : fPL_hasRightOwner (fPL_hasRightShape P S (nI r) f).1 (fPL_hasRightShape P S (nI r) f).2.1 (nI r) = 0
        · rw [if_pos k11] at h0
          exact absurd h0 n1
        · rw [if_neg k11, nI_1] at h0
          by_cases e : q = r
          · subst e
            by_cases w : zdg P (nI b) (nI q) nl ≤ 2
            · exact w
            · have e9 := (zshC (P := P) (S := S) (f := f) (r := q) hp (by omega)).2 ⟨b, hb, by omega⟩
              rw [e9] at k6
              exact absurd rfl k6
          · have k8 := zshape_P (P := P) (S := S) (x := nI r) (y := f)
            have w := ih (r + 1) _ _ 0 (zPn_k k8 hp) (by omega) (by omega) h0 q (by omega) q2 b hb
            rw [zdg_k k8] at w
            exact w
theorem zff_dg {P S : ZS} {nb nl : Nat} (hp : zPn P nb nl) (h : (fPL_firstFault P S).2.2 = 0) : ∀ b, b < nb → ∀ r, r < 6 → zdg P (nI b) (nI r) nl ≤ 2 := by
  have n7 : ¬ (7 : Int32) = 0 := by decide
  simp only [fPL_firstFault, fPL_firstFault_14, zl] at h
  split at h
  · exact absurd h n7
  · split at h
    · intro b hb r hr
      exact zffd 7 0 P S 1 hp (by omega) (by omega) h r (by omega) hr b hb
    · exact absurd h n7
theorem zsp_full {pl : Nat → Nat} {k : Nat} : ∀ x, (zct (fun q => pl q = k) x = 0 → zsp pl k x = (none, none)) ∧ (zct (fun q => pl q = k) x = 1 → ∃ a, zsp pl k x = (some a, none)) ∧ (zct (fun q => pl q = k) x ≤ 2 → ∀ q, q < x → pl q = k → (zsp pl k x).1 = some q ∨ (zsp pl k x).2 = some q)
  | 0 => ⟨fun _ => rfl, fun h => absurd h (by show ¬ 0 = 1; omega), fun _ q hq => absurd hq (Nat.not_lt_zero _)⟩
  | x + 1 => by
    obtain ⟨i0, i1, i2⟩ := zsp_full (pl := pl) (k := k) x
    by_cases c : pl x = k
    · rw [zct_1 (p := fun q => pl q = k) c]
      refine ⟨fun h => by omega, fun h => ?_, fun h q hq hp => ?_⟩
      · have e := i0 (by omega)
        exact ⟨x, by rw [zsp_0 c (by rw [e]), e]⟩
      · rcases Nat.lt_or_ge (zct (fun q => pl q = k) x) 1 with w | w
        · have e := i0 (by omega)
          rw [zsp_0 c (by rw [e])]
          by_cases eq : q = x
          · exact Or.inl (by rw [eq])
          · have := (zct_pos2 (p := fun q => pl q = k) x).mpr ⟨q, by omega, hp⟩
            omega
        · obtain ⟨a, ea⟩ := i1 (by omega)
          rw [zsp_1 c (show (zsp pl k x).1 = some a by rw [ea])]
          by_cases eq : q = x
          · exact Or.inr (by rw [eq])
          · rcases i2 (by omega) q (by omega) hp with e | e
            · rw [ea] at e; exact Or.inl e
            · rw [ea] at e; cases e
    · rw [zct_0 (p := fun q => pl q = k) c, zsp_n c]
      refine ⟨i0, i1, fun h q hq hp => i2 h q ?_ hp⟩
      by_cases eq : q = x
      · rw [eq] at hp; exact absurd hp c
      · omega
theorem zct_deg {P : ZS} {nb nl b r : Nat} (hp : zPn P nb nl) (hpl : zplace P nl) (hb : b < 48) (hr : r < 6) : ∀ l, l ≤ nl → zct (fun q => zpl P q = 6 * b + r) (2 * l) = zdg P (nI b) (nI r) l
  | 0, _ => rfl
  | l + 1, hl => by
    have ih := zct_deg hp hpl hb hr l (by omega)
    obtain ⟨hB, hb48, hL, hl60, hR, hE⟩ := hp
    obtain ⟨a1, a2, a3, a4, a5⟩ := hE l (by omega)
    obtain ⟨p1, p2⟩ := hpl l (by omega)
    have fr : zr 0 5 (P.F 2 l) := hR l
    have f1 := fr.1
    have f2 := fr.2
    have rl : (P.F 2 l).toNatClampNeg < 6 := by
      show (P.F 2 l).toInt.toNat < 6
      omega
    have e2 : P.F 2 l = nI (P.F 2 l).toNatClampNeg := znI fr
    have eA : P.F 0 l = nI (P.F 0 l).toNatClampNeg := znI a4
    have eB : P.F 1 l = nI (P.F 1 l).toNatClampNeg := znI a5
    have nAB : ¬ (P.F 0 l).toNatClampNeg = (P.F 1 l).toNatClampNeg := fun q => a3 (by rw [eA, eB, q])
    rw [show 2 * (l + 1) = 2 * l + 1 + 1 by omega]
    by_cases c0 : zpl P (2 * l) = 6 * b + r
    · have x1 : ¬ zpl P (2 * l + 1) = 6 * b + r := fun q => by omega
      rw [zct_0 (p := fun q => zpl P q = 6 * b + r) x1, zct_1 (p := fun q => zpl P q = 6 * b + r) c0, ih, zdg_1]
      · rw [e2, show (P.F 2 l).toNatClampNeg = r by omega]
      · exact Or.inl (by rw [eA, show (P.F 0 l).toNatClampNeg = b by omega])
    · by_cases c1 : zpl P (2 * l + 1) = 6 * b + r
      · rw [zct_1 (p := fun q => zpl P q = 6 * b + r) c1, zct_0 (p := fun q => zpl P q = 6 * b + r) c0, ih, zdg_1]
        · rw [e2, show (P.F 2 l).toNatClampNeg = r by omega]
        · exact Or.inr (by rw [eB, show (P.F 1 l).toNatClampNeg = b by omega])
      · rw [zct_0 (p := fun q => zpl P q = 6 * b + r) c1, zct_0 (p := fun q => zpl P q = 6 * b + r) c0, ih, zdg_0]
        rintro ⟨w1, w2⟩
        rw [e2] at w1
        have w3 := (nI_eq (by omega) (by omega)).mp w1
        rcases w2 with w | w
        · rw [eA] at w
          have := (nI_eq (by omega) (by omega)).mp w
          omega
        · rw [eB] at w
          have := (nI_eq (by omega) (by omega)).mp w
          omega
/-- ports, places and owners from the start on -/
theorem zgeo_lay {P0 P0' P2' S : ZS} {nb nl : Nat} (g0 : cok P0) (hp : zPn P0 nb nl) (hr : zRP P0 P0') (hpl : zplace P0 nl) (hpre : zPre P0) (hdg : ∀ b, b < nb → ∀ r, r < 6 → zdg P0 (nI b) (nI r) nl ≤ 2) (ho : zOwned P0) (k6 : zk 6 P0' P2') (hM : zlaidM (zpl P0) P2' nb nl nb 0) : zGeo (fPL_layPorts P0 S).1 P2' nb nl := by
  obtain ⟨hp1, hp2, hp3, hp4⟩ := hpre
  have hB := hp.1
  have hb48 := hp.2.1
  have hL := hp.2.2.1
  have hl60 := hp.2.2.2.1
  have rI : zr 0 60 (P0.I 1) := g0.2.1 1
  have rI1 := rI.1
  have rI2 := rI.2
  have lC := zlayC (S := S) g0 hL hl60 hp1
  obtain ⟨yI, yF⟩ := zlay_fr (P := P0) (S := S) rI (fun j => g0.1 5 j)
  -- the owners' ports
  have own : ∀ r : Int32, zr 0 5 r → (fPL_layPorts P0 S).1.F 6 r.toNatClampNeg = zGi P0 S r := by
    obtain ⟨P1, k1, en, e1⟩ := zlay1 g0 121 P0 S 0 zk.rf (fun j => Or.inl (hp1 j)) (by decide) (by show (0 : Int32).toInt ≤ _; rw [show (0 : Int32).toInt = 0 by decide]; omega) (by rw [show (0 : Int32).toInt = 0 by decide]; omega)
    obtain ⟨P3, k2, o1, o2, e2⟩ := zlay2 (P1 := P1) (S0 := S) 7 P1 S 0 zk.rf (fun j => Or.inl (by rw [k1.2 6 (by decide)]; exact hp2 j)) (fun r hr hx => by have := hr.1; rw [show (0 : Int32).toInt = 0 by decide] at hx; omega) (by decide) (by decide)
    intro r hr9
    have e : (fPL_layPorts P0 S).1 = P3 := by
      unfold fPL_layPorts
      rw [e1, e2]
    rw [e, o2 r hr9]
    unfold zGi
    rw [zk_hl (S := S) k1 (by decide), k1.2 3 (by decide), k1.2 4 (by decide), zk_po (S := S) k1 (by decide) (by decide)]
  generalize (fPL_layPorts P0 S).1 = P2 at lC yI yF own ⊢
  have y0 : P2.F 0 = P0.F 0 := yF 0 (by decide) (by decide)
  have y1 : P2.F 1 = P0.F 1 := yF 1 (by decide) (by decide)
  have y2 : P2.F 2 = P0.F 2 := yF 2 (by decide) (by decide)
  have y3 : P2.F 3 = P0.F 3 := yF 3 (by decide) (by decide)
  have y4 : P2.F 4 = P0.F 4 := yF 4 (by decide) (by decide)
  have y5 : P2.F 5 = P0.F 5 := yF 5 (by decide) (by decide)
  have yp : zpl P2 = zpl P0 := by
    funext q
    unfold zpl
    rw [y5]
  have hp2' : zPn P2 nb nl := by
    unfold zPn
    rw [yI, y0, y1, y2]
    exact hp
  refine ⟨hp2', ?_, ?_, fun q hq => ?_, fun k hk => ?_, fun k hk => ?_, fun q hq => ?_, fun r hr9 hl9 => ?_, fun r hr9 hl9 => ?_⟩
  · obtain ⟨b1, b2, b3, b4, b5, b6, b7⟩ := hr
    unfold zRP
    rw [k6.1, k6.2 0 (by decide), k6.2 1 (by decide), k6.2 2 (by decide), k6.2 3 (by decide), k6.2 4 (by decide), yI, y0, y1, y2, y3, y4]
    exact ⟨b1, b2, b3, b4, b5, b6, b7⟩
  · intro l hl
    rw [yp, y0, y1, y2]
    exact hpl l hl
  · rw [yp, y5]
    exact znI (g0.1 5 q)
  · unfold zA zB
    rw [yp]
    exact lC k hk
  · have w := hM (k / 6) (k % 6) (by omega) (by omega)
    have es : zseen nl nb 0 (k / 6) = 2 * nl := by
      unfold zseen
      rw [if_pos (by omega)]
    rw [es, show 6 * (k / 6) + k % 6 = k by omega] at w
    unfold zA zB
    rw [yp]
    exact w
  · have e1 : zpl P0 q = 6 * (zpl P0 q / 6) + zpl P0 q % 6 := by omega
    have rp : zr 0 287 (P0.F 5 q) := g0.1 5 q
    have rp2 := rp.2
    have lp : zpl P0 q < 288 := by
      have h0 := rp.1
      show (P0.F 5 q).toInt.toNat < 288
      omega
    unfold zA zB
    rw [yp]
    refine (zsp_full (pl := zpl P0) (k := zpl P0 q) (2 * nl)).2.2 ?_ q hq rfl
    have hb9 : zpl P0 q / 6 < nb := by
      obtain ⟨q1, q2, -⟩ := hp.2.2.2.2.2 (q / 2) (by omega)
      obtain ⟨p1, p2⟩ := hpl (q / 2) (by omega)
      have fr : zr 0 5 (P0.F 2 (q / 2)) := hp.2.2.2.2.1 _
      have f1 := fr.1
      have f2 := fr.2
      have rl : (P0.F 2 (q / 2)).toNatClampNeg < 6 := by
        show (P0.F 2 (q / 2)).toInt.toNat < 6
        omega
      rcases Nat.mod_two_eq_zero_or_one q with c | c
      · rw [show 2 * (q / 2) = q by omega] at p1; omega
      · rw [show 2 * (q / 2) + 1 = q by omega] at p2; omega
    have dg := zct_deg hp hpl (b := zpl P0 q / 6) (r := zpl P0 q % 6) (by omega) (by omega) nl (Nat.le_refl _)
    rw [← e1] at dg
    rw [dg]
    exact hdg _ hb9 _ (by omega)
  · -- the owner's port
    obtain ⟨l0, hl0, er0⟩ := hl9
    have fr0 : zr 0 5 (P0.F 2 l0) := hp.2.2.2.2.1 l0
    unfold zrg at er0
    rw [y2] at er0
    have hasl : ¬ fPL_hasLinks P0 S (nI r) = 0 := (zhl_iff (S := S) hL hl60).mpr ⟨l0, hl0, by rw [znI fr0, er0]⟩
    have rr : zr 0 5 (nI r) := by
      unfold zr
      rw [nI_toInt (by omega)]
      omega
    have cr : (nI r).toNatClampNeg = r := nI_clamp (by omega)
    obtain ⟨b1, b2, b3⟩ := zho_of (ho S (nI r) rr hasl)
    rw [cr] at b1 b2 b3
    have r4 : zr (-1) 59 (P0.F 4 r) := g0.1 4 r
    have r4' : zr 0 59 (P0.F 4 r) := zne_lo r4 b1 (by decide)
    have e4 : P0.F 4 r = nI (P0.F 4 r).toNatClampNeg := znI r4'
    have l4 := (hp4 r).resolve_left b1
    have t4 := ztn r4' (by decide)
    rw [hL, nI_toInt (by omega)] at l4
    have o9 := own (nI r) rr
    rw [cr] at o9
    unfold zGi at o9
    rw [if_neg hasl, cr] at o9
    generalize hll : (P0.F 4 r).toNatClampNeg = ll at e4 t4 b2
    rw [e4] at o9 b3
    obtain ⟨a1, a2, a3, a4, a5⟩ := hp.2.2.2.2.2 ll (by omega)
    obtain ⟨p1, p2⟩ := hpl ll (by omega)
    have eA : P0.F 0 ll = nI (P0.F 0 ll).toNatClampNeg := znI a4
    have eB : P0.F 1 ll = nI (P0.F 1 ll).toNatClampNeg := znI a5
    have e2r : (P0.F 2 ll).toNatClampNeg = r := by rw [b2, cr]
    have z2 : (2 : Int32) = nI 2 := by decide
    have w : P0.F 0 ll = P0.F 3 r ∨ P0.F 1 ll = P0.F 3 r := by
      by_cases w : P0.F 0 ll = P0.F 3 r ∨ P0.F 1 ll = P0.F 3 r
      · exact w
      · exact absurd ((zpo_iff (by omega)).mpr w) b3
    simp only [fPL_portOf, zl] at o9
    rw [nI_clamp (by omega), z2, nI_mul, nI_1] at o9
    rw [yp, y3, y4]
    by_cases w0 : P0.F 0 ll = P0.F 3 r
    · rw [if_pos w0] at o9
      exact ⟨2 * ll, (P0.F 0 ll).toNatClampNeg, by omega, a1, o9, by rw [p1, e2r], by rw [← w0]; exact eA, by rw [e4, show 2 * ll / 2 = ll by omega]⟩
    · have w1 := w.resolve_left w0
      rw [if_neg w0, if_pos w1] at o9
      exact ⟨2 * ll + 1, (P0.F 1 ll).toNatClampNeg, by omega, a2, o9, by rw [p2, e2r], by rw [← w1]; exact eB, by rw [e4, show (2 * ll + 1) / 2 = ll by omega]⟩
  · have rr : zr 0 5 (nI r) := by
      unfold zr
      rw [nI_toInt (by omega)]
      omega
    have cr : (nI r).toNatClampNeg = r := nI_clamp (by omega)
    have o9 := own (nI r) rr
    rw [cr] at o9
    have hasl : fPL_hasLinks P0 S (nI r) = 0 := by
      by_cases w : fPL_hasLinks P0 S (nI r) = 0
      · exact w
      · obtain ⟨l, hl, e⟩ := (zhl_iff (S := S) hL hl60).mp w
        exact absurd ⟨l, hl, by unfold zrg; rw [y2, e, cr]⟩ hl9
    unfold zGi at o9
    rw [if_pos hasl] at o9
    exact o9
/-- each owner takes its hold -/
theorem ztkall {no : Nat} {P P' : ZS} {nb nl n : Nat} {tk : Prop} {c : Int32} {m : Nat} (g : zGeo P P' nb nl) : ∀ (N r K : Nat) (S S' : ZS), r ≤ 6 → 6 - r < N → zC no tk c m K S S' → zIS P nb nl S S' → zBd P n 0 0 0 S → (∀ j, S.F 17 j = 0) → (∀ j, r ≤ j → S.F 18 j = 0) →
    ∃ U' : ZS, zfix (fun P9 S9 _ => (P9, S9, 0)) fMO_start_125 N P' S' (nI r) = (P', U', 0) ∧ zC no tk c m (K + 12 * (6 - r)) (zfix (fun S9 _ => S9) (fPR_takeAllHolds_2 P) N S (nI r)) U' ∧ zIS P nb nl (zfix (fun S9 _ => S9) (fPR_takeAllHolds_2 P) N S (nI r)) U' ∧ zBd P n 0 0 0 (zfix (fun S9 _ => S9) (fPR_takeAllHolds_2 P) N S (nI r)) ∧ zKI S' U' := by
  have hn := g.nb
  have hn2 := g.nl
  have z6 : (6 : Int32) = nI 6 := by decide
  have hP2 : P'.I 2 = nI nl := g.2.1.2.1.trans g.1.2.2.1
  intro N
  induction N with
  | zero => intro r K S S' h1 h2; omega
  | succ N ih =>
    intro r K S S' h1 h2 h hI hBd h17 h18
    rw [zfix_s, zfix_s]
    generalize zfix (fun P9 S9 _ => (P9, S9, 0)) fMO_start_125 N = rc' at ih ⊢
    generalize zfix (fun S9 _ => S9) (fPR_takeAllHolds_2 P) N = rc at ih ⊢
    rw [fMO_start_125, fPR_takeAllHolds_2]
    by_cases d : r = 6
    · rw [z6, if_pos (nI_le (by omega) (by omega)), if_pos (nI_le (by omega) (by omega))]
      exact ⟨S', rfl, h.mo (Nat.le_refl _) (by omega), hI, hBd, zKI.rf⟩
    · rw [z6, if_neg (nI_ge (by omega) (by omega)), if_neg (nI_ge (by omega) (by omega))]
      repeat rw [zl]
      repeat rw [fMO_start_144]
      repeat rw [fPR_takeAllHolds_26]
      repeat rw [zl]
      rw [nI_1, nI_clamp (by omega), zli_eq hP2 hn2, zcn_RP g.2.1]
      by_cases hl : ∃ l, l < nl ∧ zrg P l = r
      · obtain ⟨p, b, hp, hb, e6, epl, e3, e4⟩ := g.2.2.2.2.2.2.2.1 r (by omega) hl
        have pos : 0 < zcn P (nI r) nl := by
          rw [zcn_pos]
          obtain ⟨l, hl1, hl2⟩ := hl
          refine ⟨l, hl1, ?_⟩
          unfold zrg at hl2
          rw [znI (g.1.2.2.2.2.1 l), hl2]
        have le := zcn_le (P := P) (r := nI r) nl
        rw [if_neg (nI_nle pos (by omega)), e6, if_neg (nI_ne (by omega))]
        have e18 : S.F 18 r + 1 = nI 1 := by rw [h18 r (Nat.le_refl _)]; decide
        obtain ⟨k1, i1⟩ := h.th g hI (by omega) hl (h17 r) e18 (by omega)
        have qC := q_fPR_takeHold P S (nI r)
        have qM := q_fMO_takeHold P' S' (nI r)
        have b1 : zBd P n 0 0 0 (fPR_takeHold P S (nI r)) := by
          rw [zn_th g (by omega) hp e6 epl, e18]
          refine zBd_nw g hb (by omega) ?_ _ _
          rw [← zn_set g hp epl (by omega)]
          refine (zBd_set hBd _ _).F ?_
          show 0 ≤ (nI 1).toInt ∧ (nI 1).toInt ≤ ((0 : Nat) : Int) + 1 + (if zop P r < 0 then 1 else 0)
          rw [if_neg (Nat.not_lt_zero _)]
          decide
        have x17 : ∀ j, (fPR_takeHold P S (nI r)).F 17 j = 0 := fun j => by rw [qC.2 17 (by decide)]; exact h17 j
        have x18 : ∀ j, r + 1 ≤ j → (fPR_takeHold P S (nI r)).F 18 j = 0 := fun j hj => by
          rw [zn_th g (by omega) hp e6 epl, (q_fPR_takeNews P _ _ _ _).2 18 (by decide), zFsk, upd_ne _ _ (by omega), zhs_n (by decide) (by decide)]
          exact h18 j (by omega)
        obtain ⟨U', e1, e2, e3', e4', e5⟩ := ih (r + 1) (K + 12) _ _ (by omega) (by omega) k1 i1 b1 x17 x18
        exact ⟨U', e1, e2.mo (Nat.le_refl _) (by omega), e3', e4', zKI.t ⟨fun t ht => qM.1 t ht, qM.2 22 (by decide)⟩ e5⟩
      · have e6 := g.2.2.2.2.2.2.2.2 r (by omega) hl
        have z : zcn P (nI r) nl = 0 := by
          by_cases w : zcn P (nI r) nl = 0
          · exact w
          · obtain ⟨l, hl1, hl2⟩ := (zcn_pos nl).mp (Nat.pos_of_ne_zero w)
            refine absurd ⟨l, hl1, ?_⟩ hl
            unfold zrg
            rw [hl2, nI_clamp (by omega)]
        rw [z, if_pos (by decide), e6, if_pos rfl]
        obtain ⟨U', e1, e2, e3', e4', e5⟩ := ih (r + 1) K S S' (by omega) (by omega) h hI hBd h17 (fun j hj => h18 j (by omega))
        exact ⟨U', e1, e2.mo (Nat.le_refl _) (by omega), e3', e4', e5⟩

/-! ticks, on both sides -/
theorem zGp_of {P : ZS} {nb nl : Nat} {S T : ZS} (h : zGp P nb nl S) (h1 : T.F 27 = S.F 27) (h2 : T.F 14 = S.F 14) (h3 : T.I 6 = S.I 6) (h4 : T.I 14 = S.I 14) : zGp P nb nl T := by
  unfold zGp
  rw [h1, h2, h3, h4]
  exact h
theorem zadd0 (x : Int32) : x + 0 = x := Int32.add_zero x
theorem zcirc {P : ZS} {nb nl : Nat} (hp : zPn P nb nl) (S : ZS) (hG : S.I 11 = 0 → zGp P nb nl S) : (fRG_countCircle P S).I 7 = S.I 7 + zif (zcc P (S.F 14) nb nl) ∧ zGp P nb nl (fRG_countCircle P S) := by
  have key : ∀ X : ZS, zGp P nb nl X → X.F 14 = S.F 14 → X.I 7 = S.I 7 → (fRG_countCircle_22 P X).I 7 = S.I 7 + zif (zcc P (S.F 14) nb nl) ∧ zGp P nb nl (fRG_countCircle_22 P X) := by
    intro X hX x14 x7
    have e6 := hX.2.1
    rw [x14] at e6
    rw [fRG_countCircle_22]
    repeat rw [zl]
    rw [e6]
    by_cases w : zcc P (S.F 14) nb nl
    · rw [zif_t w, if_neg (by decide)]
      refine ⟨?_, zGp_of hX rfl rfl (zIsn _ (by decide)) (zIsn _ (by decide))⟩
      show X.I 7 + 1 = _
      rw [x7]
    · rw [zif_f w, if_pos rfl, zadd0]
      exact ⟨x7, hX⟩
  rw [fRG_countCircle]
  repeat rw [zl]
  by_cases c : S.I 11 = 0
  · rw [if_pos c]
    exact key S (hG c) rfl rfl
  · rw [if_neg c]
    have q := q_fRG_groupByOpenLinks P S
    exact key _ (zGp_of (zgrp hp S) rfl rfl (zIsn _ (by decide)) (zIsn _ (by decide))) (q.2 14 (by decide)) ((zIsn _ (by decide)).trans (q.1 7 (by decide)))
abbrev zfl9 : List Nat := [11, 12, 13, 14, 15, 16, 17, 18, 19, 20, 21, 22]
abbrev zfr9 : List Nat := [8, 9, 10, 11, 12, 13, 14, 17, 18, 19, 23, 24, 25, 26, 27]
/-- frames, where what was learned is not compared -/
theorem zC.fl {tk : Prop} {c : Int32} {m K : Nat} {S S' T : ZS} {ws fs : List Nat} (h : zC 0 tk c m K S S') (f : zfr 28 ws fs S T) (q : ∀ x ∈ zfl9, x ∉ fs) (q9 : 9 ∉ ws) (q10 : 10 ∉ ws) : zC 0 tk c m K T S' := by
  have row : ∀ x ∈ zfl9, T.F x = S.F x := fun x hx => f.2 x (by rw [Nat.min_eq_left ((show ∀ y ∈ zfl9, y ≤ 28 by decide) x hx)]; exact q x hx)
  refine ⟨⟨fun p hp => ?_, by rw [f.1 9 q9]; exact h.1.2⟩, h.2.1.cg (row 11 (by decide)) (row 12 (by decide)) rfl rfl rfl rfl, fun b t hb => absurd hb (Nat.not_lt_zero _), ?_⟩
  · rw [row p.2 ((show ∀ y ∈ zprs, y.2 ∈ zfl9 by decide) p hp)]
    exact h.1.1 p hp
  · obtain ⟨e, a, b, d, g⟩ := h.2.2.2
    exact ⟨e, a, b, by rw [f.1 9 q9, f.1 10 q10]; exact d, g⟩
theorem zC.fr {c : Int32} {m K : Nat} {S S' T' : ZS} {ws fs : List Nat} (h : zC 0 False c m K S S') (f : zfr 100 ws fs S' T') (q : ∀ x ∈ zfr9, x ∉ fs) (q5 : 5 ∉ ws) : zC 0 False c m K S T' := by
  have row : ∀ x ∈ zfr9, T'.F x = S'.F x := fun x hx => f.2 x (by rw [Nat.min_eq_left (Nat.le_trans ((show ∀ y ∈ zfr9, y ≤ 28 by decide) x hx) (by decide))]; exact q x hx)
  refine ⟨⟨fun p hp => ?_, by rw [f.1 5 q5]; exact h.1.2⟩, h.2.1.cg rfl rfl (row 24 (by decide)) (row 25 (by decide)) (row 26 (by decide)) (row 27 (by decide)), fun b t hb => absurd hb (Nat.not_lt_zero _), ?_⟩
  · rw [row p.1 ((show ∀ y ∈ zprs, y.1 ∈ zfr9 by decide) p hp)]
    exact h.1.1 p hp
  · obtain ⟨e, a, b, d, g⟩ := h.2.2.2
    exact ⟨e, a, b, d, fun w => w.elim⟩
/-- the states of the two sides between two calls, from the start on -/
def zY (nb nl n t : Nat) (P S S' : ZS) : Prop := S.I 3 = nI t ∧ S'.I 4 = S.I 3 ∧ S'.I 9 = S.I 7 ∧ S'.F 22 = S.F 23 ∧ (∃ c m K, zC 0 False c m K S S') ∧ zIS P nb nl S S' ∧ zBd P n t 0 0 S ∧ (S.I 11 = 0 → zGp P nb nl S)
noncomputable def zT1 (P S : ZS) : ZS := if S.I 10 + S.I 9 = S.I 5 then S else S.setI 4 0
noncomputable def zT2 (P S : ZS) : ZS := fPR_turnAll P (fPR_arriveAll P ((zT1 P S).setI 3 ((zT1 P S).I 3 + 1)))
noncomputable def zTC (P S : ZS) : ZS := fRG_countApart P (fRG_countCircle P (((zT2 P S).setI 5 ((zT2 P S).I 10 + (zT2 P S).I 9)).setI 4 (if (zT2 P S).I 10 + (zT2 P S).I 9 = S.I 10 + S.I 9 then (zT2 P S).I 4 + 1 else 0)))
theorem ztk_C (P : ZS) (rc : ZS → Int32 → Int32 → (ZS × Int32)) (S : ZS) (n i : Int32) (h : ¬ n ≤ i) : fRG_ticks_50 P rc S n i = rc (zTC P S) n (i + 1) := by
  have e73 : ∀ X, fRG_ticks_73 P rc X n i (S.I 10 + S.I 9) = rc (fRG_countApart P (fRG_countCircle P (((fPR_turnAll P (fPR_arriveAll P (X.setI 3 (X.I 3 + 1)))).setI 5 ((fPR_turnAll P (fPR_arriveAll P (X.setI 3 (X.I 3 + 1)))).I 10 + (fPR_turnAll P (fPR_arriveAll P (X.setI 3 (X.I 3 + 1)))).I 9)).setI 4 (if (fPR_turnAll P (fPR_arriveAll P (X.setI 3 (X.I 3 + 1)))).I 10 + (fPR_turnAll P (fPR_arriveAll P (X.setI 3 (X.I 3 + 1)))).I 9 = S.I 10 + S.I 9 then (fPR_turnAll P (fPR_arriveAll P (X.setI 3 (X.I 3 + 1)))).I 4 + 1 else 0)))) n (i + 1) := fun X => by
    rw [fRG_ticks_73]
    repeat rw [zl]
    rw [fRG_countStirs]
    repeat rw [zl]
    generalize fPR_turnAll P (fPR_arriveAll P (X.setI 3 (X.I 3 + 1))) = T
    repeat rw [fRG_ticks_124]
    repeat rw [zl]
    have e4 : (T.setI 5 (T.I 10 + T.I 9)).I 4 = T.I 4 := zIsn _ (by decide)
    rw [e4]
    by_cases c : T.I 10 + T.I 9 = S.I 10 + S.I 9
    · rw [if_pos c, if_pos c]
    · rw [if_neg c, if_neg c]
  rw [fRG_ticks_50, if_neg h]
  repeat rw [zl]
  have es : fRG_countStirs P S = S.I 10 + S.I 9 := by
    rw [fRG_countStirs]
    repeat rw [zl]
  rw [es, e73, e73]
  unfold zTC zT2 zT1
  by_cases c : S.I 10 + S.I 9 = S.I 5
  · rw [if_pos c, if_pos c]
  · rw [if_neg c, if_neg c]
theorem zt136 (P U : ZS) (y : Int32) : ∃ v, fMO_tick_136 P U y = (fMO_look P (U.setI 7 y)).setI 10 v := by
  rw [fMO_tick_136]
  repeat rw [zl]
  generalize fMO_look P (U.setI 7 y) = X
  repeat rw [fMO_tick_182]
  repeat rw [fMO_tick_183]
  repeat rw [zl]
  split
  · exact ⟨_, rfl⟩
  · split
    · exact ⟨_, rfl⟩
    · split
      · exact ⟨_, rfl⟩
      · exact ⟨_, rfl⟩
theorem zt1_fr (P S : ZS) : (zT1 P S).F = S.F ∧ ∀ t, t ≠ 4 → (zT1 P S).I t = S.I t := by
  unfold zT1
  split
  · exact ⟨rfl, fun _ _ => rfl⟩
  · exact ⟨rfl, fun t ht => zIsn _ ht⟩
theorem zC.r8 {no : Nat} {c : Int32} {m K : Nat} {S S' : ZS} (h : zC no False c m K S S') (v : Int32) : zC no False c m K S (S'.setI 8 v) := by
  refine ⟨h.1.ri (by decide), h.2.1, h.2.2.1, ?_⟩
  obtain ⟨e, a, b, d, g⟩ := h.2.2.2
  exact ⟨e, a, b, d, fun w => w.elim⟩
theorem zY.tick {P P' : ZS} {nb nl n t : Nat} {S S' : ZS} (g : zGeo P P' nb nl) (hY : zY nb nl n t P S S') (h3 : S'.I 3 = 0) (ht : t < 20000) (hn9 : n ≤ 1000) : zY nb nl n (t + 1) P (zTC P S) (fMO_tick P' S') ∧ (fMO_tick P' S').I 3 = 0 := by
  obtain ⟨y1, y2, y3, y4, ⟨c, m, K, hC⟩, hI, hBd, hG⟩ := hY
  obtain ⟨f1, f2⟩ := zt1_fr P S
  -- before the casts arrive
  have kX : zC 0 False c m K ((zT1 P S).setI 3 ((zT1 P S).I 3 + 1)) ((S'.setI 4 (S'.I 4 + 1)).setI 8 0) := by
    refine zC.r8 ?_ 0
    have k0 : zC 0 False c m K (zT1 P S) S' := by
      unfold zT1
      split
      · exact hC
      · exact hC.li (by decide) (by decide)
    exact (k0.li (by decide) (by decide)).ri (by decide) (by decide)
  have iX : zIS P nb nl ((zT1 P S).setI 3 ((zT1 P S).I 3 + 1)) ((S'.setI 4 (S'.I 4 + 1)).setI 8 0) := by
    refine zI_of hI ?_ rfl rfl rfl
    show (zT1 P S).F 14 = _
    rw [f1]
  have bX : zBd P n t 0 0 ((zT1 P S).setI 3 ((zT1 P S).I 3 + 1)) := by
    refine hBd.cg (fun q _ => ?_)
    show (zT1 P S).F q = _
    rw [f1]
  have x3 : ((zT1 P S).setI 3 ((zT1 P S).I 3 + 1)).I 3 = nI (t + 1) := by
    show (zT1 P S).I 3 + 1 = _
    rw [f2 3 (by decide), y1, nI_1]
  have x7 : ((zT1 P S).setI 3 ((zT1 P S).I 3 + 1)).I 7 = S.I 7 := (zIsn _ (by decide)).trans (f2 7 (by decide))
  have x6 : ((zT1 P S).setI 3 ((zT1 P S).I 3 + 1)).I 6 = S.I 6 := (zIsn _ (by decide)).trans (f2 6 (by decide))
  have x11 : ((zT1 P S).setI 3 ((zT1 P S).I 3 + 1)).I 11 = S.I 11 := (zIsn _ (by decide)).trans (f2 11 (by decide))
  have x14 : ((zT1 P S).setI 3 ((zT1 P S).I 3 + 1)).I 14 = S.I 14 := (zIsn _ (by decide)).trans (f2 14 (by decide))
  have xF : ((zT1 P S).setI 3 ((zT1 P S).I 3 + 1)).F = S.F := f1
  have eT : fMO_tick P' S' = zfix (fun S9 _ => S9) (fMO_tick_21 P') 121 (fMO_turn P' ((S'.setI 4 (S'.I 4 + 1)).setI 8 0)) 0 := by
    rw [fMO_tick]
    repeat rw [zl]
  have eZ : zTC P S = fRG_countApart P (fRG_countCircle P (((fPR_turnAll P (fPR_arriveAll P ((zT1 P S).setI 3 ((zT1 P S).I 3 + 1)))).setI 5 ((fPR_turnAll P (fPR_arriveAll P ((zT1 P S).setI 3 ((zT1 P S).I 3 + 1)))).I 10 + (fPR_turnAll P (fPR_arriveAll P ((zT1 P S).setI 3 ((zT1 P S).I 3 + 1)))).I 9)).setI 4 (if (fPR_turnAll P (fPR_arriveAll P ((zT1 P S).setI 3 ((zT1 P S).I 3 + 1)))).I 10 + (fPR_turnAll P (fPR_arriveAll P ((zT1 P S).setI 3 ((zT1 P S).I 3 + 1)))).I 9 = S.I 10 + S.I 9 then (fPR_turnAll P (fPR_arriveAll P ((zT1 P S).setI 3 ((zT1 P S).I 3 + 1)))).I 4 + 1 else 0))) := rfl
  rw [eT, eZ]
  have w3 : ((S'.setI 4 (S'.I 4 + 1)).setI 8 0).I 3 = 0 := h3
  have w4 : ((S'.setI 4 (S'.I 4 + 1)).setI 8 0).I 4 = nI (t + 1) := by
    show S'.I 4 + 1 = _
    rw [y2, y1, nI_1]
  have w9 : ((S'.setI 4 (S'.I 4 + 1)).setI 8 0).I 9 = S.I 7 := y3
  have w22 : ((S'.setI 4 (S'.I 4 + 1)).setI 8 0).F 22 = S.F 23 := y4
  generalize (zT1 P S).setI 3 ((zT1 P S).I 3 + 1) = X at kX iX bX x3 x7 x6 x11 x14 xF ⊢
  generalize (S'.setI 4 (S'.I 4 + 1)).setI 8 0 = X' at kX iX w3 w4 w9 w22 ⊢
  obtain ⟨U1, eU1, kU1, iU1, bU1, zU1⟩ := kX.arrs g iX bX
  obtain ⟨U, eU, kU, iU, bU, zU⟩ := kU1.turns g (by omega) hn9 iU1 bU1
  rw [eU1, eU]
  have zz := zU1.t zU
  have qA := q_fPR_arriveAll P X
  have qT := q_fPR_turnAll P (fPR_arriveAll P X)
  have hA := hc_fPR_arriveAll P X
  have hT := hc_fPR_turnAll P (fPR_arriveAll P X)
  have t3 : (fPR_turnAll P (fPR_arriveAll P X)).I 3 = nI (t + 1) := by rw [qT.1 3 (by decide), qA.1 3 (by decide)]; exact x3
  have t7 : (fPR_turnAll P (fPR_arriveAll P X)).I 7 = S.I 7 := by rw [qT.1 7 (by decide), qA.1 7 (by decide)]; exact x7
  have t6 : (fPR_turnAll P (fPR_arriveAll P X)).I 6 = S.I 6 := by rw [qT.1 6 (by decide), qA.1 6 (by decide)]; exact x6
  have t14 : (fPR_turnAll P (fPR_arriveAll P X)).I 14 = S.I 14 := by rw [qT.1 14 (by decide), qA.1 14 (by decide)]; exact x14
  have t23 : (fPR_turnAll P (fPR_arriveAll P X)).F 23 = S.F 23 := by rw [qT.2 23 (by decide), qA.2 23 (by decide), xF]
  have t27 : (fPR_turnAll P (fPR_arriveAll P X)).F 27 = S.F 27 := by rw [qT.2 27 (by decide), qA.2 27 (by decide), xF]
  have tG : (fPR_turnAll P (fPR_arriveAll P X)).I 11 = 0 → zGp P nb nl (fPR_turnAll P (fPR_arriveAll P X)) := fun e => by
    obtain ⟨e1, e2⟩ := hT e
    obtain ⟨e3, e4⟩ := hA e1
    rw [x11] at e3
    exact zGp_of (hG e3) t27 (by rw [e2, e4, xF]) t6 t14
  generalize fPR_turnAll P (fPR_arriveAll P X) = T at kU iU bU t3 t7 t6 t14 t23 t27 tG ⊢
  have u3 : U.I 3 = 0 := (zz.1 3 (by decide)).trans w3
  have u4 : U.I 4 = nI (t + 1) := (zz.1 4 (by decide)).trans w4
  have u9 : U.I 9 = S.I 7 := (zz.1 9 (by decide)).trans w9
  have u22 : U.F 22 = S.F 23 := zz.2.trans w22
  -- the class counts
  generalize (if T.I 10 + T.I 9 = S.I 10 + S.I 9 then T.I 4 + 1 else 0) = v4
  have kW : zC 0 False c m (K + 960 * (2 * nl) + 84 * nb) ((T.setI 5 (T.I 10 + T.I 9)).setI 4 v4) U := (kU.li (by decide) (by decide)).li (by decide) (by decide)
  obtain ⟨c7, cG⟩ := zcirc g.1 ((T.setI 5 (T.I 10 + T.I 9)).setI 4 v4) (fun e => zGp_of (tG (show T.I 11 = 0 from e)) rfl rfl ((zIsn _ (by decide)).trans (zIsn _ (by decide))) ((zIsn _ (by decide)).trans (zIsn _ (by decide))))
  have c7' : (fRG_countCircle P ((T.setI 5 (T.I 10 + T.I 9)).setI 4 v4)).I 7 = S.I 7 + zif (zcc P (T.F 14) nb nl) := by
    rw [c7]
    show T.I 7 + _ = _
    rw [t7]
    rfl
  have qC := q_fRG_countCircle P ((T.setI 5 (T.I 10 + T.I 9)).setI 4 v4)
  have c3 : (fRG_countCircle P ((T.setI 5 (T.I 10 + T.I 9)).setI 4 v4)).I 3 = nI (t + 1) := (qC.1 3 (by decide)).trans t3
  have c23 : (fRG_countCircle P ((T.setI 5 (T.I 10 + T.I 9)).setI 4 v4)).F 23 = S.F 23 := (qC.2 23 (by decide)).trans t23
  have c14 : (fRG_countCircle P ((T.setI 5 (T.I 10 + T.I 9)).setI 4 v4)).F 14 = T.F 14 := qC.2 14 (by decide)
  have kC := kW.fl qC (by decide) (by decide) (by decide)
  have bC : zBd P n (t + 1) 0 0 (fRG_countCircle P ((T.setI 5 (T.I 10 + T.I 9)).setI 4 v4)) := ((zBd_tick bU).I.I).fr qC (by decide)
  generalize fRG_countCircle P ((T.setI 5 (T.I 10 + T.I 9)).setI 4 v4) = W at c7' cG c3 c23 c14 kC bC ⊢
  have qP := q_fRG_countApart P W
  have kP := kC.fl qP (by decide) (by decide) (by decide)
  have p3 : (fRG_countApart P W).I 3 = nI (t + 1) := (qP.1 3 (by decide)).trans c3
  have p7 : (fRG_countApart P W).I 7 = S.I 7 + zif (zcc P (T.F 14) nb nl) := (qP.1 7 (by decide)).trans c7'
  have p23 : (fRG_countApart P W).F 23 = S.F 23 := (qP.2 23 (by decide)).trans c23
  have p14 : (fRG_countApart P W).F 14 = T.F 14 := (qP.2 14 (by decide)).trans c14
  have pG : zGp P nb nl (fRG_countApart P W) := zGp_of cG (qP.2 27 (by decide)) (qP.2 14 (by decide)) (qP.1 6 (by decide)) (qP.1 14 (by decide))
  have pB : zBd P n (t + 1) 0 0 (fRG_countApart P W) := bC.fr qP (by decide)
  generalize fRG_countApart P W = Z at kP p3 p7 p23 p14 pG pB ⊢
  -- the reference looks
  have eF : ∃ y v, zfinM P' U = (fMO_look P' (U.setI 7 y)).setI 10 v := by
    unfold zfinM
    split
    · exact ⟨_, zt136 P' U _⟩
    · exact ⟨_, zt136 P' U _⟩
  obtain ⟨y, v, eF⟩ := eF
  rw [eF]
  have h10 : U.F 10 = T.F 14 := kU.g 10 14 (by decide)
  have lk := zlook g.1 g.2.1 (U.setI 7 y) u3 (fun l hl e => by
    have w := iU.1 (2 * l) (by omega)
    rw [show 2 * l / 2 = l by omega] at w
    exact w.mp (by rw [← h10]; exact e))
  have qL := q_fMO_look P' (U.setI 7 y)
  have l9 : (fMO_look P' (U.setI 7 y)).I 9 = S.I 7 + zif (zcc P (T.F 14) nb nl) := by
    rw [lk.1]
    show U.I 9 + zif (zcc P (U.F 10) nb nl) = _
    rw [u9, h10]
  have l3 : (fMO_look P' (U.setI 7 y)).I 3 = 0 := (qL.1 3 (by decide)).trans u3
  have l4 : (fMO_look P' (U.setI 7 y)).I 4 = nI (t + 1) := (qL.1 4 (by decide)).trans u4
  have l22 : (fMO_look P' (U.setI 7 y)).F 22 = S.F 23 := (qL.2 22 (by decide)).trans u22
  have kL := (kP.ri (t := 7) (v := y) (by decide) (by decide)).fr qL (by decide) (by decide)
  have iL : zIS P nb nl Z (fMO_look P' (U.setI 7 y)) := zI_of iU p14 (qL.2 7 (by decide)) (qL.2 15 (by decide)) (qL.2 16 (by decide))
  generalize fMO_look P' (U.setI 7 y) = L at l9 l3 l4 l22 kL iL ⊢
  refine ⟨⟨p3, ?_, ?_, ?_, ⟨c, m, _, kL.ri (by decide) (by decide)⟩, iL, pB, fun _ => pG⟩, l3⟩
  · show L.I 4 = _
    rw [l4, p3]
  · show L.I 9 = _
    rw [l9, p7]
  · show L.F 22 = _
    rw [l22, p23]
/-- so many ticks -/
theorem zticks {P P' : ZS} {nb nl n c : Nat} (g : zGeo P P' nb nl) (hn9 : n ≤ 1000) (hc : c ≤ 200) : ∀ (N M i t : Nat) (S S' : ZS), i ≤ c → c - i < N → c - i < M → zY nb nl n t P S S' → S'.I 3 = 0 → t + (c - i) ≤ 20000 →
    ∃ T T' : ZS, zfix (fun S9 _ _ => (S9, 0)) (fRG_ticks_50 P) N S (nI c) (nI i) = (T, T.I 3) ∧ zfix (fun S9 _ _ => (S9, 0)) (fMO_ticks_52 P') M S' (nI c) (nI i) = (T', T'.I 4) ∧ zY nb nl n (t + (c - i)) P T T' ∧ T'.I 3 = 0 := by
  intro N
  induction N with
  | zero => intro M i t S S' h1 h2; omega
  | succ N ih =>
    intro M i t S S' h1 h2 h2' hY h3 ht
    obtain ⟨M2, eM⟩ : ∃ M2, M = M2 + 1 := ⟨M - 1, by omega⟩
    rw [eM, zfix_s, zfix_s]
    have ih' := ih M2
    generalize zfix (fun S9 _ _ => (S9, 0)) (fRG_ticks_50 P) N = rc at ih' ⊢
    generalize zfix (fun S9 _ _ => (S9, 0)) (fMO_ticks_52 P') M2 = rc' at ih' ⊢
    by_cases d : i = c
    · rw [fRG_ticks_50, fMO_ticks_52, if_pos (nI_le (by omega) (by omega)), if_pos (nI_le (by omega) (by omega)), zl, zl]
      refine ⟨S, S', rfl, rfl, ?_, h3⟩
      rw [show t + (c - i) = t by omega]
      exact hY
    · rw [ztk_C P rc S _ _ (nI_ge (by omega) (by omega)), fMO_ticks_52, if_neg (nI_ge (by omega) (by omega)), zl, zl, nI_1]
      obtain ⟨k1, k2⟩ := hY.tick g h3 (by omega) hn9
      obtain ⟨T, T', e1, e2, e3, e4⟩ := ih' (i + 1) (t + 1) _ _ (by omega) (by omega) (by omega) k1 k2 (by omega)
      rw [show t + 1 + (c - (i + 1)) = t + (c - i) by omega] at e3
      exact ⟨T, T', e1, e2, e3, e4⟩

/-! the relation between two calls -/
abbrev zr0C : List Nat := [12, 13, 14, 15, 16, 17, 18, 19, 20, 21, 22]
abbrev zr0M : List Nat := [7, 8, 9, 10, 11, 12, 13, 14, 15, 16, 17, 18, 19, 23]
/-- nothing has happened yet -/
def zFC (S : ZS) : Prop := (∀ x ∈ zr0C, S.F x = fun _ => 0) ∧ S.I 3 = 0 ∧ S.I 7 = 0 ∧ S.I 9 = 0 ∧ S.I 11 = 1
def zFM (S : ZS) : Prop := (∀ x ∈ zr0M, S.F x = fun _ => 0) ∧ S.I 4 = 0 ∧ S.I 5 = 0 ∧ S.I 9 = 0
def zXr (n : Nat) (P S P' S' : ZS) : Prop := ∃ nb nl t, zPn P nb nl ∧ zplace P nl ∧ t ≤ 20000 ∧ ((P.I 2 = 0 ∧ (∀ j, P'.F 6 j = -1) ∧ zFC S ∧ zFM S' ∧ S'.F 22 = S.F 23) ∨ (¬ P.I 2 = 0 ∧ zGeo P P' nb nl ∧ zY nb nl n t P S S'))
theorem zY.up {nb nl n n2 t : Nat} {P S S' : ZS} (h : zY nb nl n t P S S') (hn : n ≤ n2) : zY nb nl n2 t P S S' := by
  obtain ⟨a, b, c, d, e, f, g, k⟩ := h
  exact ⟨a, b, c, d, e, f, g.upn hn, k⟩
theorem zXr.up {n n2 : Nat} {P S P' S' : ZS} (h : zXr n P S P' S') (hn : n ≤ n2) : zXr n2 P S P' S' := by
  obtain ⟨nb, nl, t, a, b, c, d⟩ := h
  refine ⟨nb, nl, t, a, b, c, ?_⟩
  rcases d with d | ⟨d, e, f⟩
  · exact Or.inl d
  · exact Or.inr ⟨d, e, f.up hn⟩
/-- calls that leave what is compared -/
theorem zXr.fr9 {n : Nat} {P S P' S' T T' : ZS} {ws fs ws' fs' : List Nat} (h : zXr n P S P' S') (fC : zfr 28 ws fs S T) (fM : zfr 100 ws' fs' S' T') (c1 : ∀ x ∈ [11, 12, 13, 14, 15, 16, 17, 18, 19, 20, 21, 22, 27], x ∉ fs) (c2 : ∀ x ∈ [3, 6, 7, 9, 10, 11, 14], x ∉ ws) (d1 : ∀ x ∈ [7, 8, 9, 10, 11, 12, 13, 14, 15, 16, 17, 18, 19, 23, 24, 25, 26, 27], x ∉ fs') (d2 : ∀ x ∈ [4, 5, 9], x ∉ ws') (hh : S'.F 22 = S.F 23 → T'.F 22 = T.F 23) : zXr (n + 1) P T P' T' := by
  have rC : ∀ x ∈ [11, 12, 13, 14, 15, 16, 17, 18, 19, 20, 21, 22, 27], T.F x = S.F x := fun x hx => fC.2 x (by rw [Nat.min_eq_left ((show ∀ y ∈ [11, 12, 13, 14, 15, 16, 17, 18, 19, 20, 21, 22, 27], y ≤ 28 by decide) x hx)]; exact c1 x hx)
  have rM : ∀ x ∈ [7, 8, 9, 10, 11, 12, 13, 14, 15, 16, 17, 18, 19, 23, 24, 25, 26, 27], T'.F x = S'.F x := fun x hx => fM.2 x (by rw [Nat.min_eq_left (Nat.le_trans ((show ∀ y ∈ [7, 8, 9, 10, 11, 12, 13, 14, 15, 16, 17, 18, 19, 23, 24, 25, 26, 27], y ≤ 28 by decide) x hx) (by decide))]; exact d1 x hx)
  have iC : ∀ x ∈ [3, 6, 7, 9, 10, 11, 14], T.I x = S.I x := fun x hx => fC.1 x (c2 x hx)
  have iM : ∀ x ∈ [4, 5, 9], T'.I x = S'.I x := fun x hx => fM.1 x (d2 x hx)
  obtain ⟨nb, nl, t, a, b, c, d⟩ := h
  refine ⟨nb, nl, t, a, b, c, ?_⟩
  rcases d with ⟨d, e, f, g, k⟩ | ⟨d, e, f⟩
  · refine Or.inl ⟨d, e, ⟨fun x hx => ?_, ?_, ?_, ?_, ?_⟩, ⟨fun x hx => ?_, ?_, ?_, ?_⟩, ?_⟩
    · rw [rC x ((show ∀ y ∈ zr0C, y ∈ [11, 12, 13, 14, 15, 16, 17, 18, 19, 20, 21, 22, 27] by decide) x hx)]
      exact f.1 x hx
    · rw [iC 3 (by decide)]; exact f.2.1
    · rw [iC 7 (by decide)]; exact f.2.2.1
    · rw [iC 9 (by decide)]; exact f.2.2.2.1
    · rw [iC 11 (by decide)]; exact f.2.2.2.2
    · rw [rM x ((show ∀ y ∈ zr0M, y ∈ [7, 8, 9, 10, 11, 12, 13, 14, 15, 16, 17, 18, 19, 23, 24, 25, 26, 27] by decide) x hx)]
      exact g.1 x hx
    · rw [iM 4 (by decide)]; exact g.2.1
    · rw [iM 5 (by decide)]; exact g.2.2.1
    · rw [iM 9 (by decide)]; exact g.2.2.2
    · exact hh k
  · obtain ⟨y1, y2, y3, y4, ⟨c9, m, K, hC⟩, hI, hBd, hG⟩ := f
    refine Or.inr ⟨d, e, ?_, ?_, ?_, ?_, ⟨c9, m, K, ?_⟩, ?_, ?_, fun e9 => ?_⟩
    · rw [iC 3 (by decide)]; exact y1
    · rw [iM 4 (by decide), iC 3 (by decide)]; exact y2
    · rw [iM 9 (by decide), iC 7 (by decide)]; exact y3
    · exact hh y4
    · exact (hC.fl fC (fun x hx => c1 x ((show ∀ y ∈ zfl9, y ∈ [11, 12, 13, 14, 15, 16, 17, 18, 19, 20, 21, 22, 27] by decide) x hx)) (c2 9 (by decide)) (c2 10 (by decide))).fr fM (fun x hx => d1 x ((show ∀ y ∈ zfr9, y ∈ [7, 8, 9, 10, 11, 12, 13, 14, 15, 16, 17, 18, 19, 23, 24, 25, 26, 27] by decide) x hx)) (d2 5 (by decide))
    · exact zI_of hI (rC 14 (by decide)) (rM 7 (by decide)) (rM 15 (by decide)) (rM 16 (by decide))
    · refine (hBd.upn (by omega)).cg (fun q hq => rC q ((show ∀ y ∈ zbr, y ∈ [11, 12, 13, 14, 15, 16, 17, 18, 19, 20, 21, 22, 27] by decide) q hq))
    · rw [iC 11 (by decide)] at e9
      exact zGp_of (hG e9) (rC 27 (by decide)) (rC 14 (by decide)) (iC 6 (by decide)) (iC 14 (by decide))
theorem zXr.fr {n : Nat} {P S P' S' T T' : ZS} {ws fs ws' fs' : List Nat} (h : zXr n P S P' S') (fC : zfr 28 ws fs S T) (fM : zfr 100 ws' fs' S' T') (c1 : ∀ x ∈ [11, 12, 13, 14, 15, 16, 17, 18, 19, 20, 21, 22, 27], x ∉ fs) (c2 : ∀ x ∈ [3, 6, 7, 9, 10, 11, 14], x ∉ ws) (d1 : ∀ x ∈ [7, 8, 9, 10, 11, 12, 13, 14, 15, 16, 17, 18, 19, 23, 24, 25, 26, 27], x ∉ fs') (d2 : ∀ x ∈ [4, 5, 9], x ∉ ws') (c3 : min 23 28 ∉ fs) (d3 : min 22 100 ∉ fs') : zXr (n + 1) P T P' T' := h.fr9 fC fM c1 c2 d1 d2 (fun e => by rw [fM.2 22 d3, fC.2 23 c3]; exact e)
theorem zXr.s3 {n : Nat} {P S P' S' : ZS} (h : zXr n P S P' S') (v : Int32) : zXr (n + 1) P S P' (S'.setI 3 v) := h.fr (ws := []) (fs := []) (ws' := [3]) (fs' := []) zfr.rf (zfr.I zfr.rf (by decide)) (by decide) (by decide) (by decide) (by decide) (by decide) (by decide)
theorem zgoOk (P S : ZS) (t : Int32) (h : ¬ t = 0) : fMO_goes P S 1 t = (S.setI 3 0, 1) := by
  unfold fMO_goes fMO_goes_18
  rw [if_neg (by decide), if_neg h]
  simp only [zl]
  rw [if_pos (by decide)]
theorem zlookx {P S : ZS} (h : ¬ S.I 3 ≤ 0) : fMO_look P S = S := by
  rw [fMO_look, zl, if_neg h]
theorem zst_ok {P S : ZS} (d : ¬ P.I 2 = 0) : fRG_requireStarted P S = .ok () := by
  rw [fRG_requireStarted, zl, if_neg d]
theorem zst_er {P S : ZS} (d : P.I 2 = 0) : fRG_requireStarted P S = .error 2 := by
  rw [fRG_requireStarted, zl, if_pos d]
/-- a number that a check let through -/
theorem zlN {x : Int32} {n : Nat} (hn : n < 2 ^ 31) (h0 : 0 ≤ x.toInt) (h1 : x.toInt < (nI n).toInt) : ∃ l, l < n ∧ x = nI l := by
  rw [nI_toInt hn] at h1
  obtain ⟨v, lv, ev⟩ := zge (x := x) (n := n) ⟨h0, by omega⟩
  refine ⟨v, ?_, ev⟩
  rw [ev, nI_toInt (by omega)] at h1
  omega
/-- what a call answers on both sides, and what then holds -/
def zAns (n : Nat) (P P' S' : ZS) (a : Except Nat (ZS × Int32)) (b : ZS × Int32) : Prop := (∃ k v, a = .error k ∧ (k = 1 ∨ k = 2) ∧ b = (S'.setI 3 (if k = 1 then 1 else 2), v)) ∨ ∃ T T' v, a = .ok (T, v) ∧ b = (T', v) ∧ T'.I 3 = 0 ∧ zXr (n + 1) P T P' T'
/-- both sides count circles behind a call -/
theorem zlooks {P P' : ZS} {nb nl n t : Nat} {T T' : ZS} (g : zGeo P P' nb nl) (t3 : T.I 3 = nI t) (u3 : T'.I 3 = 0) (u4 : T'.I 4 = T.I 3) (u9 : T'.I 9 = T.I 7) (u22 : T'.F 22 = T.F 23) (hC : ∃ c m K, zC 0 False c m K T T') (hI : zIS P nb nl T T') (hBd : zBd P n t 0 0 T) (hG : T.I 11 = 0 → zGp P nb nl T) : zY nb nl n t P (fRG_countCircle P T) (fMO_look P' T') ∧ (fMO_look P' T').I 3 = 0 := by
  obtain ⟨c, m, K, hC⟩ := hC
  obtain ⟨c7, cG⟩ := zcirc g.1 T hG
  have h10 : T'.F 10 = T.F 14 := hC.g 10 14 (by decide)
  have lk := zlook g.1 g.2.1 T' u3 (fun l hl e => by
    have w := hI.1 (2 * l) (by omega)
    rw [show 2 * l / 2 = l by omega] at w
    exact w.mp (by rw [← h10]; exact e))
  have qC := q_fRG_countCircle P T
  have qL := q_fMO_look P' T'
  refine ⟨⟨?_, ?_, ?_, ?_, ⟨c, m, K, (hC.fl qC (by decide) (by decide) (by decide)).fr qL (by decide) (by decide)⟩, ?_, hBd.fr qC (by decide), fun _ => cG⟩, ?_⟩
  · rw [qC.1 3 (by decide)]; exact t3
  · rw [qL.1 4 (by decide), qC.1 3 (by decide)]; exact u4
  · rw [lk.1, c7, u9, h10]
  · rw [qL.2 22 (by decide), qC.2 23 (by decide)]; exact u22
  · exact zI_of hI (qC.2 14 (by decide)) (qL.2 7 (by decide)) (qL.2 15 (by decide)) (qL.2 16 (by decide))
  · rw [qL.1 3 (by decide)]; exact u3
/-- fail -/
theorem zd_fail {n : Nat} {P P' S S' : ZS} (h : zIv P P') (hT : zXr n P S P' S') (hn : n ≤ 600) (x0 : Int32) : zAns n P P' S' (fRG_fail P S x0) (fMO_fail P' S' x0) := by
  have hs := h.2.2.2.1
  have n1 : ¬ (1 : Int32) = 0 := by decide
  rcases zqL h.2.2.1 S S' x0 with ⟨a1, c1⟩ | ⟨a1, c1, g0, g1⟩
  · refine Or.inl ⟨1, 0, ?_, Or.inl rfl, ?_⟩
    · unfold fRG_fail; rw [c1]; rfl
    · unfold fMO_fail fMO_fail_25
      simp only [zl, zl2]
      rw [a1, zgoF0, if_pos rfl, zlookx (S := S'.setI 3 1) (show ¬ (1 : Int32) ≤ 0 by decide)]
      rfl
  · by_cases d : P.I 2 = 0
    · refine Or.inl ⟨2, 0, ?_, Or.inr rfl, ?_⟩
      · unfold fRG_fail; rw [c1]
        show zbind (fRG_requireStarted P S) _ = _
        rw [zst_er d]; rfl
      · unfold fMO_fail fMO_fail_25
        simp only [zl, zl2]
        rw [a1, hs, d, zgoF1, if_pos rfl, zlookx (S := S'.setI 3 2) (show ¬ (2 : Int32) ≤ 0 by decide)]
        rfl
    · obtain ⟨nb, nl, t, hp, hpl, ht, hx⟩ := hT
      rcases hx with ⟨d9, -⟩ | ⟨-, g, hY⟩
      · exact absurd d9 d
      · obtain ⟨y1, y2, y3, y4, ⟨c, m, K, hC⟩, hI, hBd, hG⟩ := hY
        have hn2 := g.nl
        rw [hp.2.2.1] at g1
        obtain ⟨l, hl, rfl⟩ := zlN (by omega) g0 g1
        have eC : fRG_fail P S (nI l) = .ok (if fPR_hasFailed P S (nI l) = 0 then fRG_fail_30 P (fPR_breakLink P S (nI l)) (fPR_hasFailed P S (nI l)) else fRG_fail_30 P S (fPR_hasFailed P S (nI l))) := by
          unfold fRG_fail
          rw [c1]
          show zbind (fRG_requireStarted P S) _ = _
          rw [zst_ok d]
          rfl
        have eM : fMO_fail P' S' (nI l) = if S'.F 7 l = 0 then zfix (fun S9 _ _ => (S9, 0)) (fMO_fail_50 P') 3 (((S'.setI 3 0).setF 7 l 1).setF 8 l (((S'.setI 3 0).setF 7 l 1).F 8 l + 1)) (nI l) 0 else (fMO_look P' (S'.setI 3 0), 0) := by
          unfold fMO_fail fMO_fail_25
          simp only [zl, zl2]
          rw [a1, zgoOk P' S' _ (by rw [hs]; exact d), if_neg n1, nI_clamp (by omega)]
          rfl
        have hf : fPR_hasFailed P S (nI l) = 0 ↔ S'.F 7 l = 0 := by
          have w := hI.1 (2 * l) (by omega)
          rw [show 2 * l / 2 = l by omega] at w
          have z2 : (2 : Int32) = nI 2 := by decide
          rw [fPR_hasFailed, zl, zl, z2, nI_mul, zdn P S (by omega)]
          exact w
        rw [eC, eM]
        have kS : zC 0 False c m K S (S'.setI 3 0) := hC.ri (by decide) (by decide)
        by_cases b : S'.F 7 l = 0
        · rw [if_pos (hf.mpr b), if_pos b, hf.mpr b]
          obtain ⟨v, lv, ev⟩ := zge (n := n) (hBd 19 l)
          obtain ⟨U', e1, e2, e3, e4, e5⟩ := kS.brk (fun q => q) g (zI_of hI rfl rfl rfl rfl) hBd hl (show v + 1 ≤ 32767 by omega) (by omega) (by rw [ev, nI_1])
          rw [e1]
          have qB := q_fPR_breakLink P S (nI l)
          have hc := hc_fPR_breakLink P S (nI l)
          have uI : ∀ q, q ∉ [5, 8, 11, 12, 13, 14] → U'.I q = (S'.setI 3 0).I q := e5.1
          have uF : U'.F 22 = S'.F 22 := e5.2
          obtain ⟨k1, k2⟩ := zlooks (n := n + 1) (t := t) (T := fPR_breakLink P S (nI l)) (T' := U'.setI 7 0) g (by rw [qB.1 3 (by decide)]; exact y1) (uI 3 (by decide)) (by
            show U'.I 4 = _
            rw [uI 4 (by decide), qB.1 3 (by decide)]
            exact y2) (by
            show U'.I 9 = _
            rw [uI 9 (by decide), qB.1 7 (by decide)]
            exact y3) (by
            show U'.F 22 = _
            rw [uF, qB.2 23 (by decide)]
            exact y4) ⟨c, m + 2, K + 26, e2.ri (by decide) (by decide)⟩ e3 e4 (fun e9 => by
            obtain ⟨w1, w2⟩ := hc e9
            exact zGp_of (hG w1) (qB.2 27 (by decide)) w2 (qB.1 6 (by decide)) (qB.1 14 (by decide)))
          refine Or.inr ⟨fRG_countCircle P (fPR_breakLink P S (nI l)), fMO_look P' (U'.setI 7 0), 1, ?_, rfl, k2, ⟨nb, nl, t, hp, hpl, ht, Or.inr ⟨d, g, k1⟩⟩⟩
          rw [fRG_fail_30, zl, if_pos rfl]
        · have b' : ¬ fPR_hasFailed P S (nI l) = 0 := fun e => b (hf.mp e)
          rw [if_neg b', if_neg b]
          obtain ⟨k1, k2⟩ := zlooks (n := n + 1) (t := t) (T := S) (T' := S'.setI 3 0) g y1 rfl y2 y3 y4 ⟨c, m, K, kS⟩ (zI_of hI rfl rfl rfl rfl) (hBd.upn (by omega)) hG
          refine Or.inr ⟨fRG_countCircle P S, fMO_look P' (S'.setI 3 0), 0, ?_, rfl, k2, ⟨nb, nl, t, hp, hpl, ht, Or.inr ⟨d, g, k1⟩⟩⟩
          rw [fRG_fail_30, zl, if_neg b']
/-- heal -/
theorem zd_heal {n : Nat} {P P' S S' : ZS} (h : zIv P P') (hT : zXr n P S P' S') (hn : n ≤ 600) (x0 : Int32) : zAns n P P' S' (fRG_heal P S x0) (fMO_heal P' S' x0) := by
  have hs := h.2.2.2.1
  have n1 : ¬ (1 : Int32) = 0 := by decide
  rcases zqL h.2.2.1 S S' x0 with ⟨a1, c1⟩ | ⟨a1, c1, g0, g1⟩
  · refine Or.inl ⟨1, 0, ?_, Or.inl rfl, ?_⟩
    · unfold fRG_heal; rw [c1]; rfl
    · unfold fMO_heal fMO_heal_25
      simp only [zl, zl2]
      rw [a1, zgoF0, if_pos rfl, zlookx (S := S'.setI 3 1) (show ¬ (1 : Int32) ≤ 0 by decide)]
      rfl
  · by_cases d : P.I 2 = 0
    · refine Or.inl ⟨2, 0, ?_, Or.inr rfl, ?_⟩
      · unfold fRG_heal; rw [c1]
        show zbind (fRG_requireStarted P S) _ = _
        rw [zst_er d]; rfl
      · unfold fMO_heal fMO_heal_25
        simp only [zl, zl2]
        rw [a1, hs, d, zgoF1, if_pos rfl, zlookx (S := S'.setI 3 2) (show ¬ (2 : Int32) ≤ 0 by decide)]
        rfl
    · obtain ⟨nb, nl, t, hp, hpl, ht, hx⟩ := hT
      rcases hx with ⟨d9, -⟩ | ⟨-, g, hY⟩
      · exact absurd d9 d
      · obtain ⟨y1, y2, y3, y4, ⟨c, m, K, hC⟩, hI, hBd, hG⟩ := hY
        have hn2 := g.nl
        rw [hp.2.2.1] at g1
        obtain ⟨l, hl, rfl⟩ := zlN (by omega) g0 g1
        have eC : fRG_heal P S (nI l) = .ok (if fPR_hasFailed P S (nI l) = 0 then fRG_heal_30 P S (fPR_hasFailed P S (nI l)) else fRG_heal_30 P (fPR_mendLink P S (nI l)) (fPR_hasFailed P S (nI l))) := by
          unfold fRG_heal
          rw [c1]
          show zbind (fRG_requireStarted P S) _ = _
          rw [zst_ok d]
          rfl
        have eM : fMO_heal P' S' (nI l) = if S'.F 7 l = 0 then (fMO_look P' (S'.setI 3 0), 0) else (fMO_look P' ((fMO_ends P' (fMO_ends P' ((S'.setI 3 0).setF 7 l 0) (P'.F 0 l) (nI l) 1) (P'.F 1 l) (nI l) 1).setI 7 0), 1) := by
          unfold fMO_heal fMO_heal_25
          simp only [zl, zl2]
          rw [a1, zgoOk P' S' _ (by rw [hs]; exact d), if_neg n1, nI_clamp (by omega)]
          rfl
        have z2 : (2 : Int32) = nI 2 := by decide
        have hf : fPR_hasFailed P S (nI l) = 0 ↔ S'.F 7 l = 0 := by
          have w := hI.1 (2 * l) (by omega)
          rw [show 2 * l / 2 = l by omega] at w
          rw [fPR_hasFailed, zl, zl, z2, nI_mul, zdn P S (by omega)]
          exact w
        have h01 : ¬ fPR_hasFailed P S (nI l) = 0 → fPR_hasFailed P S (nI l) = 1 := fun e => by
          have w : ∀ X x, fPR_isDown P X x = 0 ∨ fPR_isDown P X x = 1 := fun X x => by
            rw [fPR_isDown]
            repeat rw [zl]
            split
            · exact Or.inl rfl
            · exact Or.inr rfl
          rw [fPR_hasFailed, zl, zl] at e ⊢
          exact (w _ _).resolve_left e
        rw [eC, eM]
        have kS : zC 0 False c m K S (S'.setI 3 0) := hC.ri (by decide) (by decide)
        by_cases b : S'.F 7 l = 0
        · rw [if_pos (hf.mpr b), if_pos b, hf.mpr b]
          obtain ⟨k1, k2⟩ := zlooks (n := n + 1) (t := t) (T := S) (T' := S'.setI 3 0) g y1 rfl y2 y3 y4 ⟨c, m, K, kS⟩ (zI_of hI rfl rfl rfl rfl) (hBd.upn (by omega)) hG
          refine Or.inr ⟨fRG_countCircle P S, fMO_look P' (S'.setI 3 0), 0, ?_, rfl, k2, ⟨nb, nl, t, hp, hpl, ht, Or.inr ⟨d, g, k1⟩⟩⟩
          rw [fRG_heal_30, zl]
        · have b' : ¬ fPR_hasFailed P S (nI l) = 0 := fun e => b (hf.mp e)
          rw [if_neg b', if_neg b, h01 b']
          obtain ⟨k5, i5, b5⟩ := kS.mnd (fun q => q) g (zI_of hI rfl rfl rfl rfl) hBd hl
          have qB := q_fPR_mendLink P S (nI l)
          have hc := hc_fPR_mendLink P S (nI l)
          have q6 := q_fMO_ends P' ((S'.setI 3 0).setF 7 l 0) (P'.F 0 l) (nI l) 1
          have q7 := q_fMO_ends P' (fMO_ends P' ((S'.setI 3 0).setF 7 l 0) (P'.F 0 l) (nI l) 1) (P'.F 1 l) (nI l) 1
          have uI : ∀ q, (fMO_ends P' (fMO_ends P' ((S'.setI 3 0).setF 7 l 0) (P'.F 0 l) (nI l) 1) (P'.F 1 l) (nI l) 1).I q = (S'.setI 3 0).I q := fun q => by
            rw [q7.1 q (by simp), q6.1 q (by simp)]; rfl
          have uF : (fMO_ends P' (fMO_ends P' ((S'.setI 3 0).setF 7 l 0) (P'.F 0 l) (nI l) 1) (P'.F 1 l) (nI l) 1).F 22 = S'.F 22 := by
            rw [q7.2 22 (by decide), q6.2 22 (by decide), zFsn _ (by decide)]; rfl
          generalize fMO_ends P' (fMO_ends P' ((S'.setI 3 0).setF 7 l 0) (P'.F 0 l) (nI l) 1) (P'.F 1 l) (nI l) 1 = U' at k5 i5 uI uF ⊢
          obtain ⟨k1, k2⟩ := zlooks (n := n + 1) (t := t) (T := fPR_mendLink P S (nI l)) (T' := U'.setI 7 0) g (by rw [qB.1 3 (by decide)]; exact y1) (uI 3) (by
            show U'.I 4 = _
            rw [uI 4, qB.1 3 (by decide)]
            exact y2) (by
            show U'.I 9 = _
            rw [uI 9, qB.1 7 (by decide)]
            exact y3) (by
            show U'.F 22 = _
            rw [uF, qB.2 23 (by decide)]
            exact y4) ⟨c, m + 2, K + 2, k5.ri (by decide) (by decide)⟩ i5 (b5.upn (by omega)) (fun e9 => by
            obtain ⟨w1, w2⟩ := hc e9
            exact zGp_of (hG w1) (qB.2 27 (by decide)) w2 (qB.1 6 (by decide)) (qB.1 14 (by decide)))
          refine Or.inr ⟨fRG_countCircle P (fPR_mendLink P S (nI l)), fMO_look P' (U'.setI 7 0), 1, ?_, rfl, k2, ⟨nb, nl, t, hp, hpl, ht, Or.inr ⟨d, g, k1⟩⟩⟩
          rw [fRG_heal_30, zl]
/-- lose -/
theorem zd_lose {n : Nat} {P P' S S' : ZS} (h : zIv P P') (hT : zXr n P S P' S') (x0 x1 : Int32) : zAns n P P' S' (fRG_lose P S x0 x1) (fMO_lose P' S' x0 x1) := by
  have hs := h.2.2.2.1
  have n1 : ¬ (1 : Int32) = 0 := by decide
  have z0 : (0 : Int32).toInt = 0 := by decide
  have bad1 : fRG_lose P S x0 x1 = .error 1 → fMO_lose P' S' x0 x1 = fMO_lose_25 P' S' x0 x1 0 → zAns n P P' S' (fRG_lose P S x0 x1) (fMO_lose P' S' x0 x1) := fun e1 e2 => by
    refine Or.inl ⟨1, 0, e1, Or.inl rfl, ?_⟩
    rw [e2]
    unfold fMO_lose_25
    simp only [zl, zl2]
    rw [zgoF0, if_pos rfl]
    rfl
  rcases zqL h.2.2.1 S S' x0 with ⟨a1, c1⟩ | ⟨a1, c1, g0, g1⟩
  · refine bad1 ?_ ?_
    · unfold fRG_lose; rw [c1]; rfl
    · unfold fMO_lose fMO_lose_24
      simp only [zl]
      rw [a1, if_pos rfl]
  · by_cases b0 : x1 < 0
    · refine bad1 ?_ ?_
      · unfold fRG_lose fRG_lose_16; rw [c1]
        show (if x1 < 0 then _ else _) = _
        rw [if_pos b0]
      · unfold fMO_lose fMO_lose_24
        simp only [zl]
        rw [a1, if_neg n1, if_pos b0]
    · by_cases b1 : x1 ≤ 1000
      · have b1' : ¬ (1000 : Int32) < x1 := fun q => by
          have := Int32.le_iff_toInt_le.mp b1
          have := Int32.lt_iff_toInt_lt.mp q
          omega
        have eM : fMO_lose P' S' x0 x1 = fMO_lose_25 P' S' x0 x1 1 := by
          unfold fMO_lose
          simp only [zl]
          rw [a1, if_neg n1, if_neg b0, if_neg b1']
        by_cases d : P.I 2 = 0
        · refine Or.inl ⟨2, 0, ?_, Or.inr rfl, ?_⟩
          · unfold fRG_lose; rw [c1]
            show (if x1 < 0 then _ else _) = _
            rw [if_neg b0, if_pos b1, zst_er d]; rfl
          · rw [eM]
            unfold fMO_lose_25
            simp only [zl, zl2]
            rw [hs, d, zgoF1, if_pos rfl]
            rfl
        · obtain ⟨nb, nl, t, hp, hpl, ht, hx⟩ := hT
          rcases hx with ⟨d9, -⟩ | ⟨-, g, hY⟩
          · exact absurd d9 d
          · obtain ⟨y1, y2, y3, y4, ⟨c, m, K, hC⟩, hI, hBd, hG⟩ := hY
            refine Or.inr ⟨S.setF 13 x0.toNatClampNeg x1, (S'.setI 3 0).setF 9 x0.toNatClampNeg x1, S.F 13 x0.toNatClampNeg, ?_, ?_, rfl, ⟨nb, nl, t, hp, hpl, ht, Or.inr ⟨d, g, y1, y2, y3, ?_, ⟨c, m, K, (hC.ri (by decide) (by decide)).s 9 13 (by decide) (by decide) (by decide)⟩, ?_, ?_, fun e9 => ?_⟩⟩⟩
            · unfold fRG_lose; rw [c1]
              show (if x1 < 0 then _ else _) = _
              rw [if_neg b0, if_pos b1, zst_ok d]
              rfl
            · rw [eM]
              unfold fMO_lose_25
              simp only [zl, zl2]
              rw [zgoOk P' S' _ (by rw [hs]; exact d), if_neg n1]
              show ((S'.setI 3 0).setF 9 x0.toNatClampNeg x1, S'.F 9 x0.toNatClampNeg) = _
              rw [hC.g 9 13 (by decide)]
            · rw [zFsn _ (by decide), zFsn _ (by decide)]; exact y4
            · exact zI_of hI (zFsn _ (by decide)) (zFsn _ (by decide)) (zFsn _ (by decide)) (zFsn _ (by decide))
            · refine (hBd.upn (by omega)).F ?_
              have := Int32.le_iff_toInt_le.mp (znlt b0)
              show 0 ≤ x1.toInt
              omega
            · exact zGp_of (hG e9) (zFsn _ (by decide)) (zFsn _ (by decide)) rfl rfl
      · have b1' : (1000 : Int32) < x1 := znle b1
        refine bad1 ?_ ?_
        · unfold fRG_lose fRG_lose_16; rw [c1]
          show (if x1 < 0 then _ else _) = _
          rw [if_neg b0, if_neg b1]
        · unfold fMO_lose fMO_lose_24
          simp only [zl]
          rw [a1, if_neg n1, if_neg b0, if_pos b1']
/-- a port that a check let through -/
theorem zqP {P P' : ZS} {nb nl : Nat} (hr : zRP P P') (hp : zPn P nb nl) (S S' : ZS) (x0 x1 : Int32) : (fRG_requirePort P S x0 x1 = .error 1 ∧ (fMO_isBridge P' S' x0 = 0 ∨ fMO_isLink P' S' x1 = 0 ∨ fMO_isEnd P' S' x0 x1 = 0)) ∨ ∃ b l q, b < nb ∧ l < nl ∧ x0 = nI b ∧ x1 = nI l ∧ fRG_requirePort P S x0 x1 = .ok () ∧ fMO_isBridge P' S' x0 = 1 ∧ fMO_isLink P' S' x1 = 1 ∧ fMO_isEnd P' S' x0 x1 = 1 ∧ fPL_portOf P S x0 x1 = nI q ∧ q / 2 = l ∧ q < 2 * nl ∧ ((q % 2 = 0 ∧ P.F 0 l = nI b) ∨ (q % 2 = 1 ∧ ¬ P.F 0 l = nI b ∧ P.F 1 l = nI b)) := by
  have hb48 := hp.2.1
  have hl60 := hp.2.2.2.1
  have z2 : (2 : Int32) = nI 2 := by decide
  rcases zqB hr S S' x0 with ⟨a1, c1⟩ | ⟨a1, c1, g0, g1⟩
  · refine Or.inl ⟨?_, Or.inl a1⟩
    unfold fRG_requirePort; rw [c1]; rfl
  · rcases zqL hr S S' x1 with ⟨a2, c2⟩ | ⟨a2, c2, g2, g3⟩
    · refine Or.inl ⟨?_, Or.inr (Or.inl a2)⟩
      unfold fRG_requirePort; rw [c1]
      show zbind (fRG_requireLink P S x1) _ = _
      rw [c2]; rfl
    · rw [hp.1] at g1
      rw [hp.2.2.1] at g3
      obtain ⟨b, hb, rfl⟩ := zlN (by omega) g0 g1
      obtain ⟨l, hl, rfl⟩ := zlN (by omega) g2 g3
      have e9 : fRG_requirePort P S (nI b) (nI l) = if fPL_portOf P S (nI b) (nI l) = -1 then .error 1 else .ok () := by
        unfold fRG_requirePort; rw [c1]
        show zbind (fRG_requireLink P S (nI l)) _ = _
        rw [c2]; rfl
      have hM := zend_iff (P := P') (S := S') (b := nI b) (l := l) (by omega)
      rw [hr.2.2.1, hr.2.2.2.1] at hM
      have hM1 : fMO_isEnd P' S' (nI b) (nI l) = 0 ∨ fMO_isEnd P' S' (nI b) (nI l) = 1 := by
        rw [fMO_isEnd]
        repeat rw [zl]
        rw [fMO_isEnd_20]
        split
        · exact Or.inr rfl
        · split
          · exact Or.inr rfl
          · exact Or.inl rfl
      by_cases c : P.F 0 l = nI b ∨ P.F 1 l = nI b
      · have n9 : ¬ fPL_portOf P S (nI b) (nI l) = -1 := fun q => (zpo_iff (by omega)).mp q c
        have m9 : fMO_isEnd P' S' (nI b) (nI l) = 1 := hM1.resolve_left (fun q => hM.mp q c)
        have ep : fPL_portOf P S (nI b) (nI l) = if P.F 0 l = nI b then nI (2 * l) else if P.F 1 l = nI b then nI (2 * l + 1) else -1 := by
          rw [fPL_portOf]
          repeat rw [zl]
          rw [nI_clamp (by omega), z2, nI_mul, nI_1]
        by_cases c0 : P.F 0 l = nI b
        · refine Or.inr ⟨b, l, 2 * l, hb, hl, rfl, rfl, by rw [e9, if_neg n9], a1, a2, m9, by rw [ep, if_pos c0], by omega, by omega, Or.inl ⟨by omega, c0⟩⟩
        · refine Or.inr ⟨b, l, 2 * l + 1, hb, hl, rfl, rfl, by rw [e9, if_neg n9], a1, a2, m9, by rw [ep, if_neg c0, if_pos (c.resolve_left c0)], by omega, by omega, Or.inr ⟨by omega, c0, c.resolve_left c0⟩⟩
      · refine Or.inl ⟨?_, Or.inr (Or.inr (hM.mpr c))⟩
        rw [e9, if_pos ((zpo_iff (by omega)).mpr c)]
/-- its place -/
theorem zqPl {P P' : ZS} {nb nl q b l : Nat} (hp : zPn P nb nl) (hpl : zplace P nl) (hl : l < nl) (hq : q / 2 = l) (hb : b < nb) (he : (q % 2 = 0 ∧ P.F 0 l = nI b) ∨ (q % 2 = 1 ∧ ¬ P.F 0 l = nI b ∧ P.F 1 l = nI b)) : ∃ r, r < 6 ∧ zpl P q = 6 * b + r ∧ P.F 2 l = nI r := by
  have hb48 := hp.2.1
  obtain ⟨p1, p2⟩ := hpl l hl
  have fr : zr 0 5 (P.F 2 l) := hp.2.2.2.2.1 l
  have f1 := fr.1
  have f2 := fr.2
  have rl : (P.F 2 l).toNatClampNeg < 6 := by
    show (P.F 2 l).toInt.toNat < 6
    omega
  refine ⟨(P.F 2 l).toNatClampNeg, rl, ?_, znI fr⟩
  rcases he with ⟨c, e⟩ | ⟨c, -, e⟩
  · rw [show q = 2 * l by omega, p1, e, nI_clamp (by omega)]
  · rw [show q = 2 * l + 1 by omega, p2, e, nI_clamp (by omega)]
theorem zd_order {n : Nat} {P P' S S' : ZS} (h : zIv P P') (hT : zXr n P S P' S') (hn : n ≤ 600) (x0 x1 x2 : Int32) : zAns n P P' S' (fRG_order P S x0 x1 x2) (fMO_order P' S' x0 x1 x2) := by
  have hs := h.2.2.2.1
  have n1 : ¬ (1 : Int32) = 0 := by decide
  obtain ⟨nb, nl, t, hp, hpl, ht, hx⟩ := hT
  rcases zqP h.2.2.1 hp S S' x0 x1 with ⟨c1, a1⟩ | ⟨b, l, q, hb, hl, rfl, rfl, c1, a1, a2, a3, ep, hql, hq2, hends⟩
  · refine Or.inl ⟨1, 0, ?_, Or.inl rfl, ?_⟩
    · unfold fRG_order; rw [c1]; rfl
    · have e30 : fMO_order_30 P' S' x0 x1 x2 = (S'.setI 3 1, 0) := by
        unfold fMO_order_30 fMO_order_31
        simp only [zl, zl2]
        rw [zgoF0, if_pos rfl]
      have eM : fMO_order P' S' x0 x1 x2 = fMO_order_30 P' S' x0 x1 x2 := by
        rw [fMO_order]
        repeat rw [zl]
        rcases a1 with a | a | a
        · rw [a, if_pos rfl]
        · rw [a]
          split
          · rfl
          · rw [if_pos rfl]
        · rw [a]
          split
          · rfl
          · split
            · rfl
            · rw [if_pos rfl]
      rw [eM, e30]
      rfl
  · have eM : fMO_order P' S' (nI b) (nI l) x2 = fMO_order_31 P' S' (nI b) (nI l) x2 1 := by
      rw [fMO_order]
      repeat rw [zl]
      rw [a1, a2, a3, if_neg n1, if_neg n1, if_neg n1]
    by_cases d : P.I 2 = 0
    · refine Or.inl ⟨2, 0, ?_, Or.inr rfl, ?_⟩
      · unfold fRG_order; rw [c1]
        show zbind (fRG_requireStarted P S) _ = _
        rw [zst_er d]; rfl
      · rw [eM]
        unfold fMO_order_31
        simp only [zl, zl2]
        rw [hs, d, zgoF1, if_pos rfl]
        rfl
    · rcases hx with ⟨d9, -⟩ | ⟨-, g, hY⟩
      · exact absurd d9 d
      · obtain ⟨y1, y2, y3, y4, ⟨c, m, K, hC⟩, hI, hBd, hG⟩ := hY
        have hn2 := g.nl
        have hnb := g.nb
        obtain ⟨r, hr, hk, e2⟩ := zqPl (P' := P') hp hpl hl hql hb hends
        have r2 : P'.F 2 = P.F 2 := g.2.1.2.2.2.2.1
        have kS : zC 0 False c m K S (S'.setI 3 0) := hC.ri (by decide) (by decide)
        have iS : zIS P nb nl S (S'.setI 3 0) := zI_of hI rfl rfl rfl rfl
        have eC : fRG_order P S (nI b) (nI l) x2 = .ok (if x2 = 0 then fRG_order_32 P S 4 (nI q) else fRG_order_32 P S 2 (nI q)) := by
          unfold fRG_order; rw [c1]
          show zbind (fRG_requireStarted P S) _ = _
          rw [zst_ok d]
          show Except.ok (zl (fPL_portOf P S (nI b) (nI l)) _) = _
          rw [ep]
          rfl
        have eM2 : fMO_order_31 P' S' (nI b) (nI l) x2 1 = if x2 = 0 then fMO_order_64 P' (S'.setI 3 0) (nI b) (nI l) (nI (6 * b + r)) 4 else fMO_order_64 P' (S'.setI 3 0) (nI b) (nI l) (nI (6 * b + r)) 2 := by
          rw [fMO_order_31]
          repeat (first | rw [zl] | rw [zl2])
          rw [zgoOk P' S' _ (by rw [hs]; exact d), if_neg n1, nI_clamp (by omega), r2, e2, zat]
        -- one kind
        have key : ∀ kd : Int32, (kd = 2 ∨ kd = 4) → zAns n P P' S' (.ok (fRG_order_32 P S kd (nI q))) (fMO_order_64 P' (S'.setI 3 0) (nI b) (nI l) (nI (6 * b + r)) kd) := by
          intro kd hkd
          have fre := zfresh g iS hq2 hk hr hkd
          rw [hql] at fre
          have ck : (nI (6 * b + r)).toNatClampNeg = 6 * b + r := nI_clamp (by omega)
          have e64 : fMO_order_64 P' (S'.setI 3 0) (nI b) (nI l) (nI (6 * b + r)) kd = if (S'.setI 3 0).F 15 (6 * b + r) = kd ∧ (S'.setI 3 0).F 16 (6 * b + r) = nI l then fMO_order_94 P' (S'.setI 3 0) (nI b) (nI l) (nI (6 * b + r)) kd 0 else fMO_order_94 P' (S'.setI 3 0) (nI b) (nI l) (nI (6 * b + r)) kd 1 := by
            rw [fMO_order_64, fMO_order_89]
            repeat rw [zl]
            rw [ck]
            by_cases w1 : (S'.setI 3 0).F 15 (6 * b + r) = kd
            · rw [if_pos w1]
              by_cases w2 : (S'.setI 3 0).F 16 (6 * b + r) = nI l
              · rw [if_pos w2, if_pos ⟨w1, w2⟩]
              · rw [if_neg w2, if_neg (fun e => w2 e.2)]
            · rw [if_neg w1, if_neg (fun e => w1 e.1)]
          rw [e64]
          by_cases w : S.F 14 q &&& kd = 0
          · rw [if_neg (fre.mp w)]
            obtain ⟨v, lv, ev⟩ := zge (n := n) (hBd 20 b)
            obtain ⟨T, T', e1, e2', e3, e4, e5, e6⟩ := kS.ord (fun q => q) g iS hBd hq2 hk hr hkd (show v + 1 ≤ 32767 by omega) (by omega) (by rw [ev, nI_1]) w
            rw [hql] at e2'
            rw [e2']
            have qB := q_fPR_giveCommand P S (nI q) kd
            have hc := hc_fPR_giveCommand P S (nI q) kd
            rw [e1] at qB hc
            have uI : ∀ x, x ∉ [5, 8, 11, 12, 13, 14] → T'.I x = (S'.setI 3 0).I x := e6.1
            have uF : T'.F 22 = S'.F 22 := e6.2
            have tI : ∀ x, x ∉ [9, 10, 11] → T.I x = S.I x := fun x hx => qB.1 x hx
            obtain ⟨k1, k2⟩ := zlooks (n := n + 1) (t := t) (T := T) (T' := T'.setI 7 0) g (by rw [tI 3 (by decide)]; exact y1) (uI 3 (by decide)) (by
              show T'.I 4 = _
              rw [uI 4 (by decide), tI 3 (by decide)]
              exact y2) (by
              show T'.I 9 = _
              rw [uI 9 (by decide), tI 7 (by decide)]
              exact y3) (by
              show T'.F 22 = _
              rw [uF, show T.F 23 = S.F 23 from qB.2 23 (by decide)]
              exact y4) ⟨c, m + 1, K + 14, e3.ri (by decide) (by decide)⟩ e4 e5 (fun e9 => by
              obtain ⟨w1, w2⟩ := hc e9
              exact zGp_of (hG w1) (qB.2 27 (by decide)) w2 (tI 6 (by decide)) (tI 14 (by decide)))
            refine Or.inr ⟨fRG_countCircle P T, fMO_look P' (T'.setI 7 0), 1, ?_, rfl, k2, ⟨nb, nl, t, hp, hpl, ht, Or.inr ⟨d, g, k1⟩⟩⟩
            rw [fRG_order_32, zl2, e1, zl]
          · have w9 : (S'.setI 3 0).F 15 (6 * b + r) = kd ∧ (S'.setI 3 0).F 16 (6 * b + r) = nI l := by
              by_cases w9 : (S'.setI 3 0).F 15 (6 * b + r) = kd ∧ (S'.setI 3 0).F 16 (6 * b + r) = nI l
              · exact w9
              · exact absurd (fre.mpr w9) w
            rw [if_pos w9, fMO_order_94, if_pos rfl, fMO_order_175, zl]
            have eg : fPR_giveCommand P S (nI q) kd = (S, 0) := by
              rw [fPR_giveCommand, zl, zl, nI_clamp (by omega), if_neg w]
            obtain ⟨k1, k2⟩ := zlooks (n := n + 1) (t := t) (T := S) (T' := S'.setI 3 0) g y1 rfl y2 y3 y4 ⟨c, m, K, kS⟩ iS (hBd.upn (by omega)) hG
            refine Or.inr ⟨fRG_countCircle P S, fMO_look P' (S'.setI 3 0), 0, ?_, rfl, k2, ⟨nb, nl, t, hp, hpl, ht, Or.inr ⟨d, g, k1⟩⟩⟩
            rw [fRG_order_32, zl2, eg, zl]
        rw [eC, eM, eM2]
        by_cases x : x2 = 0
        · rw [if_pos x, if_pos x]
          exact key 4 (Or.inr rfl)
        · rw [if_neg x, if_neg x]
          exact key 2 (Or.inl rfl)
theorem zd_clear {n : Nat} {P P' S S' : ZS} (h : zIv P P') (hT : zXr n P S P' S') (hn : n ≤ 600) (x0 x1 : Int32) : zAns n P P' S' (fRG_clear P S x0 x1) (fMO_clear P' S' x0 x1) := by
  have hs := h.2.2.2.1
  have n1 : ¬ (1 : Int32) = 0 := by decide
  have z6 : (6 : Int32) = nI 6 := by decide
  have e20 : fMO_clear_20 P' S' x0 x1 = (S'.setI 3 1, 0) := by
    unfold fMO_clear_20 fMO_clear_21
    simp only [zl, zl2]
    rw [zgoF0, if_pos rfl]
  rcases zqB h.2.2.1 S S' x0 with ⟨a1, c1⟩ | ⟨a1, c1, g0, g1⟩
  · refine Or.inl ⟨1, 0, ?_, Or.inl rfl, ?_⟩
    · unfold fRG_clear; rw [c1]; rfl
    · rw [fMO_clear]
      repeat rw [zl]
      rw [a1, if_pos rfl, e20]
      rfl
  · rcases zqR P S P' S' x1 with ⟨a2, c2⟩ | ⟨a2, c2, gr⟩
    · refine Or.inl ⟨1, 0, ?_, Or.inl rfl, ?_⟩
      · unfold fRG_clear; rw [c1]
        show zbind (fRG_requireRing P S x1) _ = _
        rw [c2]; rfl
      · rw [fMO_clear]
        repeat rw [zl]
        rw [a1, if_neg n1, a2, if_pos rfl, e20]
        rfl
    · have eM : fMO_clear P' S' x0 x1 = fMO_clear_21 P' S' x0 x1 1 := by
        rw [fMO_clear]
        repeat rw [zl]
        rw [a1, a2, if_neg n1, if_neg n1]
      by_cases d : P.I 2 = 0
      · refine Or.inl ⟨2, 0, ?_, Or.inr rfl, ?_⟩
        · unfold fRG_clear; rw [c1]
          show zbind (fRG_requireRing P S x1) _ = _
          rw [c2]
          show zbind (fRG_requireStarted P S) _ = _
          rw [zst_er d]; rfl
        · rw [eM]
          unfold fMO_clear_21
          simp only [zl, zl2]
          rw [hs, d, zgoF1, if_pos rfl]
          rfl
      · obtain ⟨nb, nl, t, hp, hpl, ht, hx⟩ := hT
        rcases hx with ⟨d9, -⟩ | ⟨-, g, hY⟩
        · exact absurd d9 d
        · obtain ⟨y1, y2, y3, y4, ⟨c, m, K, hC⟩, hI, hBd, hG⟩ := hY
          have hnb := g.nb
          rw [hp.1] at g1
          obtain ⟨b, hb, rfl⟩ := zlN (by omega) g0 g1
          obtain ⟨r, lr, rfl⟩ := zge (x := x1) (n := 5) ⟨gr.1, gr.2⟩
          have kS : zC 0 False c m K S (S'.setI 3 0) := hC.ri (by decide) (by decide)
          have iS : zIS P nb nl S (S'.setI 3 0) := zI_of hI rfl rfl rfl rfl
          have eC : fRG_clear P S (nI b) (nI r) = .ok (fRG_countCircle P (fPR_endCommand P S (nI (6 * b + r))).1, (fPR_endCommand P S (nI (6 * b + r))).2) := by
            unfold fRG_clear; rw [c1]
            show zbind (fRG_requireRing P S (nI r)) _ = _
            rw [c2]
            show zbind (fRG_requireStarted P S) _ = _
            rw [zst_ok d]
            have e9 : nI b * 6 + nI r = nI (6 * b + r) := by rw [z6, nI_mul, nI_add, show b * 6 + r = 6 * b + r by omega]
            rw [← e9]
            rfl
          have eM2 : fMO_clear_21 P' S' (nI b) (nI r) 1 = if (fMO_endCommand P' (S'.setI 3 0) (nI b) (nI r)).2 = 0 then (fMO_look P' ((fMO_endCommand P' (S'.setI 3 0) (nI b) (nI r)).1.setI 7 ((fMO_endCommand P' (S'.setI 3 0) (nI b) (nI r)).1.I 7)), (fMO_endCommand P' (S'.setI 3 0) (nI b) (nI r)).2) else (fMO_look P' ((fMO_endCommand P' (S'.setI 3 0) (nI b) (nI r)).1.setI 7 0), (fMO_endCommand P' (S'.setI 3 0) (nI b) (nI r)).2) := by
            rw [fMO_clear_21]
            repeat (first | rw [zl] | rw [zl2])
            rw [zgoOk P' S' _ (by rw [hs]; exact d), if_neg n1]
            repeat rw [fMO_clear_53]
            repeat rw [zl]
          rw [eC, eM, eM2]
          have b9 := zBd_ec g.1.1 hnb (hBd.upn (show n ≤ n + 1 by omega)) (nI (6 * b + r))
          have qB := q_fPR_endCommand P S (nI (6 * b + r))
          have hc := hc_fPR_endCommand P S (nI (6 * b + r))
          have q8 := q_fMO_endCommand P' (S'.setI 3 0) (nI b) (nI r)
          have fin : ∀ (T T' : ZS) (v y : Int32), (∃ c m K, zC 0 False c m K T T') → zIS P nb nl T T' → zBd P (n + 1) t 0 0 T → (∀ x, x ∉ [10, 11] → T.I x = S.I x) → T.F 23 = S.F 23 → T.F 27 = S.F 27 → zhc S T → (∀ x, x ∉ [8] → T'.I x = (S'.setI 3 0).I x) → T'.F 22 = S'.F 22 → zAns n P P' S' (.ok (fRG_countCircle P T, v)) (fMO_look P' (T'.setI 7 y), v) := by
            intro T T' v y kT iT bT tI t23 t27 hcT uI uF
            obtain ⟨c', m', K', kT⟩ := kT
            obtain ⟨k1, k2⟩ := zlooks (n := n + 1) (t := t) (T := T) (T' := T'.setI 7 y) g (by rw [tI 3 (by decide)]; exact y1) (uI 3 (by decide)) (by
              show T'.I 4 = _
              rw [uI 4 (by decide), tI 3 (by decide)]
              exact y2) (by
              show T'.I 9 = _
              rw [uI 9 (by decide), tI 7 (by decide)]
              exact y3) (by
              show T'.F 22 = _
              rw [uF, t23]
              exact y4) ⟨c', m', K', kT.ri (by decide) (by decide)⟩ iT bT (fun e9 => by
              obtain ⟨w1, w2⟩ := hcT e9
              exact zGp_of (hG w1) t27 w2 (tI 6 (by decide)) (tI 14 (by decide)))
            exact Or.inr ⟨_, _, v, rfl, rfl, k2, ⟨nb, nl, t, hp, hpl, ht, Or.inr ⟨d, g, k1⟩⟩⟩
          rcases kS.ec (b := b) (r := r) g iS hb (by omega) with ⟨w1, w2, -⟩ | ⟨T, T', w1, w2, w3, w4, -⟩
          · rw [w1, w2, if_pos rfl]
            exact fin S (S'.setI 3 0) 0 _ ⟨c, m, K, kS⟩ iS (hBd.upn (by omega)) (fun _ _ => rfl) rfl rfl zhc.rf (fun _ _ => rfl) rfl
          · rw [w1] at b9 qB hc
            rw [w2] at q8
            rw [w1, w2, if_neg n1]
            exact fin T T' 1 0 ⟨c, m + 1, K + 1, w3⟩ w4 b9 (fun x hx => qB.1 x hx) (qB.2 23 (by decide)) (qB.2 27 (by decide)) hc (fun x hx => q8.1 x hx) (q8.2 22 (by decide))

theorem zti1 {x : Int32} (h : 0 ≤ x.toInt ∧ x.toInt ≤ 1000) : (x + 1).toInt = x.toInt + 1 := zx1 (a := 0) (b := 1000) ⟨h.1, h.2⟩ (by decide)
theorem zh65 (P : ZS) (rc : ZS → Int32 → Int32 → Int32 → (ZS × Int32)) (x1 x3 x4 : Int32) (hrc : ∀ S, (rc S x1 x3 (x4 + 1)).2 = x3) : ∀ (n : Nat) (S : ZS) (x5 : Int32), 0 ≤ x5.toInt → x5.toInt ≤ 4 → 4 - x5.toInt < n → (zfix (fun S9 _ _ _ _ => (S9, 0)) (fMO_host_65 P rc) n S x1 x3 x4 x5).2 = x3 := by
  have z4 : (4 : Int32).toInt = 4 := by decide
  intro n
  induction n with
  | zero => intro S x5 h0 h1 h2; omega
  | succ n ih =>
    intro S x5 h0 h1 h2
    rw [zfix_s]
    generalize zfix (fun S9 _ _ _ _ => (S9, 0)) (fMO_host_65 P rc) n = rd at ih ⊢
    unfold fMO_host_65
    by_cases c : 4 ≤ x5
    · rw [if_pos c]
      exact hrc S
    · rw [if_neg c]
      simp only [zl]
      have lt : x5.toInt < 4 := by
        have := Int.not_le.mp (fun q => c (Int32.le_iff_toInt_le.mpr q))
        omega
      have ex : (x5 + 1).toInt = x5.toInt + 1 := zti1 ⟨by omega, by omega⟩
      exact ih _ (x5 + 1) (by omega) (by omega) (by omega)
theorem zh53 (P : ZS) (hP : (P.I 1).toInt ≤ 48) (x1 x3 : Int32) : ∀ (n : Nat) (S : ZS) (x4 : Int32), 0 ≤ x4.toInt → x4.toInt ≤ 48 → 48 - x4.toInt < n → (zfix (fun S9 _ _ _ => (S9, 0)) (fMO_host_53 P) n S x1 x3 x4).2 = x3 := by
  have z0 : (0 : Int32).toInt = 0 := by decide
  intro n
  induction n with
  | zero => intro S x4 h0 h1 h2; omega
  | succ n ih =>
    intro S x4 h0 h1 h2
    rw [zfix_s]
    generalize zfix (fun S9 _ _ _ => (S9, 0)) (fMO_host_53 P) n = rc at ih ⊢
    unfold fMO_host_53
    simp only [zl]
    by_cases c : P.I 1 ≤ x4
    · rw [if_pos c]
    · rw [if_neg c]
      have lt : x4.toInt < (P.I 1).toInt := Int.not_le.mp (fun q => c (Int32.le_iff_toInt_le.mpr q))
      have ex : (x4 + 1).toInt = x4.toInt + 1 := zti1 ⟨by omega, by omega⟩
      exact zh65 P rc x1 x3 x4 (fun S => ih S (x4 + 1) (by omega) (by omega) (by omega)) 5 S 0 (by omega) (by omega) (by omega)
theorem zgo2 (P S : ZS) (t : Int32) (h : ¬ t = 0) : fMO_goes P S 1 t = (S.setI 3 0, 1) := zgoOk P S t h
theorem zhm0 (P S : ZS) (x0 x1 : Int32) : fMO_host_24 P S x0 x1 0 = (S.setI 3 1, 0) := by
  simp only [fMO_host_24, zl, zl2, zgoF0]
  rw [if_pos trivial]
theorem zhm2 {P S : ZS} {x0 x1 : Int32} (h : P.I 0 = 0) : fMO_host_24 P S x0 x1 1 = (S.setI 3 2, 0) := by
  simp only [fMO_host_24, zl, zl2]
  rw [h, zgoF1]
  rw [if_pos rfl]
theorem zhm1 {P S : ZS} {x0 x1 : Int32} (h : ¬ P.I 0 = 0) : fMO_host_24 P S x0 x1 1 = zfix (fun S9 _ _ _ => (S9, 0)) (fMO_host_53 P) 49 ((S.setI 3 0).setF 22 x0.toNatClampNeg x1) x0 (S.F 22 x0.toNatClampNeg) 0 := by
  simp only [fMO_host_24, zl, zl2]
  rw [zgo2 P S _ h]
  rw [if_neg (by decide : ¬ (1 : Int32) = 0)]
  rfl
theorem zhrow (T : ZS) (k i : Nat) (v : Int32) : (T.setF k i v).F k = upd (T.F k) i v := by
  show (if k = k then upd (T.F k) i v else T.F k) = _
  rw [if_pos rfl]
/-- host: both refuse alike, or both say the same number -/
theorem zs_host0 {P P' S S' : ZS} {f : Nat → Int64} {x0 x1 r r' : Int32} {w : ZS × ZS × (Nat → Int64)} {x9 : ZS} (h : zIv P P') (hT : S'.F 22 = S.F 23) (h1 : zH_host P S f x0 x1 r w) (h2 : (x9, r') = fMO_host P' S' x0 x1) : (x9.I 3 = r ∧ (r = 0 → w.2.2 (0 : Int32).toNatClampNeg = r'.toInt64)) ∧ x9.F 22 = w.2.1.F 23 := by
  obtain ⟨P1, S1, f1⟩ := w
  have hs := h.2.2.2.1
  have z64 : (64 : Int32).toInt = 64 := by decide
  have z0 : (0 : Int32).toInt = 0 := by decide
  have bad : ∀ k : Nat, ∀ c : Int32, fRG_host P S x0 x1 = .error k → fMO_host P' S' x0 x1 = (S'.setI 3 c, 0) → c = (if k = 1 then 1 else 2) → (x9.I 3 = r ∧ (r = 0 → f1 (0 : Int32).toNatClampNeg = r'.toInt64)) ∧ x9.F 22 = S1.F 23 := by
    intro k c e1 e2 ec
    unfold zH_host at h1
    rw [e1] at h1
    rw [e2] at h2
    obtain ⟨hr, hw⟩ := h1
    cases hw
    cases h2
    refine ⟨⟨?_, fun r0 => ?_⟩, hT⟩
    · rw [hr]; exact ec
    · rw [hr] at r0
      split at r0
      · exact absurd r0 (by decide)
      · exact absurd r0 (by decide)
  by_cases c1 : x0 < 0
  · refine bad 1 1 ?_ ?_ rfl
    · unfold fRG_host fRG_requireHost fRG_requireHost_10
      rw [if_pos c1]
      rfl
    · unfold fMO_host fMO_host_23
      rw [if_pos c1, zhm0]
  · by_cases c2 : 64 ≤ x0
    · have c3 : ¬ x0 < 64 := fun q => by
        have := Int32.le_iff_toInt_le.mp c2
        have := Int32.lt_iff_toInt_lt.mp q
        omega
      refine bad 1 1 ?_ ?_ rfl
      · unfold fRG_host fRG_requireHost fRG_requireHost_10
        rw [if_neg c1, if_neg c3]
        rfl
      · unfold fMO_host fMO_host_23
        rw [if_neg c1, if_pos c2, zhm0]
    · have c3 : x0 < 64 := Int32.lt_iff_toInt_lt.mpr (by
        have := Int.not_le.mp (fun q => c2 (Int32.le_iff_toInt_le.mpr q))
        omega)
      have eh : fRG_requireHost P S x0 = .ok () := by
        unfold fRG_requireHost
        rw [if_neg c1, if_pos c3]
      rcases zqB h.2.2.1 S S' x1 with ⟨m1, d1⟩ | ⟨m1, d1, -, -⟩
      · refine bad 1 1 ?_ ?_ rfl
        · unfold fRG_host
          rw [eh]
          show zbind (fRG_requireBridge P S x1) _ = _
          rw [d1]
          rfl
        · unfold fMO_host fMO_host_23
          simp only [zl]
          rw [if_neg c1, if_neg c2, m1, if_pos rfl, zhm0]
      · have m0 : fMO_host P' S' x0 x1 = fMO_host_24 P' S' x0 x1 1 := by
          unfold fMO_host
          simp only [zl]
          rw [if_neg c1, if_neg c2, m1, if_neg (by decide : ¬ (1 : Int32) = 0)]
        by_cases d : P.I 2 = 0
        · have en : fRG_requireStarted P S = .error 2 := by
            simp only [fRG_requireStarted, zl]
            rw [if_pos d]
          refine bad 2 2 ?_ ?_ rfl
          · unfold fRG_host
            rw [eh]
            show zbind (fRG_requireBridge P S x1) _ = _
            rw [d1]
            show zbind (fRG_requireStarted P S) _ = _
            rw [en]
            rfl
          · rw [m0, zhm2 (by rw [hs]; exact d)]
        · have en : fRG_requireStarted P S = .ok () := by
            simp only [fRG_requireStarted, zl]
            rw [if_neg d]
          have e1 : fRG_host P S x0 x1 = .ok (fTA_forgetHost P (S.setF 23 x0.toNatClampNeg x1) x0, S.F 23 x0.toNatClampNeg) := by
            unfold fRG_host
            rw [eh]
            show zbind (fRG_requireBridge P S x1) _ = _
            rw [d1]
            show zbind (fRG_requireStarted P S) _ = _
            rw [en]
            rfl
          rw [m0, zhm1 (by rw [hs]; exact d)] at h2
          have mB : (P'.I 1).toInt ≤ 48 := (h.2.1.2.1 1).2
          have b2 := zh53 P' mB x0 (S'.F 22 x0.toNatClampNeg) 49 ((S'.setI 3 0).setF 22 x0.toNatClampNeg x1) 0 (by omega) (by omega) (by omega)
          have b0 := z_fMO_host_53 P' 49 ((S'.setI 3 0).setF 22 x0.toNatClampNeg x1) x0 (S'.F 22 x0.toNatClampNeg) 0
          rw [← h2] at b0 b2
          have b3 := b0.1 3 (by decide)
          have b4 := b0.2 22 (by decide)
          have a4 := (q_fTA_forgetHost P (S.setF 23 x0.toNatClampNeg x1) x0).2 23 (by decide)
          unfold zH_host at h1
          rw [e1] at h1
          obtain ⟨hr, hw⟩ := h1
          cases hw
          refine ⟨⟨?_, fun _ => ?_⟩, ?_⟩
          · rw [hr]; exact b3.trans rfl
          · show (S.F 23 x0.toNatClampNeg).toInt64 = _
            have b2 : r' = S'.F 22 x0.toNatClampNeg := b2
            rw [b2, hT]
          · have b4 : x9.F 22 = ((S'.setI 3 0).setF 22 x0.toNatClampNeg x1).F 22 := b4
            rw [b4, zhrow]
            show upd (S'.F 22) _ _ = _
            rw [hT]
            exact (a4.trans (zhrow S 23 x0.toNatClampNeg x1)).symm

/-! the other calls -/
theorem zd_ticks {n : Nat} {P P' S S' : ZS} (h : zIv P P') (hT : zXr n P S P' S') (hn : n ≤ 600) (x0 : Int32) : zAns n P P' S' (fRG_ticks P S x0) (fMO_ticks P' S' x0) := by
  have hs := h.2.2.2.1
  have n1 : ¬ (1 : Int32) = 0 := by decide
  have z1 : (1 : Int32).toInt = 1 := by decide
  have z200 : (200 : Int32).toInt = 200 := by decide
  have e17 : fMO_ticks_17 P' S' x0 = (S'.setI 3 1, 0) := by
    rw [fMO_ticks_17, fMO_ticks_18]
    repeat rw [fMO_ticks_41]
    repeat rw [fMO_ticks_42]
    repeat (first | rw [zl] | rw [zl2])
    rw [zgoF0, zgoF0, if_pos rfl]
    split
    · rfl
    · split <;> rfl
  by_cases c1 : x0 < 1
  · refine Or.inl ⟨1, 0, ?_, Or.inl rfl, ?_⟩
    · rw [fRG_ticks, if_pos c1, fRG_ticks_12]
    · rw [fMO_ticks, if_pos c1, e17]
      rfl
  · by_cases c2 : x0 ≤ 200
    · have c2' : ¬ (200 : Int32) < x0 := fun q => by
        have := Int32.le_iff_toInt_le.mp c2
        have := Int32.lt_iff_toInt_lt.mp q
        omega
      have eM : fMO_ticks P' S' x0 = fMO_ticks_18 P' S' x0 1 := by rw [fMO_ticks, if_neg c1, if_neg c2']
      have e41 : fMO_ticks_41 P' S' x0 1 = (S'.setI 3 2, 0) := by
        rw [fMO_ticks_41, fMO_ticks_42]
        repeat (first | rw [zl] | rw [zl2])
        rw [zgoF1, if_pos rfl]
      by_cases d : P.I 2 = 0
      · refine Or.inl ⟨2, 0, ?_, Or.inr rfl, ?_⟩
        · rw [fRG_ticks, if_neg c1, if_pos c2, zst_er d]; rfl
        · rw [eM, fMO_ticks_18, zl, if_pos (by rw [hs]; exact d), e41]
          rfl
      · obtain ⟨nb, nl, t, hp, hpl, ht, hx⟩ := hT
        rcases hx with ⟨d9, -⟩ | ⟨-, g, hY⟩
        · exact absurd d9 d
        · have y1 := hY.1
          have y2 := hY.2.1
          have q1 := Int32.le_iff_toInt_le.mp (znlt c1)
          have q2 := Int32.le_iff_toInt_le.mp c2
          obtain ⟨k, lk, rfl⟩ := zge (x := x0) (n := 200) ⟨by omega, by omega⟩
          have z20 : (20000 : Int32) = nI 20000 := by decide
          have eM2 : fMO_ticks P' S' (nI k) = if 20000 < nI (t + k) then (S'.setI 3 2, 0) else zfix (fun S9 _ _ => (S9, 0)) (fMO_ticks_52 P') 257 (S'.setI 3 0) (nI k) 0 := by
            rw [eM, fMO_ticks_18, zl, if_neg (by rw [hs]; exact d), zl, zl, e41, y2, y1, nI_add, fMO_ticks_42]
            repeat (first | rw [zl] | rw [zl2])
            rw [zgoOk P' S' 1 n1, if_neg n1]
          have eC : fRG_ticks P S (nI k) = if nI (t + k) ≤ 20000 then .ok (zfix (fun S9 _ _ => (S9, 0)) (fRG_ticks_50 P) 258 S (nI k) 0) else .error 2 := by
            have e9 : ∀ q : Unit → Except Nat (ZS × Int32), zbind (Except.ok ()) q = q () := fun q => rfl
            rw [fRG_ticks, if_neg c1, if_pos c2, zst_ok d, e9, zl, zl, y1, nI_add]
          rw [eC, eM2]
          by_cases w : t + k ≤ 20000
          · rw [z20, if_pos (nI_le w (by omega)), if_neg (nI_nlt w (by omega))]
            have hY2 : zY nb nl (n + 1) t P S (S'.setI 3 0) := by
              obtain ⟨a1, a2, a3, a4, ⟨c, m, K, hC⟩, hI, hBd, hG⟩ := hY
              exact ⟨a1, a2, a3, a4, ⟨c, m, K, hC.ri (by decide) (by decide)⟩, zI_of hI rfl rfl rfl rfl, hBd.upn (by omega), hG⟩
            obtain ⟨T, T', e1, e2, e3, e4⟩ := zticks (n := n + 1) (c := k) g (by omega) (by omega) 258 257 0 t S (S'.setI 3 0) (by omega) (by omega) (by omega) hY2 rfl (by omega)
            have z0 : (0 : Int32) = nI 0 := by decide
            rw [← z0] at e1 e2
            rw [e1, e2, e3.2.1]
            exact Or.inr ⟨T, T', T.I 3, rfl, rfl, e4, ⟨nb, nl, t + (k - 0), hp, hpl, by omega, Or.inr ⟨d, g, e3⟩⟩⟩
          · rw [z20, if_neg (nI_ge (by omega) (by omega)), if_pos (nI_lt (by omega) (by omega))]
            exact Or.inl ⟨2, 0, rfl, Or.inr rfl, rfl⟩
    · have c2' : (200 : Int32) < x0 := znle c2
      refine Or.inl ⟨1, 0, ?_, Or.inl rfl, ?_⟩
      · rw [fRG_ticks, if_neg c1, if_neg c2, fRG_ticks_12]
      · rw [fMO_ticks, if_neg c1, if_pos c2', e17]
        rfl
theorem zXr.h22 {n : Nat} {P S P' S' : ZS} (h : zXr n P S P' S') : S'.F 22 = S.F 23 := by
  obtain ⟨nb, nl, t, -, -, -, hx⟩ := h
  rcases hx with ⟨-, -, -, -, e⟩ | ⟨-, -, hY⟩
  · exact e
  · exact hY.2.2.2.1
theorem zk_host {n : Nat} {P P' S S' : ZS} {f : Nat → Int64} {x0 x1 r r' : Int32} {w : ZS × ZS × (Nat → Int64)} {x9 : ZS} (h : zIv P P') (hT : zXr n P S P' S') (h1 : zH_host P S f x0 x1 r w) (h2 : (x9, r') = fMO_host P' S' x0 x1) : zXr (n + 1) P w.2.1 P' x9 := by
  have k := (zs_host0 h hT.h22 h1 h2).2
  have qM := q_fMO_host P' S' x0 x1
  rw [← h2] at qM
  unfold zH_host at h1
  cases e : fRG_host P S x0 x1 with
  | error q =>
    rw [e] at h1
    rw [h1.2] at k ⊢
    exact hT.fr9 (ws := []) (fs := []) zfr.rf qM (by decide) (by decide) (by decide) (by decide) (fun _ => k)
  | ok z =>
    rw [e] at h1
    have qC := q_fRG_host P S x0 x1 z e
    rw [h1.2] at k ⊢
    exact hT.fr9 qC qM (by decide) (by decide) (by decide) (by decide) (fun _ => k)
theorem zk_send {n : Nat} {P P' S S' : ZS} {f : Nat → Int64} {x0 x1 x2 r r' : Int32} {w : ZS × ZS × (Nat → Int64)} {x9 : ZS} (hT : zXr n P S P' S') (h1 : zH_send P S f x0 x1 x2 r w) (h2 : (x9, r') = fMO_send P' S' x0 x1 x2) : zXr (n + 1) P w.2.1 P' x9 := by
  have qM := q_fMO_send P' S' x0 x1 x2
  rw [← h2] at qM
  unfold zH_send at h1
  cases e : fRG_send P S x0 x1 x2 with
  | error q =>
    rw [e] at h1
    rw [h1.2]
    exact hT.fr (ws := []) (fs := []) zfr.rf qM (by decide) (by decide) (by decide) (by decide) (by decide) (by decide)
  | ok z =>
    rw [e] at h1
    have qC := q_fRG_send P S x0 x1 x2 z e
    rw [h1.2]
    exact hT.fr qC qM (by decide) (by decide) (by decide) (by decide) (by decide) (by decide)
/-- joined, the reference's groups -/
theorem zjoM {P P' : ZS} {nb nl : Nat} (hp : zPn P nb nl) (hr : zRP P P') {h f : Nat → Int32} (h1 : ∀ l, l < nl → h (2 * l) &&& 1 = 0 → f l = 0) {a b : Nat} (ha : a < nb) (hb : b < nb) : ∀ (n l : Nat) (X : ZS), l ≤ nl → nl - l < n → X.F 10 = h → X.F 7 = f → (∀ i, i < nb → X.F 33 i = zgc P h nb l i) →
    ∃ T, zfix (fun S9 _ _ _ => (S9, 0)) (fMO_joined_59 P') n X (nI a) (nI b) (nI l) = (T, if zgc P h nb nl a = zgc P h nb nl b then 1 else 0) := by
  obtain ⟨hB, hb48, hL, hl60, hR, hE⟩ := hp
  obtain ⟨r1, r2, r3, r4, r5, -⟩ := hr
  intro n
  induction n with
  | zero => intro l X g1 g2; omega
  | succ n ih =>
    intro l X g1 g2 h10 h7 hs
    rw [zfix_s]
    generalize zfix (fun S9 _ _ _ => (S9, 0)) (fMO_joined_59 P') n = rc at ih ⊢
    unfold fMO_joined_59 fMO_joined_98 fMO_joined_99
    simp only [zl, zl2]
    rw [r2, hL, r3, r4]
    by_cases d : l = nl
    · rw [if_pos (nI_le (by omega) (by omega)), nI_clamp (by omega), nI_clamp (by omega), hs a ha, hs b hb, d]
      by_cases w : zgc P h nb nl a = zgc P h nb nl b
      · rw [if_pos w, if_pos w]; exact ⟨X, rfl⟩
      · rw [if_neg w, if_neg w]; exact ⟨X, rfl⟩
    · rw [if_neg (nI_ge (by omega) (by omega)), nI_clamp (by omega), nI_1]
      obtain ⟨la, lb, -⟩ := hE l (by omega)
      by_cases o : zopn h l
      · have o' : ¬ fMO_isOpen P' X (nI l) = 0 := fun e => (zopM (by omega) (by rw [h10, h7]; exact h1 l (by omega))).mp e (by rw [h10]; exact o)
        rw [if_neg o']
        have qj := q_fMO_join P' X (P.F 0 l) (P.F 1 l)
        obtain ⟨X1, e1, f1⟩ := zmj (P := P') (S := X) (a := P.F 0 l) (b := P.F 1 l) (r1.trans hB) hb48
        rw [e1] at qj
        rw [e1]
        have k := ih (l + 1) X1 (by omega) (by omega) ((qj.2 10 (by decide)).trans h10) ((qj.2 7 (by decide)).trans h7) (fun i hi => by
          rw [f1 i, zgc_s, if_pos o]
          unfold zgo
          rw [hs i hi, hs _ la, hs _ lb])
        split
        · exact k
        · exact k
      · have o' : fMO_isOpen P' X (nI l) = 0 := (zopM (by omega) (by rw [h10, h7]; exact h1 l (by omega))).mpr (by rw [h10]; exact o)
        rw [if_pos o']
        exact ih (l + 1) X (by omega) (by omega) h10 h7 (fun i hi => by rw [zgc_s, if_neg o]; exact hs i hi)
theorem zjoinM {P P' : ZS} {nb nl : Nat} (hp : zPn P nb nl) (hr : zRP P P') (S : ZS) (h1 : ∀ l, l < nl → S.F 10 (2 * l) &&& 1 = 0 → S.F 7 l = 0) {a b : Nat} (ha : a < nb) (hb : b < nb) : ∃ T, fMO_joined_22 P' S (nI a) (nI b) 0 = (T, if zgc P (S.F 10) nb nl a = zgc P (S.F 10) nb nl b then 1 else 0) := by
  have z0 : (0 : Int32) = nI 0 := by decide
  have hB := hp.1
  have hb48 := hp.2.1
  have hl60 := hp.2.2.2.1
  have r1 := hr.1
  have key : ∀ (n i : Nat) (X : ZS), i ≤ nb → nb - i < n → X.F 10 = S.F 10 → X.F 7 = S.F 7 → (∀ j, j < i → X.F 33 j = nI j) → ∃ T, zfix (fun S9 _ _ _ => (S9, 0)) (fMO_joined_36 P') n X (nI a) (nI b) (nI i) = (T, if zgc P (S.F 10) nb nl a = zgc P (S.F 10) nb nl b then 1 else 0) := by
    intro n
    induction n with
    | zero => intro i X g1 g2; omega
    | succ n ih =>
      intro i X g1 g2 x10 x7 xs
      rw [zfix_s]
      generalize zfix (fun S9 _ _ _ => (S9, 0)) (fMO_joined_36 P') n = rc at ih ⊢
      unfold fMO_joined_36
      simp only [zl]
      rw [r1, hB]
      by_cases d : i = nb
      · rw [if_pos (nI_le (by omega) (by omega)), z0]
        exact zjoM hp hr h1 ha hb 61 0 X (Nat.zero_le _) (by omega) x10 x7 (fun j hj => xs j (by omega))
      · rw [if_neg (nI_ge (by omega) (by omega)), nI_clamp (by omega), nI_1]
        refine ih (i + 1) (X.setF 33 i (nI i)) (by omega) (by omega) ?_ ?_ (fun j hj => ?_)
        · rw [zFsn _ (by decide)]; exact x10
        · rw [zFsn _ (by decide)]; exact x7
        · rw [zset27]
          by_cases e : j = i
          · rw [if_pos e, e]
          · rw [if_neg e]; exact xs j (by omega)
  unfold fMO_joined_22
  simp only [zl]
  rw [if_pos (by decide)]
  exact key 49 0 (S.setI 3 0) (Nat.zero_le _) (by omega) rfl rfl (fun j hj => absurd hj (Nat.not_lt_zero _))
theorem zd_joined {n : Nat} {P P' S S' : ZS} (h : zIv P P') (hT : zXr n P S P' S') (x0 x1 : Int32) : zAns n P P' S' (fRG_joined P S x0 x1) (fMO_joined P' S' x0 x1) := by
  have n1 : ¬ (1 : Int32) = 0 := by decide
  have e21 : fMO_joined_21 P' S' x0 x1 = (S'.setI 3 1, 0) := by
    unfold fMO_joined_21 fMO_joined_22
    simp only [zl]
    rw [if_neg (by decide)]
  rcases zqB h.2.2.1 S S' x0 with ⟨a1, c1⟩ | ⟨a1, c1, g0, g1⟩
  · refine Or.inl ⟨1, 0, ?_, Or.inl rfl, ?_⟩
    · unfold fRG_joined; rw [c1]; rfl
    · rw [fMO_joined]
      repeat rw [zl]
      rw [a1, if_pos rfl, e21]
      rfl
  · rcases zqB h.2.2.1 S S' x1 with ⟨a2, c2⟩ | ⟨a2, c2, g2, g3⟩
    · refine Or.inl ⟨1, 0, ?_, Or.inl rfl, ?_⟩
      · unfold fRG_joined; rw [c1]
        show zbind (fRG_requireBridge P S x1) _ = _
        rw [c2]; rfl
      · rw [fMO_joined]
        repeat rw [zl]
        rw [a1, if_neg n1, a2, if_pos rfl, e21]
        rfl
    · have hX := hT
      obtain ⟨nb, nl, t, hp, hpl, ht, hx⟩ := hT
      have hb48 := hp.2.1
      rw [hp.1] at g1 g3
      obtain ⟨a, ha, rfl⟩ := zlN (by omega) g0 g1
      obtain ⟨b, hb, rfl⟩ := zlN (by omega) g2 g3
      have qM := q_fMO_joined P' S' (nI a) (nI b)
      have eM : fMO_joined P' S' (nI a) (nI b) = fMO_joined_22 P' S' (nI a) (nI b) 0 := by
        rw [fMO_joined]
        repeat rw [zl]
        rw [a1, a2, if_neg n1, if_neg n1]
      have h10 : S'.F 10 = S.F 14 ∧ ∀ l, l < nl → S'.F 10 (2 * l) &&& 1 = 0 → S'.F 7 l = 0 := by
        rcases hx with ⟨-, -, f1, f2, -⟩ | ⟨-, g, hY⟩
        · have e1 := f2.1 10 (by decide)
          have e2 := f1.1 14 (by decide)
          have e3 := f2.1 7 (by decide)
          exact ⟨by rw [e1, e2], fun l _ _ => by rw [e3]⟩
        · obtain ⟨-, -, -, -, ⟨c, m, K, hC⟩, hI, -⟩ := hY
          have e := hC.g 10 14 (by decide)
          refine ⟨e, fun l hl e9 => ?_⟩
          have w := hI.1 (2 * l) (by omega)
          rw [show 2 * l / 2 = l by omega] at w
          exact w.mp (by rw [← e]; exact e9)
      obtain ⟨T', eT⟩ := zjoinM hp h.2.2.1 S' h10.2 ha hb
      have m3 : T'.I 3 = 0 := by
        have e : (fMO_joined_22 P' S' (nI a) (nI b) 0).1.I 3 = 0 := by
          unfold fMO_joined_22
          simp only [zl]
          rw [if_pos (by decide)]
          exact ((z_fMO_joined_36 P' 49 (S'.setI 3 0) (nI a) (nI b) 0).1 3 (by decide)).trans rfl
        rw [eT] at e
        exact e
      rw [eM, eT] at qM
      rw [eM, eT, h10.1]
      have gp := zgrp hp S
      have qG := q_fRG_groupByOpenLinks P S
      have e14 : (fRG_groupByOpenLinks P S).F 14 = S.F 14 := qG.2 14 (by decide)
      have eC : fRG_joined P S (nI a) (nI b) = .ok (fRG_groupByOpenLinks P S, if zgc P (S.F 14) nb nl a = zgc P (S.F 14) nb nl b then 1 else 0) := by
        unfold fRG_joined; rw [c1]
        show zbind (fRG_requireBridge P S (nI b)) _ = _
        rw [c2]
        have sm := gp.1 a b ha hb
        rw [e14] at sm
        show Except.ok (if (fRG_groupByOpenLinks P S).F 27 (nI a).toNatClampNeg = (fRG_groupByOpenLinks P S).F 27 (nI b).toNatClampNeg then (fRG_groupByOpenLinks P S, (1 : Int32)) else (fRG_groupByOpenLinks P S, 0)) = _
        rw [nI_clamp (by omega), nI_clamp (by omega)]
        by_cases w : zgc P (S.F 14) nb nl a = zgc P (S.F 14) nb nl b
        · rw [if_pos (sm.mpr w), if_pos w]
        · rw [if_neg (fun e => w (sm.mp e)), if_neg w]
      rw [eC]
      refine Or.inr ⟨_, T', _, rfl, rfl, m3, ⟨nb, nl, t, hp, hpl, ht, ?_⟩⟩
      rcases hx with ⟨d, e, f1, f2, f3⟩ | ⟨d, g, hY⟩
      · refine Or.inl ⟨d, e, ⟨fun x hx => ?_, ?_, ?_, ?_, ?_⟩, ⟨fun x hx => ?_, ?_, ?_, ?_⟩, ?_⟩
        · rw [qG.2 x ((show ∀ y ∈ zr0C, min y 28 ∉ [27] by decide) x hx)]; exact f1.1 x hx
        · rw [qG.1 3 (by decide)]; exact f1.2.1
        · rw [qG.1 7 (by decide)]; exact f1.2.2.1
        · rw [qG.1 9 (by decide)]; exact f1.2.2.2.1
        · rw [qG.1 11 (by decide)]; exact f1.2.2.2.2
        · rw [show T'.F x = S'.F x from qM.2 x ((show ∀ y ∈ zr0M, min y 100 ∉ [33] by decide) x hx)]; exact f2.1 x hx
        · rw [show T'.I 4 = S'.I 4 from qM.1 4 (by decide)]; exact f2.2.1
        · rw [show T'.I 5 = S'.I 5 from qM.1 5 (by decide)]; exact f2.2.2.1
        · rw [show T'.I 9 = S'.I 9 from qM.1 9 (by decide)]; exact f2.2.2.2
        · rw [show T'.F 22 = S'.F 22 from qM.2 22 (by decide), qG.2 23 (by decide)]; exact f3
      · obtain ⟨y1, y2, y3, y4, ⟨c, m, K, hC⟩, hI, hBd, hG⟩ := hY
        refine Or.inr ⟨d, g, ?_, ?_, ?_, ?_, ⟨c, m, K, (hC.fl qG (by decide) (by decide) (by decide)).fr (T' := T') qM (by decide) (by decide)⟩, zI_of hI e14 (qM.2 7 (by decide)) (qM.2 15 (by decide)) (qM.2 16 (by decide)), (hBd.upn (by omega)).fr qG (by decide), fun _ => gp⟩
        · rw [qG.1 3 (by decide)]; exact y1
        · rw [show T'.I 4 = S'.I 4 from qM.1 4 (by decide), qG.1 3 (by decide)]; exact y2
        · rw [show T'.I 9 = S'.I 9 from qM.1 9 (by decide), qG.1 7 (by decide)]; exact y3
        · rw [show T'.F 22 = S'.F 22 from qM.2 22 (by decide), qG.2 23 (by decide)]; exact y4

/-! the plan's calls, and the start -/
theorem zXr.sP {n : Nat} {P S P' S' Q Q' T' : ZS} (h : zXr n P S P' S') (d : P.I 2 = 0) (fM : zfr 100 [3] [] S' T') {nb nl : Nat} (hp : zPn Q nb nl) (hpl : zplace Q nl) (d2 : Q.I 2 = 0) (h6 : (∀ j, P'.F 6 j = -1) → ∀ j, Q'.F 6 j = -1) : zXr (n + 1) Q S Q' T' := by
  obtain ⟨nb9, nl9, t, -, -, -, hx⟩ := h
  rcases hx with ⟨-, e, f1, f2, f3⟩ | ⟨d9, -⟩
  · refine ⟨nb, nl, 0, hp, hpl, by omega, Or.inl ⟨d2, h6 e, f1, ⟨fun x hx => ?_, ?_, ?_, ?_⟩, ?_⟩⟩
    · rw [fM.2 x (by simp)]; exact f2.1 x hx
    · rw [fM.1 4 (by decide)]; exact f2.2.1
    · rw [fM.1 5 (by decide)]; exact f2.2.2.1
    · rw [fM.1 9 (by decide)]; exact f2.2.2.2
    · rw [fM.2 22 (by simp)]; exact f3
  · exact absurd d d9
theorem zXr.s1 {n : Nat} {P S P' S' T' : ZS} (h : zXr n P S P' S') (fM : zfr 100 [3] [] S' T') : zXr (n + 1) P S P' T' := h.fr (ws := []) (fs := []) zfr.rf fM (by decide) (by decide) (by decide) (by decide) (by decide) (by decide)
theorem zXr.pl {n : Nat} {P S P' S' : ZS} (h : zXr n P S P' S') {nb nl : Nat} (hp : zPn P nb nl) : zplace P nl := by
  obtain ⟨nb9, nl9, t, hp9, hpl, -⟩ := h
  have e : nl9 = nl := by
    have w := hp9.2.2.1
    rw [hp.2.2.1] at w
    have := hp.2.2.2.1
    have := hp9.2.2.2.1
    exact ((nI_eq (by omega) (by omega)).mp w).symm
  rw [← e]
  exact hpl
theorem znst {P S : ZS} (d : ¬ P.I 2 = 0) : fRG_requireNotStarted P S = .error 2 := by
  rw [fRG_requireNotStarted, zl, if_neg d]
theorem zk_bridge {n : Nat} {P P' S S' : ZS} {f : Nat → Int64} {r r' : Int32} {w : ZS × ZS × (Nat → Int64)} {w' : ZS × ZS} (h : zIv P P') (hT : zXr n P S P' S') (h1 : zH_bridge P S f r w) (h2 : (w'.1, w'.2, r') = fMO_bridge P' S') (hJ : zIv w.1 w'.1) : zXr (n + 1) w.1 w.2.1 w'.1 w'.2 := by
  obtain ⟨P1, S1, f1⟩ := w
  obtain ⟨P2, S2⟩ := w'
  have qM := q_fMO_bridge P' S'
  rw [← h2] at qM
  rcases zbridge h S S' with ⟨⟨k, e1⟩, e2⟩ | ⟨e1, e2, e3⟩
  · unfold zH_bridge at h1
    rw [e1] at h1
    rw [e2] at h2
    obtain ⟨-, hw⟩ := h1
    cases hw
    cases h2
    exact hT.s1 qM
  · have d : P.I 2 = 0 := by
      by_cases d : P.I 2 = 0
      · exact d
      · unfold fRG_bridge at e1
        rw [znst d] at e1
        cases e1
    unfold zH_bridge at h1
    rw [e1] at h1
    rw [e2] at h2
    obtain ⟨-, hw⟩ := h1
    cases hw
    cases h2
    obtain ⟨-, -, -, -, -, ⟨nb, nl, hp, -⟩, -⟩ := hJ
    have hX := hT
    obtain ⟨nb0, nl0, t, hp0, hpl, -⟩ := hT
    have e : nl0 = nl := by
      have w := hp0.2.2.1
      have w2 : P.I 1 = nI nl := hp.2.2.1
      rw [w2] at w
      have := hp.2.2.2.1
      have := hp0.2.2.2.1
      exact ((nI_eq (by omega) (by omega)).mp w).symm
    exact hX.sP d qM hp (by rw [← e]; exact hpl) d (fun e => e)
theorem zk_owner {n : Nat} {P P' S S' : ZS} {f : Nat → Int64} {x0 x1 x2 r : Int32} {w : ZS × ZS × (Nat → Int64)} {w' : ZS × ZS} (h : zIv P P') (hT : zXr n P S P' S') (h1 : zH_owner P S f x0 x1 x2 r w) (h2 : w' = fMO_owner P' S' x0 x1 x2) (hJ : zIv w.1 w'.1) : zXr (n + 1) w.1 w.2.1 w'.1 w'.2 := by
  obtain ⟨P1, S1, f1⟩ := w
  obtain ⟨P2, S2⟩ := w'
  have qM := q_fMO_owner P' S' x0 x1 x2
  rw [← h2] at qM
  rcases zowner h S S' x0 x1 x2 with ⟨k, S3, e1, e2⟩ | ⟨S3, e1, e2, e3⟩
  · unfold zH_owner at h1
    rw [e1] at h1
    rw [e2] at h2
    obtain ⟨-, hw⟩ := h1
    cases hw
    cases h2
    exact hT.s1 qM
  · have d : P.I 2 = 0 := by
      by_cases d : P.I 2 = 0
      · exact d
      · unfold fRG_owner at e1
        rw [znst d] at e1
        cases e4 : fRG_requireRing P S x0 with
        | error q => rw [e4] at e1; cases e1
        | ok u =>
          rw [e4] at e1
          cases e5 : fRG_requireBridge P S x1 with
          | error q => rw [e5] at e1; cases e1
          | ok u2 =>
            rw [e5] at e1
            cases e6 : fRG_requireLink P S x2 with
            | error q => rw [e6] at e1; cases e1
            | ok u3 => rw [e6] at e1; cases e1
    unfold zH_owner at h1
    rw [e1] at h1
    rw [e2] at h2
    obtain ⟨-, hw⟩ := h1
    cases hw
    cases h2
    obtain ⟨-, -, -, -, -, ⟨nb, nl, hp, -⟩, -⟩ := hJ
    have hp1 : zPn P nb nl := by
      have e0 : ((P.setF 3 x0.toNatClampNeg x1).setF 4 x0.toNatClampNeg x2).F 0 = P.F 0 := by rw [zFsn _ (by decide), zFsn _ (by decide)]
      have e1 : ((P.setF 3 x0.toNatClampNeg x1).setF 4 x0.toNatClampNeg x2).F 1 = P.F 1 := by rw [zFsn _ (by decide), zFsn _ (by decide)]
      have e2 : ((P.setF 3 x0.toNatClampNeg x1).setF 4 x0.toNatClampNeg x2).F 2 = P.F 2 := by rw [zFsn _ (by decide), zFsn _ (by decide)]
      unfold zPn at hp ⊢
      rw [e0, e1, e2] at hp
      exact hp
    have hpl := hT.pl hp1
    refine hT.sP d qM hp (fun l hl => ?_) d (fun e j => ?_)
    · have w := hpl l hl
      unfold zpl at w ⊢
      rw [zFsn _ (by decide), zFsn _ (by decide), zFsn _ (by decide), zFsn _ (by decide), zFsn _ (by decide), zFsn _ (by decide), zFsn _ (by decide), zFsn _ (by decide)]
      exact w
    · rw [zFsn _ (by decide), zFsn _ (by decide)]
      exact e j
theorem zk_link {n : Nat} {P P' S S' : ZS} {f : Nat → Int64} {x0 x1 x2 r r' : Int32} {w : ZS × ZS × (Nat → Int64)} {w' : ZS × ZS} (h : zIv P P') (hT : zXr n P S P' S') (h1 : zH_link P S f x0 x1 x2 r w) (h2 : (w'.1, w'.2, r') = fMO_link P' S' x0 x1 x2) (hJ : zIv w.1 w'.1) : zXr (n + 1) w.1 w.2.1 w'.1 w'.2 := by
  obtain ⟨P1, S1, f1⟩ := w
  obtain ⟨P2, S2⟩ := w'
  have qM := q_fMO_link P' S' x0 x1 x2
  rw [← h2] at qM
  rcases zlink h S S' x0 x1 x2 with ⟨k, S3, e1, e2⟩ | ⟨S3, e1, e2, e3⟩
  · unfold zH_link at h1
    rw [e1] at h1
    rw [e2] at h2
    obtain ⟨-, hw⟩ := h1
    cases hw
    cases h2
    exact hT.s1 qM
  · have d : P.I 2 = 0 := by
      by_cases d : P.I 2 = 0
      · exact d
      · unfold fRG_link at e1
        rw [znst d] at e1
        cases e4 : fRG_requireBridge P S x0 with
        | error q => rw [e4] at e1; cases e1
        | ok u =>
          rw [e4] at e1
          cases e5 : fRG_requireBridge P S x1 with
          | error q => rw [e5] at e1; cases e1
          | ok u2 =>
            rw [e5] at e1
            cases e6 : fRG_requireRing P S x2 with
            | error q => rw [e6] at e1; cases e1
            | ok u3 =>
              rw [e6] at e1
              simp only [zbind] at e1
              split at e1 <;> cases e1
    unfold zH_link at h1
    rw [e1] at h1
    rw [e2] at h2
    obtain ⟨-, hw⟩ := h1
    cases hw
    cases h2
    obtain ⟨-, -, -, -, -, ⟨nb, nl, hp, -⟩, -⟩ := hJ
    have hX := hT
    obtain ⟨nb0, nl0, t, hp0, hpl, -⟩ := hT
    have hl0 := hp0.2.2.2.1
    have hl1 := hp.2.2.2.1
    have e : nl = nl0 + 1 := by
      have w : P.I 1 + 1 = nI nl := hp.2.2.1
      rw [hp0.2.2.1, nI_1] at w
      exact ((nI_eq (by omega) (by omega)).mp w).symm
    have ec : (P.I 1).toNatClampNeg = nl0 := by rw [hp0.2.2.1]; exact nI_clamp (by omega)
    have z2 : (2 : Int32) = nI 2 := by decide
    have e20 : (2 * P.I 1).toNatClampNeg = 2 * nl0 := by rw [hp0.2.2.1, z2, nI_mul]; exact nI_clamp (by omega)
    have e21 : (2 * P.I 1 + 1).toNatClampNeg = 2 * nl0 + 1 := by rw [hp0.2.2.1, z2, nI_mul, nI_1]; exact nI_clamp (by omega)
    have z6 : (6 : Int32) = nI 6 := by decide
    refine hX.sP d qM hp (fun l hl => ?_) d (fun e9 j => ?_)
    · unfold zpl
      rw [zadd_5, zadd_5, zadd_0, zadd_1, zadd_2, ec, e20, e21]
      by_cases el : l = nl0
      · subst el
        obtain ⟨-, -, -, q4, q5⟩ := hp.2.2.2.2.2 l (by omega)
        have q2 := hp.2.2.2.2.1 l
        rw [zadd_0, ec, if_pos rfl] at q4
        rw [zadd_1, ec, if_pos rfl] at q5
        rw [zadd_2, ec, if_pos rfl] at q2
        have t4 := q4.2
        have t5 := q5.2
        have t2 := q2.2
        have u4 := q4.1
        have u5 := q5.1
        have u2 := q2.1
        rw [if_neg (by omega), if_pos rfl, if_pos rfl, if_pos rfl, if_pos rfl, if_pos rfl]
        have w4 : x0.toNatClampNeg ≤ 47 := by show x0.toInt.toNat ≤ 47; omega
        have w5 : x1.toNatClampNeg ≤ 47 := by show x1.toInt.toNat ≤ 47; omega
        have w2 : x2.toNatClampNeg ≤ 5 := by show x2.toInt.toNat ≤ 5; omega
        have e4 := znI q4
        have e5 := znI q5
        have e2 := znI q2
        constructor
        · have : x0 * 6 + x2 = nI (x0.toNatClampNeg * 6 + x2.toNatClampNeg) := by
            rw [← nI_add, ← nI_mul, ← z6, ← e4, ← e2]
          rw [this, nI_clamp (by omega)]
          omega
        · have : x1 * 6 + x2 = nI (x1.toNatClampNeg * 6 + x2.toNatClampNeg) := by
            rw [← nI_add, ← nI_mul, ← z6, ← e5, ← e2]
          rw [this, nI_clamp (by omega)]
          omega
      · rw [if_neg (show ¬ 2 * l = 2 * nl0 + 1 by omega), if_neg (show ¬ 2 * l = 2 * nl0 by omega), if_neg (show ¬ 2 * l + 1 = 2 * nl0 + 1 by omega), if_neg (show ¬ 2 * l + 1 = 2 * nl0 by omega), if_neg el, if_neg el, if_neg el]
        exact hpl l (by omega)
    · have w : (zaddM P' x0 x1 x2).F 6 = P'.F 6 := zaddM_F (by decide) (by decide) (by decide)
      show (zaddM P' x0 x1 x2).F 6 j = -1
      rw [w]
      exact e9 j
theorem zdg_I (P : ZS) (t : Nat) (v : Int32) (b r : Int32) : ∀ n, zdg (P.setI t v) b r n = zdg P b r n
  | 0 => rfl
  | n + 1 => by
    show zdg (P.setI t v) b r n + _ = zdg P b r n + _
    rw [zdg_I P t v b r n]
    rfl
theorem zFC_C {S S' : ZS} (h : zFC S) (h' : zFM S') : zC 0 False (S.I 10 + S.I 9) 0 0 S S' := by
  refine ⟨⟨fun p hp => ?_, by rw [h'.2.2.1, h.2.2.2.1]⟩, fun L => ⟨0, by omega, by rw [h.1 12 (by decide)]; rfl, fun k hk => absurd hk (Nat.not_lt_zero _)⟩, fun b t hb => absurd hb (Nat.not_lt_zero _), ⟨0, Nat.le_refl _, Nat.le_refl _, ?_, fun w => w.elim⟩⟩
  · rw [h'.1 p.1 ((show ∀ y ∈ zprs, y.1 ∈ zr0M by decide) p hp), h.1 p.2 ((show ∀ y ∈ zprs, y.2 ∈ zr0C by decide) p hp)]
  · rw [nI_0]
    exact (zadd0 _).symm
theorem zFC_I {P : ZS} {nb nl : Nat} {S S' : ZS} (h : zFC S) (h' : zFM S') : zIS P nb nl S S' := by
  show zI P nb nl _ _ _ _
  rw [h.1 14 (by decide), h'.1 7 (by decide), h'.1 15 (by decide), h'.1 16 (by decide)]
  exact ⟨fun q hq => ⟨fun _ => rfl, fun _ => zand0 1⟩, fun k => Or.inl ⟨rfl, fun q hq hp => zand0 6⟩, fun q hq => Or.inl (zand0 16)⟩
theorem zFC_B {P : ZS} {n : Nat} {S : ZS} (h : zFC S) : zBd P n 0 0 0 S := by
  have z : (0 : Int32).toInt = 0 := by decide
  intro row j
  by_cases c : row ∈ zbr
  · rcases zbr_c c with rfl | rfl | rfl | rfl | rfl | rfl | rfl | rfl
    · rw [h.1 12 (by decide)]; intro _; rfl
    · rw [h.1 13 (by decide)]; exact Int.le_of_eq z.symm
    · rw [h.1 15 (by decide)]; exact Int.le_of_eq z.symm
    · rw [h.1 16 (by decide)]; exact zbq16
    · rw [h.1 17 (by decide)]; exact Int.le_of_eq z.symm
    · rw [h.1 18 (by decide)]
      show 0 ≤ (0 : Int32).toInt ∧ (0 : Int32).toInt ≤ ((0 : Nat) : Int) + 1 + (if zop P j < 0 then 1 else 0)
      rw [z, if_neg (Nat.not_lt_zero _)]
      omega
    · rw [h.1 19 (by decide)]
      show 0 ≤ (0 : Int32).toInt ∧ (0 : Int32).toInt ≤ (n : Int)
      rw [z]; omega
    · rw [h.1 20 (by decide)]
      show 0 ≤ (0 : Int32).toInt ∧ (0 : Int32).toInt ≤ (n : Int)
      rw [z]; omega
  · exact zbq_o c
theorem zFC.fr {S T : ZS} {ws fs : List Nat} (h : zFC S) (f : zfr 28 ws fs S T) (q : ∀ x ∈ zr0C, min x 28 ∉ fs) (q2 : ∀ x ∈ [3, 7, 9, 11], x ∉ ws) : zFC T := ⟨fun x hx => by rw [f.2 x (q x hx)]; exact h.1 x hx, by rw [f.1 3 (q2 3 (by decide))]; exact h.2.1, by rw [f.1 7 (q2 7 (by decide))]; exact h.2.2.1, by rw [f.1 9 (q2 9 (by decide))]; exact h.2.2.2.1, by rw [f.1 11 (q2 11 (by decide))]; exact h.2.2.2.2⟩
theorem zFM.fr {S T : ZS} {ws fs : List Nat} (h : zFM S) (f : zfr 100 ws fs S T) (q : ∀ x ∈ zr0M, min x 100 ∉ fs) (q2 : ∀ x ∈ [4, 5, 9], x ∉ ws) : zFM T := ⟨fun x hx => by rw [f.2 x (q x hx)]; exact h.1 x hx, by rw [f.1 4 (q2 4 (by decide))]; exact h.2.1, by rw [f.1 5 (q2 5 (by decide))]; exact h.2.2.1, by rw [f.1 9 (q2 9 (by decide))]; exact h.2.2.2⟩
theorem zk_start {n : Nat} {P P' S S' : ZS} {f : Nat → Int64} {r r' : Int32} {w : ZS × ZS × (Nat → Int64)} {w' : ZS × ZS} (h : zIv P P') (hT : zXr n P S P' S') (h1 : zH_start P S f r w) (g1 : cok w.1) (h2 : (w'.1, w'.2, r') = fMO_start P' S') : zXr (n + 1) w.1 w.2.1 w'.1 w'.2 := by
  obtain ⟨P1, S1, f1⟩ := w
  obtain ⟨P2, S2⟩ := w'
  obtain ⟨hc, hm, hr, hs, hm2, ⟨nb, nl, hp, hc0⟩, hq⟩ := h
  have z0 : (0 : Int32).toInt = 0 := by decide
  by_cases d : P.I 2 = 0
  · have hpre : zPre P := by
      rcases hq with ⟨_, hq⟩ | ⟨hq, _⟩
      · exact hq
      · exact absurd d hq
    have hpl := hT.pl hp
    obtain ⟨nb9, nl9, t9, -, -, -, hx⟩ := hT
    rcases hx with ⟨-, h6, fC, fM, h22⟩ | ⟨d9, -⟩
    · have en : fRG_requireNotStarted P S = .ok () := by
        rw [fRG_requireNotStarted, zl, if_pos d]
      have d' : P'.I 0 = 0 := by rw [hs]; exact d
      obtain ⟨fe, fc⟩ := zfaults (S := S) (S' := S'.setI 3 0) hp (fun j => hc.1 4 j) hr hm2 hc0
      have pos := zff_pos P S
      have dg := zff_dg (S := S) hp
      obtain ⟨k8, kOw⟩ := zff (P := P) (S := S) (P1 := (fPL_firstFault P S).1) (S1 := (fPL_firstFault P S).2.1) (k := (fPL_firstFault P S).2.2) rfl
      obtain ⟨k5, -⟩ := zfo (P := P') (S := S'.setI 3 0) (P1 := (fMO_faultOf P' (S'.setI 3 0)).1) (S1 := (fMO_faultOf P' (S'.setI 3 0)).2.1) (k := (fMO_faultOf P' (S'.setI 3 0)).2.2) hm rfl
      have hrk := zRP_k hr k8 k5
      have ec : fRG_start P S = .ok (if (fPL_firstFault P S).2.2 = 0 then ((fPL_layPorts ((fPL_firstFault P S).1.setI 2 1) (fPL_firstFault P S).2.1).1, fPR_takeAllHolds (fPL_layPorts ((fPL_firstFault P S).1.setI 2 1) (fPL_firstFault P S).2.1).1 (fPL_layPorts ((fPL_firstFault P S).1.setI 2 1) (fPL_firstFault P S).2.1).2, (fPL_firstFault P S).2.2) else fPL_firstFault P S) := by
        simp only [fRG_start, zl, zl2, zl3, fRG_start_39]
        rw [en]
        rfl
      have em : fMO_start P' S' = (if (fMO_faultOf P' (S'.setI 3 0)).2.2 ≤ 0 then zfix (fun P9 S9 _ => (P9, S9, 0)) fMO_start_43 49 ((fMO_faultOf P' (S'.setI 3 0)).1.setI 0 1) (fMO_faultOf P' (S'.setI 3 0)).2.1 0 else fMO_faultOf P' (S'.setI 3 0)) := by
        simp only [fMO_start, fMO_start_13, zl, zl3]
        rw [if_pos d', if_pos (by decide : (0 : Int32) ≤ 0)]
      have qC := q_fPL_firstFault P S
      have qM := q_fMO_faultOf P' (S'.setI 3 0)
      unfold zH_start at h1
      rw [ec] at h1
      rw [em] at h2
      have gC : zFC (fPL_firstFault P S).2.1 := fC.fr qC (by decide) (by decide)
      have fM0 : zFM (S'.setI 3 0) := fM.fr (zfr.I zfr.rf (by decide) : zfr 100 [3] [] S' (S'.setI 3 0)) (by decide) (by decide)
      have gM : zFM (fMO_faultOf P' (S'.setI 3 0)).2.1 := fM0.fr qM (by decide) (by decide)
      have g22 : (fMO_faultOf P' (S'.setI 3 0)).2.1.F 22 = (fPL_firstFault P S).2.1.F 23 := by
        rw [qM.2 22 (by decide), qC.2 23 (by decide)]
        exact h22
      generalize fPL_firstFault P S = O at fe fc pos dg k8 kOw hrk qC gC g22 h1
      generalize fMO_faultOf P' (S'.setI 3 0) = O' at fe k5 hrk qM gM g22 h2
      have hpO : zPn O.1 nb nl := zPn_k k8 hp
      have hplO : zplace O.1 nl := fun l hl => by
        have w := hpl l hl
        unfold zpl at w ⊢
        rw [k8.2 5 (by decide), k8.2 0 (by decide), k8.2 1 (by decide), k8.2 2 (by decide)]
        exact w
      have h6O : ∀ j, O'.1.F 6 j = -1 := fun j => by rw [k5.2 6 (by decide)]; exact h6 j
      by_cases c : O.2.2 = 0
      · have c' : O'.2.2 ≤ 0 := by rw [← fe, c]; decide
        rw [if_pos c] at h1
        rw [if_pos c'] at h2
        -- the plan that is laid
        obtain ⟨-, hw⟩ := h1
        cases hw
        have i1 : (O.1.setI 2 1).I 1 = P.I 1 := by
          show O.1.I 1 = P.I 1
          rw [k8.1]
        obtain ⟨y1, y2⟩ := zlay_fr (P := O.1.setI 2 1) (S := O.2.1) (by rw [i1]; exact hc.2.1 1) (fun j => by
          show zr 0 287 (O.1.F 5 j)
          rw [k8.2 5 (by decide)]
          exact hc.1 5 j)
        have gP2 : cok (O.1.setI 2 1) := by
          refine ⟨fun q j => ?_, fun t => ?_, fun q hq9 j => ?_⟩
          · by_cases e6 : q = 6
            · rw [e6]
              show zr _ _ (O.1.F 6 j)
              rw [k8.2 6 (by decide)]
              exact hc.1 6 j
            · by_cases e7 : q = 7
              · rw [e7]
                show zr _ _ (O.1.F 7 j)
                rw [k8.2 7 (by decide)]
                exact hc.1 7 j
              · have := g1.1 q j
                rw [y2 q e6 e7] at this
                exact this
          · have := g1.2.1 t
            rw [y1] at this
            exact this
          · by_cases e6 : q = 6
            · rw [e6] at hq9; exact absurd hq9 (by decide)
            · by_cases e7 : q = 7
              · rw [e7] at hq9; exact absurd hq9 (by decide)
              · have := g1.2.2 q hq9 j
                rw [y2 q e6 e7] at this
                exact this
        have hpP : zPn (O.1.setI 2 1) nb nl := hpO
        have hrP : zRP (O.1.setI 2 1) (O'.1.setI 0 1) := hrk
        have hplP : zplace (O.1.setI 2 1) nl := hplO
        have z00 : (0 : Int32) = nI 0 := by decide
        obtain ⟨Q1, kQ, lQ, eQ⟩ := zlayM hpP hplP hrP 49 (O'.1.setI 0 1) O'.2.1 0 zk.rf (fun c9 r9 hc9 hr9 => by
          have es : zseen nl 0 0 c9 = 0 := by
            unfold zseen
            rw [if_neg (Nat.not_lt_zero _)]
            split <;> rfl
          rw [es]
          exact ⟨h6O _, h6O _⟩) (Nat.zero_le _) (by have := hp.2.1; omega)
        have geo : zGeo (fPL_layPorts (O.1.setI 2 1) O.2.1).1 Q1 nb nl := zgeo_lay gP2 hpP hrP hplP (zPre_I (zPre_k hpre k8)) (fun b hb r hr9 => by
          rw [zdg_I, zdg_k k8]
          exact dg c b hb r hr9) (zOwned_I (kOw c)) kQ lQ
        have qL := q_fPL_layPorts (O.1.setI 2 1) O.2.1
        have gL : zFC (fPL_layPorts (O.1.setI 2 1) O.2.1).2 := gC.fr qL (by decide) (by decide)
        have l22 : O'.2.1.F 22 = (fPL_layPorts (O.1.setI 2 1) O.2.1).2.F 23 := by
          rw [qL.2 23 (by decide)]
          exact g22
        have hI3 : (fPL_layPorts (O.1.setI 2 1) O.2.1).1.I 2 = 1 := by rw [y1]; rfl
        rw [← z00] at eQ
        rw [eQ] at h2
        generalize (fPL_layPorts (O.1.setI 2 1) O.2.1).1 = P3 at geo hI3 ⊢
        generalize (fPL_layPorts (O.1.setI 2 1) O.2.1).2 = S3 at gL l22 ⊢
        obtain ⟨U', e1, e2, e3, e4, e5⟩ := ztkall (n := n + 1) (tk := False) (c := S3.I 10 + S3.I 9) (m := 0) geo 7 0 0 S3 O'.2.1 (by omega) (by omega) (zFC_C gL gM) (zFC_I gL gM) (zFC_B gL) (fun j => by rw [gL.1 17 (by decide)]) (fun j _ => by rw [gL.1 18 (by decide)])
        rw [← z00] at e1 e2 e3 e4
        rw [e1] at h2
        cases h2
        have qT := q_fPR_takeAllHolds P3 S3
        have hcT := hc_fPR_takeAllHolds P3 S3
        have eA : fPR_takeAllHolds P3 S3 = zfix (fun S9 _ => S9) (fPR_takeAllHolds_2 P3) 7 S3 0 := rfl
        rw [← eA] at e2 e3 e4
        refine ⟨nb, nl, 0, geo.1, geo.2.2.1, by omega, Or.inr ⟨by rw [hI3]; decide, geo, ?_, ?_, ?_, ?_, ⟨_, _, _, e2⟩, e3, e4, fun e9 => ?_⟩⟩
        · rw [qT.1 3 (by decide), gL.2.1]; decide
        · rw [e5.1 4 (by decide), gM.2.1, qT.1 3 (by decide), gL.2.1]
        · rw [e5.1 9 (by decide), gM.2.2.2, qT.1 7 (by decide), gL.2.2.1]
        · rw [e5.2, qT.2 23 (by decide)]; exact l22
        · have := (hcT e9).1
          rw [gL.2.2.2.2] at this
          exact absurd this (by decide)
      · have c' : ¬ O'.2.2 ≤ 0 := fun q => by
          rw [← fe] at q
          have := Int32.le_iff_toInt_le.mp q
          exact c (Int32.toInt_inj.mp (by omega))
        rw [if_neg c] at h1
        rw [if_neg c'] at h2
        obtain ⟨-, hw⟩ := h1
        obtain ⟨O1, O2, O3⟩ := O
        obtain ⟨Q1, Q2, Q3⟩ := O'
        cases hw
        cases h2
        exact ⟨nb, nl, 0, hpO, hplO, by omega, Or.inl ⟨by rw [show O1.I 2 = P.I 2 by rw [k8.1]]; exact d, h6O, gC, gM, g22⟩⟩
    · exact absurd d d9
  · have e1 : fRG_start P S = .error 2 := by
      unfold fRG_start
      rw [znst d]
      rfl
    have d' : ¬ P'.I 0 = 0 := by rw [hs]; exact d
    have e2 : fMO_start P' S' = (P', S'.setI 3 1, 0) := by
      simp only [fMO_start, fMO_start_13, zl, zl3]
      rw [if_neg d', if_neg (by decide : ¬ (1 : Int32) ≤ 0)]
    unfold zH_start at h1
    rw [e1] at h1
    rw [e2] at h2
    obtain ⟨-, hw⟩ := h1
    cases hw
    cases h2
    exact hT.s3 1
/-! answers that are read off -/
theorem zs_holds {n : Nat} {P P' S S' : ZS} {f : Nat → Int64} {x0 x1 r r' : Int32} {w : ZS × ZS × (Nat → Int64)} {x9 : ZS} (h : zIv P P') (hT : zXr n P S P' S') (h1 : zH_holds P S f x0 x1 r w) (h2 : (x9, r') = fMO_holds P' S' x0 x1) : (x9.I 3 = r ∧ (r = 0 → w.2.2 (0 : Int32).toNatClampNeg = r'.toInt64)) ∧ zXr (n + 1) P w.2.1 P' x9 := by
  obtain ⟨P1, S1, f1⟩ := w
  have n1 : ¬ (1 : Int32) = 0 := by decide
  have qM := q_fMO_holds P' S' x0 x1
  rw [← h2] at qM
  have hX := hT
  obtain ⟨nb, nl, t, hp, hpl, ht, hx⟩ := hT
  have e30 : fMO_holds_30 P' S' x0 x1 = (S'.setI 3 1, 0) := by
    unfold fMO_holds_30 fMO_holds_31
    simp only [zl]
    rw [if_neg (by decide)]
  rcases zqP h.2.2.1 hp S S' x0 x1 with ⟨c1, a1⟩ | ⟨b, l, q, hb, hl, rfl, rfl, c1, a1, a2, a3, ep, hql, hq2, hends⟩
  · have e1 : fRG_holds P S x0 x1 = .error 1 := by
      unfold fRG_holds; rw [c1]; rfl
    have eM : fMO_holds P' S' x0 x1 = (S'.setI 3 1, 0) := by
      rw [fMO_holds]
      repeat rw [zl]
      rcases a1 with a | a | a
      · rw [a, if_pos rfl, e30]
      · rw [a]
        split
        · rw [e30]
        · rw [if_pos rfl, e30]
      · rw [a]
        split
        · rw [e30]
        · split
          · rw [e30]
          · rw [if_pos rfl, e30]
    unfold zH_holds at h1
    rw [e1] at h1
    rw [eM] at h2
    obtain ⟨hr, hw⟩ := h1
    cases hw
    cases h2
    exact ⟨⟨by rw [hr]; rfl, fun r0 => by rw [hr] at r0; exact absurd r0 n1⟩, hX.s3 1⟩
  · have hl60 := hp.2.2.2.1
    have e1 : fRG_holds P S (nI b) (nI l) = .ok (S.F 14 q) := by
      unfold fRG_holds; rw [c1]
      show Except.ok (zl (fPL_portOf P S (nI b) (nI l)) _) = _
      rw [ep]
      show Except.ok (S.F 14 (nI q).toNatClampNeg) = _
      rw [nI_clamp (by omega)]
    have z2 : (2 : Int32) = nI 2 := by decide
    have z0 : (0 : Int32) = nI 0 := by decide
    have ee : fMO_end P' (S'.setI 3 0) (nI b) (nI l) = nI q := by
      rw [fMO_end]
      repeat rw [zl]
      rw [h.2.2.1.2.2.1, nI_clamp (by omega)]
      rcases hends with ⟨w1, w2⟩ | ⟨w1, w2, -⟩
      · rw [if_pos w2, fMO_end_18, zl, z2, nI_mul, z0, nI_add]
        congr 1
        omega
      · rw [if_neg w2, fMO_end_18, zl, z2, nI_mul, nI_1]
        congr 1
        omega
    have h10 : S'.F 10 = S.F 14 := by
      rcases hx with ⟨-, -, f1, f2, -⟩ | ⟨-, g, hY⟩
      · rw [f2.1 10 (by decide), f1.1 14 (by decide)]
      · obtain ⟨-, -, -, -, ⟨c, m, K, hC⟩, -⟩ := hY
        exact hC.g 10 14 (by decide)
    have eM : fMO_holds P' S' (nI b) (nI l) = (S'.setI 3 0, S.F 14 q) := by
      rw [fMO_holds]
      repeat rw [zl]
      rw [a1, a2, a3, if_neg n1, if_neg n1, if_neg n1, fMO_holds_31]
      repeat rw [zl]
      rw [if_pos (by decide), ee, nI_clamp (by omega)]
      show (S'.setI 3 0, S'.F 10 q) = _
      rw [h10]
    unfold zH_holds at h1
    rw [e1] at h1
    rw [eM] at h2
    obtain ⟨hr, hw⟩ := h1
    cases hw
    cases h2
    exact ⟨⟨by rw [hr]; rfl, fun _ => rfl⟩, hX.s3 0⟩
theorem za_lost {n : Nat} {P P' S S' : ZS} {y : ZS} {r : Int32} (hT : zXr n P S P' S') (h2 : (y, r) = fMO_lost P' S') : fRG_lost P S = r := by
  have e : fMO_lost P' S' = (S'.setI 3 0, S'.I 5) := rfl
  rw [e] at h2
  cases h2
  show S.I 9 = S'.I 5
  obtain ⟨nb, nl, t, -, -, -, hx⟩ := hT
  rcases hx with ⟨-, -, f1, f2, -⟩ | ⟨-, -, hY⟩
  · rw [f1.2.2.2.1, f2.2.2.1]
  · obtain ⟨-, -, -, -, ⟨c, m, K, hC⟩, -⟩ := hY
    exact hC.1.2.symm
theorem za_circles {n : Nat} {P P' S S' : ZS} {y : ZS} {r : Int32} (hT : zXr n P S P' S') (h2 : (y, r) = fMO_circles P' S') : fRG_circles P S = r := by
  have e : fMO_circles P' S' = (S'.setI 3 0, S'.I 9) := rfl
  rw [e] at h2
  cases h2
  show S.I 7 = S'.I 9
  obtain ⟨nb, nl, t, -, -, -, hx⟩ := hT
  rcases hx with ⟨-, -, f1, f2, -⟩ | ⟨-, -, hY⟩
  · rw [f1.2.2.1, f2.2.2.2]
  · exact hY.2.2.1.symm
theorem za_casts {n : Nat} {P P' S S' : ZS} {y : ZS} {r : Int32} (hT : zXr n P S P' S') (h2 : (y, r) = fMO_casts P' S') : fRG_casts P S = r := by
  have h12 : S'.F 23 = S.F 12 := by
    obtain ⟨nb, nl, t, -, -, -, hx⟩ := hT
    rcases hx with ⟨-, -, f1, f2, -⟩ | ⟨-, -, hY⟩
    · rw [f1.1 12 (by decide), f2.1 23 (by decide)]
    · obtain ⟨-, -, -, -, ⟨c, m, K, hC⟩, -⟩ := hY
      exact hC.g 23 12 (by decide)
  have key : ∀ (n : Nat) (x i : Int32), (zfix (fun S9 _ _ => (S9, 0)) (fMO_casts_9 P') n (S'.setI 3 0) x i).2 = zfix (fun _ _ => 0) (fWI_countOnLinks_4 P S) n x i := by
    intro n
    induction n with
    | zero => intro x i; rw [zfix_0, zfix_0]
    | succ n ih =>
      intro x i
      rw [zfix_s, zfix_s]
      generalize zfix (fun S9 _ _ => (S9, 0)) (fMO_casts_9 P') n = rc' at ih ⊢
      generalize zfix (fun _ _ => 0) (fWI_countOnLinks_4 P S) n = rc at ih ⊢
      unfold fMO_casts_9 fWI_countOnLinks_4
      simp only [zl]
      by_cases c : 120 ≤ i
      · rw [if_pos c, if_pos c]
      · rw [if_neg c, if_neg c]
        have e : (S'.setI 3 0).F 23 = S.F 12 := h12
        rw [e]
        exact ih _ _
  have e : fMO_casts P' S' = zfix (fun S9 _ _ => (S9, 0)) (fMO_casts_9 P') 121 (S'.setI 3 0) 0 0 := rfl
  have k := key 121 0 0
  rw [← e, ← h2] at k
  exact k.symm
