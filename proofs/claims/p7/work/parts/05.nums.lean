/-! numbers: ints that are Nats; what a cast's number says of its name -/
theorem nI_mul (a b : Nat) : nI a * nI b = nI (a * b) := (Int32.ofNat_mul a b).symm
theorem nI_sub {a b : Nat} (h : b ≤ a) : nI a - nI b = nI (a - b) := by
  have e : nI a = nI (a - b) + nI b := by rw [nI_add, Nat.sub_add_cancel h]
  rw [e, Int32.add_sub_cancel]
theorem nI_ne {n : Nat} (h : n < 2 ^ 31) : nI n ≠ -1 := fun e => by
  have := congrArg Int32.toInt e
  rw [nI_toInt h] at this
  have h3 : (-1 : Int32).toInt = -1 := by decide
  rw [h3] at this
  omega
theorem nI_div {a b : Nat} (ha : a < 2 ^ 31) (hb : b < 2 ^ 31) : nI a / nI b = nI (a / b) := by
  apply Int32.toInt_inj.mp
  have h2 : a / b < 2 ^ 31 := Nat.lt_of_le_of_lt (Nat.div_le_self a b) ha
  have hd : (nI a / nI b).toInt = (nI a).toInt.tdiv (nI b).toInt := by
    first
      | exact Int32.toInt_div_of_ne_right (nI_ne hb)
      | exact Int32.toInt_div_of_ne_right (nI a) (nI b) (nI_ne hb)
      | exact Int32.toInt_div_of_ne_right _ (nI_ne hb)
  rw [hd, nI_toInt ha, nI_toInt hb, nI_toInt h2]
  exact (Int.ofNat_tdiv a b).symm
theorem nI_mod {a b : Nat} (ha : a < 2 ^ 31) (hb : b < 2 ^ 31) : nI a % nI b = nI (a % b) := by
  apply Int32.toInt_inj.mp
  have h2 : a % b < 2 ^ 31 := Nat.lt_of_le_of_lt (Nat.mod_le a b) ha
  rw [Int32.toInt_mod, nI_toInt ha, nI_toInt hb, nI_toInt h2]
  exact (Int.ofNat_tmod a b).symm
theorem nI_inj {a b : Nat} (ha : a < 2 ^ 31) (hb : b < 2 ^ 31) (h : nI a = nI b) : a = b := (nI_eq ha hb).mp h
/-- a row's place in a table of two or of six, of 114, of 64 -/
theorem zxor (a : Nat) : nI a ^^^ 1 = nI (a ^^^ 1) := by
  apply Int32.toBitVec_inj.mp
  rw [Int32.toBitVec_xor]
  show BitVec.ofNat 32 a ^^^ BitVec.ofNat 32 1 = BitVec.ofNat 32 (a ^^^ 1)
  apply BitVec.eq_of_getLsbD_eq
  intro i hi
  simp only [BitVec.getLsbD_xor, BitVec.getLsbD_ofNat, Nat.testBit_xor, hi, decide_true, Bool.true_and]
theorem xor1_lt {a n : Nat} (h : a < 2 * n) : a ^^^ 1 < 2 * n := by
  have h1 : (a ^^^ 1) / 2 = a / 2 := by
    rw [Nat.xor_div_two]
    simp
  have h2 := Nat.div_add_mod (a ^^^ 1) 2
  have h3 := Nat.div_add_mod a 2
  have h4 := Nat.mod_lt (a ^^^ 1) (show 0 < 2 by decide)
  omega
/-- the name that a cast bears: seven bits, the sixteenth and above left out -/
def zname (c : Int32) : Nat := (c.toBitVec.toNat / 512) % 128
theorem zname_lt (c : Int32) : zname c < 128 := Nat.mod_lt _ (by decide)
theorem zname_bit (c : Int32) (i : Nat) : (zname c).testBit i = (decide (i < 7) && c.toBitVec.getLsbD (i + 9)) := by
  have h1 : zname c = (c.toBitVec.toNat / 2 ^ 9) % 2 ^ 7 := rfl
  rw [h1, Nat.testBit_mod_two_pow, Nat.testBit_div_two_pow]
  rfl
theorem zname_eq (c : Int32) : (c >>> 9) &&& 127 = nI (zname c) := by
  apply Int32.toBitVec_inj.mp
  rw [Int32.toBitVec_and, Int32.toBitVec_shiftRight]
  have hs : (9 : Int32).toBitVec.smod 32 = 9#32 := by decide
  rw [hs]
  show (c.toBitVec.sshiftRight 9) &&& BitVec.ofNat 32 127 = BitVec.ofNat 32 (zname c)
  apply BitVec.eq_of_getLsbD_eq
  intro i hi
  rw [BitVec.getLsbD_and, BitVec.getLsbD_ofNat, BitVec.getLsbD_ofNat, zname_bit]
  by_cases h7 : i < 7
  · have e : (127 : Nat).testBit i = true := (show ∀ i, i < 7 → (127 : Nat).testBit i = true by decide) i h7
    have h9 : 9 + i < 32 := by omega
    have e2 : decide (32 ≤ i) = false := by simp; omega
    rw [BitVec.getLsbD_sshiftRight, e, if_pos h9, Nat.add_comm 9 i, e2]
    simp only [hi, h7, decide_true, Bool.not_false, Bool.true_and, Bool.and_true]
  · have e : (127 : Nat).testBit i = false := (show ∀ i, i < 32 → ¬ i < 7 → (127 : Nat).testBit i = false by decide) i hi h7
    simp [e, h7]
theorem nI_bit {n : Nat} (i : Nat) : (nI n).toBitVec.getLsbD i = (decide (i < 32) && n.testBit i) := by
  show (BitVec.ofNat 32 n).getLsbD i = _
  rw [BitVec.getLsbD_ofNat]
theorem nI_bit_high {n k : Nat} (hn : n < 2 ^ k) {i : Nat} (hi : k ≤ i) : (nI n).toBitVec.getLsbD i = false := by
  rw [nI_bit, Nat.testBit_lt_two_pow (Nat.lt_of_lt_of_le hn (Nat.pow_le_pow_right (by decide) hi)), Bool.and_false]
theorem zshl (x : Int32) (k i : Nat) (hk : k < 32) (hi : i < 32) : (x <<< nI k).toBitVec.getLsbD i = (!decide (i < k) && x.toBitVec.getLsbD (i - k)) := by
  rw [Int32.toBitVec_shiftLeft]
  have hs : ((nI k).toBitVec.smod 32).toNat = k := (show ∀ k, k < 32 → ((nI k).toBitVec.smod 32).toNat = k by decide) k hk
  rw [BitVec.shiftLeft_eq', hs, BitVec.getLsbD_shiftLeft]
  simp [hi]
/-- a cast made of a name below 128, a source below 64, a kind below 8 bears that name -/
theorem zname_of {nm so ki : Nat} (number : Int32) (hn : nm < 128) (hs : so < 64) (hk : ki < 8) : zname (number <<< nI 16 ||| nI nm <<< nI 9 ||| nI so <<< nI 3 ||| nI ki) = nm := by
  apply Nat.eq_of_testBit_eq
  intro i
  rw [zname_bit]
  by_cases h7 : i < 7
  · have hi : i + 9 < 32 := by omega
    rw [Int32.toBitVec_or, Int32.toBitVec_or, Int32.toBitVec_or, BitVec.getLsbD_or, BitVec.getLsbD_or, BitVec.getLsbD_or, zshl _ 16 _ (by decide) hi, zshl _ 9 _ (by decide) hi, zshl _ 3 _ (by decide) hi,
      nI_bit_high (k := 3) hk (by omega), nI_bit_high (k := 6) hs (by omega), nI_bit]
    have e1 : decide (i + 9 < 16) = true := by simp; omega
    have e2 : decide (i + 9 < 9) = false := by simp
    have e3 : decide (i + 9 - 9 < 32) = true := by simp; omega
    have e4 : i + 9 - 9 = i := by omega
    simp [h7, e1, e2, e3, e4]
    omega
  · have e : nm.testBit i = false := Nat.testBit_lt_two_pow (Nat.lt_of_lt_of_le hn (Nat.pow_le_pow_right (n := 2) (by decide) (show 7 ≤ i by omega)))
    simp [h7, e]
/-- the remainder, as the machine's row has it -/
theorem nI_rem {a b : Nat} (ha : a < 2 ^ 31) (hb : b < 2 ^ 31) : nI a - nI a / nI b * nI b = nI (a % b) := by
  rw [nI_div ha hb, nI_mul, nI_sub (Nat.div_mul_le_self a b)]
  have h : a % b = a - a / b * b := by
    have h1 := Nat.div_add_mod a b
    have h2 : b * (a / b) = a / b * b := Nat.mul_comm _ _
    omega
  rw [h]
