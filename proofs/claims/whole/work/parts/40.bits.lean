/-- the bits of a long -/
def lB (s : Int64) (k : Nat) : Bool := s.toBitVec.getLsbD k
def iB (s : Int32) (k : Nat) : Bool := s.toBitVec.getLsbD k
theorem lB_ext {s t : Int64} (h : ∀ k, k < 64 → lB s k = lB t k) : s = t := by
  apply Int64.toBitVec_inj.mp
  apply BitVec.eq_of_getLsbD_eq
  intro i hi
  exact h i hi
theorem iB_ext {s t : Int32} (h : ∀ k, k < 32 → iB s k = iB t k) : s = t := by
  apply Int32.toBitVec_inj.mp
  apply BitVec.eq_of_getLsbD_eq
  intro i hi
  exact h i hi
theorem lB_and (s t : Int64) (k : Nat) : lB (s &&& t) k = (lB s k && lB t k) := by simp [lB, BitVec.getLsbD_and]
theorem lB_or (s t : Int64) (k : Nat) : lB (s ||| t) k = (lB s k || lB t k) := by simp [lB, BitVec.getLsbD_or]
theorem lB_xor (s t : Int64) (k : Nat) : lB (s ^^^ t) k = (lB s k ^^ lB t k) := by simp [lB, BitVec.getLsbD_xor]
theorem iB_and (s t : Int32) (k : Nat) : iB (s &&& t) k = (iB s k && iB t k) := by simp [iB, BitVec.getLsbD_and]
theorem iB_or (s t : Int32) (k : Nat) : iB (s ||| t) k = (iB s k || iB t k) := by simp [iB, BitVec.getLsbD_or]
theorem lB_m1 (k : Nat) : lB (-1) k = decide (k < 64) := by
  show (BitVec.ofInt 64 (-1)).getLsbD k = _
  have : BitVec.ofInt 64 (-1) = BitVec.allOnes 64 := by decide
  rw [this, BitVec.getLsbD_allOnes]
theorem lB_toInt32 (s : Int64) (k : Nat) : iB s.toInt32 k = (decide (k < 32) && lB s k) := by
  unfold iB lB
  rw [Int64.toBitVec_toInt32, BitVec.signExtend_eq_setWidth_of_le _ (by decide), BitVec.getLsbD_setWidth]
theorem iB_toInt64 (s : Int32) (k : Nat) (hk : k < 32) : lB s.toInt64 k = iB s k := by
  unfold iB lB
  rw [Int32.toBitVec_toInt64, BitVec.getLsbD_signExtend]
  have : k < 64 := by omega
  simp [hk, this]
theorem sh_u : ∀ j, j < 64 → ((Int32.ofNat j).toInt64.toUInt64 &&& Int64.toUInt64 63).toBitVec % 64 = BitVec.ofNat 64 j := by decide +kernel
theorem sh_s : ∀ j, j < 64 → ((Int32.ofNat j).toInt64 &&& 63).toBitVec.smod 64 = BitVec.ofNat 64 j := by decide +kernel
theorem lB_ushr (s : Int64) (j k : Nat) (hj : j < 64) : lB (jLushr s (Int32.ofNat j)) k = lB s (j + k) := by
  unfold lB jLushr
  show (s.toUInt64 >>> ((Int32.ofNat j).toInt64.toUInt64 &&& Int64.toUInt64 63)).toBitVec.getLsbD k = _
  rw [UInt64.toBitVec_shiftRight, sh_u j hj, BitVec.ushiftRight_eq', BitVec.getLsbD_ushiftRight]
  have : (BitVec.ofNat 64 j).toNat = j := by rw [BitVec.toNat_ofNat]; exact Nat.mod_eq_of_lt (by omega)
  rw [this]
  rfl
theorem lB_shl (s : Int64) (j k : Nat) (hj : j < 64) : lB (jLshl s (Int32.ofNat j)) k = (decide (k < 64) && !decide (k < j) && lB s (k - j)) := by
  unfold lB jLshl
  rw [Int64.toBitVec_shiftLeft, sh_s j hj, BitVec.shiftLeft_eq', BitVec.getLsbD_shiftLeft]
  have : (BitVec.ofNat 64 j).toNat = j := by rw [BitVec.toNat_ofNat]; exact Nat.mod_eq_of_lt (by omega)
  rw [this]
/-- the number in w bits from a on -/
def bD (s : Int64) (a w : Nat) : Nat := (s.toBitVec.toNat >>> a) % 2 ^ w
theorem bD_lt (s : Int64) (a w : Nat) : bD s a w < 2 ^ w := Nat.mod_lt _ (Nat.two_pow_pos w)
theorem bD_bit (s : Int64) (a w j : Nat) : (bD s a w).testBit j = (decide (j < w) && lB s (a + j)) := by
  unfold bD lB
  rw [Nat.testBit_mod_two_pow, Nat.testBit_shiftRight, BitVec.getLsbD]
theorem iB_ofNat (x k : Nat) : iB (Int32.ofNat x) k = (decide (k < 32) && x.testBit k) := by
  show (BitVec.ofNat 32 x).getLsbD k = _
  rw [BitVec.getLsbD_ofNat]
/-- a field of a long, read -/
theorem jGet (s : Int64) (a w : Nat) (ha : a < 64) (hw : w ≤ 8) : (Int64.toInt32 (jLushr s (Int32.ofNat a))) &&& Int32.ofNat (2 ^ w - 1) = Int32.ofNat (bD s a w) := by
  apply iB_ext
  intro k hk
  rw [iB_and, lB_toInt32, lB_ushr s a k ha, iB_ofNat, iB_ofNat, bD_bit, Nat.testBit_two_pow_sub_one]
  simp only [hk, decide_true, Bool.true_and]
  exact Bool.and_comm _ _
/-- a field of a long, written -/
def jW (s : Int64) (a w : Nat) (v : Int32) : Int64 := (s &&& ((jLshl (Int32.toInt64 (Int32.ofNat (2 ^ w - 1))) (Int32.ofNat a)) ^^^ (-1))) ||| (jLshl (Int32.toInt64 (v &&& Int32.ofNat (2 ^ w - 1))) (Int32.ofNat a))
theorem iB_pos {x : Int32} {w : Nat} (hw : w ≤ 8) (k : Nat) (hx : ∀ j, w ≤ j → j < 32 → iB x j = false) : lB x.toInt64 k = (decide (k < w) && iB x k) := by
  by_cases hk : k < 32
  · rw [iB_toInt64 x k hk]
    by_cases h : k < w
    · simp [h]
    · simp [h, hx k (by omega) hk]
  · have h1 : ¬ k < w := by omega
    have hm : x.toBitVec.msb = false := by
      rw [BitVec.msb_eq_getLsbD_last]
      exact hx 31 (by omega) (by omega)
    unfold lB
    rw [Int32.toBitVec_toInt64, BitVec.getLsbD_signExtend]
    simp [hk, h1, hm]
theorem lB_jW (s : Int64) (a w : Nat) (v : Int32) (haw : a + w ≤ 64) (hw : w ≤ 8) (ha : a < 64) (k : Nat) (hk : k < 64) : lB (jW s a w v) k = if a ≤ k ∧ k < a + w then iB v (k - a) else lB s k := by
  have hm : ∀ j, w ≤ j → j < 32 → iB (Int32.ofNat (2 ^ w - 1)) j = false := fun j h1 h2 => by
    rw [iB_ofNat, Nat.testBit_two_pow_sub_one]
    have : ¬ j < w := by omega
    simp [this]
  have hv : ∀ j, w ≤ j → j < 32 → iB (v &&& Int32.ofNat (2 ^ w - 1)) j = false := fun j h1 h2 => by
    rw [iB_and, hm j h1 h2, Bool.and_false]
  unfold jW
  rw [lB_or, lB_and, lB_xor, lB_m1, lB_shl _ a k ha, lB_shl _ a k ha, iB_pos hw _ hm, iB_pos hw _ hv, iB_and, iB_ofNat, Nat.testBit_two_pow_sub_one]
  by_cases h1 : k < a
  · have h2 : ¬ (a ≤ k ∧ k < a + w) := by omega
    simp [h1, hk, h2]
  · by_cases h3 : k - a < w
    · have h2 : a ≤ k ∧ k < a + w := by omega
      have h4 : k - a < 32 := by omega
      simp [h1, hk, h2, h3, h4]
    · have h2 : ¬ (a ≤ k ∧ k < a + w) := by omega
      simp [h1, hk, h2, h3]
theorem bD_jW (s : Int64) (a w : Nat) (v : Int32) (haw : a + w ≤ 64) (hw : w ≤ 8) (ha : a < 64) (a' w' : Nat) (haw' : a' + w' ≤ 64) (hd : a' + w' ≤ a ∨ a + w ≤ a') : bD (jW s a w v) a' w' = bD s a' w' := by
  apply Nat.eq_of_testBit_eq
  intro j
  rw [bD_bit, bD_bit]
  by_cases hj : j < w'
  · rw [lB_jW s a w v haw hw ha (a' + j) (by omega), if_neg (by omega)]
  · simp [hj]
theorem bD_jW_same (s : Int64) (a w x : Nat) (haw : a + w ≤ 64) (hw : w ≤ 8) (ha : a < 64) (hx : x < 2 ^ w) : bD (jW s a w (Int32.ofNat x)) a w = x := by
  apply Nat.eq_of_testBit_eq
  intro j
  rw [bD_bit]
  by_cases hj : j < w
  · rw [lB_jW s a w _ haw hw ha (a + j) (by omega), if_pos (by omega), iB_ofNat]
    have : a + j - a = j := by omega
    have h32 : j < 32 := by omega
    simp [this, hj, h32]
  · have : x.testBit j = false := Nat.testBit_lt_two_pow (Nat.lt_of_lt_of_le hx (Nat.pow_le_pow_right (by decide) (by omega)))
    simp [hj, this]
/-- the fields of a state: 0 the room, 1..6 places, 7..12 open, 13..15 amounts, 16, 17 steps, 18, 19 counts, 20 the ending -/
def fo (i : Nat) : Nat := if i = 0 then 0 else if i < 7 then 3 + 4 * (i - 1) else if i < 13 then 27 + (i - 7) else if i < 16 then 33 + 3 * (i - 13) else if i < 18 then 42 + 2 * (i - 16) else if i < 20 then 46 + 4 * (i - 18) else 54
def fw (i : Nat) : Nat := if i = 0 then 3 else if i < 7 then 4 else if i < 13 then 1 else if i < 16 then 3 else if i < 18 then 2 else if i < 20 then 4 else 3
theorem fo_ok : ∀ i, i < 21 → fo i + fw i ≤ 57 ∧ fw i ≤ 4 ∧ fo i < 57 := by decide +kernel
theorem fo_apart : ∀ i, i < 21 → ∀ j, j < 21 → i ≠ j → fo j + fw j ≤ fo i ∨ fo i + fw i ≤ fo j := by decide +kernel
theorem fo_all : ∀ k, k < 57 → ∃ i, i < 21 ∧ fo i ≤ k ∧ k < fo i + fw i := by decide +kernel
def dg (s : Int64) (i : Nat) : Nat := bD s (fo i) (fw i)
theorem dg_lt (s : Int64) (i : Nat) : dg s i < 2 ^ fw i := bD_lt _ _ _
/-- nothing stands above the fields -/
def sT (s : Int64) : Prop := ∀ k, 57 ≤ k → k < 64 → lB s k = false
def dW (s : Int64) (i x : Nat) : Int64 := jW s (fo i) (fw i) (Int32.ofNat x)
theorem dg_dW (s : Int64) {i j x : Nat} (hi : i < 21) (hj : j < 21) (hx : x < 2 ^ fw i) : dg (dW s i x) j = if j = i then x else dg s j := by
  have a1 := fo_ok i hi
  have a2 := fo_ok j hj
  unfold dg dW
  by_cases h : j = i
  · subst h
    rw [if_pos rfl]
    exact bD_jW_same s _ _ x (by omega) (by omega) (by omega) hx
  · rw [if_neg h]
    exact bD_jW s _ _ _ (by omega) (by omega) (by omega) _ _ (by omega) (fo_apart i hi j hj (fun z => h z.symm))
theorem sT_dW {s : Int64} {i x : Nat} (hi : i < 21) (h : sT s) : sT (dW s i x) := by
  intro k h1 h2
  have a1 := fo_ok i hi
  unfold dW
  rw [lB_jW s _ _ _ (by omega) (by omega) (by omega) k h2, if_neg (by omega)]
  exact h k h1 h2
theorem sT_ext {s t : Int64} (hs : sT s) (ht : sT t) (h : ∀ i, i < 21 → dg s i = dg t i) : s = t := by
  apply lB_ext
  intro k hk
  by_cases h57 : k < 57
  · obtain ⟨i, hi, h1, h2⟩ := fo_all k h57
    have e := congrArg (fun x => x.testBit (k - fo i)) (h i hi)
    simp only [dg, bD_bit] at e
    have h3 : k - fo i < fw i := by omega
    have h4 : fo i + (k - fo i) = k := by omega
    rw [h4] at e
    simpa [h3] using e
  · rw [hs k (by omega) hk, ht k (by omega) hk]
theorem lB_zero (k : Nat) : lB 0 k = false := by
  show (0#64).getLsbD k = false
  simp
theorem sT_zero : sT 0 := fun k _ _ => lB_zero k
theorem dg_zero (i : Nat) : dg 0 i = 0 := by
  apply Nat.eq_of_testBit_eq
  intro j
  rw [dg, bD_bit, lB_zero]
  simp
