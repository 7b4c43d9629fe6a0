/-! Which state leads to which, both sides. -/
theorem ish_s : ∀ j, j < 32 → ((Int32.ofNat j) &&& 31).toBitVec.smod 32 = BitVec.ofNat 32 j := by decide +kernel
theorem iB_shl (s : Int32) (j k : Nat) (hj : j < 32) : iB (jIshl s (Int32.ofNat j)) k = (decide (k < 32) && !decide (k < j) && iB s (k - j)) := by
  unfold iB jIshl
  rw [Int32.toBitVec_shiftLeft, ish_s j hj, BitVec.shiftLeft_eq', BitVec.getLsbD_shiftLeft]
  have : (BitVec.ofNat 32 j).toNat = j := by rw [BitVec.toNat_ofNat]; exact Nat.mod_eq_of_lt (by omega)
  rw [this]
theorem iB_one : ∀ k, k < 32 → iB 1 k = decide (k = 0) := by decide +kernel
theorem lB_one : ∀ k, k < 64 → lB 1 k = decide (k = 0) := by decide +kernel
theorem iB_bit {k m : Nat} (hk : k < 32) (hm : m < 32) : iB (jIshl 1 (o k)) m = decide (m = k) := by
  show iB (jIshl 1 (Int32.ofNat k)) m = _
  rw [iB_shl 1 k m hk, iB_one _ (by omega)]
  by_cases h1 : m = k
  · subst h1; simp [hm]
  · by_cases h2 : m < k
    · simp [h1, h2]
    · simp [h1, h2]; omega
theorem lB_bit {k m : Nat} (hk : k < 64) (hm : m < 64) : lB (jLshl 1 (o k)) m = decide (m = k) := by
  show lB (jLshl 1 (Int32.ofNat k)) m = _
  rw [lB_shl 1 k m hk, lB_one _ (by omega)]
  by_cases h1 : m = k
  · subst h1; simp [hm]
  · by_cases h2 : m < k
    · simp [h1, h2]
    · simp [h1, h2]; omega
section LE
variable {h g : sHp} {n : Nat}
/-- the class notes a lead -/
theorem E_addTo {d x : Nat} (hd : d < 160) (hx : x < 192) : ∃ h', J_A_addTo n (o d * 3) (o x) h = some h' ∧ h'.1 = h.1 ∧ (∀ j m, ¬ (j = 39 ∧ m = 3 * d + x / 64) → h'.2 j m = h.2 j m) ∧ ∀ i j, i < 160 → j < 192 → ld h' i j = (ld h i j || (decide (i = d) && decide (j = x))) := by
  have e1 : o d * (3 : Int32) + o x / 64 = o (3 * d + x / 64) := by
    rw [show (64 : Int32) = o 64 from rfl, o_div (by omega) (by omega)]
    show o d * o 3 + o (x / 64) = _
    rw [o_mul, o_add, Nat.mul_comm]
  have e2 : jRem (o x) 64 = o (x % 64) := jRem_o (by omega) (by omega : 64 < 2147483648)
  refine ⟨pL h 39 (3 * d + x / 64) (h.2 39 (3 * d + x / 64) ||| jLshl 1 (o (x % 64))), ?_, rfl, fun j m z => by rw [pL_i, if_neg z], fun i j hi hj => ?_⟩
  · unfold J_A_addTo
    rw [e1, e2, sIn_o 480 (by omega), decide_eq_true (by omega), sGd_true, sGd_true, ix_o (by omega)]
  · unfold ld
    rw [pL_i]
    by_cases hq : 3 * i + j / 64 = 3 * d + x / 64
    · have hid : i = d := by omega
      have hjx : j / 64 = x / 64 := by omega
      rw [if_pos ⟨rfl, hq⟩, lB_or, lB_bit (by omega) (by omega), hq, decide_eq_true hid, Bool.true_and]
      congr 1
      exact decide_eq_decide.mpr ⟨fun z => by omega, fun z => by omega⟩
    · rw [if_neg (fun z => hq z.2)]
      have : (decide (i = d) && decide (j = x)) = false := by
        rw [Bool.and_eq_false_iff]
        by_cases z : i = d
        · right; exact decide_eq_false (fun y => hq (by rw [z, y]))
        · left; exact decide_eq_false z
      rw [this, Bool.or_false]
/-- the reference notes it -/
theorem M_addTo {d x : Nat} (x1 x2 x3 : Int32) (hd : d < 160) (hx : x < 160) (h50 : g.1 0 50 = o d) : ∃ g', K_M_tryOne_98 n x1 x2 x3 (o x) g = some g' ∧ g'.2 = g.2 ∧ (∀ j m, ¬ (j = 40 ∧ m = 5 * d + x / 32) → g'.1 j m = g.1 j m) ∧ ∀ i j, i < 160 → j < 160 → rf g' i j = (rf g i j || (decide (i = d) && decide (j = x))) := by
  have e1 : (5 : Int32) * o d + o x / 32 = o (5 * d + x / 32) := by
    rw [show (32 : Int32) = o 32 from rfl, o_div (by omega) (by omega)]
    show o 5 * o d + o (x / 32) = _
    rw [o_mul, o_add]
  have e2 : jRem (o x) 32 = o (x % 32) := jRem_o (by omega) (by omega : 32 < 2147483648)
  refine ⟨pI g 40 (5 * d + x / 32) (g.1 40 (5 * d + x / 32) ||| jIshl 1 (o (x % 32))), ?_, rfl, fun j m z => by rw [pI_i, if_neg z], fun i j hi hj => ?_⟩
  · unfold K_M_tryOne_98
    rw [h50, e1, e2, sIn_o 800 (by omega), decide_eq_true (by omega), sGd_true, sGd_true, ix_o (by omega)]
  · unfold rf
    rw [pI_i]
    by_cases hq : 5 * i + j / 32 = 5 * d + x / 32
    · have hid : i = d := by omega
      have hjx : j / 32 = x / 32 := by omega
      rw [if_pos ⟨rfl, hq⟩, iB_or, iB_bit (by omega) (by omega), hq, decide_eq_true hid, Bool.true_and]
      congr 1
      exact decide_eq_decide.mpr ⟨fun z => by omega, fun z => by omega⟩
    · rw [if_neg (fun z => hq z.2)]
      have : (decide (i = d) && decide (j = x)) = false := by
        rw [Bool.and_eq_false_iff]
        by_cases z : i = d
        · right; exact decide_eq_false (fun y => hq (by rw [z, y]))
        · left; exact decide_eq_false z
      rw [this, Bool.or_false]
/-- the reference looks a state up -/
theorem M_search {f : Nat} {S : Nat → Int64} (f160 : f ≤ 160) (h49 : g.1 0 49 = o f) (enc : ∀ i, i < f → g.1 34 i = o (eA (S i)) ∧ g.1 35 i = o (eB (S i))) (hsT : ∀ i, i < f → sT (S i)) {s : Int64} (hs : sT s) : ∀ d i M, i + d = f → d < M → (∀ j, j < i → S j ≠ s) → (sFx (F_M_search_2 n (o (eA s)) (o (eB s)) g) M (o i) = some (-1) ∧ ∀ j, j < f → S j ≠ s) ∨ ∃ x, x < f ∧ S x = s ∧ sFx (F_M_search_2 n (o (eA s)) (o (eB s)) g) M (o i) = some (o x) := by
  intro d
  induction d with
  | zero =>
    intro i M hi hM hno
    obtain ⟨M, rfl⟩ : ∃ m, M = m + 1 := ⟨M - 1, by omega⟩
    obtain rfl : i = f := by omega
    refine Or.inl ⟨?_, hno⟩
    rw [sFx_s]; unfold F_M_search_2
    rw [h49, if_pos ((o_le (by omega) (by omega)).mpr (by omega))]
  | succ d ih =>
    intro i M hi hM hno
    obtain ⟨M, rfl⟩ : ∃ m, M = m + 1 := ⟨M - 1, by omega⟩
    obtain ⟨a, b⟩ := enc i (by omega)
    have hif : ∀ X : Int32 → Option Int32, F_M_search_2 n (o (eA s)) (o (eB s)) g X (o i) = if S i = s then some (o i) else X (o (i + 1)) := fun X => by
      unfold F_M_search_2
      rw [h49, if_neg (fun z => by have := (o_le (by omega) (by omega)).mp z; omega), sIn_o 160 (by omega), decide_eq_true (by omega), sGd_true, sGd_true, ix_o (by omega), a, b, show o i + 1 = o (i + 1) from o_add i 1]
      by_cases hq : S i = s
      · rw [hq, if_pos rfl, if_pos rfl, if_pos rfl]
      · rw [if_neg hq]
        by_cases c : o (eA (S i)) = o (eA s)
        · rw [if_pos c, if_neg (fun z => hq ((enc_iff (hsT i (by omega)) hs).mp ⟨c, z⟩))]
        · rw [if_neg c]
    rw [sFx_s, hif]
    by_cases hq : S i = s
    · exact Or.inr ⟨i, by omega, hq, by rw [if_pos hq]⟩
    · rw [if_neg hq]
      exact ih (i + 1) M (by omega) (by omega) (fun j hj => by
        by_cases z : j = i
        · rw [z]; exact hq
        · exact hno j (by omega))
end LE
