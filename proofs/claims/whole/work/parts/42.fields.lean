/-! The class's reads and writes of a state, by its fields. -/
theorem fs_place : ∀ t, t < 6 → (3 : Int32) + 4 * Int32.ofNat t = Int32.ofNat (fo (1 + t)) ∧ fw (1 + t) = 4 := by decide +kernel
theorem fs_open : ∀ t, t < 6 → (27 : Int32) + Int32.ofNat t = Int32.ofNat (fo (7 + t)) ∧ fw (7 + t) = 1 := by decide +kernel
theorem fs_amount : ∀ t, t < 3 → (33 : Int32) + 3 * Int32.ofNat t = Int32.ofNat (fo (13 + t)) ∧ fw (13 + t) = 3 := by decide +kernel
theorem fs_step : ∀ t, t < 2 → (42 : Int32) + 2 * Int32.ofNat t = Int32.ofNat (fo (16 + t)) ∧ fw (16 + t) = 2 := by decide +kernel
theorem fs_count : ∀ t, t < 2 → (46 : Int32) + 4 * Int32.ofNat t = Int32.ofNat (fo (18 + t)) ∧ fw (18 + t) = 4 := by decide +kernel
theorem jGetF (s : Int64) (i : Nat) (hi : i < 21) : (Int64.toInt32 (jLushr s (Int32.ofNat (fo i)))) &&& Int32.ofNat (2 ^ fw i - 1) = o (dg s i) := by
  have := fo_ok i hi
  exact jGet s (fo i) (fw i) (by omega) (by omega)
theorem b_room (n : Nat) (s : Int64) (h : sHp) : J_B_roomOf n s h = some (o (dg s 0)) := by
  have e7 : (7 : Int32) = Int32.ofNat (2 ^ 3 - 1) := by decide
  have f0 : fo 0 = 0 := rfl
  have w0 : fw 0 = 3 := rfl
  have hx : (Int64.toInt32 s) &&& 7 = o (dg s 0) := by
    rw [e7]
    apply iB_ext
    intro k hk
    unfold o dg
    rw [iB_and, lB_toInt32, iB_ofNat, iB_ofNat, Nat.testBit_two_pow_sub_one, bD_bit, f0, w0, Nat.zero_add]
    simp only [hk, decide_true, Bool.true_and]
    exact Bool.and_comm _ _
  unfold J_B_roomOf
  rw [hx]
theorem b_place (n : Nat) (s : Int64) (h : sHp) {t : Nat} (ht : t < 6) : J_B_placeOf n s (o t) h = some (o (dg s (1 + t))) := by
  unfold J_B_placeOf
  have e := fs_place t ht
  rw [show (3 : Int32) + 4 * o t = Int32.ofNat (fo (1 + t)) from e.1, ← jGetF s (1 + t) (by omega), e.2]
  rfl
theorem b_amount (n : Nat) (s : Int64) (h : sHp) {t : Nat} (ht : t < 3) : J_B_amountOf n s (o t) h = some (o (dg s (13 + t))) := by
  unfold J_B_amountOf
  have e := fs_amount t ht
  rw [show (33 : Int32) + 3 * o t = Int32.ofNat (fo (13 + t)) from e.1, ← jGetF s (13 + t) (by omega), e.2]
  rfl
theorem b_step (n : Nat) (s : Int64) (h : sHp) {t : Nat} (ht : t < 2) : J_B_stepOf n s (o t) h = some (o (dg s (16 + t))) := by
  unfold J_B_stepOf
  have e := fs_step t ht
  rw [show (42 : Int32) + 2 * o t = Int32.ofNat (fo (16 + t)) from e.1, ← jGetF s (16 + t) (by omega), e.2]
  rfl
theorem b_count (n : Nat) (s : Int64) (h : sHp) {t : Nat} (ht : t < 2) : J_B_countOf n s (o t) h = some (o (dg s (18 + t))) := by
  unfold J_B_countOf
  have e := fs_count t ht
  rw [show (46 : Int32) + 4 * o t = Int32.ofNat (fo (18 + t)) from e.1, ← jGetF s (18 + t) (by omega), e.2]
  rfl
theorem b_ending (n : Nat) (s : Int64) (h : sHp) : J_B_endingOf n s h = some (o (dg s 20) - 1) := by
  unfold J_B_endingOf
  rw [← jGetF s 20 (by omega)]
  rfl
theorem b_over (n : Nat) (s : Int64) (h : sHp) : J_B_isOver n s h = some (if dg s 20 = 0 then 0 else 1) := by
  unfold J_B_isOver
  rw [b_ending]
  have hl : dg s 20 < 8 := dg_lt s 20
  generalize dg s 20 = x at hl
  show (if o x - 1 = -1 then some 0 else some 1) = _
  have : ∀ x, x < 8 → (if o x - 1 = -1 then (some 0 : Option Int32) else some 1) = some (if x = 0 then 0 else 1) := by decide +kernel
  exact this x hl
theorem b_open (n : Nat) (s : Int64) (h : sHp) {t : Nat} (ht : t < 6) : J_B_isOpen n s (o t) h = some (o (dg s (7 + t))) := by
  unfold J_B_isOpen
  have e := fs_open t ht
  rw [show (27 : Int32) + o t = Int32.ofNat (fo (7 + t)) from e.1]
  have a := fo_ok (7 + t) (by omega)
  have hx : (jLushr s (Int32.ofNat (fo (7 + t)))) &&& 1 = if lB s (fo (7 + t)) then 1 else 0 := by
    apply lB_ext
    intro k hk
    rw [lB_and, lB_ushr s _ k (by omega)]
    have h1 : ∀ k, k < 64 → lB 1 k = decide (k = 0) := by decide +kernel
    rw [h1 k hk]
    by_cases hk0 : k = 0
    · subst hk0
      cases lB s (fo (7 + t)) <;> simp [lB_zero, h1 0 (by decide)]
    · cases lB s (fo (7 + t)) <;> simp [hk0, lB_zero, h1 k hk]
  rw [hx]
  have hd : dg s (7 + t) = if lB s (fo (7 + t)) then 1 else 0 := by
    apply Nat.eq_of_testBit_eq
    intro j
    rw [dg, bD_bit, e.2]
    by_cases hj : j = 0
    · subst hj
      cases lB s (fo (7 + t)) <;> simp_all
    · have : ¬ j < 1 := by omega
      have h1 : Nat.testBit 1 j = false := Nat.testBit_lt_two_pow (Nat.one_lt_two_pow hj)
      cases lB s (fo (7 + t)) <;> simp [this, h1]
  rw [hd]
  cases lB s (fo (7 + t)) <;> decide
/-- writes -/
theorem b_wr (n : Nat) (s : Int64) (h : sHp) (i : Nat) (v : Int32) : J_B_write n s (Int32.ofNat (fo i)) (Int32.ofNat (2 ^ fw i - 1)) v h = some (jW s (fo i) (fw i) v) := rfl
theorem b_wroom (n : Nat) (s : Int64) (h : sHp) (x : Nat) : J_B_withRoom n s (o x) h = some (dW s 0 x) := rfl
theorem b_wplace (n : Nat) (s : Int64) (h : sHp) {t : Nat} (ht : t < 6) (x : Nat) : J_B_withPlace n s (o t) (o x) h = some (dW s (1 + t) x) := by
  have e := fs_place t ht
  unfold J_B_withPlace
  rw [show (3 : Int32) + 4 * o t = Int32.ofNat (fo (1 + t)) from e.1, show (15 : Int32) = Int32.ofNat (2 ^ fw (1 + t) - 1) by rw [e.2]; rfl, b_wr]
  rfl
theorem b_wopen (n : Nat) (s : Int64) (h : sHp) {t : Nat} (ht : t < 6) (x : Nat) : J_B_withOpen n s (o t) (o x) h = some (dW s (7 + t) x) := by
  have e := fs_open t ht
  unfold J_B_withOpen
  rw [show (27 : Int32) + o t = Int32.ofNat (fo (7 + t)) from e.1, show (1 : Int32) = Int32.ofNat (2 ^ fw (7 + t) - 1) by rw [e.2]; rfl, b_wr]
  rfl
theorem b_wamount (n : Nat) (s : Int64) (h : sHp) {t : Nat} (ht : t < 3) (x : Nat) : J_B_withAmount n s (o t) (o x) h = some (dW s (13 + t) x) := by
  have e := fs_amount t ht
  unfold J_B_withAmount
  rw [show (33 : Int32) + 3 * o t = Int32.ofNat (fo (13 + t)) from e.1, show (7 : Int32) = Int32.ofNat (2 ^ fw (13 + t) - 1) by rw [e.2]; rfl, b_wr]
  rfl
theorem b_wstep (n : Nat) (s : Int64) (h : sHp) {t : Nat} (ht : t < 2) (x : Nat) : J_B_withStep n s (o t) (o x) h = some (dW s (16 + t) x) := by
  have e := fs_step t ht
  unfold J_B_withStep
  rw [show (42 : Int32) + 2 * o t = Int32.ofNat (fo (16 + t)) from e.1, show (3 : Int32) = Int32.ofNat (2 ^ fw (16 + t) - 1) by rw [e.2]; rfl, b_wr]
  rfl
theorem b_wcount (n : Nat) (s : Int64) (h : sHp) {t : Nat} (ht : t < 2) (x : Nat) : J_B_withCount n s (o t) (o x) h = some (dW s (18 + t) x) := by
  have e := fs_count t ht
  unfold J_B_withCount
  rw [show (46 : Int32) + 4 * o t = Int32.ofNat (fo (18 + t)) from e.1, show (15 : Int32) = Int32.ofNat (2 ^ fw (18 + t) - 1) by rw [e.2]; rfl, b_wr]
  rfl
theorem b_wending (n : Nat) (s : Int64) (h : sHp) (x : Nat) : J_B_withEnding n s (o x) h = some (dW s 20 (x + 1)) := by
  unfold J_B_withEnding
  show ((J_B_write n s (Int32.ofNat (fo 20)) (Int32.ofNat (2 ^ fw 20 - 1)) (o x + o 1) h).bind fun v8 => some v8) = _
  rw [o_add, b_wr]
  rfl
