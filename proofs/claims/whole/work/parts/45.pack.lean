/-! The reference's two ints of a state. -/
def vA (s : Int64) : Nat → Nat
  | 0 => dg s 0
  | k + 1 => 16 * vA s k + pl s k
def eA (s : Int64) : Nat := 8 * vA s 6 + dg s 20
def uO (s : Int64) : Nat → Nat
  | 0 => 0
  | k + 1 => 2 * uO s k + dg s (7 + k)
def uN (s : Int64) : Nat → Nat
  | 0 => uO s 6
  | k + 1 => 8 * uN s k + dg s (13 + k)
def uT (s : Int64) : Nat → Nat
  | 0 => uN s 3
  | k + 1 => 64 * uT s k + 16 * dg s (16 + k) + dg s (18 + k)
def eB (s : Int64) : Nat := uT s 2
theorem dO_lt (s : Int64) {k : Nat} (h : k < 6) : dg s (7 + k) < 2 := by have := dg_lt s (7 + k); rw [(fs_open k h).2] at this; exact this
theorem dN_lt (s : Int64) {k : Nat} (h : k < 3) : dg s (13 + k) < 8 := by have := dg_lt s (13 + k); rw [(fs_amount k h).2] at this; exact this
theorem dS_lt (s : Int64) {k : Nat} (h : k < 2) : dg s (16 + k) < 4 := by have := dg_lt s (16 + k); rw [(fs_step k h).2] at this; exact this
theorem dC_lt (s : Int64) {k : Nat} (h : k < 2) : dg s (18 + k) < 16 := by have := dg_lt s (18 + k); rw [(fs_count k h).2] at this; exact this
theorem dV_lt (s : Int64) : dg s 20 < 8 := dg_lt s 20
theorem vA_lt (s : Int64) : ∀ k, k ≤ 6 → vA s k < 8 * 16 ^ k
  | 0, _ => dg0_lt s
  | k + 1, h => by
    have i := vA_lt s k (by omega)
    have p := pl_lt s (show k < 6 by omega)
    show 16 * vA s k + pl s k < 8 * 16 ^ (k + 1)
    rw [Nat.pow_succ]; omega
theorem uO_lt (s : Int64) : ∀ k, k ≤ 6 → uO s k < 2 ^ k
  | 0, _ => by show 0 < 1; decide
  | k + 1, h => by
    have i := uO_lt s k (by omega)
    have p := dO_lt s (show k < 6 by omega)
    show 2 * uO s k + dg s (7 + k) < 2 ^ (k + 1)
    rw [Nat.pow_succ]; omega
theorem uN_lt (s : Int64) : ∀ k, k ≤ 3 → uN s k < 64 * 8 ^ k
  | 0, _ => uO_lt s 6 (by decide)
  | k + 1, h => by
    have i := uN_lt s k (by omega)
    have p := dN_lt s (show k < 3 by omega)
    show 8 * uN s k + dg s (13 + k) < 64 * 8 ^ (k + 1)
    rw [Nat.pow_succ]; omega
theorem uT_lt (s : Int64) : ∀ k, k ≤ 2 → uT s k < 32768 * 64 ^ k
  | 0, _ => uN_lt s 3 (by decide)
  | k + 1, h => by
    have i := uT_lt s k (by omega)
    have p := dS_lt s (show k < 2 by omega)
    have q := dC_lt s (show k < 2 by omega)
    show 64 * uT s k + 16 * dg s (16 + k) + dg s (18 + k) < 32768 * 64 ^ (k + 1)
    rw [Nat.pow_succ]; omega
theorem p16 (k : Nat) (h : k ≤ 6) : (16 : Nat) ^ k ≤ 16777216 := Nat.pow_le_pow_right (by decide) h
theorem vA_s (s : Int64) {k : Nat} (h : k ≤ 6) : vA s k < 2147483648 := by have := vA_lt s k h; have := p16 k h; omega
theorem uO_s (s : Int64) {k : Nat} (h : k ≤ 6) : uO s k < 2147483648 := by
  have := uO_lt s k h; have : (2 : Nat) ^ k ≤ 2 ^ 6 := Nat.pow_le_pow_right (by decide) h; omega
theorem uN_s (s : Int64) {k : Nat} (h : k ≤ 3) : uN s k < 2147483648 := by
  have := uN_lt s k h; have : (8 : Nat) ^ k ≤ 8 ^ 3 := Nat.pow_le_pow_right (by decide) h; omega
theorem uT_s (s : Int64) {k : Nat} (h : k ≤ 2) : uT s k < 2147483648 := by
  have := uT_lt s k h; have : (64 : Nat) ^ k ≤ 64 ^ 2 := Nat.pow_le_pow_right (by decide) h; omega
theorem M_packA {g : sHp} {s : Int64} (hg : Scr g s) {n : Nat} (hn : 7 ≤ n) : J_M_packA n g = some (o (eA s)) := by
  have key : ∀ d t N, t + d = 6 → d < N → sFx (F_M_packA_7 n g) N (o (vA s t), o t) = some (o (eA s)) := by
    intro d
    induction d with
    | zero =>
      intro t N ht hN
      obtain ⟨N, rfl⟩ : ∃ M, N = M + 1 := ⟨N - 1, by omega⟩
      have : t = 6 := by omega
      subst this
      show F_M_packA_7 n g _ (o (vA s 6), o 6) = _
      unfold F_M_packA_7
      dsimp only
      rw [if_pos (by decide : (6 : Int32) ≤ o 6), hg.2.2.2.2.2.2]
      show some (o 8 * o (vA s 6) + o (dg s 20)) = _
      rw [o_mul, o_add]; rfl
    | succ d ih =>
      intro t N ht hN
      obtain ⟨N, rfl⟩ : ∃ M, N = M + 1 := ⟨N - 1, by omega⟩
      show F_M_packA_7 n g _ (o (vA s t), o t) = _
      unfold F_M_packA_7
      dsimp only
      have h6 : ¬ (6 : Int32) ≤ o t := fun z => by have := (o_le (by omega : 6 < 2147483648) (by omega)).mp z; omega
      rw [if_neg h6, sIn_o 6 (by omega), decide_eq_true (by omega : t < 6), sGd_true, ix_o (by omega), hg.2.1 t (by omega)]
      show sFx (F_M_packA_7 n g) N (o 16 * o (vA s t) + o (pl s t), o t + o 1) = _
      rw [o_mul, o_add, o_add]
      exact ih (t + 1) N (by omega) (by omega)
  unfold J_M_packA
  rw [hg.1]
  exact key 6 0 n rfl (by omega)
theorem M_packB {g : sHp} {s : Int64} (hg : Scr g s) {n : Nat} (hn : 7 ≤ n) : J_M_packB n g = some (o (eB s)) := by
  have key3 : ∀ d t N, t + d = 2 → d < N → sFx (F_M_packB_62 n g) N (o (uT s t), o t) = some (o (eB s)) := by
    intro d
    induction d with
    | zero =>
      intro t N ht hN
      obtain ⟨N, rfl⟩ : ∃ M, N = M + 1 := ⟨N - 1, by omega⟩
      have : t = 2 := by omega
      subst this
      rfl
    | succ d ih =>
      intro t N ht hN
      obtain ⟨N, rfl⟩ : ∃ M, N = M + 1 := ⟨N - 1, by omega⟩
      show F_M_packB_62 n g _ (o (uT s t), o t) = _
      unfold F_M_packB_62
      dsimp only
      have h6 : ¬ (2 : Int32) ≤ o t := fun z => by have := (o_le (by omega : 2 < 2147483648) (by omega)).mp z; omega
      rw [if_neg h6, sIn_o 2 (by omega), decide_eq_true (by omega : t < 2), sGd_true, sGd_true, ix_o (by omega), hg.2.2.2.2.1 t (by omega), hg.2.2.2.2.2.1 t (by omega)]
      show sFx (F_M_packB_62 n g) N (o 64 * o (uT s t) + o 16 * o (dg s (16 + t)) + o (dg s (18 + t)), o t + o 1) = _
      rw [o_mul, o_mul, o_add, o_add, o_add]
      exact ih (t + 1) N (by omega) (by omega)
  have key2 : ∀ d t N, t + d = 3 → d < N → sFx (F_M_packB_37 n g) N (o (uN s t), o t) = some (o (eB s)) := by
    intro d
    induction d with
    | zero =>
      intro t N ht hN
      obtain ⟨N, rfl⟩ : ∃ M, N = M + 1 := ⟨N - 1, by omega⟩
      have : t = 3 := by omega
      subst this
      exact key3 2 0 n rfl (by omega)
    | succ d ih =>
      intro t N ht hN
      obtain ⟨N, rfl⟩ : ∃ M, N = M + 1 := ⟨N - 1, by omega⟩
      show F_M_packB_37 n g _ (o (uN s t), o t) = _
      unfold F_M_packB_37
      dsimp only
      have h6 : ¬ (3 : Int32) ≤ o t := fun z => by have := (o_le (by omega : 3 < 2147483648) (by omega)).mp z; omega
      rw [if_neg h6, sIn_o 3 (by omega), decide_eq_true (by omega : t < 3), sGd_true, ix_o (by omega), hg.2.2.2.1 t (by omega)]
      show sFx (F_M_packB_37 n g) N (o 8 * o (uN s t) + o (dg s (13 + t)), o t + o 1) = _
      rw [o_mul, o_add, o_add]
      exact ih (t + 1) N (by omega) (by omega)
  have key1 : ∀ d t N, t + d = 6 → d < N → sFx (F_M_packB_4 n g) N (o (uO s t), o t) = some (o (eB s)) := by
    intro d
    induction d with
    | zero =>
      intro t N ht hN
      obtain ⟨N, rfl⟩ : ∃ M, N = M + 1 := ⟨N - 1, by omega⟩
      have : t = 6 := by omega
      subst this
      exact key2 3 0 n rfl (by omega)
    | succ d ih =>
      intro t N ht hN
      obtain ⟨N, rfl⟩ : ∃ M, N = M + 1 := ⟨N - 1, by omega⟩
      show F_M_packB_4 n g _ (o (uO s t), o t) = _
      unfold F_M_packB_4
      dsimp only
      have h6 : ¬ (6 : Int32) ≤ o t := fun z => by have := (o_le (by omega : 6 < 2147483648) (by omega)).mp z; omega
      rw [if_neg h6, sIn_o 6 (by omega), decide_eq_true (by omega : t < 6), sGd_true, ix_o (by omega), hg.2.2.1 t (by omega)]
      have hb := dO_lt s (show t < 6 by omega)
      have i := ih (t + 1) N (by omega) (by omega)
      have e1 : o t + 1 = o (t + 1) := o_add t 1
      by_cases hz : dg s (7 + t) = 0
      · have e2 : (2 : Int32) * o (uO s t) + 0 = o (uO s (t + 1)) := by
          show o 2 * o (uO s t) + o 0 = _
          rw [o_mul, o_add]
          show o (2 * uO s t + 0) = o (2 * uO s t + dg s (7 + t))
          rw [hz]
        rw [hz, if_pos (show o 0 = (0 : Int32) by decide), e1, e2]
        exact i
      · have h1 : dg s (7 + t) = 1 := by omega
        have e2 : (2 : Int32) * o (uO s t) + 1 = o (uO s (t + 1)) := by
          show o 2 * o (uO s t) + o 1 = _
          rw [o_mul, o_add]
          show o (2 * uO s t + 1) = o (2 * uO s t + dg s (7 + t))
          rw [h1]
        rw [h1, if_neg (by decide : ¬ o 1 = 0), e1, e2]
        exact i
  unfold J_M_packB
  exact key1 6 0 n rfl (by omega)
