/-! Where things are: chains of things in things, both sides. -/
def pl (s : Int64) (t : Nat) : Nat := dg s (1 + t)
theorem pl_lt (s : Int64) {t : Nat} (ht : t < 6) : pl s t < 16 := by
  have h := dg_lt s (1 + t)
  rw [(fs_place t ht).2] at h
  exact h
/-- a rank that falls from a thing to what it is in -/
def Rk (s : Int64) (r : Nat → Nat) : Prop := ∀ t, t < 6 → r t < 6 ∧ (7 ≤ pl s t → pl s t - 7 < 6 ∧ r (pl s t - 7) < r t)
def sn (s : Int64) : Nat → Nat → Bool
  | 0, _ => false
  | k + 1, t => if pl s t < 7 then decide (pl s t = 6 ∨ pl s t = dg s 0) else decide (dg s (7 + (pl s t - 7)) ≠ 0) && sn s k (pl s t - 7)
def wi (s : Int64) : Nat → Nat → Nat → Bool
  | 0, _, _ => false
  | k + 1, t, x => if t = x then true else if pl s t < 7 then false else wi s k (pl s t - 7) x
/-- the reference's fields hold the state -/
def Scr (g : sHp) (s : Int64) : Prop := g.1 0 32 = o (dg s 0) ∧ (∀ t, t < 6 → g.1 25 t = o (dg s (1 + t))) ∧ (∀ t, t < 6 → g.1 26 t = o (dg s (7 + t))) ∧ (∀ k, k < 3 → g.1 27 k = o (dg s (13 + k))) ∧ (∀ k, k < 2 → g.1 28 k = o (dg s (16 + k))) ∧ (∀ k, k < 2 → g.1 29 k = o (dg s (18 + k))) ∧ g.1 0 38 = o (dg s 20)
def oB (b : Bool) : Int32 := if b then 1 else 0
theorem sGd_true {β : Type} (A : Option β) : sGd true A = A := rfl
theorem dg0_lt (s : Int64) : dg s 0 < 8 := dg_lt s 0
theorem M_seen {g : sHp} {s : Int64} {r : Nat → Nat} (hg : Scr g s) (hr : Rk s r) (n : Nat) (p1 : Int32) : ∀ k t N, t < 6 → r t < k → k ≤ N → sFx (F_M_isSeen_2 n p1 g) N (o t) = some (oB (sn s k t)) := by
  intro k
  induction k with
  | zero => intro t N _ h; exact absurd h (Nat.not_lt_zero _)
  | succ k ih =>
    intro t N ht hrt hN
    obtain ⟨N, rfl⟩ : ∃ M, N = M + 1 := ⟨N - 1, by omega⟩
    have hp := hg.2.1 t ht
    have hpl := pl_lt s ht
    have h0 := dg0_lt s
    show F_M_isSeen_2 n p1 g (sFx (F_M_isSeen_2 n p1 g) N) (o t) = _
    unfold F_M_isSeen_2
    rw [sIn_o 6 (by omega), decide_eq_true ht, ix_o (by omega), hp]
    simp only [sGd_true]
    change (if o (pl s t) ≤ 6 then _ else _) = _
    by_cases h7 : pl s t < 7
    · have e1 : o (pl s t) ≤ 6 := (o_le (by omega) (by omega : 6 < 2147483648)).mpr (by omega)
      rw [if_pos e1]
      simp only [sn, if_pos h7]
      change (if o (pl s t) = o 6 then some 1 else if o (pl s t) = g.1 0 32 then some 1 else some 0) = _
      rw [hg.1]
      simp only [o_inj (show pl s t < 2147483648 by omega) (show 6 < 2147483648 by omega), o_inj (show pl s t < 2147483648 by omega) (show dg s 0 < 2147483648 by omega)]
      by_cases a : pl s t = 6
      · simp [a, oB]
      · by_cases b : pl s t = dg s 0 <;> simp [a, b, oB]
    · have e1 : ¬ o (pl s t) ≤ 6 := fun z => h7 (by have := (o_le (by omega) (by omega : 6 < 2147483648)).mp z; omega)
      rw [if_neg e1]
      obtain ⟨q1, q2⟩ := (hr t ht).2 (by omega)
      have e2 : o (pl s t) - 7 = o (pl s t - 7) := o_sub (b := 7) (by omega)
      change sGd (sIn (o (pl s t) - 7) 6) (if g.1 26 (ix (o (pl s t) - 7)) = 0 then some 0 else sFx (F_M_isSeen_2 n p1 g) N (o (pl s t) - 7)) = _
      rw [e2, sIn_o 6 (by omega), decide_eq_true q1, ix_o (by omega), sGd_true, hg.2.2.1 _ q1, ih _ N q1 (by omega) (by omega)]
      have hd := dg_lt s (7 + (pl s t - 7))
      rw [(fs_open _ q1).2] at hd
      simp only [sn, if_neg h7]
      change (if o (dg s (7 + (pl s t - 7))) = o 0 then some 0 else _) = _
      simp only [o_inj (show dg s (7 + (pl s t - 7)) < 2147483648 by omega) (show 0 < 2147483648 by omega)]
      by_cases a : dg s (7 + (pl s t - 7)) = 0
      · simp [a, oB]
      · simp [a]
theorem B_seenL {s : Int64} {r : Nat → Nat} (hr : Rk s r) (n : Nat) (p2 : Int32) (h : sHp) : ∀ k t d N, t < 6 → r t < k → d + k ≤ 6 → k ≤ N → sFx (F_B_isSeen_9 n s p2 h) N (o (pl s t), o d) = some (oB (sn s k t)) := by
  intro k
  induction k with
  | zero => intro t d N _ h; exact absurd h (Nat.not_lt_zero _)
  | succ k ih =>
    intro t d N ht hrt hd hN
    obtain ⟨N, rfl⟩ : ∃ M, N = M + 1 := ⟨N - 1, by omega⟩
    have hpl := pl_lt s ht
    have h0 := dg0_lt s
    show F_B_isSeen_9 n s p2 h (sFx (F_B_isSeen_9 n s p2 h) N) (o (pl s t), o d) = _
    unfold F_B_isSeen_9
    dsimp only
    have e6 : ¬ (6 : Int32) ≤ o d := fun z => by have := (o_le (by omega : 6 < 2147483648) (by omega)).mp z; omega
    rw [if_neg e6]
    by_cases h7 : pl s t < 7
    · have e1 : o (pl s t) < 7 := (o_lt (by omega) (by omega : 7 < 2147483648)).mpr h7
      rw [if_pos e1]
      unfold K_B_isSeen_50
      rw [b_room]
      simp only [sn, if_pos h7]
      change (if o (pl s t) = o 6 then some 1 else if o (pl s t) = o (dg s 0) then some 1 else some 0) = _
      simp only [o_inj (show pl s t < 2147483648 by omega) (show 6 < 2147483648 by omega), o_inj (show pl s t < 2147483648 by omega) (show dg s 0 < 2147483648 by omega)]
      by_cases a : pl s t = 6
      · simp [a, oB]
      · by_cases b : pl s t = dg s 0 <;> simp [a, b, oB]
    · have e1 : ¬ o (pl s t) < 7 := fun z => h7 ((o_lt (by omega) (by omega : 7 < 2147483648)).mp z)
      rw [if_neg e1]
      obtain ⟨q1, q2⟩ := (hr t ht).2 (by omega)
      have e2 : o (pl s t) - 7 = o (pl s t - 7) := o_sub (b := 7) (by omega)
      have e3 : o d + 1 = o (d + 1) := o_add d 1
      rw [e2, e3, b_open n s h q1, b_place n s h q1]
      change (if o (dg s (7 + (pl s t - 7))) = o 0 then some 0 else sFx (F_B_isSeen_9 n s p2 h) N (o (pl s (pl s t - 7)), o (d + 1))) = _
      rw [ih _ (d + 1) N q1 (by omega) (by omega) (by omega)]
      have hdd := dg_lt s (7 + (pl s t - 7))
      rw [(fs_open _ q1).2] at hdd
      simp only [sn, if_neg h7]
      simp only [o_inj (show dg s (7 + (pl s t - 7)) < 2147483648 by omega) (show 0 < 2147483648 by omega)]
      by_cases a : dg s (7 + (pl s t - 7)) = 0
      · simp [a, oB]
      · simp [a]
theorem B_seen {s : Int64} {r : Nat → Nat} (hr : Rk s r) {n : Nat} (hn : 6 ≤ n) (h : sHp) {t : Nat} (ht : t < 6) : J_B_isSeen n s (o t) h = some (oB (sn s 6 t)) := by
  unfold J_B_isSeen
  rw [b_place n s h ht]
  exact B_seenL hr n (o t) h 6 t 0 n ht (hr t ht).1 (by omega) hn
theorem M_seen6 {g : sHp} {s : Int64} {r : Nat → Nat} (hg : Scr g s) (hr : Rk s r) {n : Nat} (hn : 6 ≤ n) {t : Nat} (ht : t < 6) : J_M_isSeen n (o t) g = some (oB (sn s 6 t)) := by
  unfold J_M_isSeen
  exact M_seen hg hr n (o t) 6 t n ht (hr t ht).1 hn
