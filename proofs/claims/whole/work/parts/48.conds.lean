/-! Conditions, both sides. -/
def cHold (s : Int64) (k x y : Int32) : Bool :=
  if k = 0 then decide (o (dg s 0) = x)
  else if k = 1 then decide (o (pl s (ix x)) = y)
  else if k = 2 then (if y = 1 then decide (o (dg s (7 + ix x)) = 1) else decide (o (dg s (7 + ix x)) = 0))
  else if k = 3 then !decide (o (dg s (13 + ix x)) < y)
  else !decide (y < o (dg s (13 + ix x)))
/-- a clause's x is what its kind asks -/
def okX (k x : Int32) : Prop := if k = 0 then True else if k = 1 ∨ k = 2 then ∃ t, t < 6 ∧ x = o t else ∃ t, t < 3 ∧ x = o t
def hl (s : Int64) (K X Y : Nat → Int32) : Nat → Nat → Bool
  | 0, _ => true
  | c + 1, i => cHold s (K i) (X i) (Y i) && hl s K X Y c (i + 1)
theorem oB_d (p : Prop) [Decidable p] : (if p then some (1 : Int32) else some 0) = some (oB (decide p)) := by by_cases h : p <;> simp [h, oB]
theorem oB_n (p : Prop) [Decidable p] : (if p then some (0 : Int32) else some 1) = some (oB (!decide p)) := by by_cases h : p <;> simp [h, oB]
theorem E_holds (n : Nat) {k x : Int32} (y : Int32) (h : sHp) (hk : okX k x) : J_E_holds n k x y h = some (oB (cHold (h.2 1 4) k x y)) := by
  unfold J_E_holds cHold
  unfold okX at hk
  by_cases k0 : k = 0
  · simp only [if_pos k0, b_room]
    exact oB_d _
  simp only [if_neg k0] at hk ⊢
  by_cases k1 : k = 1
  · simp only [if_pos (Or.inl k1 : k = 1 ∨ k = 2)] at hk
    obtain ⟨t, ht, rfl⟩ := hk
    simp only [if_pos k1, b_place n _ h ht, ix_o (show t < 2147483648 by omega)]
    exact oB_d _
  simp only [if_neg k1] at hk ⊢
  by_cases k2 : k = 2
  · simp only [if_pos (Or.inr k2 : k = 1 ∨ k = 2)] at hk
    obtain ⟨t, ht, rfl⟩ := hk
    simp only [if_pos k2, b_open n _ h ht, ix_o (show t < 2147483648 by omega)]
    by_cases hy : y = 1
    · simp only [if_pos hy]
      exact oB_d _
    · simp only [if_neg hy]
      exact oB_d _
  simp only [if_neg k2] at hk ⊢
  have k12 : ¬ (k = 1 ∨ k = 2) := fun z => z.elim k1 k2
  simp only [if_neg k12] at hk
  obtain ⟨t, ht, rfl⟩ := hk
  simp only [b_amount n _ h ht, ix_o (show t < 2147483648 by omega)]
  by_cases k3 : k = 3
  · simp only [if_pos k3]
    exact oB_n _
  · simp only [if_neg k3]
    exact oB_n _
theorem E_conds {h : sHp} (n : Nat) (p1 : Int32) {e : Nat} (he : e ≤ 36) : ∀ c i N, i + c = e → c < N → (∀ j, i ≤ j → j < e → okX (h.1 27 j) (h.1 28 j)) → sFx (F_E_conditionsHold_24 n p1 h (o e)) N (o i) = some (oB (hl (h.2 1 4) (h.1 27) (h.1 28) (h.1 29) c i)) := by
  intro c
  induction c with
  | zero =>
    intro i N hi hN _
    obtain ⟨N, rfl⟩ : ∃ M, N = M + 1 := ⟨N - 1, by omega⟩
    rw [sFx_s]
    unfold F_E_conditionsHold_24
    rw [if_pos ((o_le (by omega) (by omega)).mpr (by omega))]
    rfl
  | succ c ih =>
    intro i N hi hN hok
    obtain ⟨N, rfl⟩ : ∃ M, N = M + 1 := ⟨N - 1, by omega⟩
    rw [sFx_s]
    unfold F_E_conditionsHold_24
    have hlt : ¬ o e ≤ o i := fun z => by have := (o_le (by omega) (by omega)).mp z; omega
    rw [if_neg hlt, sIn_o 36 (by omega), decide_eq_true (show i < 36 by omega), ix_o (by omega)]
    simp only [sGd_true]
    rw [E_holds n _ h (hok i (Nat.le_refl _) (by omega))]
    have i1 := ih (i + 1) N (by omega) (by omega) (fun j h1 h2 => hok j (by omega) h2)
    have e1 : o i + 1 = o (i + 1) := o_add i 1
    rw [e1]
    simp only [hl]
    cases cHold (h.2 1 4) (h.1 27 i) (h.1 28 i) (h.1 29 i)
    · rfl
    · exact i1
theorem M_conds {g : sHp} {s : Int64} (hg : Scr g s) (n : Nat) {r e : Nat} (hr : r < 12) (he : e ≤ 36) (hsz : (3 : Int32) * o r + g.1 13 r = o e) : ∀ c i N (b : Bool), i + c = e → c < N → (∀ j, i ≤ j → j < e → okX (g.1 14 j) (g.1 15 j)) → sFx (F_M_allSo_6 n (o r) g) N (oB b, o i) = some (oB (b && hl s (g.1 14) (g.1 15) (g.1 16) c i)) := by
  intro c
  induction c with
  | zero =>
    intro i N b hi hN _
    obtain ⟨N, rfl⟩ : ∃ M, N = M + 1 := ⟨N - 1, by omega⟩
    rw [sFx_s]
    unfold F_M_allSo_6
    dsimp only
    rw [sIn_o 12 (by omega), decide_eq_true hr, sGd_true, ix_o (by omega), hsz, if_pos ((o_le (by omega) (by omega)).mpr (by omega))]
    cases b <;> rfl
  | succ c ih =>
    intro i N b hi hN hok
    obtain ⟨N, rfl⟩ : ∃ M, N = M + 1 := ⟨N - 1, by omega⟩
    have i1 := fun b => ih (i + 1) N b (by omega) (by omega) (fun j h1 h2 => hok j (by omega) h2)
    have e1 : o i + 1 = o (i + 1) := o_add i 1
    have hlt : ¬ o e ≤ o i := fun z => by have := (o_le (by omega) (by omega)).mp z; omega
    have hk := hok i (Nat.le_refl _) (by omega)
    have iT : sFx (F_M_allSo_6 n (o r) g) N (1, o (i + 1)) = some (oB (hl s (g.1 14) (g.1 15) (g.1 16) c (i + 1))) := i1 true
    have iF : sFx (F_M_allSo_6 n (o r) g) N (0, o (i + 1)) = some 0 := i1 false
    rw [sFx_s]
    clear i1 ih
    generalize sFx (F_M_allSo_6 n (o r) g) N = R at iT iF ⊢
    unfold F_M_allSo_6
    dsimp only
    rw [sIn_o 12 (by omega), decide_eq_true hr, sGd_true, ix_o (by omega : r < 2147483648), hsz, if_neg hlt, sIn_o 36 (by omega), decide_eq_true (show i < 36 by omega), ix_o (by omega : i < 2147483648), e1]
    simp only [sGd_true]
    change _ = some (oB (b && (cHold s (g.1 14 i) (g.1 15 i) (g.1 16 i) && hl s (g.1 14) (g.1 15) (g.1 16) c (i + 1))))
    generalize g.1 14 i = K at hk ⊢
    generalize g.1 15 i = X at hk ⊢
    generalize g.1 16 i = Y at hk ⊢
    have fin : ∀ p : Bool, (if p = true then R (1, o (i + 1)) else R (0, o (i + 1))) = some (oB (p && hl s (g.1 14) (g.1 15) (g.1 16) c (i + 1))) := fun p => by
      cases p
      · exact iF
      · exact iT
    cases b
    · have b0 : oB false = 0 := rfl
      simp only [b0, if_true, iF, Bool.false_and]
      repeat (first | rfl | split)
    · have b1 : ¬ oB true = 0 := by decide
      simp only [if_neg b1, Bool.true_and]
      unfold cHold
      unfold okX at hk
      by_cases k0 : K = 0
      · simp only [if_pos k0, hg.1]
        rw [← fin]; simp only [decide_eq_true_eq]
      simp only [if_neg k0] at hk ⊢
      by_cases k1 : K = 1
      · simp only [if_pos (Or.inl k1 : K = 1 ∨ K = 2)] at hk
        obtain ⟨t, ht, rfl⟩ := hk
        simp only [if_pos k1, ix_o (show t < 2147483648 by omega), sIn_o 6 (show t < 2147483648 by omega), decide_eq_true ht, sGd_true, hg.2.1 t ht]
        rw [← fin]; simp only [decide_eq_true_eq]; rfl
      simp only [if_neg k1] at hk ⊢
      by_cases k2 : K = 2
      · simp only [if_pos (Or.inr k2 : K = 1 ∨ K = 2)] at hk
        obtain ⟨t, ht, rfl⟩ := hk
        simp only [if_pos k2, ix_o (show t < 2147483648 by omega), sIn_o 6 (show t < 2147483648 by omega), decide_eq_true ht, sGd_true, hg.2.2.1 t ht]
        by_cases hy : Y = 1
        · simp only [if_pos hy]
          rw [← fin]; simp only [decide_eq_true_eq]
        · simp only [if_neg hy]
          rw [← fin]; simp only [decide_eq_true_eq]
      simp only [if_neg k2] at hk ⊢
      have k12 : ¬ (K = 1 ∨ K = 2) := fun z => z.elim k1 k2
      simp only [if_neg k12] at hk
      obtain ⟨t, ht, rfl⟩ := hk
      simp only [ix_o (show t < 2147483648 by omega), sIn_o 3 (show t < 2147483648 by omega), decide_eq_true ht, sGd_true, hg.2.2.2.1 t ht]
      by_cases k3 : K = 3
      · simp only [if_pos k3]
        rw [← fin]
        by_cases q : o (dg s (13 + t)) < Y <;> simp [q]
      · simp only [if_neg k3]
        rw [← fin]
        by_cases q : Y < o (dg s (13 + t)) <;> simp [q]
