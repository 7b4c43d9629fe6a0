theorem M_withinL {g : sHp} {s : Int64} {r : Nat → Nat} (hg : Scr g s) (hr : Rk s r) (n : Nat) (p1 : Int32) {x : Nat} (hx : x < 6) : ∀ k t N, t < 6 → r t < k → k ≤ N → sFx (F_M_within_2 n p1 (o x) g) N (o t) = some (oB (wi s k t x)) := by
  intro k
  induction k with
  | zero => intro t N _ h; exact absurd h (Nat.not_lt_zero _)
  | succ k ih =>
    intro t N ht hrt hN
    obtain ⟨N, rfl⟩ : ∃ M, N = M + 1 := ⟨N - 1, by omega⟩
    have hp := hg.2.1 t ht
    have hpl := pl_lt s ht
    show F_M_within_2 n p1 (o x) g (sFx (F_M_within_2 n p1 (o x) g) N) (o t) = _
    unfold F_M_within_2
    by_cases hq : t = x
    · subst hq
      simp [wi, oB]
    · have hne : ¬ o t = o x := fun z => hq ((o_inj (by omega) (by omega)).mp z)
      simp only [if_neg hne, wi, if_neg hq]
      rw [sIn_o 6 (by omega), decide_eq_true ht, ix_o (by omega), hp]
      simp only [sGd_true]
      by_cases h7 : pl s t < 7
      · have e1 : o (dg s (1 + t)) ≤ 6 := (o_le (show pl s t < 2147483648 by omega) (by omega : 6 < 2147483648)).mpr (show pl s t ≤ 6 by omega)
        rw [if_pos e1, if_pos h7]
        rfl
      · have e1 : ¬ o (dg s (1 + t)) ≤ 6 := fun z => h7 (by have := (o_le (show pl s t < 2147483648 by omega) (by omega : 6 < 2147483648)).mp z; show pl s t < 7; omega)
        rw [if_neg e1, if_neg h7]
        obtain ⟨q1, q2⟩ := (hr t ht).2 (by omega)
        have e2 : o (dg s (1 + t)) - 7 = o (pl s t - 7) := o_sub (b := 7) (show 7 ≤ pl s t by omega)
        rw [e2]
        exact ih _ N q1 (by omega) (by omega)
theorem B_partL {s : Int64} {r : Nat → Nat} (hr : Rk s r) (n : Nat) (p2 : Int32) {x : Nat} (hx : x < 6) (h : sHp) : ∀ k t d N, t < 6 → r t < k → d + k ≤ 6 → k < N → sFx (F_B_isPartOf_6 n s p2 (o x) h) N (o t, o d) = some (oB (wi s k t x)) := by
  intro k
  induction k with
  | zero => intro t d N _ h; exact absurd h (Nat.not_lt_zero _)
  | succ k ih =>
    intro t d N ht hrt hd hN
    obtain ⟨N, rfl⟩ : ∃ M, N = M + 1 := ⟨N - 1, by omega⟩
    have hpl := pl_lt s ht
    show F_B_isPartOf_6 n s p2 (o x) h (sFx (F_B_isPartOf_6 n s p2 (o x) h) N) (o t, o d) = _
    unfold F_B_isPartOf_6
    dsimp only
    have e6 : ¬ (6 : Int32) ≤ o d := fun z => by have := (o_le (by omega : 6 < 2147483648) (by omega)).mp z; omega
    have e0 : ¬ o t < 0 := fun z => by have := (o_lt (by omega) (by omega : 0 < 2147483648)).mp z; omega
    rw [if_neg e6, if_neg e0]
    by_cases hq : t = x
    · subst hq
      simp [wi, oB]
    · have hne : ¬ o t = o x := fun z => hq ((o_inj (by omega) (by omega)).mp z)
      rw [if_neg hne, b_place n s h ht]
      simp only [wi, if_neg hq]
      have e3 : o d + 1 = o (d + 1) := o_add d 1
      by_cases h7 : pl s t < 7
      · rw [if_pos h7, e3]
        change sFx (F_B_isPartOf_6 n s p2 (o x) h) N (o (pl s t) - 7, o (d + 1)) = _
        obtain ⟨N, rfl⟩ : ∃ M, N = M + 1 := ⟨N - 1, by omega⟩
        show F_B_isPartOf_6 n s p2 (o x) h (sFx (F_B_isPartOf_6 n s p2 (o x) h) N) (o (pl s t) - 7, o (d + 1)) = _
        unfold F_B_isPartOf_6
        dsimp only
        have en : o (pl s t) - 7 < 0 := by
          have : ∀ y, y < 7 → o y - 7 < 0 := by decide +kernel
          exact this _ h7
        rw [if_pos en]
        split <;> rfl
      · obtain ⟨q1, q2⟩ := (hr t ht).2 (by omega)
        have e2 : o (pl s t) - 7 = o (pl s t - 7) := o_sub (b := 7) (by omega)
        rw [if_neg h7, e3]
        change sFx (F_B_isPartOf_6 n s p2 (o x) h) N (o (pl s t) - 7, o (d + 1)) = _
        rw [e2]
        exact ih _ (d + 1) N q1 (by omega) (by omega) (by omega)
theorem B_part {s : Int64} {r : Nat → Nat} (hr : Rk s r) {n : Nat} (hn : 7 ≤ n) (h : sHp) {t x : Nat} (ht : t < 6) (hx : x < 6) : J_B_isPartOf n s (o t) (o x) h = some (oB (wi s 6 t x)) := by
  unfold J_B_isPartOf
  exact B_partL hr n (o t) hx h 6 t 0 n ht (hr t ht).1 (by omega) (by omega)
theorem M_within {g : sHp} {s : Int64} {r : Nat → Nat} (hg : Scr g s) (hr : Rk s r) {n : Nat} (hn : 7 ≤ n) {t x : Nat} (ht : t < 6) (hx : x < 6) : J_M_within n (o t) (o x) g = some (oB (wi s 6 t x)) := by
  unfold J_M_within
  exact M_withinL hg hr n (o t) hx 6 t n ht (hr t ht).1 (by omega)
/-! Ranks stay, when a thing is put somewhere. -/
theorem Rk_norm {s : Int64} {r : Nat → Nat} (h : ∀ t, t < 6 → 7 ≤ pl s t → pl s t - 7 < 6 ∧ r (pl s t - 7) < r t) : ∃ r', Rk s r' := by
  refine ⟨fun t => (List.range 6).countP (fun u => decide (r u < r t)), fun t ht => ⟨?_, fun h7 => ?_⟩⟩
  · have h1 : (List.range 6).countP (fun u => decide (r u < r t)) < (List.range 6).length := by
      rw [List.countP_eq_length_filter]
      refine Nat.lt_of_le_of_ne (List.length_filter_le _ _) (fun he => ?_)
      have := List.length_filter_eq_length_iff.mp he t (List.mem_range.mpr ht)
      simp at this
    simpa using h1
  · obtain ⟨q1, q2⟩ := h t ht h7
    refine ⟨q1, ?_⟩
    have hsub : ∀ u ∈ List.range 6, decide (r u < r (pl s t - 7)) = true → decide (r u < r t) = true := fun u _ hu => by
      simp only [decide_eq_true_eq] at hu ⊢; omega
    have key : ∀ (l : List Nat), (∀ u ∈ l, decide (r u < r (pl s t - 7)) = true → decide (r u < r t) = true) → (pl s t - 7) ∈ l → l.countP (fun u => decide (r u < r (pl s t - 7))) < l.countP (fun u => decide (r u < r t)) := by
      intro l
      induction l with
      | nil => intro _ hm; cases hm
      | cons a l ih =>
        intro hs hm
        have hs' := fun u hu => hs u (List.mem_cons_of_mem _ hu)
        rw [List.countP_cons, List.countP_cons]
        by_cases ha : a = pl s t - 7
        · subst ha
          have h1 : decide (r (pl s t - 7) < r (pl s t - 7)) = false := by simp
          have h2 : decide (r (pl s t - 7) < r t) = true := by simpa using q2
          rw [h1, h2]
          have := List.countP_mono_left hs'
          simp only [Bool.false_eq_true, if_false, if_true]
          omega
        · have hm' : (pl s t - 7) ∈ l := by
            rcases List.mem_cons.mp hm with z | z
            · exact absurd z.symm ha
            · exact z
          have i := ih hs' hm'
          have m := hs a List.mem_cons_self
          split <;> split <;> simp_all <;> omega
    exact key (List.range 6) hsub (List.mem_range.mpr q1)
/-- chains end: more rounds change nothing -/
theorem wi_more {s : Int64} {r : Nat → Nat} (hr : Rk s r) {x : Nat} : ∀ k t, t < 6 → r t < k → wi s (k + 1) t x = wi s k t x := by
  intro k
  induction k with
  | zero => intro t _ h; exact absurd h (Nat.not_lt_zero _)
  | succ k ih =>
    intro t ht hrt
    show (if t = x then true else if pl s t < 7 then false else wi s (k + 1) (pl s t - 7) x) = (if t = x then true else if pl s t < 7 then false else wi s k (pl s t - 7) x)
    by_cases hq : t = x
    · simp [hq]
    · rw [if_neg hq, if_neg hq]
      by_cases h7 : pl s t < 7
      · simp [h7]
      · rw [if_neg h7, if_neg h7]
        obtain ⟨q1, q2⟩ := (hr t ht).2 (by omega)
        exact ih _ q1 (by omega)
theorem wi_step {s : Int64} {r : Nat → Nat} (hr : Rk s r) {x t : Nat} (ht : t < 6) : wi s 6 t x = if t = x then true else if pl s t < 7 then false else wi s 6 (pl s t - 7) x := by
  have h6 := (hr t ht).1
  rw [← wi_more hr 6 t ht h6]
  rfl
/-- a thing put to a place that is no thing -/
theorem Rk_out {s s' : Int64} {r : Nat → Nat} {x : Nat} (hr : Rk s r) (ho : ∀ t, t < 6 → t ≠ x → pl s' t = pl s t) (hx : pl s' x < 7) : Rk s' r := by
  intro t ht
  refine ⟨(hr t ht).1, fun h7 => ?_⟩
  by_cases hq : t = x
  · subst hq; omega
  · rw [ho t ht hq] at h7 ⊢
    exact (hr t ht).2 h7
/-- a thing put into a thing that is not within it -/
theorem Rk_in {s s' : Int64} {r : Nat → Nat} {x y : Nat} (hr : Rk s r) (hy : y < 6) (ho : ∀ t, t < 6 → t ≠ x → pl s' t = pl s t) (hx : pl s' x = 7 + y) (hw : wi s 6 y x = false) : ∃ r', Rk s' r' := by
  refine Rk_norm (r := fun t => if wi s 6 t x = true then r t + (r y + 1) else r t) (fun t ht h7 => ?_)
  by_cases hq : t = x
  · subst hq
    have e : pl s' t - 7 = y := by omega
    rw [e]
    refine ⟨hy, ?_⟩
    have e2 : wi s 6 t t = true := by rw [wi_step hr ht]; simp
    simp only [e2, hw, if_true, Bool.false_eq_true, if_false]
    omega
  · rw [ho t ht hq] at h7 ⊢
    obtain ⟨q1, q2⟩ := (hr t ht).2 h7
    refine ⟨q1, ?_⟩
    have e : wi s 6 t x = wi s 6 (pl s t - 7) x := by rw [wi_step hr ht, if_neg hq, if_neg (by omega)]
    simp only [e]
    split <;> omega
