/-! reach and way, both sides. -/
def dpF (P : Nat → Nat) : Nat → Nat → Nat
  | 0, _ => 0
  | k + 1, i => if i = 0 then 0 else dpF P k (P i) + 1
theorem dpF_0 (P : Nat → Nat) (k : Nat) : dpF P k 0 = 0 := by cases k <;> rfl
theorem dpF_fuel {P : Nat → Nat} {f : Nat} (hP : ∀ i, 0 < i → i < f → P i < i) : ∀ k k' i, i ≤ k → i ≤ k' → i < f → dpF P k i = dpF P k' i := by
  intro k
  induction k with
  | zero => intro k' i hi _ _; rw [show i = 0 by omega, dpF_0, dpF_0]
  | succ k ih =>
    intro k' i hi hi' hf
    by_cases h0 : i = 0
    · rw [h0, dpF_0, dpF_0]
    · obtain ⟨m, rfl⟩ : ∃ m, k' = m + 1 := ⟨k' - 1, by omega⟩
      have hp := hP i (by omega) hf
      show (if i = 0 then 0 else dpF P k (P i) + 1) = (if i = 0 then 0 else dpF P m (P i) + 1)
      rw [if_neg h0, if_neg h0, ih m (P i) (by omega) (by omega) (by omega)]
/-- by how many commands a state was come by -/
def dp (P : Nat → Nat) (i : Nat) : Nat := dpF P i i
theorem dp_0 (P : Nat → Nat) : dp P 0 = 0 := rfl
theorem dp_s {P : Nat → Nat} {f : Nat} (hP : ∀ i, 0 < i → i < f → P i < i) {i : Nat} (h0 : 0 < i) (hf : i < f) : dp P i = dp P (P i) + 1 := by
  obtain ⟨m, rfl⟩ : ∃ m, i = m + 1 := ⟨i - 1, by omega⟩
  have hp := hP (m + 1) h0 hf
  show (if m + 1 = 0 then 0 else dpF P m (P (m + 1)) + 1) = _
  rw [if_neg (by omega), dpF_fuel hP m (P (m + 1)) (P (m + 1)) (by omega) (by omega) (by omega)]
  rfl
theorem dp_le {P : Nat → Nat} {f : Nat} (hP : ∀ i, 0 < i → i < f → P i < i) : ∀ k i, i ≤ k → i < f → dp P i ≤ i := by
  intro k
  induction k with
  | zero => intro i hi _; rw [show i = 0 by omega, dp_0]; exact Nat.le_refl _
  | succ k ih =>
    intro i hi hf
    by_cases h0 : i = 0
    · rw [h0, dp_0]; exact Nat.le_refl _
    · have hp := hP i (by omega) hf
      rw [dp_s hP (by omega) hf]
      have := ih (P i) (by omega) (by omega)
      omega
section RE
variable {n : Nat} {w : Wp} {hw h g : sHp} {f d : Nat} {full : Bool}
def prn (h : sHp) (i : Nat) : Nat := ix (h.1 36 i)
theorem prn_ok (hA : AtO n w hw f d full h g) {i : Nat} (h0 : 0 < i) (hi : i < f) : prn h i < i ∧ h.1 36 i = o (prn h i) ∧ g.1 36 i = o (prn h i) := by
  have f160 := hA.f160
  obtain ⟨p, p1, p2, p3⟩ := hA.frm i h0 hi
  have : prn h i = p := by unfold prn; rw [p2, ix_o (by omega)]
  rw [this]; exact ⟨p1, p2, p3⟩
theorem E_depth (hA : AtO n w hw f d full h g) (x : Int32) : ∀ k i c M, i ≤ k → i < f → c + i < 160 → k < M → sFx (F_A_depthOf_4 n x h) M (o c, o i) = some (o (c + dp (prn h) i)) := by
  have f160 := hA.f160
  have hP : ∀ i, 0 < i → i < f → prn h i < i := fun i a b => (prn_ok hA a b).1
  intro k
  induction k with
  | zero =>
    intro i c M hi hf hc hM
    obtain ⟨M, rfl⟩ : ∃ m, M = m + 1 := ⟨M - 1, by omega⟩
    obtain rfl : i = 0 := by omega
    rw [sFx_s]; unfold F_A_depthOf_4; dsimp only
    rw [if_pos (by decide), dp_0]; rfl
  | succ k ih =>
    intro i c M hi hf hc hM
    obtain ⟨M, rfl⟩ : ∃ m, M = m + 1 := ⟨M - 1, by omega⟩
    by_cases h0 : i = 0
    · subst h0
      rw [sFx_s]; unfold F_A_depthOf_4; dsimp only
      rw [if_pos (by decide), dp_0]; rfl
    · obtain ⟨p1, p2, p3⟩ := prn_ok hA (show 0 < i by omega) hf
      have e := ih (prn h i) (c + 1) M (by omega) (by omega) (by omega) (by omega)
      rw [sFx_s]
      generalize sFx (F_A_depthOf_4 n x h) M = X at e ⊢
      unfold F_A_depthOf_4; dsimp only
      rw [if_neg (fun z => by have := (o_le (by omega) (by omega : 0 < 2147483648)).mp z; omega), if_neg (fun z => by have := (o_le (by omega : 160 < 2147483648) (by omega)).mp z; omega), sIn_o 160 (by omega), decide_eq_true (by omega), sGd_true, ix_o (by omega), p2, show o c + 1 = o (c + 1) from o_add c 1, e, dp_s hP (by omega) hf, show c + 1 + dp (prn h) (prn h i) = c + (dp (prn h) (prn h i) + 1) by omega]
theorem M_depth (hA : AtO n w hw f d full h g) (x : Int32) : ∀ k i c M, i ≤ k → i < f → c + i < 160 → k < M → sFx (F_M_depth_4 n x g) M (o c, o i) = some (o (c + dp (prn h) i)) := by
  have f160 := hA.f160
  have hP : ∀ i, 0 < i → i < f → prn h i < i := fun i a b => (prn_ok hA a b).1
  intro k
  have z : ∀ M c, sFx (F_M_depth_4 n x g) (M + 1) (o c, o 0) = some (o (c + dp (prn h) 0)) := fun M c => by
    rw [sFx_s]; unfold F_M_depth_4; dsimp only
    rw [sIn_o 160 (by omega), decide_eq_true (by omega), sGd_true, ix_o (by omega), hA.fr0, if_pos (by decide), dp_0]; rfl
  induction k with
  | zero =>
    intro i c M hi hf hc hM
    obtain ⟨M, rfl⟩ : ∃ m, M = m + 1 := ⟨M - 1, by omega⟩
    obtain rfl : i = 0 := by omega
    exact z M c
  | succ k ih =>
    intro i c M hi hf hc hM
    obtain ⟨M, rfl⟩ : ∃ m, M = m + 1 := ⟨M - 1, by omega⟩
    by_cases h0 : i = 0
    · subst h0; exact z M c
    · obtain ⟨p1, p2, p3⟩ := prn_ok hA (show 0 < i by omega) hf
      have e := ih (prn h i) (c + 1) M (by omega) (by omega) (by omega) (by omega)
      rw [sFx_s]
      generalize sFx (F_M_depth_4 n x g) M = X at e ⊢
      unfold F_M_depth_4; dsimp only
      rw [sIn_o 160 (by omega), decide_eq_true (by omega), sGd_true, sGd_true, ix_o (by omega), p3, if_neg (fun z => by have := (o_lt (by omega) (by omega : 0 < 2147483648)).mp z; omega), show o c + 1 = o (c + 1) from o_add c 1, e, dp_s hP (by omega) hf, show c + 1 + dp (prn h) (prn h i) = c + (dp (prn h) (prn h i) + 1) by omega]
theorem depth_both (hn : 600 ≤ n) (hA : AtO n w hw f d full h g) {i : Nat} (hi : i < f) : J_A_depthOf n (o i) h = some (o (dp (prn h) i)) ∧ J_M_depth n (o i) g = some (o (dp (prn h) i)) ∧ dp (prn h) i < 160 := by
  have f160 := hA.f160
  have hP : ∀ i, 0 < i → i < f → prn h i < i := fun i a b => (prn_ok hA a b).1
  refine ⟨?_, ?_, ?_⟩
  · have := E_depth hA (o i) i i 0 n (Nat.le_refl _) hi (by omega) (by omega)
    rw [Nat.zero_add] at this; exact this
  · have := M_depth hA (o i) i i 0 n (Nat.le_refl _) hi (by omega) (by omega)
    rw [Nat.zero_add] at this; exact this
  · have := dp_le hP i i (Nat.le_refl _) hi; omega
/-- the first state over with an ending -/
theorem overL {e : Nat} (he : e < 4) (hA : AtO n w hw f d full h g) : ∀ c i M, i + c = f → c < M → ∃ x, sFx (F_A_firstOverWith_2 n (o e) h) M (o i) = some x ∧ sFx (F_M_firstOver_2 n (o e) g) M (o i) = some x ∧ (x = -1 ∨ ∃ i, i < f ∧ x = o i) := by
  have f160 := hA.f160
  intro c
  induction c with
  | zero =>
    intro i M hi hM
    obtain ⟨M, rfl⟩ : ∃ m, M = m + 1 := ⟨M - 1, by omega⟩
    have l : o f ≤ o i := (o_le (by omega) (by omega)).mpr (by omega)
    refine ⟨-1, ?_, ?_, Or.inl rfl⟩
    · rw [sFx_s]; unfold F_A_firstOverWith_2; rw [hA.fo.1, if_pos l]
    · rw [sFx_s]; unfold F_M_firstOver_2; rw [hA.fo.2, if_pos l]
  | succ c ih =>
    intro i M hi hM
    obtain ⟨M, rfl⟩ : ∃ m, M = m + 1 := ⟨M - 1, by omega⟩
    obtain ⟨x, e1, e2, e3⟩ := ih (i + 1) M (by omega) (by omega)
    have l : ¬ o f ≤ o i := fun z => by have := (o_le (by omega) (by omega)).mp z; omega
    have h8 := dV_lt (h.2 35 i)
    have q2 : o (dg (h.2 35 i) 20) = o e + 1 ↔ dg (h.2 35 i) 20 = e + 1 := by
      rw [show o e + 1 = o (e + 1) from o_add e 1, o_inj (by omega) (by omega)]
    have q1 : o (dg (h.2 35 i) 20) - 1 = o e ↔ dg (h.2 35 i) 20 = e + 1 := by
      by_cases h0 : dg (h.2 35 i) 20 = 0
      · rw [h0]
        refine ⟨fun z => ?_, fun z => absurd z (by omega)⟩
        have : ∀ e, e < 4 → ¬ o 0 - 1 = o e := by decide +kernel
        exact absurd z (this e he)
      · rw [show o (dg (h.2 35 i) 20) - 1 = o (dg (h.2 35 i) 20 - 1) from o_sub (b := 1) (by omega), o_inj (by omega) (by omega)]; omega
    by_cases c : dg (h.2 35 i) 20 = e + 1
    · refine ⟨o i, ?_, ?_, Or.inr ⟨i, by omega, rfl⟩⟩
      · rw [sFx_s]; unfold F_A_firstOverWith_2
        rw [hA.fo.1, if_neg l, sIn_o 160 (by omega), decide_eq_true (by omega), sGd_true, ix_o (by omega), b_ending, Option.bind_some, if_pos (q1.mpr c)]
      · rw [sFx_s]; unfold F_M_firstOver_2
        rw [hA.fo.2, if_neg l, sIn_o 160 (by omega), decide_eq_true (by omega), sGd_true, ix_o (by omega), (hA.enc i (by omega)).1, eA_over, if_pos (q2.mpr c)]
    · refine ⟨x, ?_, ?_, e3⟩
      · rw [sFx_s]
        generalize sFx (F_A_firstOverWith_2 n (o e) h) M = X at e1 ⊢
        unfold F_A_firstOverWith_2
        rw [hA.fo.1, if_neg l, sIn_o 160 (by omega), decide_eq_true (by omega), sGd_true, ix_o (by omega), b_ending, Option.bind_some, if_neg (fun z => c (q1.mp z)), show o i + 1 = o (i + 1) from o_add i 1]
        exact e1
      · rw [sFx_s]
        generalize sFx (F_M_firstOver_2 n (o e) g) M = X at e2 ⊢
        unfold F_M_firstOver_2
        rw [hA.fo.2, if_neg l, sIn_o 160 (by omega), decide_eq_true (by omega), sGd_true, ix_o (by omega), (hA.enc i (by omega)).1, eA_over, if_neg (fun z => c (q2.mp z)), show o i + 1 = o (i + 1) from o_add i 1]
        exact e2
/-- the same before the atlas is open -/
theorem over_closed {e : Nat} (he : e < 4) (hn : 8 ≤ n) (hA : AtC h g) (hF : dg (h.2 7 0) 20 = 0) : J_A_firstOverWith n (o e) h = some (-1) ∧ J_M_firstOver n (o e) g = some (-1) := by
  obtain ⟨m, rfl⟩ : ∃ m, n = m + 2 := ⟨n - 2, by omega⟩
  constructor
  · unfold J_A_firstOverWith
    rw [sFx_s]; unfold F_A_firstOverWith_2
    rw [hA.c1.1, if_pos (by decide)]
  · have hX : sFx (F_M_firstOver_2 (m + 2) (o e) g) (m + 1) (o 1) = some (-1) := by
      rw [sFx_s]; unfold F_M_firstOver_2
      rw [hA.c2.1, if_pos (by decide)]
    unfold J_M_firstOver
    rw [sFx_s]
    generalize sFx (F_M_firstOver_2 (m + 2) (o e) g) (m + 1) = X at hX ⊢
    have ne : ¬ o 0 = o e + 1 := by
      rw [show o e + 1 = o (e + 1) from o_add e 1, o_inj (by omega) (by omega)]; omega
    unfold F_M_firstOver_2
    rw [hA.c2.1, if_neg (by decide), show sIn (0 : Int32) 160 = true from rfl, sGd_true, show ix (0 : Int32) = 0 from rfl, hA.c3.1, eA_over, hF, if_neg ne]
    exact hX
theorem fin_both (hA : AtO n w hw f d full h g) : J_A_isFinished n h = some (if d = f then 1 else 0) ∧ J_M_finished n g = some (if d = f then 1 else 0) := by
  have f160 := hA.f160
  have f1 := hA.f1
  have df := hA.df
  have lf : ¬ o f ≤ (0 : Int32) := fun z => by have := (o_le (by omega) (by omega : 0 < 2147483648)).mp z; omega
  have q : o d = o f ↔ d = f := o_inj (by omega) (by omega)
  unfold J_A_isFinished J_M_finished
  rw [hA.fo.1, hA.fo.2, hA.go.1, hA.go.2, hA.fu.2, if_neg lf]
  cases full with
  | true =>
    have := hA.fl rfl
    rw [if_neg (show ¬ oB true = 0 by decide), if_neg (fun z => by have := q.mp z; omega), if_neg (by omega)]
    exact ⟨rfl, rfl⟩
  | false =>
    rw [if_pos (show oB false = 0 from rfl)]
    by_cases c : d = f
    · rw [if_pos (q.mpr c), if_pos c]; exact ⟨rfl, rfl⟩
    · rw [if_neg (fun z => c (q.mp z)), if_neg c]; exact ⟨rfl, rfl⟩
end RE
