/-! Which rule fits, both sides. -/
theorem hl_congr {s : Int64} {K X Y K' X' Y' : Nat → Int32} : ∀ c i, (∀ j, i ≤ j → j < i + c → K j = K' j ∧ X j = X' j ∧ Y j = Y' j) → hl s K X Y c i = hl s K' X' Y' c i := by
  intro c
  induction c with
  | zero => intro i _; rfl
  | succ c ih =>
    intro i h
    unfold hl
    obtain ⟨a1, a2, a3⟩ := h i (Nat.le_refl _) (by omega)
    rw [a1, a2, a3, ih (i + 1) (fun j h1 h2 => h j (by omega) (by omega))]
/-- the rows of clauses are alike -/
def WrC (h g : sHp) : Prop := ∀ j, j < 36 → (h.1 27 j = g.1 14 j ∧ h.1 28 j = g.1 15 j ∧ h.1 29 j = g.1 16 j) ∧ (h.1 31 j = g.1 18 j ∧ h.1 32 j = g.1 19 j ∧ h.1 33 j = g.1 20 j)
/-- a rule is alike -/
def WrQ (h g : sHp) (mo : Nat → Nat) (q : Nat) : Prop := (h.1 21 q = g.1 8 q ∧ h.1 22 q = g.1 9 q ∧ h.1 23 q = g.1 10 q ∧ h.1 24 q = g.1 11 q ∧ h.1 25 q = g.1 12 q) ∧ (∃ c, c ≤ 3 ∧ h.1 26 q = o c ∧ g.1 13 q = o c ∧ ∀ j, 3 * q ≤ j → j < 3 * q + c → okX (h.1 27 j) (h.1 28 j)) ∧ (∃ c, c ≤ 3 ∧ h.1 30 q = o c ∧ g.1 17 q = o c ∧ ∀ j, 3 * q ≤ j → j < 3 * q + c → okE mo (h.1 31 j) (h.1 32 j) (h.1 33 j))
/-- the rules are alike -/
def WrR (h g : sHp) (mo : Nat → Nat) (U : Nat) : Prop := U ≤ 12 ∧ h.1 3 7 = o U ∧ g.1 0 12 = o U ∧ WrC h g ∧ ∀ q, q < U → WrQ h g mo q
theorem conds_both {h g : sHp} {mo : Nat → Nat} {q : Nat} {s : Int64} (hnow : h.2 1 4 = s) (hg : Scr g s) (hC : WrC h g) (hQ : WrQ h g mo q) (hq : q < 12) {n : Nat} (hn : 8 ≤ n) : ∃ b : Bool, J_E_conditionsHold n (o q) h = some (oB b) ∧ J_M_allSo n (o q) g = some (oB b) := by
  obtain ⟨-, ⟨c, hc, c1, c2, c3⟩, -⟩ := hQ
  refine ⟨hl s (h.1 27) (h.1 28) (h.1 29) c (3 * q), ?_, ?_⟩
  · unfold J_E_conditionsHold J_C_endOf J_C_startOf
    rw [sIn_o 12 (by omega), decide_eq_true hq, sGd_true, ix_o (by omega), c1]
    show sFx (F_E_conditionsHold_24 n (o q) h (o q * o 3 + o c)) n (o q * o 3) = _
    rw [o_mul, o_add, Nat.mul_comm q 3, E_conds n (o q) (e := 3 * q + c) (by omega) c (3 * q) n rfl (by omega) c3, hnow]
  · unfold J_M_allSo
    have e := M_conds hg n hq (e := 3 * q + c) (by omega) (by rw [c2]; show o 3 * o q + o c = _; rw [o_mul, o_add]) c (3 * q) n true rfl (by omega) (fun j a b => by
      obtain ⟨⟨x1, x2, x3⟩, -⟩ := hC j (by omega)
      rw [← x1, ← x2]
      exact c3 j a b)
    show sFx (F_M_allSo_6 n (o q) g) n (oB true, o 3 * o q) = _
    rw [o_mul, e, Bool.true_and, hl_congr c (3 * q) (fun j a b => (hC j (by omega)).1)]
theorem oB_0 (b : Bool) : (oB b = 0) ↔ b = false := by cases b <;> decide
/-- whether a rule answers a command -/
def ans (h : sHp) (q : Nat) (v a b : Int32) : Bool := decide (h.1 21 q = v) && (decide (h.1 22 q = -2) || decide (h.1 22 q = a)) && (decide (h.1 23 q = -2) || decide (h.1 23 q = b)) && decide (h.1 25 q = 0)
theorem E_ans (n : Nat) {q : Nat} (hq : q < 12) (v a b : Int32) (h : sHp) : J_R_answers n (o q) v a b h = some (oB (ans h q v a b)) := by
  unfold J_R_answers K_R_answers_31 K_R_answers_53 ans
  simp only [sIn_o 12 (show q < 2147483648 by omega), decide_eq_true hq, sGd_true, ix_o (show q < 2147483648 by omega)]
  by_cases h1 : h.1 21 q = v <;> by_cases h2 : h.1 22 q = -2 <;> by_cases h3 : h.1 22 q = a <;> by_cases h4 : h.1 23 q = -2 <;> by_cases h5 : h.1 23 q = b <;> by_cases h6 : h.1 25 q = 0 <;> simp [h1, h2, h3, h4, h5, h6, oB]
/-- the first rule from i on that fits -/
theorem fitL_both {h g : sHp} {mo : Nat → Nat} {U : Nat} {s : Int64} (hnow : h.2 1 4 = s) (hg : Scr g s) (hW : WrR h g mo U) {n : Nat} (hn : 8 ≤ n) (v a b : Int32) : ∀ d i N, i + d = U → d < N → ∃ x : Int32, sFx (F_E_fittingRule_25 n v a b h) N (o i) = some x ∧ sFx (F_M_fitting_33 n v a b g) N (o i) = some x ∧ (x = -1 ∨ ∃ q, q < U ∧ x = o q) := by
  obtain ⟨hU, u1, u2, hC, hQ⟩ := hW
  intro d
  induction d with
  | zero =>
    intro i N hi hN
    obtain ⟨N, rfl⟩ : ∃ M, N = M + 1 := ⟨N - 1, by omega⟩
    refine ⟨-1, ?_, ?_, Or.inl rfl⟩
    · rw [sFx_s]
      unfold F_E_fittingRule_25
      rw [u1, if_pos ((o_le (by omega) (by omega)).mpr (by omega))]
    · rw [sFx_s]
      unfold F_M_fitting_33
      rw [u2, if_pos ((o_le (by omega) (by omega)).mpr (by omega))]
  | succ d ih =>
    intro i N hi hN
    obtain ⟨N, rfl⟩ : ∃ M, N = M + 1 := ⟨N - 1, by omega⟩
    obtain ⟨x, x1, x2, x3⟩ := ih (i + 1) N (by omega) (by omega)
    have hlt : ¬ o U ≤ o i := fun z => by have := (o_le (by omega) (by omega)).mp z; omega
    have hq := hQ i (by omega)
    obtain ⟨cb, y1, y2⟩ := conds_both hnow hg hC hq (by omega) hn
    obtain ⟨⟨q1, q2, q3, -, q5⟩, -, -⟩ := hq
    have e1 : o i + 1 = o (i + 1) := o_add i 1
    have hi12 : i < 12 := by omega
    -- both sides by what the rule says
    have hE : sFx (F_E_fittingRule_25 n v a b h) (N + 1) (o i) = if ans h i v a b = true ∧ cb = true then some (o i) else some x := by
      rw [sFx_s]
      generalize sFx (F_E_fittingRule_25 n v a b h) N = R at x1 ⊢
      unfold F_E_fittingRule_25
      rw [u1, if_neg hlt, E_ans n hi12, y1, e1, x1]
      cases ans h i v a b <;> cases cb <;> rfl
    have hM : sFx (F_M_fitting_33 n v a b g) (N + 1) (o i) = if ans h i v a b = true ∧ cb = true then some (o i) else some x := by
      rw [sFx_s]
      generalize sFx (F_M_fitting_33 n v a b g) N = R at x2 ⊢
      unfold F_M_fitting_33 K_M_fitting_86 K_M_fitting_109 K_M_fitting_113 K_M_fitting_114 ans
      simp only [sIn_o 12 (show i < 2147483648 by omega), decide_eq_true hi12, sGd_true, ix_o (show i < 2147483648 by omega), u2, if_neg hlt, y2, e1, x2, ← q1, ← q2, ← q3, ← q5, Option.bind_some]
      have t1 : ¬ (1 : Int32) = 0 := by decide
      by_cases h1 : h.1 21 i = v <;> by_cases h2 : h.1 22 i = -2 <;> by_cases h3 : h.1 22 i = a <;> by_cases h4 : h.1 23 i = -2 <;> by_cases h5 : h.1 23 i = b <;> by_cases h6 : h.1 25 i = 0 <;> cases cb <;> simp [h1, h2, h3, h4, h5, h6, oB, t1]
    by_cases hz : ans h i v a b = true ∧ cb = true
    · exact ⟨o i, by rw [hE, if_pos hz], by rw [hM, if_pos hz], Or.inr ⟨i, by omega, rfl⟩⟩
    · exact ⟨x, by rw [hE, if_neg hz], by rw [hM, if_neg hz], x3⟩
