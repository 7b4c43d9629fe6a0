/-! Commands, both sides. -/
section CM
variable {h g : sHp} {n : Nat} {w : Wp}
theorem has_cmd (hW : Wr w h g) (x1 x2 x3 : Int32) : ∃ b : Bool, J_W_hasCommand n x1 x2 x3 h = some (oB b) ∧ J_M_isCommand n x1 x2 x3 g = some (oB b) ∧ (b = true → ∃ v, x1 = o v ∧ cmdOk w.T v x2 x3) := by
  have z0 : (0 : Int32).toInt = 0 := rfl
  have z3 : (3 : Int32).toInt = 3 := rfl
  have eM : J_M_isCommand n x1 x2 x3 g = K_M_isCommand_22 n x1 x2 x3 g (oB (decide (x2 = -1))) (oB (decide (x3 = -1))) := by
    unfold J_M_isCommand K_M_isCommand_10
    by_cases a : x2 = -1 <;> by_cases b : x3 = -1 <;> simp only [a, b, if_true, if_false, decide_true, decide_false] <;> rfl
  rw [eM]
  unfold J_W_hasCommand K_W_hasCommand_142 K_M_isCommand_22 K_M_isCommand_166
  simp only [W_thing hW, M_thing hW, frm_eq, z0, z3, Option.bind_some, oB_0, Bool.not_eq_false']
  -- the verbs that ask for one thing
  have one : ∀ v, 1 ≤ v → v ≤ 4 → ∃ b : Bool, (if sIn x2 w.T = false then some (0 : Int32) else if x3 = -1 then some 1 else some 0) = some (oB b) ∧ (if sIn x2 w.T = true then (if decide (x3 = -1) = false then some (0 : Int32) else some 1) else some 0) = some (oB b) ∧ (b = true → ∃ v', o v = o v' ∧ cmdOk w.T v' x2 x3) := by
    intro v v1 v4
    cases c : sIn x2 w.T
    · exact ⟨false, rfl, rfl, fun z => absurd z (by decide)⟩
    · by_cases b : x3 = -1
      · obtain ⟨t, ht, e⟩ := of_sIn c
        refine ⟨true, by simp [b]; rfl, by simp [b]; rfl, fun _ => ⟨v, rfl, by omega, by omega, fun _ => ⟨Or.inr ⟨t, ht, e⟩, Or.inl b⟩, fun _ _ => ⟨t, ht, e⟩, by omega⟩⟩
      · exact ⟨false, by simp [b]; rfl, by simp [b]; rfl, fun z => absurd z (by decide)⟩
  have own : ∀ v, 7 ≤ v → v ≤ 8 → ∃ b : Bool, (if x2 = -1 then (if x3 = -1 then some (1 : Int32) else if sIn x3 w.T = false then some 0 else some 1) else if sIn x2 w.T = false then some 0 else (if x3 = -1 then some 1 else if sIn x3 w.T = false then some 0 else some 1)) = some (oB b) ∧ (if decide (x2 = -1) = false then (if sIn x2 w.T = true then (if decide (x3 = -1) = false then (if sIn x3 w.T = true then some (1 : Int32) else some 0) else some 1) else some 0) else (if decide (x3 = -1) = false then (if sIn x3 w.T = true then some 1 else some 0) else some 1)) = some (oB b) ∧ (b = true → ∃ v', o v = o v' ∧ cmdOk w.T v' x2 x3) := by
    intro v v1 v4
    have key : (x2 = -1 ∨ sIn x2 w.T = true) → (x3 = -1 ∨ sIn x3 w.T = true) → cmdOk w.T v x2 x3 := fun a b => by
      refine ⟨by omega, by omega, fun _ => ⟨?_, ?_⟩, by omega, by omega⟩
      · rcases a with a | a
        · exact Or.inl a
        · exact Or.inr (of_sIn a)
      · rcases b with b | b
        · exact Or.inl b
        · exact Or.inr (of_sIn b)
    by_cases a : x2 = -1 <;> by_cases b : x3 = -1
    · exact ⟨true, by simp [a, b]; rfl, by simp [a, b]; rfl, fun _ => ⟨v, rfl, key (Or.inl a) (Or.inl b)⟩⟩
    · cases d : sIn x3 w.T
      · exact ⟨false, by simp [a, b]; rfl, by simp [a, b]; rfl, fun z => absurd z (by decide)⟩
      · exact ⟨true, by simp [a, b]; rfl, by simp [a, b]; rfl, fun _ => ⟨v, rfl, key (Or.inl a) (Or.inr d)⟩⟩
    · cases c : sIn x2 w.T
      · exact ⟨false, by simp [a]; rfl, by simp [a]; rfl, fun z => absurd z (by decide)⟩
      · exact ⟨true, by simp [a, b]; rfl, by simp [a, b]; rfl, fun _ => ⟨v, rfl, key (Or.inr c) (Or.inl b)⟩⟩
    · cases c : sIn x2 w.T
      · exact ⟨false, by simp [a]; rfl, by simp [a]; rfl, fun z => absurd z (by decide)⟩
      · cases d : sIn x3 w.T
        · exact ⟨false, by simp [a, b]; rfl, by simp [a, b]; rfl, fun z => absurd z (by decide)⟩
        · exact ⟨true, by simp [a, b]; rfl, by simp [a, b]; rfl, fun _ => ⟨v, rfl, key (Or.inr c) (Or.inr d)⟩⟩
  by_cases v0 : x1 = 0
  · subst v0
    simp only [if_true]
    by_cases c2 : 0 ≤ x2.toInt ∧ x2.toInt ≤ 3
    · obtain ⟨k, rfl, k1, k2⟩ := of_range (by omega) c2.1 c2.2
      have l1 : ¬ o k < (0 : Int32) := fun z => by have := i32_lt.mp z; omega
      have l2 : ¬ (3 : Int32) < o k := fun z => by have := i32_lt.mp z; omega
      by_cases b : x3 = -1
      · exact ⟨true, by simp [c2, b]; rfl, by simp [l1, l2, b]; rfl, fun _ => ⟨0, rfl, by omega, fun _ => ⟨k, by omega, rfl⟩, by omega, by omega, by omega⟩⟩
      · exact ⟨false, by simp [c2, b]; rfl, by simp [l1, l2, b]; rfl, fun z => absurd z (by decide)⟩
    · refine ⟨false, ?_, ?_, fun z => absurd z (by decide)⟩
      · rw [decide_eq_false c2]; rfl
      · by_cases l1 : x2 < 0
        · rw [if_pos l1]; rfl
        · have l2 : 3 < x2 := i32_lt.mpr (by rw [i32_lt] at l1; omega)
          rw [if_neg l1, if_pos l2]; rfl
  simp only [if_neg v0]
  by_cases v1 : x1 = 1
  · subst v1; simp only [if_true]; exact one 1 (by omega) (by omega)
  simp only [if_neg v1]
  by_cases v2 : x1 = 2
  · subst v2; simp only [if_true]; exact one 2 (by omega) (by omega)
  simp only [if_neg v2]
  by_cases v3 : x1 = 3
  · subst v3; simp only [if_true]; exact one 3 (by omega) (by omega)
  simp only [if_neg v3]
  by_cases v4 : x1 = 4
  · subst v4; simp only [if_true]; exact one 4 (by omega) (by omega)
  simp only [if_neg v4]
  by_cases v5 : x1 = 5
  · subst v5; simp only [if_true]
    cases c : sIn x2 w.T
    · exact ⟨false, rfl, rfl, fun z => absurd z (by decide)⟩
    · cases d : sIn x3 w.T
      · exact ⟨false, rfl, rfl, fun z => absurd z (by decide)⟩
      · exact ⟨true, rfl, rfl, fun _ => ⟨5, rfl, by omega, by omega, fun _ => ⟨Or.inr (of_sIn c), Or.inr (of_sIn d)⟩, fun _ _ => of_sIn c, fun _ => of_sIn d⟩⟩
  simp only [if_neg v5]
  by_cases v6 : x1 = 6
  · subst v6; simp only [if_true]
    by_cases a : x2 = -1 <;> by_cases b : x3 = -1
    · exact ⟨true, by simp [a, b]; rfl, by simp [a, b]; rfl, fun _ => ⟨6, rfl, by omega, by omega, fun _ => ⟨Or.inl a, Or.inl b⟩, by omega, by omega⟩⟩
    · exact ⟨false, by simp [a, b]; rfl, by simp [a, b]; rfl, fun z => absurd z (by decide)⟩
    · exact ⟨false, by simp [a]; rfl, by simp [a]; rfl, fun z => absurd z (by decide)⟩
    · exact ⟨false, by simp [a]; rfl, by simp [a]; rfl, fun z => absurd z (by decide)⟩
  simp only [if_neg v6]
  by_cases v7 : x1 = 7
  · subst v7; simp only [if_true]; exact own 7 (by omega) (by omega)
  simp only [if_neg v7]
  by_cases v8 : x1 = 8
  · subst v8; simp only [if_true]; exact own 8 (by omega) (by omega)
  simp only [if_neg v8]
  exact ⟨false, rfl, rfl, fun z => absurd z (by decide)⟩
end CM
