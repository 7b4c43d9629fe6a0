/-! Commands, both sides. -/
def icb (T v a b : Nat) : Bool :=
  (v == 0 && (1 ≤ a && a ≤ 4) && b == 0) || ((1 ≤ v && v ≤ 4) && (1 ≤ a && a ≤ T) && b == 0) || (v == 5 && (1 ≤ a && a ≤ T) && (1 ≤ b && b ≤ T)) || (v == 6 && a == 0 && b == 0) || ((7 ≤ v && v ≤ 8) && a ≤ T && b ≤ T)
theorem ic_icb (T j : Nat) : ic T j = icb T (jv j) (ja j) (jb j) := rfl
theorem W_tab : ∀ T, T < 7 → ∀ v, v < 9 → ∀ a, a < 7 → ∀ b, b < 7 → J_W_hasCommand 0 (o v) (av a) (av b) (fun _ _ => o T, fun _ _ => 0) = some (oB (icb T v a b)) := by decide +kernel
theorem M_tab : ∀ T, T < 7 → ∀ v, v < 9 → ∀ a, a < 7 → ∀ b, b < 7 → J_M_isCommand 0 (o v) (av a) (av b) (fun _ _ => o T, fun _ _ => 0) = some (oB (icb T v a b)) := by decide +kernel
theorem j_lt {j : Nat} (hj : j < 441) : jv j < 9 ∧ ja j < 7 ∧ jb j < 7 := by unfold jv ja jb; omega
theorem j_dec {v a b : Nat} (ha : a < 7) (hb : b < 7) : jv (49 * v + 7 * a + b) = v ∧ ja (49 * v + 7 * a + b) = a ∧ jb (49 * v + 7 * a + b) = b := by
  unfold jv ja jb; omega
theorem ic_cmd {T j : Nat} (hj : j < 441) (h : ic T j = true) : cmdOk T (jv j) (av (ja j)) (av (jb j)) := by
  have hv : jv j < 9 := by unfold jv; omega
  have ha : ja j < 7 := Nat.mod_lt _ (by omega)
  have hb : jb j < 7 := Nat.mod_lt _ (by omega)
  generalize hgv : jv j = v at *
  generalize hga : ja j = a at *
  generalize hgb : jb j = b at *
  have key : ∀ x, 1 ≤ x → x ≤ T → ∃ t, t < T ∧ av x = o t := fun x h1 h2 => ⟨x - 1, by omega, by rw [show x = (x - 1) + 1 by omega, av1]; rfl⟩
  have key0 : ∀ x, x ≤ T → av x = -1 ∨ ∃ t, t < T ∧ av x = o t := fun x h2 => by
    by_cases z : x = 0
    · left; rw [z]; rfl
    · right; exact key x (by omega) h2
  unfold ic at h
  rw [hgv, hga, hgb] at h
  simp only [Bool.or_eq_true, Bool.and_eq_true, decide_eq_true_eq, beq_iff_eq] at h
  rcases h with (((⟨⟨h1, h2⟩, h3⟩ | ⟨⟨h1, h2⟩, h3⟩) | ⟨⟨h1, h2⟩, h3⟩) | ⟨⟨h1, h2⟩, h3⟩) | ⟨⟨h1, h2⟩, h3⟩
  · refine ⟨hv, fun _ => ⟨a - 1, by omega, ?_⟩, fun z => absurd z (by omega), fun z => absurd z (by omega), fun z => absurd z (by omega)⟩
    rw [show a = (a - 1) + 1 by omega, av1]; rfl
  · exact ⟨hv, fun z => absurd z (by omega), fun _ => ⟨Or.inr (key a h2.1 h2.2), Or.inl (by rw [h3]; rfl)⟩, fun _ _ => key a h2.1 h2.2, fun z => absurd z (by omega)⟩
  · exact ⟨hv, fun z => absurd z (by omega), fun _ => ⟨Or.inr (key a h2.1 h2.2), Or.inr (key b h3.1 h3.2)⟩, fun _ _ => key a h2.1 h2.2, fun _ => key b h3.1 h3.2⟩
  · exact ⟨hv, fun z => absurd z (by omega), fun _ => ⟨Or.inl (by rw [h2]; rfl), Or.inl (by rw [h3]; rfl)⟩, fun _ _ => absurd h1 (by omega), fun z => absurd z (by omega)⟩
  · exact ⟨hv, fun z => absurd z (by omega), fun _ => ⟨key0 a h2, key0 b h3⟩, fun _ _ => absurd h1 (by omega), fun z => absurd z (by omega)⟩
section CM
variable {h g : sHp} {n : Nat} {w : Wp}
theorem W_ic (hW : Wr w h g) {j : Nat} (hj : j < 441) : J_W_hasCommand n (o (jv j)) (av (ja j)) (av (jb j)) h = some (oB (ic w.T j)) := by
  have hT := hW.p.2.2.1.1
  obtain ⟨a, b, c⟩ := j_lt hj
  have e : J_W_hasCommand n (o (jv j)) (av (ja j)) (av (jb j)) h = J_W_hasCommand 0 (o (jv j)) (av (ja j)) (av (jb j)) (fun _ _ => h.1 2 13, fun _ _ => 0) := rfl
  rw [e, hW.a.th.1, ic_icb, W_tab w.T (by omega) _ a _ b _ c]
theorem M_ic (hW : Wr w h g) {j : Nat} (hj : j < 441) : J_M_isCommand n (o (jv j)) (av (ja j)) (av (jb j)) g = some (oB (ic w.T j)) := by
  have hT := hW.p.2.2.1.1
  obtain ⟨a, b, c⟩ := j_lt hj
  have e : J_M_isCommand n (o (jv j)) (av (ja j)) (av (jb j)) g = J_M_isCommand 0 (o (jv j)) (av (ja j)) (av (jb j)) (fun _ _ => g.1 0 4, fun _ _ => 0) := rfl
  rw [e, hW.a.th.2, ic_icb, M_tab w.T (by omega) _ a _ b _ c]
theorem has_cmd (hW : Wr w h g) (x1 x2 x3 : Int32) : ∃ b : Bool, J_W_hasCommand n x1 x2 x3 h = some (oB b) ∧ J_M_isCommand n x1 x2 x3 g = some (oB b) ∧ (b = true → ∃ v, x1 = o v ∧ cmdOk w.T v x2 x3 ∧ (v = 0 → x3 = -1)) := by
  have z0 : (0 : Int32).toInt = 0 := rfl
  have z3 : (3 : Int32).toInt = 3 := rfl
  have eM : J_M_isCommand n x1 x2 x3 g = K_M_isCommand_22 n x1 x2 x3 g (oB (decide (x2 = -1))) (oB (decide (x3 = -1))) := by
    unfold J_M_isCommand K_M_isCommand_10
    by_cases a : x2 = -1 <;> by_cases b : x3 = -1 <;> simp only [a, b, if_true, if_false, decide_true, decide_false] <;> rfl
  rw [eM]
  unfold J_W_hasCommand K_W_hasCommand_142 K_M_isCommand_22 K_M_isCommand_166
  simp only [W_thing hW, M_thing hW, frm_eq, z0, z3, Option.bind_some, oB_0, Bool.not_eq_false']
  -- the verbs that ask for one thing
  have one : ∀ v, 1 ≤ v → v ≤ 4 → ∃ b : Bool, (if sIn x2 w.T = false then some (0 : Int32) else if x3 = -1 then some 1 else some 0) = some (oB b) ∧ (if sIn x2 w.T = true then (if decide (x3 = -1) = false then some (0 : Int32) else some 1) else some 0) = some (oB b) ∧ (b = true → ∃ v', o v = o v' ∧ cmdOk w.T v' x2 x3 ∧ (v' = 0 → x3 = -1)) := by
    intro v v1 v4
    cases c : sIn x2 w.T
    · exact ⟨false, rfl, rfl, fun z => absurd z (by decide)⟩
    · by_cases b : x3 = -1
      · obtain ⟨t, ht, e⟩ := of_sIn c
        refine ⟨true, by simp [b]; rfl, by simp [b]; rfl, fun _ => ⟨v, rfl, ⟨by omega, by omega, fun _ => ⟨Or.inr ⟨t, ht, e⟩, Or.inl b⟩, fun _ _ => ⟨t, ht, e⟩, by omega⟩, by omega⟩⟩
      · exact ⟨false, by simp [b]; rfl, by simp [b]; rfl, fun z => absurd z (by decide)⟩
  have own : ∀ v, 7 ≤ v → v ≤ 8 → ∃ b : Bool, (if x2 = -1 then (if x3 = -1 then some (1 : Int32) else if sIn x3 w.T = false then some 0 else some 1) else if sIn x2 w.T = false then some 0 else (if x3 = -1 then some 1 else if sIn x3 w.T = false then some 0 else some 1)) = some (oB b) ∧ (if decide (x2 = -1) = false then (if sIn x2 w.T = true then (if decide (x3 = -1) = false then (if sIn x3 w.T = true then some (1 : Int32) else some 0) else some 1) else some 0) else (if decide (x3 = -1) = false then (if sIn x3 w.T = true then some 1 else some 0) else some 1)) = some (oB b) ∧ (b = true → ∃ v', o v = o v' ∧ cmdOk w.T v' x2 x3 ∧ (v' = 0 → x3 = -1)) := by
    intro v v1 v4
    have key : (x2 = -1 ∨ sIn x2 w.T = true) → (x3 = -1 ∨ sIn x3 w.T = true) → cmdOk w.T v x2 x3 := fun a b => by
      refine ⟨by omega, by omega, fun _ => ⟨?_, ?_⟩, by omega, by omega⟩
      · rcases a with a | a
        · exact Or.inl a
        · exact Or.inr (of_sIn a)
      · rcases b with b | b
        · exact Or.inl b
        · exact Or.inr (of_sIn b)
    by_cases a : x2 = -1 <;> by_cases b : x3 = -1
    · exact ⟨true, by simp [a, b]; rfl, by simp [a, b]; rfl, fun _ => ⟨v, rfl, key (Or.inl a) (Or.inl b), by omega⟩⟩
    · cases d : sIn x3 w.T
      · exact ⟨false, by simp [a, b]; rfl, by simp [a, b]; rfl, fun z => absurd z (by decide)⟩
      · exact ⟨true, by simp [a, b]; rfl, by simp [a, b]; rfl, fun _ => ⟨v, rfl, key (Or.inl a) (Or.inr d), by omega⟩⟩
    · cases c : sIn x2 w.T
      · exact ⟨false, by simp [a]; rfl, by simp [a]; rfl, fun z => absurd z (by decide)⟩
      · exact ⟨true, by simp [a, b]; rfl, by simp [a, b]; rfl, fun _ => ⟨v, rfl, key (Or.inr c) (Or.inl b), by omega⟩⟩
    · cases c : sIn x2 w.T
      · exact ⟨false, by simp [a]; rfl, by simp [a]; rfl, fun z => absurd z (by decide)⟩
      · cases d : sIn x3 w.T
        · exact ⟨false, by simp [a, b]; rfl, by simp [a, b]; rfl, fun z => absurd z (by decide)⟩
        · exact ⟨true, by simp [a, b]; rfl, by simp [a, b]; rfl, fun _ => ⟨v, rfl, key (Or.inr c) (Or.inr d), by omega⟩⟩
  by_cases v0 : x1 = 0
  · subst v0
    simp only [if_true]
    by_cases c2 : 0 ≤ x2.toInt ∧ x2.toInt ≤ 3
    · obtain ⟨k, rfl, k1, k2⟩ := of_range (by omega) c2.1 c2.2
      have l1 : ¬ o k < (0 : Int32) := fun z => by have := i32_lt.mp z; omega
      have l2 : ¬ (3 : Int32) < o k := fun z => by have := i32_lt.mp z; omega
      by_cases b : x3 = -1
      · exact ⟨true, by simp [c2, b]; rfl, by simp [l1, l2, b]; rfl, fun _ => ⟨0, rfl, ⟨by omega, fun _ => ⟨k, by omega, rfl⟩, by omega, by omega, by omega⟩, fun _ => b⟩⟩
      · exact ⟨false, by simp [c2, b]; rfl, by simp [l1, l2, b]; rfl, fun z => absurd z (by decide)⟩
    · refine ⟨false, ?_, ?_, fun z => absurd z (by decide)⟩
      · rw [decide_eq_false c2]; rfl
      · by_cases l1 : x2 < 0
        · rw [if_pos l1]; rfl
        · have l2 : 3 < x2 := i32_lt.mpr (by rw [i32_lt] at l1; omega)
          rw [if_neg l1, if_pos l2]; rfl
  simp only [if_neg v0]
  by_cases v1 : x1 = 1
  · subst v1; simp only [if_true]; exact one 1 (by omega) (by omega)
  simp only [if_neg v1]
  by_cases v2 : x1 = 2
  · subst v2; simp only [if_true]; exact one 2 (by omega) (by omega)
  simp only [if_neg v2]
  by_cases v3 : x1 = 3
  · subst v3; simp only [if_true]; exact one 3 (by omega) (by omega)
  simp only [if_neg v3]
  by_cases v4 : x1 = 4
  · subst v4; simp only [if_true]; exact one 4 (by omega) (by omega)
  simp only [if_neg v4]
  by_cases v5 : x1 = 5
  · subst v5; simp only [if_true]
    cases c : sIn x2 w.T
    · exact ⟨false, rfl, rfl, fun z => absurd z (by decide)⟩
    · cases d : sIn x3 w.T
      · exact ⟨false, rfl, rfl, fun z => absurd z (by decide)⟩
      · exact ⟨true, rfl, rfl, fun _ => ⟨5, rfl, ⟨by omega, by omega, fun _ => ⟨Or.inr (of_sIn c), Or.inr (of_sIn d)⟩, fun _ _ => of_sIn c, fun _ => of_sIn d⟩, by omega⟩⟩
  simp only [if_neg v5]
  by_cases v6 : x1 = 6
  · subst v6; simp only [if_true]
    by_cases a : x2 = -1 <;> by_cases b : x3 = -1
    · exact ⟨true, by simp [a, b]; rfl, by simp [a, b]; rfl, fun _ => ⟨6, rfl, ⟨by omega, by omega, fun _ => ⟨Or.inl a, Or.inl b⟩, by omega, by omega⟩, by omega⟩⟩
    · exact ⟨false, by simp [a, b]; rfl, by simp [a, b]; rfl, fun z => absurd z (by decide)⟩
    · exact ⟨false, by simp [a]; rfl, by simp [a]; rfl, fun z => absurd z (by decide)⟩
    · exact ⟨false, by simp [a]; rfl, by simp [a]; rfl, fun z => absurd z (by decide)⟩
  simp only [if_neg v6]
  by_cases v7 : x1 = 7
  · subst v7; simp only [if_true]; exact own 7 (by omega) (by omega)
  simp only [if_neg v7]
  by_cases v8 : x1 = 8
  · subst v8; simp only [if_true]; exact own 8 (by omega) (by omega)
  simp only [if_neg v8]
  exact ⟨false, rfl, rfl, fun z => absurd z (by decide)⟩
/-- a command has its place among all -/
theorem cmd_j (hW : Wr w h g) {x1 x2 x3 : Int32} (hb : J_W_hasCommand n x1 x2 x3 h = some (oB true)) {v : Nat} (hv : x1 = o v) (hc : cmdOk w.T v x2 x3) (h0 : v = 0 → x3 = -1) : ∃ j, j < 441 ∧ ic w.T j = true ∧ v = jv j ∧ x2 = av (ja j) ∧ x3 = av (jb j) := by
  have hT := hW.p.2.2.1.1
  obtain ⟨c1, c2, c3, c4, c5⟩ := hc
  have arg1 : ∀ x : Int32, (x = -1 ∨ ∃ t, t < w.T ∧ x = o t) → ∃ a, a < 7 ∧ x = av a := fun x hx => by
    rcases hx with hx | ⟨t, t1, t2⟩
    · exact ⟨0, by omega, hx⟩
    · exact ⟨t + 1, by omega, by rw [t2, av1]⟩
  have : ∃ a b, a < 7 ∧ b < 7 ∧ x2 = av a ∧ x3 = av b := by
    by_cases z : v = 0
    · obtain ⟨x, x1, x2⟩ := c2 z
      exact ⟨x + 1, 0, by omega, by omega, by rw [x2, av1], h0 z⟩
    · obtain ⟨y1, y2⟩ := c3 (by omega)
      obtain ⟨a, a1, a2⟩ := arg1 x2 y1
      obtain ⟨b, b1, b2⟩ := arg1 x3 y2
      exact ⟨a, b, a1, b1, a2, b2⟩
  obtain ⟨a, b, ha, hb', ea, eb⟩ := this
  obtain ⟨d1, d2, d3⟩ := j_dec (v := v) ha hb'
  have hj : 49 * v + 7 * a + b < 441 := by omega
  have e := W_ic (n := n) hW hj
  rw [d1, d2, d3, ← ea, ← eb, ← hv, hb] at e
  refine ⟨49 * v + 7 * a + b, hj, ?_, d1.symm, by rw [d2]; exact ea, by rw [d3]; exact eb⟩
  cases hi : ic w.T (49 * v + 7 * a + b) with
  | true => rfl
  | false => rw [hi] at e; exact absurd (Option.some.inj e) (by decide)
end CM
