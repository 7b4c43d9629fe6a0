/-- none, or a thing -/
def arg (a : Int32) : Prop := a = -1 ∨ ∃ t, t < 6 ∧ a = o t
theorem m1_lt : (-1 : Int32) < 0 := by decide
theorem on_m1 {t : Nat} (h : t < 6) : ¬ o t = (-1 : Int32) := by
  have : ∀ t, t < 6 → ¬ o t = (-1 : Int32) := by decide +kernel
  exact this t h
theorem fit_both {h g : sHp} {mo : Nat → Nat} {U : Nat} {s : Int64} {r : Nat → Nat} (hnow : h.2 1 4 = s) (hg : Scr g s) (hr : Rk s r) (hW : WrR h g mo U) {n : Nat} (hn : 13 ≤ n) {v : Nat} (hv : v < 9) {a b : Int32} (hab : v = 0 ∨ (arg a ∧ arg b)) : ∃ x : Int32, J_E_fittingRule n (o v) a b h = some x ∧ J_M_fitting n (o v) a b g = some x ∧ (x = -1 ∨ ∃ q, q < U ∧ x = o q) := by
  have hU := hW.1
  obtain ⟨x, x1, x2, x3⟩ := fitL_both (n := n) hnow hg hW (by omega) (o v) a b U 0 n (by omega) (by omega)
  have k1 : K_E_fittingRule_22 n (o v) a b h = some x := x1
  have k2 : K_M_fitting_30 n (o v) a b g = some x := x2
  by_cases h0 : v = 0
  · subst h0
    refine ⟨x, ?_, ?_, x3⟩
    · unfold J_E_fittingRule
      rw [if_pos (by decide : o 0 = 0)]
      exact k1
    · unfold J_M_fitting
      rw [if_pos (by decide : o 0 ≤ 0)]
      exact k2
  · have nv : ¬ o v = (0 : Int32) := fun z => h0 ((o_inj (by omega) (by omega : 0 < 2147483648)).mp z)
    have nl : ¬ o v ≤ (0 : Int32) := fun z => h0 (by have := (o_le (by omega) (by omega : 0 < 2147483648)).mp z; omega)
    obtain ⟨ha, hb⟩ := hab.resolve_left h0
    -- seen or none, both sides
    have key : ∀ c : Int32, arg c → ∃ z : Bool, J_E_isSeenOrNone n c h = some (oB z) ∧ ((c < 0 ∧ z = true) ∨ (¬ c < 0 ∧ J_M_isSeen n c g = some (oB z))) := by
      rintro c (rfl | ⟨t, ht, rfl⟩)
      · exact ⟨true, by unfold J_E_isSeenOrNone; rw [if_pos rfl]; rfl, Or.inl ⟨m1_lt, rfl⟩⟩
      · refine ⟨sn s 6 t, ?_, Or.inr ⟨nl0 (by omega), M_seen6 hg hr (by omega) ht⟩⟩
        unfold J_E_isSeenOrNone
        rw [if_neg (on_m1 ht), hnow, B_seen hr (by omega) h ht]
        cases sn s 6 t <;> rfl
    obtain ⟨za, a1, a2⟩ := key a ha
    obtain ⟨zb, b1, b2⟩ := key b hb
    have hE : J_E_fittingRule n (o v) a b h = if za = true ∧ zb = true then some x else some (-1) := by
      unfold J_E_fittingRule
      rw [if_neg nv, a1, b1, k1]
      cases za <;> cases zb <;> rfl
    have h16 : K_M_fitting_16 n (o v) a b g = if zb = true then some x else some (-1) := by
      unfold K_M_fitting_16
      rw [k2]
      rcases b2 with ⟨c1, c2⟩ | ⟨c1, c2⟩
      · rw [if_pos c1, if_pos c2]
      · rw [if_neg c1, c2]
        cases zb <;> rfl
    have hM : J_M_fitting n (o v) a b g = if za = true ∧ zb = true then some x else some (-1) := by
      unfold J_M_fitting
      rw [if_neg nl, h16]
      rcases a2 with ⟨c1, c2⟩ | ⟨c1, c2⟩
      · rw [if_pos c1, c2]
        cases zb <;> rfl
      · rw [if_neg c1, c2]
        cases za <;> cases zb <;> rfl
    by_cases hz : za = true ∧ zb = true
    · exact ⟨x, by rw [hE, if_pos hz], by rw [hM, if_pos hz], x3⟩
    · exact ⟨-1, by rw [hE, if_neg hz], by rw [hM, if_neg hz], Or.inl rfl⟩
