section PG
variable {h g : sHp} {s : Int64} {r : Nat → Nat} {n R T : Nat}
theorem act_go (hnow : h.2 1 4 = s) (hg : Scr g s) (hr : Rk s r) (hs : sT s) (hX : WrX h g R T) (hT : T ≤ 6) (hR : dg s 0 < R) {a : Nat} (ha : a < 4) (b : Int32) : Both R h g (J_E_goThrough n (o a) h) (J_M_plain n 0 (o a) b g) := by
  have hR6 := hX.1
  have hi : dg s 0 * 4 + a < 4 * R := by omega
  have hx := hX.2 (dg s 0 * 4 + a) hi
  generalize hidx : dg s 0 * 4 + a = i at hi hx
  have hi24 : i < 24 := by omega
  have e1 : o (dg s 0) * 4 + o a = o i := by
    show o (dg s 0) * o 4 + o a = _
    rw [o_mul, o_add, hidx]
  have e2 : (4 : Int32) * o (dg s 0) + o a = o i := by
    show o 4 * o (dg s 0) + o a = _
    rw [o_mul, o_add, ← hidx, Nat.mul_comm]
  have hno := both_no (R := R) hnow hg hr hs
  have hyes : ∀ c, c < R → Both R h g (some (1, pL h 1 4 (dW s 0 c))) (some (1, pI g 0 32 (o c))) := fun c hc => ⟨true, _, _, r, rfl, rfl, Scr_room hg (by omega), Lk_pI (Lk_refl g) (by omega), Rk_keep hr (by omega) (by omega) (by show c < 8; omega), sT_dW (by omega) hs, fun _ _ hV => by rw [hnow] at hV; exact Vb_dW hV (by omega) (by show c < 8; omega) (by omega) (by omega) (by omega)⟩
  have nz : ∀ c : Nat, c < 6 → ¬ o (c + 1) = (0 : Int32) ∧ ¬ o c = (-1 : Int32) ∧ ¬ o (c + 1) ≤ (0 : Int32) ∧ o (c + 1) - 1 = o c := by decide +kernel
  unfold J_E_goThrough K_E_goThrough_53 J_M_plain K_M_plain_89
  simp only [if_pos, b_room, hnow, hg.1, Option.bind_some, e1, e2, sIn_o 24 (show i < 2147483648 by omega), decide_eq_true hi24, sGd_true, ix_o (show i < 2147483648 by omega)]
  rcases hx with ⟨x1, x2⟩ | ⟨⟨c, hc, c1, c2⟩, hd⟩
  · simp only [x1, x2, if_true]
    exact hno
  · have z := nz c (by omega)
    simp only [c1, c2, if_neg z.1, if_neg z.2.1, z.2.2.2, b_wroom, Option.bind_some]
    rcases hd with ⟨d1, d2⟩ | ⟨d, hd, d1, d2⟩
    · simp only [d1, d2, if_true, if_pos (by decide : (0 : Int32) ≤ 0)]
      exact hyes c hc
    · have y := nz d (by omega)
      have hd6 : d < 6 := by omega
      simp only [d1, d2, if_neg y.2.1, if_neg y.2.2.1, y.2.2.2, b_open n s h hd6, sIn_o 6 (show d < 2147483648 by omega), decide_eq_true hd6, sGd_true, ix_o (show d < 2147483648 by omega), hg.2.2.1 d hd6, Option.bind_some]
      by_cases q : o (dg s (7 + d)) = 0
      · simp only [q, if_true]
        exact hno
      · simp only [q, if_false]
        exact hyes c hc
/-- a command, as both sides know it -/
def cmdOk (T v : Nat) (a b : Int32) : Prop := v < 9 ∧ (v = 0 → ∃ x, x < 4 ∧ a = o x) ∧ (0 < v → (a = -1 ∨ ∃ t, t < T ∧ a = o t) ∧ (b = -1 ∨ ∃ t, t < T ∧ b = o t)) ∧ (1 ≤ v → v ≤ 5 → ∃ t, t < T ∧ a = o t) ∧ (v = 5 → ∃ t, t < T ∧ b = o t)
theorem jB_oB (b : Bool) : jB (oB b) = true := by cases b <;> decide
theorem both_jB {X Y : Option (Int32 × sHp)} (hB : Both R h g X Y) : Both R h g (X.bind fun v => sGd (jB v.1) (some (v.1, v.2))) Y := by
  obtain ⟨b, s', g', r', e1, e2, e⟩ := hB
  exact ⟨b, s', g', r', by rw [e1]; show sGd (jB (oB b)) _ = _; rw [jB_oB]; rfl, e2, e⟩
theorem act_both (hnow : h.2 1 4 = s) (hg : Scr g s) (hr : Rk s r) (hs : sT s) (hK : WrK h g T) (hX : WrX h g R T) (hR : dg s 0 < R) (hn : 8 ≤ n) {v : Nat} {a b : Int32} (hc : cmdOk T v a b) : Both R h g (J_E_actWithoutRule n (o v) a b h) (J_M_plain n (o v) a b g) := by
  obtain ⟨hv, c0, c1, c2, c3⟩ := hc
  have hT := hK.1
  have hR6 := hX.1
  unfold J_E_actWithoutRule
  have lt : v = 0 ∨ v = 1 ∨ v = 2 ∨ v = 3 ∨ v = 4 ∨ v = 5 ∨ v = 6 ∨ v = 7 ∨ v = 8 := by omega
  rcases lt with rfl | rfl | rfl | rfl | rfl | rfl | rfl | rfl | rfl
  · obtain ⟨x, hx, rfl⟩ := c0 rfl
    rw [if_pos (by decide : o 0 = 0)]
    exact both_jB (act_go hnow hg hr hs hX hT hR hx b)
  · obtain ⟨t, ht, rfl⟩ := c2 (by omega) (by omega)
    rw [if_neg (by decide : ¬ o 1 = 0), if_pos (by decide : o 1 = 1)]
    exact both_jB (act_take hnow hg hr hs hK hn ht b)
  · obtain ⟨t, ht, rfl⟩ := c2 (by omega) (by omega)
    rw [if_neg (by decide : ¬ o 2 = 0), if_neg (by decide : ¬ o 2 = 1), if_pos (by decide : o 2 = 2)]
    exact both_jB (act_drop hnow hg hr hs (by omega) (by omega) b)
  · obtain ⟨t, ht, rfl⟩ := c2 (by omega) (by omega)
    rw [if_neg (by decide : ¬ o 3 = 0), if_neg (by decide : ¬ o 3 = 1), if_neg (by decide : ¬ o 3 = 2), if_pos (by decide : o 3 = 3)]
    exact both_jB (act_lid hnow hg hr hs hK hn ht b).1
  · obtain ⟨t, ht, rfl⟩ := c2 (by omega) (by omega)
    rw [if_neg (by decide : ¬ o 4 = 0), if_neg (by decide : ¬ o 4 = 1), if_neg (by decide : ¬ o 4 = 2), if_neg (by decide : ¬ o 4 = 3), if_pos (by decide : o 4 = 4)]
    exact both_jB (act_lid hnow hg hr hs hK hn ht b).2
  · obtain ⟨t, ht, rfl⟩ := c2 (by omega) (by omega)
    obtain ⟨y, hy, rfl⟩ := c3 rfl
    rw [if_neg (by decide : ¬ o 5 = 0), if_neg (by decide : ¬ o 5 = 1), if_neg (by decide : ¬ o 5 = 2), if_neg (by decide : ¬ o 5 = 3), if_neg (by decide : ¬ o 5 = 4), if_pos (by decide : o 5 = 5)]
    exact both_jB (act_put hnow hg hr hs hK hn ht hy)
  · refine ⟨true, s, g, r, ?_, ?_, hg, Lk_refl g, hr, hs, fun _ _ hV => by rw [hnow] at hV; exact hV⟩
    · rw [← hnow, pL_same]; rfl
    · rfl
  · exact both_no hnow hg hr hs
  · exact both_no hnow hg hr hs
end PG
