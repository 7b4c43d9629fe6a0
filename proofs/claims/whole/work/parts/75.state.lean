/-! state, both sides. -/
section SA
variable {h g : sHp} {n : Nat} {w : Wp}
theorem jB_some (b : Bool) : sGd (jB (oB b)) (some (oB b)) = some (oB b) := by cases b <;> rfl
theorem f_state (hn : 30 ≤ n) (hI : Iv n h g) (x1 x2 : Int32) : FcI n (J_L_state n x1 x2 h) (J_M_state n x1 x2 g) := by
  have hI' := hI
  obtain ⟨w, hw, t, k, hW, hK, hP, hA⟩ := hI
  have hR := hW.p.2.2.2.1.1
  have hT := hW.p.2.2.1.1
  have hN := hW.a.n3
  have hQ := hW.p.2.2.2.2.2.1
  have hKw := hW.p.2.2.2.2.1.1
  have t60 := hP.t60
  have z0 : (0 : Int32).toInt = 0 := rfl
  have z8 : (8 : Int32).toInt = 8 := rfl
  -- what is asked for is there
  have asked : ∃ b : Bool, J_S_hasAsked n x1 x2 h = some (oB b) ∧ J_M_state n x1 x2 g = (if b then K_M_state_77 n x1 x2 g else K_M_state_73 n x1 x2 g) ∧ (b = true → ((x1 = 1 ∨ x1 = 2 ∨ x1 = 6) → sIn x2 w.T = true) ∧ (x1 = 3 → sIn x2 w.N = true) ∧ (x1 = 7 → sIn x2 w.Q = true) ∧ (x1 = 8 → sIn x2 w.K = true)) := by
    unfold J_S_hasAsked J_M_state K_M_state_16 K_M_state_24 K_M_state_37 K_M_state_55
    simp only [W_thing hW, W_number hW, M_thing hW, M_number hW, hW.p.2.2.2.2.2.2.1, hW.p.2.2.2.2.1.2.1, hW.p.2.2.2.2.2.2.2.1, hW.p.2.2.2.2.1.2.2.1, frm_sIn n x2 (show w.Q < 1100 by omega), frm_sIn n x2 (show w.K < 1100 by omega), jB_some, Option.bind_some, oB_0]
    by_cases v1 : x1 = 1
    · subst v1
      refine ⟨sIn x2 w.T, rfl, ?_, fun z => ⟨fun _ => z, fun y => absurd y (by decide), fun y => absurd y (by decide), fun y => absurd y (by decide)⟩⟩
      cases sIn x2 w.T <;> rfl
    simp only [if_neg v1]
    by_cases v2 : x1 = 2
    · subst v2
      refine ⟨sIn x2 w.T, rfl, ?_, fun z => ⟨fun _ => z, fun y => absurd y (by decide), fun y => absurd y (by decide), fun y => absurd y (by decide)⟩⟩
      cases sIn x2 w.T <;> rfl
    simp only [if_neg v2]
    by_cases v3 : x1 = 3
    · subst v3
      refine ⟨sIn x2 w.N, rfl, ?_, fun z => ⟨fun y => absurd y (by decide), fun _ => z, fun y => absurd y (by decide), fun y => absurd y (by decide)⟩⟩
      cases sIn x2 w.N <;> rfl
    simp only [if_neg v3]
    by_cases v4 : x1 = 4
    · subst v4
      exact ⟨true, rfl, rfl, fun z => ⟨fun y => absurd y (by decide), fun y => absurd y (by decide), fun y => absurd y (by decide), fun y => absurd y (by decide)⟩⟩
    simp only [if_neg v4]
    by_cases v5 : x1 = 5
    · subst v5
      exact ⟨true, rfl, rfl, fun z => ⟨fun y => absurd y (by decide), fun y => absurd y (by decide), fun y => absurd y (by decide), fun y => absurd y (by decide)⟩⟩
    simp only [if_neg v5]
    by_cases v6 : x1 = 6
    · subst v6
      refine ⟨sIn x2 w.T, rfl, ?_, fun z => ⟨fun _ => z, fun y => absurd y (by decide), fun y => absurd y (by decide), fun y => absurd y (by decide)⟩⟩
      cases sIn x2 w.T <;> rfl
    simp only [if_neg v6]
    by_cases v7 : x1 = 7
    · subst v7
      refine ⟨sIn x2 w.Q, rfl, ?_, fun z => ⟨fun y => absurd y (by decide), fun y => absurd y (by decide), fun _ => z, fun y => absurd y (by decide)⟩⟩
      have no := no_sIn x2 (R := w.Q) (by omega)
      cases c : sIn x2 w.Q
      · rw [c] at no
        simp only [if_true]
        by_cases a1 : x2 < 0
        · rw [if_pos a1]; rfl
        · rw [if_neg a1] at no ⊢
          by_cases a2 : x2 < o w.Q
          · rw [if_pos a2] at no; exact absurd (Option.some.inj no) (by decide)
          · have : o w.Q ≤ x2 := i32_le.mpr (by rw [i32_lt] at a2; omega)
            rw [if_pos this]; rfl
      · obtain ⟨i, hi, rfl⟩ := of_sIn c
        have l1 : ¬ o i < (0 : Int32) := fun z => by have := (o_lt (by omega) (by omega : 0 < 2147483648)).mp z; omega
        have l2 : ¬ o w.Q ≤ o i := fun z => by have := (o_le (by omega) (by omega)).mp z; omega
        simp only [if_true, if_neg l1, if_neg l2]
        rfl
    simp only [if_neg v7]
    by_cases v8 : x1 = 8
    · subst v8
      refine ⟨sIn x2 w.K, rfl, ?_, fun z => ⟨fun y => absurd y (by decide), fun y => absurd y (by decide), fun y => absurd y (by decide), fun _ => z⟩⟩
      have no := no_sIn x2 (R := w.K) (by omega)
      cases c : sIn x2 w.K
      · rw [c] at no
        simp only [if_true]
        by_cases a1 : x2 < 0
        · rw [if_pos a1]; rfl
        · rw [if_neg a1] at no ⊢
          by_cases a2 : x2 < o w.K
          · rw [if_pos a2] at no; exact absurd (Option.some.inj no) (by decide)
          · rw [if_neg a2]; rfl
      · obtain ⟨i, hi, rfl⟩ := of_sIn c
        have l1 : ¬ o i < (0 : Int32) := fun z => by have := (o_lt (by omega) (by omega : 0 < 2147483648)).mp z; omega
        have l2 : o i < o w.K := (o_lt (by omega) (by omega)).mpr hi
        simp only [if_true, if_neg l1, if_pos l2]
    simp only [if_neg v8]
    exact ⟨true, rfl, rfl, fun z => ⟨fun y => by rcases y with y | y | y; exact absurd y v1; exact absurd y v2; exact absurd y v6, fun y => absurd y v3, fun y => absurd y v7, fun y => absurd y v8⟩⟩
  obtain ⟨b, b1, b2, b3⟩ := asked
  rw [b2]
  unfold J_L_state J_S_state
  rw [b1, Option.bind_some]
  cases b with
  | false => exact FcI_no hI' 1 (by decide) rfl rfl
  | true =>
    obtain ⟨q1, q3, q7, q8⟩ := b3 rfl
    rw [if_neg (show ¬ oB true = 0 by decide), if_pos rfl, frm_eq, z0, z8, Option.bind_some]
    unfold K_M_state_77 K_M_state_78 K_M_state_98
    rw [if_pos rfl]
    by_cases c1 : 0 ≤ x1.toInt ∧ x1.toInt ≤ 8
    · have l1 : ¬ x1 < 0 := fun z => by have := i32_lt.mp z; omega
      have l2 : x1 ≤ 8 := i32_le.mpr (by omega)
      rw [decide_eq_true c1, if_neg (show ¬ oB true = 0 by decide), if_neg l1, if_pos l2, hW.a.rm.1, hW.a.rm.2]
      by_cases h0 : w.mo 3 = 0
      · rw [h0]; exact FcI_no hI' 3 (by decide) rfl rfl
      have l0 : ¬ o (w.mo 3) ≤ (0 : Int32) := fun z => by have := (o_le (by omega) (by omega : 0 < 2147483648)).mp z; omega
      have n0 : ¬ o (w.mo 3) = (0 : Int32) := fun z => h0 ((o_inj (by omega) (by omega : 0 < 2147483648)).mp z)
      rw [if_neg l0, if_neg n0]
      unfold K_S_state_34 K_M_state_114
      rw [if_neg (show ¬ (1 : Int32) = 0 by decide), if_pos (show (0 : Int32) ≤ 0 by decide), hP.tr.1, ix_o (by omega), sIn_o 61 (by omega), decide_eq_true (by omega), sGd_true, hP.now.1, hP.now.2]
      obtain ⟨⟨r, hr⟩, hsT, -⟩ := hP.st t (Nat.le_refl _)
      generalize hs : h.2 7 t = s at hr hsT
      obtain ⟨gl, e1, e2, e3⟩ := M_lay (g := pI g 0 0 0) s (by omega : 8 ≤ n)
      rw [e1, Option.bind_some]
      have hIl : Iv n h gl := Iv_keep (Kc_refl h) (Kg_trans (Kg_pI (Kg_refl g) (by omega)) (Kg_Lk e3)) ⟨fun _ _ _ => rfl, fun _ => rfl⟩ (fun j m z => by rw [Lk_at e3 (by omega) (by omega), pI_i, if_neg (by omega)]) ⟨fun _ _ _ => rfl, fun _ _ _ => rfl⟩ (fun j m z => by rw [Lk_at e3 (by omega) (by omega), pI_i, if_neg (by omega)]) hI'
      have g00 : gl.1 0 0 = 0 := by rw [Lk_at e3 (by omega) (by omega), pI_i, if_pos ⟨rfl, rfl⟩]
      have yes : ∀ x : Int32, FcI n (jC (some ((.ok x : Except Nat Int32), h)) (fun v5 h5 => some ((0 : Int32), (pL h5 41 (ix 0) (Int32.toInt64 v5)))) (fun k h => if k = 0 then some ((1 : Int32), h) else (if k = 1 then some ((2 : Int32), h) else (if k = 2 then some ((3 : Int32), h) else none)))) (some (x, gl)) := fun x => ⟨0, _, _, _, rfl, rfl, g00, fun _ => by rw [show ix (0 : Int32) = 0 from rfl, pL_i, if_pos ⟨rfl, rfl⟩], Iv_out hIl _⟩
      have g44 : gl.1 0 44 = o t := by rw [Lk_at e3 (by omega) (by omega), pI_i, if_neg (by omega)]; exact hP.tr.2
      by_cases v0 : x1 = 0
      · rw [if_pos v0, if_pos v0, b_room, Option.bind_some, e2.1]; exact yes _
      rw [if_neg v0, if_neg v0]
      by_cases v1 : x1 = 1
      · obtain ⟨i, hi, rfl⟩ := of_sIn (q1 (Or.inl v1))
        rw [if_pos v1, if_pos v1, b_place n s h (by omega : i < 6), Option.bind_some, sIn_o 6 (by omega), decide_eq_true (by omega), sGd_true, ix_o (by omega), e2.2.1 i (by omega)]; exact yes _
      rw [if_neg v1, if_neg v1]
      by_cases v2 : x1 = 2
      · obtain ⟨i, hi, rfl⟩ := of_sIn (q1 (Or.inr (Or.inl v2)))
        rw [if_pos v2, if_pos v2, b_open n s h (by omega : i < 6), Option.bind_some, sIn_o 6 (by omega), decide_eq_true (by omega), sGd_true, ix_o (by omega), e2.2.2.1 i (by omega)]
        by_cases c : o (dg s (7 + i)) = 0
        · rw [if_pos c, if_pos c]; exact yes _
        · rw [if_neg c, if_neg c]; exact yes _
      rw [if_neg v2, if_neg v2]
      by_cases v3 : x1 = 3
      · obtain ⟨i, hi, rfl⟩ := of_sIn (q3 v3)
        rw [if_pos v3, if_pos v3, b_amount n s h (by omega : i < 3), Option.bind_some, sIn_o 3 (by omega), decide_eq_true (by omega), sGd_true, ix_o (by omega), e2.2.2.2.1 i (by omega)]; exact yes _
      rw [if_neg v3, if_neg v3]
      by_cases v4 : x1 = 4
      · rw [if_pos v4, if_pos v4, b_ending, Option.bind_some, e2.2.2.2.2.2.2]; exact yes _
      rw [if_neg v4, if_neg v4]
      by_cases v5 : x1 = 5
      · rw [if_pos v5, if_pos v5, g44]; exact yes _
      rw [if_neg v5, if_neg v5]
      by_cases v6 : x1 = 6
      · obtain ⟨i, hi, rfl⟩ := of_sIn (q1 (Or.inr (Or.inr v6)))
        rw [if_pos v6, if_pos v6, B_seen hr (show 6 ≤ n by omega) h (by omega : i < 6), M_seen6 e2 hr (show 6 ≤ n by omega) (by omega : i < 6), Option.bind_some, Option.bind_some]
        by_cases c : oB (sn s 6 i) = 0
        · rw [if_pos c, if_pos c]; exact yes _
        · rw [if_neg c, if_neg c]; exact yes _
      rw [if_neg v6, if_neg v6]
      by_cases v7 : x1 = 7
      · obtain ⟨i, hi, rfl⟩ := of_sIn (q7 v7)
        rw [if_pos v7, if_pos v7, b_count n s h (by omega : i < 2), Option.bind_some, sIn_o 2 (by omega), decide_eq_true (by omega), sGd_true, ix_o (by omega), e2.2.2.2.2.2.1 i (by omega)]; exact yes _
      rw [if_neg v7, if_neg v7]
      have v8 : x1 = 8 := by
        obtain ⟨j, rfl, j1, j2⟩ := of_range (by omega) c1.1 c1.2
        have e : ∀ i, i < 9 → j = i → o j = o i := fun i _ z => by rw [z]
        have : j = 0 ∨ j = 1 ∨ j = 2 ∨ j = 3 ∨ j = 4 ∨ j = 5 ∨ j = 6 ∨ j = 7 ∨ j = 8 := by omega
        rcases this with z | z | z | z | z | z | z | z | z
        · exact absurd (e 0 (by omega) z) v0
        · exact absurd (e 1 (by omega) z) v1
        · exact absurd (e 2 (by omega) z) v2
        · exact absurd (e 3 (by omega) z) v3
        · exact absurd (e 4 (by omega) z) v4
        · exact absurd (e 5 (by omega) z) v5
        · exact absurd (e 6 (by omega) z) v6
        · exact absurd (e 7 (by omega) z) v7
        · exact e 8 (by omega) z
      obtain ⟨i, hi, rfl⟩ := of_sIn (q8 v8)
      rw [b_step n s h (by omega : i < 2), Option.bind_some, sIn_o 2 (by omega), decide_eq_true (by omega), sGd_true, ix_o (by omega), e2.2.2.2.2.1 i (by omega)]; exact yes _
    · rw [decide_eq_false c1, if_pos (show oB false = 0 from rfl)]
      by_cases l1 : x1 < 0
      · rw [if_pos l1]; exact FcI_no hI' 2 (by decide) rfl rfl
      · have l2 : ¬ x1 ≤ 8 := fun z => c1 ⟨by rw [i32_lt] at l1; omega, by have := i32_le.mp z; omega⟩
        rw [if_neg l1, if_neg l2]; exact FcI_no hI' 2 (by decide) rfl rfl
end SA
