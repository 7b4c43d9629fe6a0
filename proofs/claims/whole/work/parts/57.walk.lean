/-! Walkers, both sides. -/
def WrW (h g : sHp) (R T K : Nat) : Prop := K ≤ 2 ∧ h.1 2 16 = o K ∧ g.1 0 26 = o K ∧ ∀ k, k < K → (∃ t, t < T ∧ h.1 17 k = o t ∧ g.1 21 k = o t) ∧ ∀ j, j < 3 → ∃ a, a < R ∧ h.1 18 (3 * k + j) = o a ∧ g.1 22 (3 * k + j) = o a
theorem Lk_at {g g' : sHp} (hL : Lk g g') {j m : Nat} (hj : j ≠ 25 ∧ j ≠ 26 ∧ j ≠ 27 ∧ j ≠ 28 ∧ j ≠ 29) (h0 : ¬ (j = 0 ∧ (m = 32 ∨ m = 38))) : g'.1 j m = g.1 j m := hL.1 j m hj.1 hj.2.1 hj.2.2.1 hj.2.2.2.1 hj.2.2.2.2 h0
theorem M_step125 {n : Nat} {p1 p2 p3 : Int32} {X : Int32 × sHp → Option sHp} {g : sHp} {i t p a : Nat} (hi2 : i < 2) (ht6 : t < 6) (h36 : 3 * i + p < 6) (r2 : g.1 22 (3 * i + p) = o a) : K_M_turn_125 n p1 p2 p3 X (o i) (o t) (o p) (o i) g = X (o (i + 1), pI (pI g 28 i (o p)) 25 t (o a)) := by
  have ei2 : (3 : Int32) * o i + o p = o (3 * i + p) := by
    show o 3 * o i + o p = _
    rw [o_mul, o_add]
  have e28 : (pI g 28 i (o p)).1 28 i = o p := by rw [pI_i, if_pos ⟨rfl, rfl⟩]
  unfold K_M_turn_125
  rw [sIn_o 2 (by omega), decide_eq_true hi2, sGd_true, sGd_true, ix_o (by omega : i < 2147483648), e28, ei2, sIn_o 6 (by omega), decide_eq_true h36, sGd_true, sIn_o 6 (by omega), decide_eq_true ht6, sGd_true, ix_o (by omega : t < 2147483648), ix_o (by omega : 3 * i + p < 2147483648), r2, show o i + 1 = o (i + 1) from o_add i 1]
theorem walk_both {n R T K : Nat} (hR : R ≤ 6) (hT : T ≤ 6) (p1 p2 p3 : Int32) : ∀ d i N (h g : sHp) (s : Int64) (r : Nat → Nat), i + d = K → d < N → h.2 1 4 = s → Scr g s → Rk s r → sT s → WrW h g R T K → dg s 20 = 0 → (∀ k, k < 2 → dg s (16 + k) < 3) →
    ∃ s' g' r', sFx (F_E_stepWalkers_2 n) N (o i, h) = some (pL h 1 4 s') ∧ sFx (F_M_turn_58 n p1 p2 p3) N (o i, g) = K_M_turn_156 n p1 p2 p3 g' ∧ Scr g' s' ∧ Lk g g' ∧ Rk s' r' ∧ sT s' ∧ dg s' 20 = 0 ∧ (∀ k, k < 2 → dg s' (16 + k) < 3) ∧ dg s' 0 = dg s 0 := by
  intro d
  induction d with
  | zero =>
    intro i N h g s r hi hN hnow hg hr hs hW h20 hst
    obtain ⟨hK, u1, u2, -⟩ := hW
    obtain ⟨N, rfl⟩ : ∃ M, N = M + 1 := ⟨N - 1, by omega⟩
    refine ⟨s, g, r, ?_, ?_, hg, Lk_refl g, hr, hs, h20, hst, rfl⟩
    · rw [sFx_s]
      unfold F_E_stepWalkers_2
      dsimp only
      rw [u1, if_pos ((o_le (by omega) (by omega)).mpr (by omega)), ← hnow, pL_same]
    · rw [sFx_s]
      unfold F_M_turn_58
      dsimp only
      rw [u2, if_pos ((o_le (by omega) (by omega)).mpr (by omega))]
  | succ d ih =>
    intro i N h g s r hi hN hnow hg hr hs hW h20 hst
    have hW' := hW
    obtain ⟨hK, u1, u2, hk⟩ := hW
    obtain ⟨N, rfl⟩ : ∃ M, N = M + 1 := ⟨N - 1, by omega⟩
    have hlt : ¬ o K ≤ o i := fun z => by have := (o_le (by omega) (by omega)).mp z; omega
    have hi2 : i < 2 := by omega
    obtain ⟨⟨t, ht, t1, t2⟩, hrt⟩ := hk i (by omega)
    have ht6 : t < 6 := by omega
    have hpl := pl_lt s ht6
    have e1 : o i + 1 = o (i + 1) := o_add i 1
    have q6 : (6 : Int32) ≤ o (dg s (1 + t)) ↔ 6 ≤ dg s (1 + t) := o_le (by omega : 6 < 2147483648) (show pl s t < 2147483648 by omega)
    have z38 : o (dg s 20) = (0 : Int32) := by rw [h20]; rfl
    by_cases h6 : 6 ≤ dg s (1 + t)
    · obtain ⟨s', g', r', a1, a2, a3⟩ := ih (i + 1) N h g s r (by omega) (by omega) hnow hg hr hs hW' h20 hst
      refine ⟨s', g', r', ?_, ?_, a3⟩
      · rw [sFx_s]
        generalize sFx (F_E_stepWalkers_2 n) N = X at a1 ⊢
        unfold F_E_stepWalkers_2
        dsimp only
        rw [u1, if_neg hlt, sIn_o 2 (by omega), decide_eq_true hi2, sGd_true, ix_o (by omega), t1, hnow, b_place n s h ht6]
        show (if (6 : Int32) ≤ o (dg s (1 + t)) then _ else _) = _
        rw [if_pos (q6.mpr h6), e1]
        exact a1
      · rw [sFx_s]
        generalize sFx (F_M_turn_58 n p1 p2 p3) N = X at a2 ⊢
        unfold F_M_turn_58
        dsimp only
        rw [u2, if_neg hlt, hg.2.2.2.2.2.2, if_pos z38, sIn_o 2 (by omega), decide_eq_true hi2, sGd_true, ix_o (by omega : i < 2147483648), t2, sIn_o 6 (by omega), decide_eq_true ht6, sGd_true, ix_o (by omega : t < 2147483648), hg.2.1 t ht6, if_pos (q6.mpr h6), e1]
        exact a2
    · -- a step
      generalize hp : (if dg s (16 + i) = 2 then 0 else dg s (16 + i) + 1) = p
      have hp3 : p < 3 := by have := hst i hi2; rw [← hp]; split <;> omega
      obtain ⟨a, ha, r1, r2⟩ := hrt p hp3
      have hv1 : p < 2 ^ fw (16 + i) := by rw [(fs_step i hi2).2]; show p < 4; omega
      have hv2 : a < 2 ^ fw (1 + t) := by rw [(fs_place t ht6).2]; show a < 16; omega
      have hS1 : Scr (pI g 28 i (o p)) (dW s (16 + i) p) := Scr_step hg hi2 (by omega)
      have hS2 : Scr (pI (pI g 28 i (o p)) 25 t (o a)) (dW (dW s (16 + i) p) (1 + t) a) := Scr_place hS1 ht6 (by omega)
      have hL2 : Lk g (pI (pI g 28 i (o p)) 25 t (o a)) := Lk_pI (Lk_pI (Lk_refl g) (by omega)) (by omega)
      have hR2 : Rk (dW (dW s (16 + i) p) (1 + t) a) r := Rk_put (Rk_keep hr (by omega) (by omega) hv1) ht6 (by omega)
      have hs2 : sT (dW (dW s (16 + i) p) (1 + t) a) := sT_dW (by omega) (sT_dW (by omega) hs)
      have dgs : ∀ j, j < 21 → j ≠ 1 + t → dg (dW (dW s (16 + i) p) (1 + t) a) j = if j = 16 + i then p else dg s j := fun j hj hn => by
        rw [dg_dW _ (by omega) hj hv2, if_neg hn, dg_dW s (by omega) hj hv1]
      have hW2 : WrW (pL h 1 4 (dW (dW s (16 + i) p) (1 + t) a)) (pI (pI g 28 i (o p)) 25 t (o a)) R T K := by
        refine ⟨hK, u1, by rw [pI_i, if_neg (by omega), pI_i, if_neg (by omega)]; exact u2, fun k hk' => ?_⟩
        obtain ⟨⟨t', y1, y2, y3⟩, y4⟩ := hk k hk'
        refine ⟨⟨t', y1, y2, by rw [pI_i, if_neg (by omega), pI_i, if_neg (by omega)]; exact y3⟩, fun j hj => ?_⟩
        obtain ⟨a', z1, z2, z3⟩ := y4 j hj
        exact ⟨a', z1, z2, by rw [pI_i, if_neg (by omega), pI_i, if_neg (by omega)]; exact z3⟩
      obtain ⟨s', g', r', a1, a2, a3, a4, a5, a6, a7, a8, a9⟩ := ih (i + 1) N (pL h 1 4 (dW (dW s (16 + i) p) (1 + t) a)) (pI (pI g 28 i (o p)) 25 t (o a)) _ r (by omega) (by omega) (pL_at1 _ _ _ _) hS2 hR2 hs2 hW2 (by rw [dgs 20 (by omega) (by omega), if_neg (by omega)]; exact h20) (fun k hk' => by
        rw [dgs (16 + k) (by omega) (by omega)]
        split
        · exact hp3
        · exact hst k hk')
      rw [pL_pL] at a1
      have q2 : (2 : Int32) ≤ o (dg s (16 + i)) ↔ dg s (16 + i) = 2 := by
        have hh := hst i hi2
        rw [show (2 : Int32) = o 2 from rfl, o_le (by omega) (by omega)]; omega
      have q2' : o (dg s (16 + i)) = (2 : Int32) ↔ dg s (16 + i) = 2 := o_inj (by have := hst i hi2; omega) (by omega : 2 < 2147483648)
      have ei : o i * 3 + o p = o (3 * i + p) := by
        show o i * o 3 + o p = _
        rw [o_mul, o_add, Nat.mul_comm]
      have ei2 : (3 : Int32) * o i + o p = o (3 * i + p) := by
        show o 3 * o i + o p = _
        rw [o_mul, o_add]
      have h36 : 3 * i + p < 6 := by omega
      refine ⟨s', g', r', ?_, ?_, a3, Lk_trans hL2 a4, a5, a6, a7, a8, by rw [a9, dgs 0 (by omega) (by omega), if_neg (by omega)]⟩
      · rw [sFx_s]
        generalize sFx (F_E_stepWalkers_2 n) N = X at a1 ⊢
        have kk : K_E_stepWalkers_57 n X (o i) (o t) (o p) h = some (pL h 1 4 s') := by
          unfold K_E_stepWalkers_57
          rw [hnow, b_wstep n s h hi2 p]
          show sGd (sIn (o i * 3 + o p) 6) _ = _
          rw [ei, sIn_o 6 (by omega), decide_eq_true h36, sGd_true, ix_o (by omega), r1, b_wplace n _ _ ht6 a]
          show X (o i + 1, _) = _
          rw [e1, pL_pL]
          exact a1
        unfold F_E_stepWalkers_2
        dsimp only
        rw [u1, if_neg hlt, sIn_o 2 (by omega), decide_eq_true hi2, sGd_true, ix_o (by omega), t1, hnow, b_place n s h ht6, b_step n s h hi2]
        show (if (6 : Int32) ≤ o (dg s (1 + t)) then _ else if (2 : Int32) ≤ o (dg s (16 + i)) then _ else _) = _
        rw [if_neg (fun z => h6 (q6.mp z))]
        by_cases h2 : dg s (16 + i) = 2
        · rw [if_pos (q2.mpr h2)]
          rw [if_pos h2] at hp
          rw [← hp] at kk
          exact kk
        · rw [if_neg (fun z => h2 (q2.mp z)), show o (dg s (16 + i)) + 1 = o (dg s (16 + i) + 1) from o_add _ 1]
          rw [if_neg h2] at hp
          rw [← hp] at kk
          exact kk
      · rw [sFx_s]
        generalize sFx (F_M_turn_58 n p1 p2 p3) N = X at a2 ⊢
        have kk : K_M_turn_125 n p1 p2 p3 X (o i) (o t) (o p) (o i) g = K_M_turn_156 n p1 p2 p3 g' := by
          rw [M_step125 hi2 ht6 h36 r2]
          exact a2
        unfold F_M_turn_58
        dsimp only
        rw [u2, if_neg hlt, hg.2.2.2.2.2.2, if_pos z38, sIn_o 2 (by omega), decide_eq_true hi2, sGd_true, ix_o (by omega : i < 2147483648), t2, sIn_o 6 (by omega), decide_eq_true ht6, sGd_true, ix_o (by omega : t < 2147483648), hg.2.1 t ht6, if_neg (fun z => h6 (q6.mp z)), sGd_true, hg.2.2.2.2.1 i hi2]
        by_cases h2 : dg s (16 + i) = 2
        · rw [if_pos (q2'.mpr h2), show (0 : Int32) = o 0 from rfl]
          rw [if_pos h2] at hp
          rw [← hp] at kk
          exact kk
        · rw [if_neg (fun z => h2 (q2'.mp z)), sGd_true, show o (dg s (16 + i)) + 1 = o (dg s (16 + i) + 1) from o_add _ 1]
          rw [if_neg h2] at hp
          rw [← hp] at kk
          exact kk
