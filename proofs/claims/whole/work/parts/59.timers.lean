/-! Timers, both sides. -/
/-- the texts and marks that both sides have made -/
theorem tim_both {n U Q : Nat} (hn : 8 ≤ n) {mo : Nat → Nat} (z1 : Int64) (v1 v2 v3 : Int32) : ∀ d i N (h g : sHp) (s : Int64) (r : Nat → Nat) (k : Nat), i + d = Q → d < N → h.2 1 4 = s → Scr g s → Rk s r → sT s → WrR h g mo U → WrM h g mo → WrT h g U Q → Txt h g k → k + d ≤ 3 →
    ∃ s' h' g' r' k' mk, sFx (F_E_take_83 n z1 v1 v2 v3) N (o i, h) = some (s', h') ∧ sFx (F_M_turn_159 n v1 v2 v3) N (o i, g) = some g' ∧ h'.2 1 4 = s' ∧ Scr g' s' ∧ Rk s' r' ∧ sT s' ∧ Txt h' g' k' ∧ k' ≤ 3 ∧ Ek h h' ∧ Tk g g' ∧ h'.1 1 3 = h.1 1 3 ||| mk ∧ g'.1 0 41 = g.1 0 41 ||| mk ∧ (Vb mo s → Vb mo s') := by
  intro d
  induction d with
  | zero =>
    intro i N h g s r k hi hN hnow hg hr hs hR hM hT hX hk
    obtain ⟨hQ, u1, u2, -⟩ := hT
    obtain ⟨N, rfl⟩ : ∃ M, N = M + 1 := ⟨N - 1, by omega⟩
    refine ⟨s, h, g, r, k, 0, ?_, ?_, hnow, hg, hr, hs, hX, by omega, Ek_refl h, Tk_refl g, by simp, by simp, fun z => z⟩
    · rw [sFx_s]
      unfold F_E_take_83
      dsimp only
      rw [u1, if_pos ((o_le (by omega) (by omega)).mpr (by omega)), hnow]
    · rw [sFx_s]
      unfold F_M_turn_159
      dsimp only
      rw [u2, if_pos ((o_le (by omega) (by omega)).mpr (by omega))]
  | succ d ih =>
    intro i N h g s r k hi hN hnow hg hr hs hR hM hT hX hk
    have hT' := hT
    obtain ⟨hQ, u1, u2, hq⟩ := hT
    obtain ⟨N, rfl⟩ : ∃ M, N = M + 1 := ⟨N - 1, by omega⟩
    have hlt : ¬ o Q ≤ o i := fun z => by have := (o_le (by omega) (by omega)).mp z; omega
    have hi2 : i < 2 := by omega
    have e1 : o i + 1 = o (i + 1) := o_add i 1
    have h8 := dV_lt s
    have z38 : o (dg s 20) = (0 : Int32) ↔ dg s 20 = 0 := o_inj (by omega) (by omega : 0 < 2147483648)
    by_cases h20 : dg s 20 = 0
    · have hc16 := dC_lt s hi2
      obtain ⟨q, hq1, t1, t2⟩ := hq i (by omega)
      have hU := hR.1
      have over0 : (if dg s 20 = 0 then (0 : Int32) else 1) = 0 := by rw [if_pos h20]
      by_cases hc : dg s (18 + i) = 0
      · obtain ⟨s', h', g', r', k', mk, a1, a2, a3⟩ := ih (i + 1) N h g s r k (by omega) (by omega) hnow hg hr hs hR hM hT' hX (by omega)
        refine ⟨s', h', g', r', k', mk, ?_, ?_, a3⟩
        · rw [sFx_s]
          generalize sFx (F_E_take_83 n z1 v1 v2 v3) N = X at a1 ⊢
          unfold F_E_take_83 J_E_runsOut
          dsimp only
          rw [u1, if_neg hlt, hnow, b_over, over0, sIn_o 2 (by omega), decide_eq_true hi2, b_count n s h hi2, hc]
          simp only [Option.bind_some, sGd_true, if_true, if_pos (by decide : o 0 = (0 : Int32)), e1]
          exact a1
        · rw [sFx_s]
          generalize sFx (F_M_turn_159 n v1 v2 v3) N = X at a2 ⊢
          unfold F_M_turn_159
          dsimp only
          rw [u2, if_neg hlt, hg.2.2.2.2.2.2, if_pos (z38.mpr h20), sIn_o 2 (by omega), decide_eq_true hi2, sGd_true, ix_o (by omega), hg.2.2.2.2.2.1 i hi2, hc, if_pos (by decide : o 0 ≤ (0 : Int32)), e1]
          exact a2
      · -- the count falls
        have hv : dg s (18 + i) - 1 < 16 := by omega
        have hS1 : Scr (pI g 29 i (o (dg s (18 + i) - 1))) (dW s (18 + i) (dg s (18 + i) - 1)) := Scr_count hg hi2 hv
        have hR1 : Rk (dW s (18 + i) (dg s (18 + i) - 1)) r := Rk_keep hr (by omega) (by omega) (by rw [(fs_count i hi2).2]; exact hv)
        have hs1 : sT (dW s (18 + i) (dg s (18 + i) - 1)) := sT_dW (by omega) hs
        have hV1 : Vb mo s → Vb mo (dW s (18 + i) (dg s (18 + i) - 1)) := fun z => Vb_dW z (by omega) (by rw [(fs_count i hi2).2]; exact hv) (by omega) (by omega) (by omega)
        have hE1 : Ek h (pL h 1 4 (dW s (18 + i) (dg s (18 + i) - 1))) := Ek_pL h _
        have hT1 : Tk g (pI g 29 i (o (dg s (18 + i) - 1))) := Tk_pI g _ (by omega)
        have hX1 : Txt (pL h 1 4 (dW s (18 + i) (dg s (18 + i) - 1))) (pI g 29 i (o (dg s (18 + i) - 1))) k := ⟨hX.1, by rw [pI_i, if_neg (by omega)]; exact hX.2.1, fun j hj => by rw [pI_i, if_neg (by omega)]; exact hX.2.2 j hj⟩
        have em : o (dg s (18 + i)) - 1 = o (dg s (18 + i) - 1) := o_sub (b := 1) (by omega)
        have nz : ¬ o (dg s (18 + i)) = (0 : Int32) := fun z => hc ((o_inj (by omega) (by omega : 0 < 2147483648)).mp z)
        have nl : ¬ o (dg s (18 + i)) ≤ (0 : Int32) := fun z => hc (by have := (o_le (by omega) (by omega : 0 < 2147483648)).mp z; omega)
        have q1 : o (dg s (18 + i)) = (1 : Int32) ↔ dg s (18 + i) = 1 := o_inj (by omega) (by omega : 1 < 2147483648)
        have q0 : o (dg s (18 + i) - 1) = (0 : Int32) ↔ dg s (18 + i) = 1 := by
          rw [show (0 : Int32) = o 0 from rfl, o_inj (by omega) (by omega)]; omega
        have m41 : (pI g 29 i (o (dg s (18 + i) - 1))).1 0 41 = g.1 0 41 := by rw [pI_i, if_neg (by omega)]
        have p29 : (pI g 29 i (o (dg s (18 + i) - 1))).1 29 i = o (dg s (18 + i) - 1) := by rw [pI_i, if_pos ⟨rfl, rfl⟩]
        have hn1 : (pL h 1 4 (dW s (18 + i) (dg s (18 + i) - 1))).2 1 4 = dW s (18 + i) (dg s (18 + i) - 1) := pL_at1 _ _ _ _
        have hd1 : (pL h 1 4 (dW s (18 + i) (dg s (18 + i) - 1))).1 1 3 = h.1 1 3 := rfl
        have hwc : J_B_withCount n s (o i) (o (dg s (18 + i) - 1)) h = some (dW s (18 + i) (dg s (18 + i) - 1)) := b_wcount n s h hi2 _
        generalize dW s (18 + i) (dg s (18 + i) - 1) = S1 at hV1 hS1 hR1 hs1 hE1 hX1 hn1 hd1 hwc
        generalize hH : pL h 1 4 S1 = H1 at hE1 hX1 hn1 hd1
        generalize hG : pI g 29 i (o (dg s (18 + i) - 1)) = G1 at hS1 hT1 hX1 m41 p29
        have hRr := WrR_keep hE1 hT1 hR
        have hMm := WrM_keep hE1 hT1 hM
        have hTt := WrT_keep hE1 hT1 hT'
        -- how both go on behind the count
        have goE : ∀ Y : Option (Int64 × sHp), (if dg s (18 + i) = 1 then (J_E_conditionsHold n (o q) H1).bind (fun v129 => if v129 = 0 then sFx (F_E_take_83 n z1 v1 v2 v3) N (o (i + 1), H1) else (J_E_doRule n (o q) H1).bind (fun v138 => sFx (F_E_take_83 n z1 v1 v2 v3) N (o (i + 1), v138))) else sFx (F_E_take_83 n z1 v1 v2 v3) N (o (i + 1), H1)) = Y → sFx (F_E_take_83 n z1 v1 v2 v3) (N + 1) (o i, h) = Y := by
          intro Y hY
          rw [sFx_s]
          generalize sFx (F_E_take_83 n z1 v1 v2 v3) N = X at hY ⊢
          rw [← hY]
          unfold F_E_take_83 J_E_runsOut
          dsimp only
          rw [u1, if_neg hlt, hnow, b_over, over0, sIn_o 2 (by omega), decide_eq_true hi2, b_count n s h hi2]
          simp only [Option.bind_some, sGd_true, if_true, if_neg nz, em, hwc, hH, e1, ix_o (show i < 2147483648 by omega), t1, q1]
          by_cases c1 : dg s (18 + i) = 1
          · simp only [if_pos c1, Option.bind_some, if_neg (by decide : ¬ (1 : Int32) = 0)]
          · simp only [if_neg c1, Option.bind_some, if_true]
        have goM : ∀ Y : Option sHp, (if dg s (18 + i) = 1 then (J_M_allSo n (o q) G1).bind (fun v129 => if v129 = 0 then sFx (F_M_turn_159 n v1 v2 v3) N (o (i + 1), G1) else (J_M_fire n (o q) G1).bind (fun v138 => sFx (F_M_turn_159 n v1 v2 v3) N (o (i + 1), v138))) else sFx (F_M_turn_159 n v1 v2 v3) N (o (i + 1), G1)) = Y → sFx (F_M_turn_159 n v1 v2 v3) (N + 1) (o i, g) = Y := by
          intro Y hY
          rw [sFx_s]
          generalize sFx (F_M_turn_159 n v1 v2 v3) N = X at hY ⊢
          rw [← hY]
          unfold F_M_turn_159
          dsimp only
          rw [u2, if_neg hlt, hg.2.2.2.2.2.2, if_pos (z38.mpr h20)]
          simp only [sIn_o 2 (show i < 2147483648 by omega), decide_eq_true hi2, sGd_true, ix_o (show i < 2147483648 by omega), hg.2.2.2.2.2.1 i hi2, if_neg nl, em, hG, p29, q0, t2, e1]
        by_cases c1 : dg s (18 + i) = 1
        · obtain ⟨cb, y1, y2⟩ := conds_both hn1 hS1 hRr.2.2.2.1 (hRr.2.2.2.2 q hq1) (by omega) hn
          simp only [if_pos c1, y1, y2, Option.bind_some] at goE goM
          cases cb with
          | false =>
            obtain ⟨s', h', g', r', k', mk, a1, a2, a3, a4, a5, a6, a7, a8, a9, a10, a11, a12, a13⟩ := ih (i + 1) N H1 G1 S1 r k (by omega) (by omega) hn1 hS1 hR1 hs1 hRr hMm hTt hX1 (by omega)
            exact ⟨s', h', g', r', k', mk, goE _ a1, goM _ a2, a3, a4, a5, a6, a7, a8, Ek_trans hE1 a9, Tk_trans hT1 a10, by rw [a11, hd1], by rw [a12, m41], fun z => a13 (hV1 z)⟩
          | true =>
            obtain ⟨⟨-, -, -, w4, -⟩, -, ⟨ce, e0, e3, e4, e5⟩⟩ := hRr.2.2.2.2 q hq1
            obtain ⟨H2, G2, S2, r2, f1, f2, f3, f4, f5, f6, f7, f8, f9, f10, f11, f12⟩ := fire_both hX1 (by omega) hn hn1 hS1 hR1 hs1 (by omega : q < 12) e0 e3 e4 w4 (fun t a b => (hMm t a b).1) (fun t a b => (hMm t a b).2) (fun j hj => (hRr.2.2.2.1 j hj).2) e5
            obtain ⟨s', h', g', r', k', mk, a1, a2, a3, a4, a5, a6, a7, a8, a9, a10, a11, a12, a13⟩ := ih (i + 1) N H2 G2 S2 r2 (k + 1) (by omega) (by omega) f3 f4 f5 f6 (WrR_keep f8 f9 hRr) (WrM_keep f8 f9 hMm) (WrT_keep f8 f9 hTt) f7 (by omega)
            rw [f1] at goE
            rw [f2] at goM
            refine ⟨s', h', g', r', k', jIshl 1 (o q) ||| mk, goE _ a1, goM _ a2, a3, a4, a5, a6, a7, a8, Ek_trans hE1 (Ek_trans f8 a9), Tk_trans hT1 (Tk_trans f9 a10), ?_, ?_, fun z => a13 (f12 (hV1 z))⟩
            · rw [a11, f10, hd1, Int32.or_assoc]
            · rw [a12, f11, m41, Int32.or_assoc]
        · simp only [if_neg c1] at goE goM
          obtain ⟨s', h', g', r', k', mk, a1, a2, a3, a4, a5, a6, a7, a8, a9, a10, a11, a12, a13⟩ := ih (i + 1) N H1 G1 S1 r k (by omega) (by omega) hn1 hS1 hR1 hs1 hRr hMm hTt hX1 (by omega)
          exact ⟨s', h', g', r', k', mk, goE _ a1, goM _ a2, a3, a4, a5, a6, a7, a8, Ek_trans hE1 a9, Tk_trans hT1 a10, by rw [a11, hd1], by rw [a12, m41], fun z => a13 (hV1 z)⟩
    · refine ⟨s, h, g, r, k, 0, ?_, ?_, hnow, hg, hr, hs, hX, by omega, Ek_refl h, Tk_refl g, by simp, by simp, fun z => z⟩
      · rw [sFx_s]
        unfold F_E_take_83
        dsimp only
        rw [u1, if_neg hlt, hnow, b_over, if_neg h20]
        simp only [Option.bind_some, if_neg (by decide : ¬ (1 : Int32) = 0)]
      · rw [sFx_s]
        unfold F_M_turn_159
        dsimp only
        rw [u2, if_neg hlt, hg.2.2.2.2.2.2, if_neg (fun z => h20 (z38.mp z))]
