/-! The reference lays its first state. -/
section FM
variable {w : Wp} {h g : sHp} {n : Nat}
theorem mF3 {g0 : sHp} (h29 : g0.1 0 29 = o w.Q) (hQ : w.Q ≤ 2) (hC : ∀ k, k < w.Q → g0.1 24 k = o (w.C k)) {s : Int64} (hs : isF w s) : ∀ d i M (g : sHp), i + d = 2 → d < M → Lk g0 g → g.1 0 32 = o (dg s 0) → g.1 0 38 = o (dg s 20) → (∀ t, t < 6 → g.1 25 t = o (dg s (1 + t))) → (∀ t, t < 6 → g.1 26 t = o (dg s (7 + t))) → (∀ t, t < 3 → g.1 27 t = o (dg s (13 + t))) → (∀ t, t < i → g.1 28 t = o (dg s (16 + t))) → (∀ t, t < i → g.1 29 t = o (dg s (18 + t))) → ∃ g', sFx (F_M_layFirst_116 n) M (o i, g) = some g' ∧ Scr g' s ∧ Lk g0 g' := by
  intro d
  induction d with
  | zero =>
    intro i M g hi hM hL a1 a2 a3 a4 a5 a6 a7
    obtain ⟨M, rfl⟩ : ∃ m, M = m + 1 := ⟨M - 1, by omega⟩
    obtain rfl : i = 2 := by omega
    exact ⟨g, rfl, ⟨a1, a3, a4, a5, a6, a7, a2⟩, hL⟩
  | succ d ih =>
    intro i M g hi hM hL a1 a2 a3 a4 a5 a6 a7
    obtain ⟨M, rfl⟩ : ∃ m, M = m + 1 := ⟨M - 1, by omega⟩
    have z16 : dg s (16 + i) = 0 := by
      rw [hs.2 _ (by omega)]; unfold fD
      rw [if_neg (by omega), if_neg (by omega), if_neg (by omega), if_neg (by omega), if_pos (by omega)]
    have z18 : dg s (18 + i) = if i < w.Q then w.C i else 0 := by
      rw [hs.2 _ (by omega)]; unfold fD
      rw [if_neg (by omega), if_neg (by omega), if_neg (by omega), if_neg (by omega), if_neg (by omega), if_pos (by omega), show 18 + i - 18 = i by omega]
    obtain ⟨g', e, e2⟩ := ih (i + 1) M (pI (pI g 28 i 0) 29 i (o (dg s (18 + i)))) (by omega) (by omega) (Lk_pI (Lk_pI hL (by omega)) (by omega)) (by rw [pI_i, if_neg (by omega), pI_i, if_neg (by omega)]; exact a1) (by rw [pI_i, if_neg (by omega), pI_i, if_neg (by omega)]; exact a2)
      (fun t ht => by rw [pI_i, if_neg (by omega), pI_i, if_neg (by omega)]; exact a3 t ht) (fun t ht => by rw [pI_i, if_neg (by omega), pI_i, if_neg (by omega)]; exact a4 t ht) (fun t ht => by rw [pI_i, if_neg (by omega), pI_i, if_neg (by omega)]; exact a5 t ht)
      (fun t ht => by
        rw [pI_i, if_neg (by omega), pI_i]
        by_cases hq : t = i
        · subst hq; rw [if_pos ⟨rfl, rfl⟩, z16]; rfl
        · rw [if_neg (by omega)]; exact a6 t (by omega))
      (fun t ht => by
        rw [pI_i]
        by_cases hq : t = i
        · subst hq; rw [if_pos ⟨rfl, rfl⟩]
        · rw [if_neg (by omega), pI_i, if_neg (by omega)]; exact a7 t (by omega))
    refine ⟨g', ?_, e2⟩
    have h2 : ¬ (2 : Int32) ≤ o i := fun z => by have := (o_le (by omega : 2 < 2147483648) (by omega)).mp z; omega
    have g29 : g.1 0 29 = o w.Q := by rw [Lk_at hL (by omega) (by omega)]; exact h29
    have hin : sIn (o i) 2 = true := by rw [sIn_o 2 (by omega), decide_eq_true (show i < 2 by omega)]
    rw [sFx_s]
    generalize sFx (F_M_layFirst_116 n) M = X at e ⊢
    unfold F_M_layFirst_116; dsimp only
    simp only [if_neg h2, hin, sGd_true, g29, ix_o (show i < 2147483648 by omega), show o i + 1 = o (i + 1) from o_add i 1]
    by_cases hq : i < w.Q
    · rw [if_neg (fun z => by have := (o_le (by omega) (by omega)).mp z; omega), Lk_at hL (by omega) (by omega), hC i hq]
      rw [z18, if_pos hq] at e
      exact e
    · rw [if_pos ((o_le (by omega) (by omega)).mpr (by omega))]
      rw [z18, if_neg hq] at e
      exact e
theorem mF2 {g0 : sHp} (hn : 8 ≤ n) (h29 : g0.1 0 29 = o w.Q) (hQ : w.Q ≤ 2) (hC : ∀ k, k < w.Q → g0.1 24 k = o (w.C k)) (h7 : g0.1 0 7 = o w.N) (hN : w.N ≤ 3) (hF : ∀ k, k < w.N → g0.1 6 k = o (w.F k)) {s : Int64} (hs : isF w s) : ∀ d i M (g : sHp), i + d = 3 → d < M → Lk g0 g → g.1 0 32 = o (dg s 0) → g.1 0 38 = o (dg s 20) → (∀ t, t < 6 → g.1 25 t = o (dg s (1 + t))) → (∀ t, t < 6 → g.1 26 t = o (dg s (7 + t))) → (∀ t, t < i → g.1 27 t = o (dg s (13 + t))) → ∃ g', sFx (F_M_layFirst_79 n) M (o i, g) = some g' ∧ Scr g' s ∧ Lk g0 g' := by
  intro d
  induction d with
  | zero =>
    intro i M g hi hM hL a1 a2 a3 a4 a5
    obtain ⟨M, rfl⟩ : ∃ m, M = m + 1 := ⟨M - 1, by omega⟩
    obtain rfl : i = 3 := by omega
    obtain ⟨g', e, e2⟩ := mF3 (n := n) h29 hQ hC hs 2 0 n g (by omega) (by omega) hL a1 a2 a3 a4 a5 (fun t ht => absurd ht (by omega)) (fun t ht => absurd ht (by omega))
    exact ⟨g', e, e2⟩
  | succ d ih =>
    intro i M g hi hM hL a1 a2 a3 a4 a5
    obtain ⟨M, rfl⟩ : ∃ m, M = m + 1 := ⟨M - 1, by omega⟩
    have z13 : dg s (13 + i) = if i < w.N then w.F i else 0 := by
      rw [hs.2 _ (by omega)]; unfold fD
      rw [if_neg (by omega), if_neg (by omega), if_neg (by omega), if_pos (by omega), show 13 + i - 13 = i by omega]
    obtain ⟨g', e, e2⟩ := ih (i + 1) M (pI g 27 i (o (dg s (13 + i)))) (by omega) (by omega) (Lk_pI hL (by omega)) (by rw [pI_i, if_neg (by omega)]; exact a1) (by rw [pI_i, if_neg (by omega)]; exact a2)
      (fun t ht => by rw [pI_i, if_neg (by omega)]; exact a3 t ht) (fun t ht => by rw [pI_i, if_neg (by omega)]; exact a4 t ht)
      (fun t ht => by
        rw [pI_i]
        by_cases hq : t = i
        · subst hq; rw [if_pos ⟨rfl, rfl⟩]
        · rw [if_neg (by omega)]; exact a5 t (by omega))
    refine ⟨g', ?_, e2⟩
    have h2 : ¬ (3 : Int32) ≤ o i := fun z => by have := (o_le (by omega : 3 < 2147483648) (by omega)).mp z; omega
    have g7 : g.1 0 7 = o w.N := by rw [Lk_at hL (by omega) (by omega)]; exact h7
    have hin : sIn (o i) 3 = true := by rw [sIn_o 3 (by omega), decide_eq_true (show i < 3 by omega)]
    rw [sFx_s]
    generalize sFx (F_M_layFirst_79 n) M = X at e ⊢
    unfold F_M_layFirst_79; dsimp only
    simp only [if_neg h2, hin, sGd_true, g7, ix_o (show i < 2147483648 by omega), show o i + 1 = o (i + 1) from o_add i 1]
    by_cases hq : i < w.N
    · rw [if_neg (fun z => by have := (o_le (by omega) (by omega)).mp z; omega), Lk_at hL (by omega) (by omega), hF i hq]
      rw [z13, if_pos hq] at e
      exact e
    · rw [if_pos ((o_le (by omega) (by omega)).mpr (by omega))]
      rw [z13, if_neg hq] at e
      exact e
theorem mF1 {g0 : sHp} (hn : 8 ≤ n) (h29 : g0.1 0 29 = o w.Q) (hQ : w.Q ≤ 2) (hC : ∀ k, k < w.Q → g0.1 24 k = o (w.C k)) (h7 : g0.1 0 7 = o w.N) (hN : w.N ≤ 3) (hF : ∀ k, k < w.N → g0.1 6 k = o (w.F k)) (h4 : g0.1 0 4 = o w.T) (hT : w.T ≤ 6) (hP : ∀ t, t < w.T → g0.1 4 t = o (w.P t)) (hK : ∀ t, t < w.T → w.Kd t < 8 ∧ g0.1 3 t = o (w.Kd t)) {s : Int64} (hs : isF w s) : ∀ d i M (g : sHp), i + d = 6 → d < M → Lk g0 g → g.1 0 32 = o (dg s 0) → g.1 0 38 = o (dg s 20) → (∀ t, t < i → g.1 25 t = o (dg s (1 + t))) → (∀ t, t < i → g.1 26 t = o (dg s (7 + t))) → ∃ g', sFx (F_M_layFirst_12 n) M (o i, g) = some g' ∧ Scr g' s ∧ Lk g0 g' := by
  intro d
  induction d with
  | zero =>
    intro i M g hi hM hL a1 a2 a3 a4
    obtain ⟨M, rfl⟩ : ∃ m, M = m + 1 := ⟨M - 1, by omega⟩
    obtain rfl : i = 6 := by omega
    obtain ⟨g', e, e2⟩ := mF2 (n := n) hn h29 hQ hC h7 hN hF hs 3 0 n g (by omega) (by omega) hL a1 a2 a3 a4 (fun t ht => absurd ht (by omega))
    exact ⟨g', e, e2⟩
  | succ d ih =>
    intro i M g hi hM hL a1 a2 a3 a4
    obtain ⟨M, rfl⟩ : ∃ m, M = m + 1 := ⟨M - 1, by omega⟩
    have hi6 : i < 6 := by omega
    have z1 : dg s (1 + i) = if i < w.T then w.P i else 0 := by
      rw [hs.2 _ (by omega)]; unfold fD
      rw [if_neg (by omega), if_pos (by omega), show 1 + i - 1 = i by omega]
    have z7 : dg s (7 + i) = if i < w.T ∧ 4 ≤ w.Kd i then 1 else 0 := by
      rw [hs.2 _ (by omega)]; unfold fD
      rw [if_neg (by omega), if_neg (by omega), if_pos (by omega), show 7 + i - 7 = i by omega]
    obtain ⟨g', e, e2⟩ := ih (i + 1) M (pI (pI g 25 i (o (dg s (1 + i)))) 26 i (o (dg s (7 + i)))) (by omega) (by omega) (Lk_pI (Lk_pI hL (by omega)) (by omega)) (by rw [pI_i, if_neg (by omega), pI_i, if_neg (by omega)]; exact a1) (by rw [pI_i, if_neg (by omega), pI_i, if_neg (by omega)]; exact a2)
      (fun t ht => by
        rw [pI_i, if_neg (by omega), pI_i]
        by_cases hq : t = i
        · subst hq; rw [if_pos ⟨rfl, rfl⟩]
        · rw [if_neg (by omega)]; exact a3 t (by omega))
      (fun t ht => by
        rw [pI_i]
        by_cases hq : t = i
        · subst hq; rw [if_pos ⟨rfl, rfl⟩]
        · rw [if_neg (by omega), pI_i, if_neg (by omega)]; exact a4 t (by omega))
    refine ⟨g', ?_, e2⟩
    have h2 : ¬ (6 : Int32) ≤ o i := fun z => by have := (o_le (by omega : 6 < 2147483648) (by omega)).mp z; omega
    have g4 : g.1 0 4 = o w.T := by rw [Lk_at hL (by omega) (by omega)]; exact h4
    have hin : sIn (o i) 6 = true := by rw [sIn_o 6 (by omega), decide_eq_true hi6]
    rw [sFx_s]
    generalize sFx (F_M_layFirst_12 n) M = X at e ⊢
    unfold F_M_layFirst_12 K_M_layFirst_41; dsimp only
    simp only [if_neg h2, hin, sGd_true, g4, ix_o (show i < 2147483648 by omega), show o i + 1 = o (i + 1) from o_add i 1]
    by_cases hq : i < w.T
    · have nl : ¬ o w.T ≤ o i := fun z => by have := (o_le (by omega) (by omega)).mp z; omega
      have g25 : ∀ x, (pI g 25 i x).1 0 4 = o w.T := fun x => by rw [pI_i, if_neg (by omega)]; exact g4
      simp only [if_neg nl]
      obtain ⟨k0, k1⟩ := hK i hq
      rw [show g.1 4 i = o (w.P i) by rw [Lk_at hL (by omega) (by omega), hP i hq], show g.1 3 i = o (w.Kd i) by rw [Lk_at hL (by omega) (by omega), k1]]
      rw [z1, if_pos hq, z7] at e
      have l4 : o (w.Kd i) < (4 : Int32) ↔ w.Kd i < 4 := o_lt (by omega) (by omega : 4 < 2147483648)
      by_cases z : 4 ≤ w.Kd i
      · rw [if_neg (fun y => by have := l4.mp y; omega)]
        rw [if_pos ⟨hq, z⟩] at e
        exact e
      · rw [if_pos (l4.mpr (by omega))]
        rw [if_neg (fun y => z y.2)] at e
        exact e
    · have nl : o w.T ≤ o i := (o_le (by omega) (by omega)).mpr (by omega)
      simp only [if_pos nl]
      rw [z1, if_neg hq, z7, if_neg (fun y => hq y.1)] at e
      exact e
theorem M_first (hW : Wr w h g) (hn : 8 ≤ n) {s : Int64} (hs : isF w s) {g1 : sHp} (hk : Kg g g1) : ∃ g', J_M_layFirst n g1 = some g' ∧ Scr g' s ∧ Lk g1 g' := by
  have hT6 := hW.p.2.2.1.1
  have hQ := hW.p.2.2.2.2.2.1
  have hW' := Wr_keep (Kc_refl h) hk hW
  have L0 : Lk g1 (pI (pI g1 0 32 0) 0 38 0) := Lk_pI (Lk_pI (Lk_refl g1) (by omega)) (by omega)
  have a0 : dg s 0 = 0 := hs.2 0 (by omega)
  have a20 : dg s 20 = 0 := hs.2 20 (by omega)
  exact mF1 hn hW'.p.2.2.2.2.2.2.2.1 hQ (fun k hk => (hW'.a.ct k hk).2.2) hW'.a.nu.2 hW'.a.n3 (fun k hk => (hW'.a.fn k hk).2.2) hW'.a.th.2 hT6 (fun k hk => (hW'.a.pl k hk).2.2) (fun k hk => ⟨(hW'.a.kd k hk).1, (hW'.a.kd k hk).2.2⟩) hs 6 0 n _ (by omega) (by omega) L0 (by rw [pI_i, if_neg (by omega), pI_i, if_pos ⟨rfl, rfl⟩, a0]; rfl) (by rw [pI_i, if_pos ⟨rfl, rfl⟩, a20]; rfl) (fun t ht => absurd ht (by omega)) (fun t ht => absurd ht (by omega))
end FM
