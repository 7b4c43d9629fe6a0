/-! Effects, both sides. -/
theorem Scr_room {g : sHp} {s : Int64} (hg : Scr g s) {x : Nat} (hx : x < 8) : Scr (pI g 0 32 (o x)) (dW s 0 x) := by
  obtain ⟨a1, a2, a3, a4, a5, a6, a7⟩ := hg
  have e : ∀ j, j < 21 → dg (dW s 0 x) j = if j = 0 then x else dg s j := fun j hj => dg_dW s (by omega) hj hx
  refine ⟨?_, fun t ht => ?_, fun t ht => ?_, fun t ht => ?_, fun t ht => ?_, fun t ht => ?_, ?_⟩
  · rw [pI_i, if_pos ⟨rfl, rfl⟩, e 0 (by omega), if_pos rfl]
  · rw [pI_i, if_neg (by omega), e _ (by omega), if_neg (by omega)]; exact a2 t ht
  · rw [pI_i, if_neg (by omega), e _ (by omega), if_neg (by omega)]; exact a3 t ht
  · rw [pI_i, if_neg (by omega), e _ (by omega), if_neg (by omega)]; exact a4 t ht
  · rw [pI_i, if_neg (by omega), e _ (by omega), if_neg (by omega)]; exact a5 t ht
  · rw [pI_i, if_neg (by omega), e _ (by omega), if_neg (by omega)]; exact a6 t ht
  · rw [pI_i, if_neg (by omega), e _ (by omega), if_neg (by omega)]; exact a7
theorem Scr_over {g : sHp} {s : Int64} (hg : Scr g s) {x : Nat} (hx : x < 8) : Scr (pI g 0 38 (o x)) (dW s 20 x) := by
  obtain ⟨a1, a2, a3, a4, a5, a6, a7⟩ := hg
  have e : ∀ j, j < 21 → dg (dW s 20 x) j = if j = 20 then x else dg s j := fun j hj => dg_dW s (by omega) hj hx
  refine ⟨?_, fun t ht => ?_, fun t ht => ?_, fun t ht => ?_, fun t ht => ?_, fun t ht => ?_, ?_⟩
  · rw [pI_i, if_neg (by omega), e _ (by omega), if_neg (by omega)]; exact a1
  · rw [pI_i, if_neg (by omega), e _ (by omega), if_neg (by omega)]; exact a2 t ht
  · rw [pI_i, if_neg (by omega), e _ (by omega), if_neg (by omega)]; exact a3 t ht
  · rw [pI_i, if_neg (by omega), e _ (by omega), if_neg (by omega)]; exact a4 t ht
  · rw [pI_i, if_neg (by omega), e _ (by omega), if_neg (by omega)]; exact a5 t ht
  · rw [pI_i, if_neg (by omega), e _ (by omega), if_neg (by omega)]; exact a6 t ht
  · rw [pI_i, if_pos ⟨rfl, rfl⟩, e 20 (by omega), if_pos rfl]
theorem Scr_place {g : sHp} {s : Int64} (hg : Scr g s) {t0 x : Nat} (h0 : t0 < 6) (hx : x < 16) : Scr (pI g 25 t0 (o x)) (dW s (1 + t0) x) := by
  obtain ⟨a1, a2, a3, a4, a5, a6, a7⟩ := hg
  have e : ∀ j, j < 21 → dg (dW s (1 + t0) x) j = if j = 1 + t0 then x else dg s j := fun j hj => dg_dW s (by omega) hj (by rw [(fs_place t0 h0).2]; exact hx)
  refine ⟨?_, fun t ht => ?_, fun t ht => ?_, fun t ht => ?_, fun t ht => ?_, fun t ht => ?_, ?_⟩
  · rw [pI_i, if_neg (by omega), e _ (by omega), if_neg (by omega)]; exact a1
  · rw [pI_i, e _ (by omega)]
    by_cases hq : t = t0
    · subst hq; rw [if_pos ⟨rfl, rfl⟩, if_pos rfl]
    · rw [if_neg (by omega), if_neg (by omega)]; exact a2 t ht
  · rw [pI_i, if_neg (by omega), e _ (by omega), if_neg (by omega)]; exact a3 t ht
  · rw [pI_i, if_neg (by omega), e _ (by omega), if_neg (by omega)]; exact a4 t ht
  · rw [pI_i, if_neg (by omega), e _ (by omega), if_neg (by omega)]; exact a5 t ht
  · rw [pI_i, if_neg (by omega), e _ (by omega), if_neg (by omega)]; exact a6 t ht
  · rw [pI_i, if_neg (by omega), e _ (by omega), if_neg (by omega)]; exact a7
theorem Scr_open {g : sHp} {s : Int64} (hg : Scr g s) {t0 x : Nat} (h0 : t0 < 6) (hx : x < 2) : Scr (pI g 26 t0 (o x)) (dW s (7 + t0) x) := by
  obtain ⟨a1, a2, a3, a4, a5, a6, a7⟩ := hg
  have e : ∀ j, j < 21 → dg (dW s (7 + t0) x) j = if j = 7 + t0 then x else dg s j := fun j hj => dg_dW s (by omega) hj (by rw [(fs_open t0 h0).2]; exact hx)
  refine ⟨?_, fun t ht => ?_, fun t ht => ?_, fun t ht => ?_, fun t ht => ?_, fun t ht => ?_, ?_⟩
  · rw [pI_i, if_neg (by omega), e _ (by omega), if_neg (by omega)]; exact a1
  · rw [pI_i, if_neg (by omega), e _ (by omega), if_neg (by omega)]; exact a2 t ht
  · rw [pI_i, e _ (by omega)]
    by_cases hq : t = t0
    · subst hq; rw [if_pos ⟨rfl, rfl⟩, if_pos rfl]
    · rw [if_neg (by omega), if_neg (by omega)]; exact a3 t ht
  · rw [pI_i, if_neg (by omega), e _ (by omega), if_neg (by omega)]; exact a4 t ht
  · rw [pI_i, if_neg (by omega), e _ (by omega), if_neg (by omega)]; exact a5 t ht
  · rw [pI_i, if_neg (by omega), e _ (by omega), if_neg (by omega)]; exact a6 t ht
  · rw [pI_i, if_neg (by omega), e _ (by omega), if_neg (by omega)]; exact a7
theorem Scr_num {g : sHp} {s : Int64} (hg : Scr g s) {t0 x : Nat} (h0 : t0 < 3) (hx : x < 8) : Scr (pI g 27 t0 (o x)) (dW s (13 + t0) x) := by
  obtain ⟨a1, a2, a3, a4, a5, a6, a7⟩ := hg
  have e : ∀ j, j < 21 → dg (dW s (13 + t0) x) j = if j = 13 + t0 then x else dg s j := fun j hj => dg_dW s (by omega) hj (by rw [(fs_amount t0 h0).2]; exact hx)
  refine ⟨?_, fun t ht => ?_, fun t ht => ?_, fun t ht => ?_, fun t ht => ?_, fun t ht => ?_, ?_⟩
  · rw [pI_i, if_neg (by omega), e _ (by omega), if_neg (by omega)]; exact a1
  · rw [pI_i, if_neg (by omega), e _ (by omega), if_neg (by omega)]; exact a2 t ht
  · rw [pI_i, if_neg (by omega), e _ (by omega), if_neg (by omega)]; exact a3 t ht
  · rw [pI_i, e _ (by omega)]
    by_cases hq : t = t0
    · subst hq; rw [if_pos ⟨rfl, rfl⟩, if_pos rfl]
    · rw [if_neg (by omega), if_neg (by omega)]; exact a4 t ht
  · rw [pI_i, if_neg (by omega), e _ (by omega), if_neg (by omega)]; exact a5 t ht
  · rw [pI_i, if_neg (by omega), e _ (by omega), if_neg (by omega)]; exact a6 t ht
  · rw [pI_i, if_neg (by omega), e _ (by omega), if_neg (by omega)]; exact a7
theorem Scr_step {g : sHp} {s : Int64} (hg : Scr g s) {t0 x : Nat} (h0 : t0 < 2) (hx : x < 4) : Scr (pI g 28 t0 (o x)) (dW s (16 + t0) x) := by
  obtain ⟨a1, a2, a3, a4, a5, a6, a7⟩ := hg
  have e : ∀ j, j < 21 → dg (dW s (16 + t0) x) j = if j = 16 + t0 then x else dg s j := fun j hj => dg_dW s (by omega) hj (by rw [(fs_step t0 h0).2]; exact hx)
  refine ⟨?_, fun t ht => ?_, fun t ht => ?_, fun t ht => ?_, fun t ht => ?_, fun t ht => ?_, ?_⟩
  · rw [pI_i, if_neg (by omega), e _ (by omega), if_neg (by omega)]; exact a1
  · rw [pI_i, if_neg (by omega), e _ (by omega), if_neg (by omega)]; exact a2 t ht
  · rw [pI_i, if_neg (by omega), e _ (by omega), if_neg (by omega)]; exact a3 t ht
  · rw [pI_i, if_neg (by omega), e _ (by omega), if_neg (by omega)]; exact a4 t ht
  · rw [pI_i, e _ (by omega)]
    by_cases hq : t = t0
    · subst hq; rw [if_pos ⟨rfl, rfl⟩, if_pos rfl]
    · rw [if_neg (by omega), if_neg (by omega)]; exact a5 t ht
  · rw [pI_i, if_neg (by omega), e _ (by omega), if_neg (by omega)]; exact a6 t ht
  · rw [pI_i, if_neg (by omega), e _ (by omega), if_neg (by omega)]; exact a7
theorem Scr_count {g : sHp} {s : Int64} (hg : Scr g s) {t0 x : Nat} (h0 : t0 < 2) (hx : x < 16) : Scr (pI g 29 t0 (o x)) (dW s (18 + t0) x) := by
  obtain ⟨a1, a2, a3, a4, a5, a6, a7⟩ := hg
  have e : ∀ j, j < 21 → dg (dW s (18 + t0) x) j = if j = 18 + t0 then x else dg s j := fun j hj => dg_dW s (by omega) hj (by rw [(fs_count t0 h0).2]; exact hx)
  refine ⟨?_, fun t ht => ?_, fun t ht => ?_, fun t ht => ?_, fun t ht => ?_, fun t ht => ?_, ?_⟩
  · rw [pI_i, if_neg (by omega), e _ (by omega), if_neg (by omega)]; exact a1
  · rw [pI_i, if_neg (by omega), e _ (by omega), if_neg (by omega)]; exact a2 t ht
  · rw [pI_i, if_neg (by omega), e _ (by omega), if_neg (by omega)]; exact a3 t ht
  · rw [pI_i, if_neg (by omega), e _ (by omega), if_neg (by omega)]; exact a4 t ht
  · rw [pI_i, if_neg (by omega), e _ (by omega), if_neg (by omega)]; exact a5 t ht
  · rw [pI_i, e _ (by omega)]
    by_cases hq : t = t0
    · subst hq; rw [if_pos ⟨rfl, rfl⟩, if_pos rfl]
    · rw [if_neg (by omega), if_neg (by omega)]; exact a6 t ht
  · rw [pI_i, if_neg (by omega), e _ (by omega), if_neg (by omega)]; exact a7
/-- what an effect asks of its x and y; mo: the most of each number; mo 3 the rooms, mo 4 the endings -/
def okE (mo : Nat → Nat) (k x y : Int32) : Prop :=
  if k = 0 then ∃ a, (a < 6 ∧ a < mo 3) ∧ x = o a
  else if k = 1 then ∃ t p, t < 6 ∧ p < 13 ∧ x = o t ∧ y = o p
  else if k = 2 then ∃ t b, t < 6 ∧ b < 2 ∧ x = o t ∧ y = o b
  else if k = 3 then ∃ t, t < 3 ∧ mo t < 8 ∧ x = o t ∧ -7 ≤ y.toInt ∧ y.toInt ≤ 7
  else ∃ e, (e < 4 ∧ e < mo 4) ∧ x = o e
/-- a number that grows, within 0 and the most -/
def grow (a m : Nat) (y : Int32) : Nat := if (a : Int) + y.toInt < 0 then 0 else if (m : Int) < (a : Int) + y.toInt then m else ((a : Int) + y.toInt).toNat
def eff (s : Int64) (mo : Nat → Nat) (k x y : Int32) : Int64 :=
  if k = 0 then dW s 0 (ix x)
  else if k = 1 then (if ix y < 7 ∨ wi s 6 (ix y - 7) (ix x) = false then dW s (1 + ix x) (ix y) else s)
  else if k = 2 then dW s (7 + ix x) (ix y)
  else if k = 3 then dW s (13 + ix x) (grow (dg s (13 + ix x)) (mo (ix x)) y)
  else dW s 20 (ix x + 1)
theorem grow_lt {a m : Nat} {y : Int32} (ha : a < 8) (hm : m < 8) : grow a m y < 8 := by
  unfold grow
  split
  · omega
  · split <;> omega
theorem M_change {g : sHp} {s : Int64} {r : Nat → Nat} (hg : Scr g s) (hr : Rk s r) {n : Nat} (hn : 8 ≤ n) {mo : Nat → Nat} (hmo : ∀ t, t < 3 → mo t < 8 → g.1 5 t = o (mo t)) {k x y : Int32} (hk : okE mo k x y) : ∃ g', J_M_change n k x y g = some g' ∧ Scr g' (eff s mo k x y) ∧ Lk g g' := by
  unfold J_M_change eff
  unfold okE at hk
  by_cases k0 : k = 0
  · simp only [if_pos k0] at hk ⊢
    obtain ⟨a, ha, rfl⟩ := hk
    rw [ix_o (by omega)]
    exact ⟨_, rfl, Scr_room hg (by omega), Lk_pI (Lk_refl g) (by omega)⟩
  simp only [if_neg k0] at hk ⊢
  by_cases k1 : k = 1
  · simp only [if_pos k1] at hk ⊢
    obtain ⟨t, p, ht, hp, rfl, rfl⟩ := hk
    simp only [ix_o (show t < 2147483648 by omega), ix_o (show p < 2147483648 by omega), sIn_o 6 (show t < 2147483648 by omega), decide_eq_true ht, sGd_true]
    have q7 : o p < (7 : Int32) ↔ p < 7 := o_lt (by omega) (by omega : 7 < 2147483648)
    by_cases h7 : p < 7
    · rw [if_pos (q7.mpr h7), if_pos (Or.inl h7)]
      exact ⟨_, rfl, Scr_place hg ht (by omega), Lk_pI (Lk_refl g) (by omega)⟩
    · rw [if_neg (fun z => h7 (q7.mp z)), show o p - 7 = o (p - 7) from o_sub (b := 7) (by omega), M_within hg hr (by omega) (show p - 7 < 6 by omega) ht]
      cases hw : wi s 6 (p - 7) t
      · rw [if_pos (Or.inr rfl)]
        exact ⟨_, rfl, Scr_place hg ht (by omega), Lk_pI (Lk_refl g) (by omega)⟩
      · rw [if_neg (by intro z; rcases z with z | z; exact h7 z; cases z)]
        exact ⟨g, rfl, hg, Lk_refl g⟩
  simp only [if_neg k1] at hk ⊢
  by_cases k2 : k = 2
  · simp only [if_pos k2] at hk ⊢
    obtain ⟨t, b, ht, hb, rfl, rfl⟩ := hk
    simp only [ix_o (show t < 2147483648 by omega), ix_o (show b < 2147483648 by omega), sIn_o 6 (show t < 2147483648 by omega), decide_eq_true ht, sGd_true]
    rcases (show b = 0 ∨ b = 1 by omega) with rfl | rfl
    · rw [if_neg (by decide : ¬ o 0 = 1)]
      exact ⟨_, rfl, Scr_open hg ht (by omega), Lk_pI (Lk_refl g) (by omega)⟩
    · rw [if_pos (by decide : o 1 = 1)]
      exact ⟨_, rfl, Scr_open hg ht (by omega), Lk_pI (Lk_refl g) (by omega)⟩
  simp only [if_neg k2] at hk ⊢
  by_cases k3 : k = 3
  · simp only [if_pos k3] at hk ⊢
    obtain ⟨t, ht, hm, rfl, y1, y2⟩ := hk
    have ha := dN_lt s ht
    simp only [ix_o (show t < 2147483648 by omega), sIn_o 3 (show t < 2147483648 by omega), decide_eq_true ht, sGd_true, hg.2.2.2.1 t ht, hmo t ht hm]
    have hadd : (o (dg s (13 + t)) + y).toInt = (dg s (13 + t) : Int) + y.toInt := by
      rw [Int32.toInt_add, o_toInt (by omega)]
      exact Int.bmod_eq_of_le (by omega) (by omega)
    have c1 : (0 : Int32) ≤ o (dg s (13 + t)) + y ↔ ¬ ((dg s (13 + t) : Int) + y.toInt < 0) := by
      rw [Int32.le_iff_toInt_le, hadd]
      show (0 : Int) ≤ _ ↔ _
      omega
    have c2 : o (dg s (13 + t)) + y ≤ o (mo t) ↔ ¬ ((mo t : Int) < (dg s (13 + t) : Int) + y.toInt) := by
      rw [Int32.le_iff_toInt_le, hadd, o_toInt (by omega)]
      omega
    have gl := grow_lt (y := y) ha hm
    unfold grow at gl ⊢
    by_cases z1 : (dg s (13 + t) : Int) + y.toInt < 0
    · rw [if_neg (fun z => c1.mp z z1)]
      simp only [if_pos z1] at gl ⊢
      exact ⟨_, rfl, Scr_num hg ht (by omega), Lk_pI (Lk_refl g) (by omega)⟩
    · rw [if_pos (c1.mpr z1)]
      simp only [if_neg z1] at gl ⊢
      by_cases z2 : (mo t : Int) < (dg s (13 + t) : Int) + y.toInt
      · rw [if_neg (fun z => c2.mp z z2)]
        simp only [if_pos z2] at gl ⊢
        exact ⟨_, rfl, Scr_num hg ht (by omega), Lk_pI (Lk_refl g) (by omega)⟩
      · rw [if_pos (c2.mpr z2)]
        simp only [if_neg z2] at gl ⊢
        have e : o (dg s (13 + t)) + y = o ((dg s (13 + t) : Int) + y.toInt).toNat := by
          apply Int32.toInt_inj.mp
          rw [hadd, o_toInt (by omega)]
          omega
        rw [e]
        exact ⟨_, rfl, Scr_num hg ht gl, Lk_pI (Lk_refl g) (by omega)⟩
  simp only [if_neg k3] at hk ⊢
  obtain ⟨e, he, rfl⟩ := hk
  rw [ix_o (by omega), show o e + 1 = o (e + 1) from o_add e 1]
  exact ⟨_, rfl, Scr_over hg (by omega), Lk_pI (Lk_refl g) (by omega)⟩
