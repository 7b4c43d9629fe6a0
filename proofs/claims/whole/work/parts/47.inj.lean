theorem Scr_dg {g : sHp} {s t : Int64} (hs : Scr g s) (ht : Scr g t) : ∀ i, i < 21 → dg s i = dg t i := by
  obtain ⟨a1, a2, a3, a4, a5, a6, a7⟩ := hs
  obtain ⟨b1, b2, b3, b4, b5, b6, b7⟩ := ht
  have key : ∀ x y : Nat, x < 16 → y < 16 → o x = o y → x = y := fun x y hx hy h => (o_inj (by omega) (by omega)).mp h
  intro i hi
  have hsmall : ∀ u : Int64, dg u i < 16 := fun u => by
    have h1 := dg_lt u i
    have h2 := (fo_ok i hi).2.1
    exact Nat.lt_of_lt_of_le h1 (Nat.pow_le_pow_right (by decide) h2)
  refine key _ _ (hsmall s) (hsmall t) ?_
  by_cases h0 : i = 0
  · subst h0; rw [← a1, ← b1]
  by_cases h6 : i < 7
  · obtain ⟨k, rfl⟩ : ∃ k, i = 1 + k := ⟨i - 1, by omega⟩
    rw [← a2 k (by omega), ← b2 k (by omega)]
  by_cases h12 : i < 13
  · obtain ⟨k, rfl⟩ : ∃ k, i = 7 + k := ⟨i - 7, by omega⟩
    rw [← a3 k (by omega), ← b3 k (by omega)]
  by_cases h15 : i < 16
  · obtain ⟨k, rfl⟩ : ∃ k, i = 13 + k := ⟨i - 13, by omega⟩
    rw [← a4 k (by omega), ← b4 k (by omega)]
  by_cases h17 : i < 18
  · obtain ⟨k, rfl⟩ : ∃ k, i = 16 + k := ⟨i - 16, by omega⟩
    rw [← a5 k (by omega), ← b5 k (by omega)]
  by_cases h19 : i < 20
  · obtain ⟨k, rfl⟩ : ∃ k, i = 18 + k := ⟨i - 18, by omega⟩
    rw [← a6 k (by omega), ← b6 k (by omega)]
  · have : i = 20 := by omega
    subst this
    rw [← a7, ← b7]
theorem eB_s (s : Int64) : eB s < 2147483648 := uT_s s (by omega)
/-- a state's two ints are its own -/
theorem enc_inj {s t : Int64} (hs : sT s) (ht : sT t) (ha : eA s = eA t) (hb : eB s = eB t) : s = t := by
  obtain ⟨g1, e1, r1, -⟩ := M_lay (g := h00) s (n := 8) (by omega)
  obtain ⟨g2, e2, r2, -⟩ := M_lay (g := h00) t (n := 8) (by omega)
  rw [ha, hb, e2] at e1
  cases e1
  exact sT_ext hs ht (Scr_dg r1 r2)
theorem enc_iff {s t : Int64} (hs : sT s) (ht : sT t) : (o (eA s) = o (eA t) ∧ o (eB s) = o (eB t)) ↔ s = t := by
  constructor
  · rintro ⟨h1, h2⟩
    exact enc_inj hs ht ((o_inj (eA_s s) (eA_s t)).mp h1) ((o_inj (eB_s s) (eB_s t)).mp h2)
  · rintro rfl; exact ⟨rfl, rfl⟩
/-- the reference's own reading of whether a state is over -/
theorem eA_over (s : Int64) : jRem (o (eA s)) 8 = o (dg s 20) := by
  rw [show (8 : Int32) = o 8 from rfl, jRem_o (eA_s s) (by omega)]
  have h2 := dV_lt s
  congr 1
  unfold eA
  omega
