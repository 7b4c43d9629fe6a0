theorem pL_same (h : sHp) (i k : Nat) : pL h i k (h.2 i k) = h := by
  obtain ⟨a, b⟩ := h
  simp only [pL]
  congr 1
  funext j m
  by_cases hj : j = i
  · subst hj
    rw [if_pos rfl]
    by_cases hm : m = k <;> simp [vp_updL, hm]
  · rw [if_neg hj]
theorem E_effect {h : sHp} {r : Nat → Nat} (hr : Rk (h.2 1 4) r) {n : Nat} (hn : 8 ≤ n) {mo : Nat → Nat} (hmo : ∀ t, t < 3 → mo t < 8 → h.1 15 t = o (mo t)) {k x y : Int32} (hk : okE mo k x y) : J_E_doEffect n k x y h = some (pL h 1 4 (eff (h.2 1 4) mo k x y)) := by
  unfold J_E_doEffect eff
  unfold okE at hk
  by_cases k0 : k = 0
  · simp only [if_pos k0] at hk ⊢
    obtain ⟨a, ha, rfl⟩ := hk
    rw [ix_o (by omega), b_wroom]
    rfl
  simp only [if_neg k0] at hk ⊢
  by_cases k1 : k = 1
  · simp only [if_pos k1] at hk ⊢
    obtain ⟨t, p, ht, hp, rfl, rfl⟩ := hk
    unfold K_E_doEffect_68
    simp only [ix_o (show t < 2147483648 by omega), ix_o (show p < 2147483648 by omega), b_wplace n _ h ht p]
    have q7 : o p < (7 : Int32) ↔ p < 7 := o_lt (by omega) (by omega : 7 < 2147483648)
    by_cases h7 : p < 7
    · rw [if_pos (q7.mpr h7), if_pos (Or.inl h7)]
      rfl
    · rw [if_neg (fun z => h7 (q7.mp z)), show o p - 7 = o (p - 7) from o_sub (b := 7) (by omega), B_part hr (by omega) h (show p - 7 < 6 by omega) ht]
      cases hw : wi (h.2 1 4) 6 (p - 7) t
      · rw [if_pos (Or.inr rfl)]
        rfl
      · rw [if_neg (by intro z; rcases z with z | z; exact h7 z; cases z), pL_same]
        rfl
  simp only [if_neg k1] at hk ⊢
  by_cases k2 : k = 2
  · simp only [if_pos k2] at hk ⊢
    obtain ⟨t, b, ht, hb, rfl, rfl⟩ := hk
    rw [ix_o (by omega : t < 2147483648), ix_o (by omega : b < 2147483648), b_wopen n _ h ht b]
    rfl
  simp only [if_neg k2] at hk ⊢
  by_cases k3 : k = 3
  · simp only [if_pos k3] at hk ⊢
    obtain ⟨t, ht, hm, rfl, y1, y2⟩ := hk
    have ha := dN_lt (h.2 1 4) ht
    simp only [ix_o (show t < 2147483648 by omega), sIn_o 3 (show t < 2147483648 by omega), decide_eq_true ht, sGd_true, b_amount n _ h ht, hmo t ht hm, Option.bind_some]
    generalize dg (h.2 1 4) (13 + t) = a at ha ⊢
    have hadd : (o a + y).toInt = (a : Int) + y.toInt := by
      rw [Int32.toInt_add, o_toInt (by omega)]
      exact Int.bmod_eq_of_le (by omega) (by omega)
    have e : jMmax 0 (jMmin (o a + y) (o (mo t))) = o (grow a (mo t) y) := by
      unfold jMmax jMmin grow
      have c1 : o (mo t) < o a + y ↔ (mo t : Int) < (a : Int) + y.toInt := by
        rw [Int32.lt_iff_toInt_lt, hadd, o_toInt (by omega)]
      have c2 : (0 : Int32) < o (mo t) ↔ 0 < mo t := o_lt (a := 0) (by omega) (by omega)
      have c3 : (0 : Int32) < o a + y ↔ 0 < (a : Int) + y.toInt := by
        rw [Int32.lt_iff_toInt_lt, hadd]; rfl
      by_cases z1 : (a : Int) + y.toInt < 0
      · have n1 : ¬ (mo t : Int) < (a : Int) + y.toInt := by omega
        have n3 : ¬ 0 < (a : Int) + y.toInt := by omega
        simp only [c1, if_neg n1, c3, if_neg n3, if_pos z1]
        rfl
      · simp only [if_neg z1]
        by_cases z2 : (mo t : Int) < (a : Int) + y.toInt
        · simp only [c1, if_pos z2, c2]
          by_cases z3 : 0 < mo t
          · rw [if_pos z3]
          · rw [if_neg z3, show mo t = 0 by omega]; rfl
        · simp only [c1, if_neg z2, c3]
          by_cases z3 : 0 < (a : Int) + y.toInt
          · rw [if_pos z3]
            apply Int32.toInt_inj.mp
            rw [hadd, o_toInt (by omega)]
            omega
          · rw [if_neg z3, show ((a : Int) + y.toInt).toNat = 0 by omega]; rfl
    rw [e, b_wamount n _ h ht]
    rfl
  simp only [if_neg k3] at hk ⊢
  obtain ⟨e, he, rfl⟩ := hk
  rw [ix_o (by omega), b_wending]
  rfl
/-- an effect keeps what states keep -/
theorem eff_ok {s : Int64} {r : Nat → Nat} (hr : Rk s r) (hs : sT s) {mo : Nat → Nat} {k x y : Int32} (hk : okE mo k x y) : sT (eff s mo k x y) ∧ ∃ r', Rk (eff s mo k x y) r' := by
  have same : ∀ i v, i < 21 → ¬ (1 ≤ i ∧ i < 7) → v < 2 ^ fw i → Rk (dW s i v) r := fun i v hi hn hv => by
    intro t ht
    have e : ∀ u, u < 6 → pl (dW s i v) u = pl s u := fun u hu => by
      unfold pl
      rw [dg_dW s hi (by omega) hv, if_neg (by omega)]
    rw [e t ht]
    exact hr t ht
  unfold eff
  unfold okE at hk
  by_cases k0 : k = 0
  · simp only [if_pos k0] at hk ⊢
    obtain ⟨a, ha, rfl⟩ := hk
    rw [ix_o (by omega)]
    exact ⟨sT_dW (by omega) hs, r, same 0 a (by omega) (by omega) (by show a < 8; omega)⟩
  simp only [if_neg k0] at hk ⊢
  by_cases k1 : k = 1
  · simp only [if_pos k1] at hk ⊢
    obtain ⟨t, p, ht, hp, rfl, rfl⟩ := hk
    simp only [ix_o (show t < 2147483648 by omega), ix_o (show p < 2147483648 by omega)]
    have hv : p < 2 ^ fw (1 + t) := by rw [(fs_place t ht).2]; show p < 16; omega
    have ho : ∀ u, u < 6 → u ≠ t → pl (dW s (1 + t) p) u = pl s u := fun u hu hn => by
      unfold pl
      rw [dg_dW s (by omega) (by omega) hv, if_neg (by omega)]
    have hx : pl (dW s (1 + t) p) t = p := by
      unfold pl
      rw [dg_dW s (by omega) (by omega) hv, if_pos rfl]
    by_cases h7 : p < 7
    · rw [if_pos (Or.inl h7)]
      exact ⟨sT_dW (by omega) hs, r, Rk_out hr ho (by omega)⟩
    · cases hw : wi s 6 (p - 7) t
      · rw [if_pos (Or.inr rfl)]
        exact ⟨sT_dW (by omega) hs, Rk_in (y := p - 7) hr (by omega) ho (by omega) hw⟩
      · rw [if_neg (by intro z; rcases z with z | z; exact h7 z; cases z)]
        exact ⟨hs, r, hr⟩
  simp only [if_neg k1] at hk ⊢
  by_cases k2 : k = 2
  · simp only [if_pos k2] at hk ⊢
    obtain ⟨t, b, ht, hb, rfl, rfl⟩ := hk
    rw [ix_o (by omega : t < 2147483648), ix_o (by omega : b < 2147483648)]
    exact ⟨sT_dW (by omega) hs, r, same (7 + t) b (by omega) (by omega) (by rw [(fs_open t ht).2]; exact hb)⟩
  simp only [if_neg k2] at hk ⊢
  by_cases k3 : k = 3
  · simp only [if_pos k3] at hk ⊢
    obtain ⟨t, ht, hm, rfl, y1, y2⟩ := hk
    rw [ix_o (by omega : t < 2147483648)]
    exact ⟨sT_dW (by omega) hs, r, same (13 + t) _ (by omega) (by omega) (by rw [(fs_amount t ht).2]; exact grow_lt (dN_lt s ht) hm)⟩
  simp only [if_neg k3] at hk ⊢
  obtain ⟨e, he, rfl⟩ := hk
  rw [ix_o (by omega)]
  exact ⟨sT_dW (by omega) hs, r, same 20 (e + 1) (by omega) (by omega) (by show e + 1 < 8; omega)⟩
/-- a state within the world's bounds: its room, its steps, its ending -/
def Vb (mo : Nat → Nat) (s : Int64) : Prop := dg s 0 < mo 3 ∧ (∀ k, k < 2 → dg s (16 + k) < 3) ∧ dg s 20 ≤ mo 4
theorem Vb_dW {mo : Nat → Nat} {s : Int64} (h : Vb mo s) {i v : Nat} (hi : i < 21) (hv : v < 2 ^ fw i) (h0 : i = 0 → v < mo 3) (h1 : ∀ k, k < 2 → i = 16 + k → v < 3) (h2 : i = 20 → v ≤ mo 4) : Vb mo (dW s i v) := by
  obtain ⟨a, b, c⟩ := h
  refine ⟨?_, fun k hk => ?_, ?_⟩
  · rw [dg_dW s hi (by omega) hv]; split
    · exact h0 (by omega)
    · exact a
  · rw [dg_dW s hi (by omega) hv]; split
    · exact h1 k hk (by omega)
    · exact b k hk
  · rw [dg_dW s hi (by omega) hv]; split
    · exact h2 (by omega)
    · exact c
theorem eff_V {s : Int64} {mo : Nat → Nat} (hV : Vb mo s) {k x y : Int32} (hk : okE mo k x y) : Vb mo (eff s mo k x y) := by
  unfold eff
  unfold okE at hk
  by_cases k0 : k = 0
  · simp only [if_pos k0] at hk ⊢
    obtain ⟨a, ha, rfl⟩ := hk
    rw [ix_o (by omega)]
    exact Vb_dW hV (by omega) (by show a < 8; omega) (by omega) (by omega) (by omega)
  simp only [if_neg k0] at hk ⊢
  by_cases k1 : k = 1
  · simp only [if_pos k1] at hk ⊢
    obtain ⟨t, p, ht, hp, rfl, rfl⟩ := hk
    simp only [ix_o (show t < 2147483648 by omega), ix_o (show p < 2147483648 by omega)]
    have hv : p < 2 ^ fw (1 + t) := by rw [(fs_place t ht).2]; show p < 16; omega
    split
    · exact Vb_dW hV (by omega) hv (by omega) (by omega) (by omega)
    · exact hV
  simp only [if_neg k1] at hk ⊢
  by_cases k2 : k = 2
  · simp only [if_pos k2] at hk ⊢
    obtain ⟨t, b, ht, hb, rfl, rfl⟩ := hk
    rw [ix_o (by omega : t < 2147483648), ix_o (by omega : b < 2147483648)]
    exact Vb_dW hV (by omega) (by rw [(fs_open t ht).2]; exact hb) (by omega) (by omega) (by omega)
  simp only [if_neg k2] at hk ⊢
  by_cases k3 : k = 3
  · simp only [if_pos k3] at hk ⊢
    obtain ⟨t, ht, hm, rfl, y1, y2⟩ := hk
    rw [ix_o (by omega : t < 2147483648)]
    exact Vb_dW hV (by omega) (by rw [(fs_amount t ht).2]; exact grow_lt (dN_lt s ht) hm) (by omega) (by omega) (by omega)
  simp only [if_neg k3] at hk ⊢
  obtain ⟨e, he, rfl⟩ := hk
  rw [ix_o (by omega)]
  exact Vb_dW hV (by omega) (by show e + 1 < 8; omega) (by omega) (by omega) (by omega)
