/-! clear, begin, said, undo; which commands there are. -/
section PA
variable {h g : sHp} {n : Nat} {w : Wp}
def w0 : Wp := mW (fun x => if x < 3 then 8 else 0) (fun _ => 0) (fun _ => 0) (fun _ => 0) (fun _ => 0) 0 0 0 0 0
theorem Wr_w0 (h2 : h.1 2 12 = 0 ∧ h.1 2 13 = 0 ∧ h.1 2 14 = 0 ∧ h.1 2 15 = 0 ∧ h.1 2 16 = 0 ∧ h.1 2 17 = 0 ∧ h.1 3 7 = 0) (g2 : g.1 0 1 = 0 ∧ g.1 0 4 = 0 ∧ g.1 0 7 = 0 ∧ g.1 0 10 = 0 ∧ g.1 0 12 = 0 ∧ g.1 0 26 = 0 ∧ g.1 0 29 = 0) (hC : WrC h g) (hx : ∀ i, i < 24 → g.1 1 i = 0) : Wr w0 h g := by
  obtain ⟨a1, a2, a3, a4, a5, a6, a7⟩ := h2
  obtain ⟨b1, b2, b3, b4, b5, b6, b7⟩ := g2
  refine ⟨⟨⟨by show 0 ≤ 12; omega, a7, b5, hC, fun q hq => absurd (show q < 0 from hq) (by omega)⟩, fun t ht hm => ?_, ⟨by show 0 ≤ 6; omega, fun t ht => absurd (show t < 0 from ht) (by omega)⟩, ⟨by show 0 ≤ 6; omega, fun i hi => absurd (show i < 4 * 0 from hi) (by omega)⟩, ⟨by show 0 ≤ 2; omega, a5, b6, fun k hk => absurd (show k < 0 from hk) (by omega)⟩, ⟨by show 0 ≤ 2; omega, a6, b7, fun k hk => absurd (show k < 0 from hk) (by omega)⟩⟩, ⟨a1, b1⟩, ⟨a2, b2⟩, ⟨a3, b3⟩, ⟨a4, b4⟩, by show 0 ≤ 4; omega, by show 0 ≤ 3; omega, fun t ht => absurd (show t < 0 from ht) (by omega), fun t ht => absurd (show t < 0 from ht) (by omega), fun t ht => absurd (show t < 0 from ht) (by omega), fun t ht => absurd (show t < 0 from ht) (by omega), fun e he => absurd (show e < 0 from he) (by omega), fun t ht => ?_, fun t ht => absurd (show t < 0 from ht) (by omega), fun i _ hi => hx i hi⟩
  · have hm : (if t < 3 then 8 else 0) < 8 := hm
    rw [if_pos ht] at hm; omega
  · show (if t < 3 then 8 else 0) < 8 ↔ t < 0
    rw [if_pos ht]; omega
theorem M_clrL : ∀ d i M (g : sHp), i + d = 24 → d < M → ∃ g1, sFx (F_M_clear_42 n) M (o i, g) = (J_M_renew n g1).bind (fun v => some v) ∧ g1.2 = g.2 ∧ ∀ j m, g1.1 j m = if j = 1 ∧ i ≤ m ∧ m < 24 then 0 else g.1 j m := by
  intro d
  induction d with
  | zero =>
    intro i M g hi hM
    obtain ⟨M, rfl⟩ : ∃ m, M = m + 1 := ⟨M - 1, by omega⟩
    obtain rfl : i = 24 := by omega
    exact ⟨g, rfl, rfl, fun j m => by rw [if_neg (by omega)]⟩
  | succ d ih =>
    intro i M g hi hM
    obtain ⟨M, rfl⟩ : ∃ m, M = m + 1 := ⟨M - 1, by omega⟩
    obtain ⟨g1, e1, e2, e3⟩ := ih (i + 1) M (pI g 1 i 0) (by omega) (by omega)
    refine ⟨g1, ?_, e2, fun j m => ?_⟩
    · rw [sFx_s]
      generalize sFx (F_M_clear_42 n) M = X at e1 ⊢
      unfold F_M_clear_42; dsimp only
      rw [if_neg (fun z => by have := (o_le (by omega : 24 < 2147483648) (by omega)).mp z; omega), sIn_o 24 (by omega), decide_eq_true (by omega), sGd_true, ix_o (by omega), show o i + 1 = o (i + 1) from o_add i 1]
      exact e1
    · rw [e3 j m, pI_i]
      by_cases q1 : j = 1 ∧ i + 1 ≤ m ∧ m < 24
      · rw [if_pos q1, if_pos (by omega)]
      · rw [if_neg q1]
        by_cases q2 : j = 1 ∧ m = i
        · rw [if_pos q2, if_pos (by omega)]
        · rw [if_neg q2, if_neg (by omega)]
theorem f_clear (hn : 30 ≤ n) (hI : Iv n h g) : ∃ h' g', J_S_clear n h = some h' ∧ J_M_clear n g = some g' ∧ Iv n h' g' := by
  obtain ⟨w, hw, t, k, hW, -⟩ := hI
  have hC := hW.p.1.2.2.2.1
  obtain ⟨g1, e1, e2, e3⟩ := M_clrL (n := n) 24 0 n (pI (pI (pI (pI (pI (pI (pI (pI g 0 0 0) 0 1 0) 0 4 0) 0 7 0) 0 10 0) 0 12 0) 0 26 0) 0 29 0) (by omega) (by omega)
  have hW1 : Wr w0 (pI (pI (pI (pI (pI (pI (pI h 2 12 0) 2 13 0) 2 14 0) 2 15 0) 3 7 0) 2 16 0) 2 17 0) g1 := by
    refine Wr_w0 ?_ ?_ (fun j hj => ?_) (fun i hi => by rw [e3, if_pos (by omega)])
    · simp [pI_i]
    · refine ⟨?_, ?_, ?_, ?_, ?_, ?_, ?_⟩ <;> rw [e3, if_neg (by omega)] <;> simp [pI_i]
    · obtain ⟨⟨y1, y2, y3⟩, y4, y5, y6⟩ := hC j hj
      refine ⟨⟨?_, ?_, ?_⟩, ?_, ?_, ?_⟩
      · rw [e3, if_neg (by omega)]; (repeat (rw [pI_i, if_neg (by omega)])); exact y1
      · rw [e3, if_neg (by omega)]; (repeat (rw [pI_i, if_neg (by omega)])); exact y2
      · rw [e3, if_neg (by omega)]; (repeat (rw [pI_i, if_neg (by omega)])); exact y3
      · rw [e3, if_neg (by omega)]; (repeat (rw [pI_i, if_neg (by omega)])); exact y4
      · rw [e3, if_neg (by omega)]; (repeat (rw [pI_i, if_neg (by omega)])); exact y5
      · rw [e3, if_neg (by omega)]; (repeat (rw [pI_i, if_neg (by omega)])); exact y6
  obtain ⟨h', g', a, b, c, -⟩ := Iv_new hW1 (by omega : 8 ≤ n)
  refine ⟨h', g', ?_, ?_, c⟩
  · unfold J_S_clear J_W_becomeEmpty
    rw [Option.bind_some, a]; rfl
  · unfold J_M_clear
    rw [show (0 : Int32) = o 0 from rfl] at *
    rw [e1, b]; rfl
theorem f_begin (hn : 8 ≤ n) (hI : Iv n h g) : FcV n (J_L_begin n h) (J_M_begin n g) := by
  have hI' := hI
  obtain ⟨w, hw, t, k, hW, hK, hP, hA⟩ := hI
  have hR := hW.p.2.2.2.1.1
  unfold J_L_begin J_S_begin J_M_begin
  rw [hW.a.rm.1, hW.a.rm.2]
  by_cases h0 : w.mo 3 = 0
  · rw [h0]; exact FcV_no hI' 1 rfl rfl
  · have l0 : ¬ o (w.mo 3) ≤ (0 : Int32) := fun z => by have := (o_le (by omega) (by omega : 0 < 2147483648)).mp z; omega
    have n0 : ¬ o (w.mo 3) = (0 : Int32) := fun z => h0 ((o_inj (by omega) (by omega : 0 < 2147483648)).mp z)
    rw [if_neg l0, if_neg n0]
    obtain ⟨s, hs, e1⟩ := E_start hW hn (Kc_refl h)
    obtain ⟨gl, L1, e2⟩ := M_restart hW hn hs (g1 := pI g 0 0 0) (Kg_pI (Kg_refl g) (by omega))
    have es : s = h.2 7 0 := isF_eq hs hP.fst
    have hKc : Kc h (pI (pI (pL h 7 0 s) 0 5 0) 0 6 0) := Kc_pI (Kc_pI (Kc_pL (Kc_refl h)) (by omega)) (by omega)
    have k1 : ∀ j m, ¬ (25 ≤ j ∧ j ≤ 29) → ¬ (j = 0 ∧ (m = 0 ∨ m = 32 ∨ m = 38 ∨ m = 42 ∨ m = 43 ∨ m = 44 ∨ m = 47)) → (pI (pI (pI (pI gl 0 42 (o (eA s))) 0 43 (o (eB s))) 0 44 0) 0 47 0).1 j m = g.1 j m := fun j m x y => by
      (repeat (rw [pI_i, if_neg (by omega)]))
      rw [Lk_at L1 (by omega) (by omega), pI_i, if_neg (by omega)]
    have hKg : Kg g (pI (pI (pI (pI gl 0 42 (o (eA s))) 0 43 (o (eB s))) 0 44 0) 0 47 0) := fun j m z => k1 j m (by omega) (by omega)
    have l7 : ∀ m, (pI (pI (pL h 7 0 s) 0 5 0) 0 6 0).2 7 m = h.2 7 m := fun m => by
      show (pL h 7 0 s).2 7 m = _
      rw [pL_i]
      by_cases hm : m = 0
      · rw [if_pos ⟨rfl, hm⟩, hm, es]
      · rw [if_neg (by omega)]
    refine ⟨0, _, _, by rw [e1]; rfl, by rw [e2]; rfl, ?_, w, hw, 0, 0, Wr_keep hKc hKg hW, Kc_trans hK hKc, ?_, ?_⟩
    · (repeat (rw [pI_i, if_neg (by omega)]))
      rw [Lk_at L1 (by omega) (by omega), pI_i, if_pos ⟨rfl, rfl⟩]
    · refine ⟨by omega, ⟨by simp [pI_i]; rfl, by simp [pI_i]; rfl⟩, by omega, ⟨by simp [pI_i]; rfl, by simp [pI_i]; rfl⟩, fun i hi => absurd hi (by omega), fun _ => rfl, ?_, fun i hi => absurd hi (by omega), by rw [l7]; exact hP.fst, fun i hi => by rw [l7]; exact hP.st i (by omega), fun _ => rfl, fun i hi => absurd hi (by omega)⟩
      rw [l7, ← es]
      exact ⟨by simp [pI_i], by simp [pI_i]⟩
    · have ka : Ka h (pI (pI (pL h 7 0 s) 0 5 0) 0 6 0) := by
        refine ⟨fun j m z => ?_, fun j m z => ?_⟩
        · rw [pI_i, if_neg (by omega), pI_i, if_neg (by omega)]; rfl
        · by_cases hj : j = 7
          · subst hj; exact l7 m
          · show (pL h 7 0 s).2 j m = _
            rw [pL_i, if_neg (by omega)]
      have kr : Kr g (pI (pI (pI (pI gl 0 42 (o (eA s))) 0 43 (o (eB s))) 0 44 0) 0 47 0) := fun j m z => k1 j m (by omega) (by omega)
      rcases hA with hA | ⟨f, d, fu, hA⟩
      · exact Or.inl (AtC_keep ka kr hA)
      · exact Or.inr ⟨f, d, fu, AtO_keep ka kr hA⟩
theorem f_said (hI : Iv n h g) (p : Int32) : ∃ x, J_S_said n p h = some x ∧ J_M_said n p g = some (x, pI g 0 0 0) := by
  obtain ⟨w, hw, t, k, hW, hK, hP, hA⟩ := hI
  have k3 := hP.k3
  have no := no_sIn p (R := k) (by omega)
  unfold J_S_said J_M_said
  rw [hP.tx.1, hP.tx.2, frm_sIn n p (by omega), Option.bind_some]
  cases c : sIn p k
  · refine ⟨-1, rfl, ?_⟩
    rw [c] at no
    by_cases a1 : p < 0
    · rw [if_pos a1]
    · rw [if_neg a1] at no ⊢
      by_cases a2 : p < o k
      · rw [if_pos a2] at no; exact absurd (Option.some.inj no) (by decide)
      · rw [if_neg a2]
  · obtain ⟨i, hi, rfl⟩ := of_sIn c
    have l1 : ¬ o i < (0 : Int32) := fun z => by have := (o_lt (by omega) (by omega : 0 < 2147483648)).mp z; omega
    have l2 : o i < o k := (o_lt (by omega) (by omega)).mpr hi
    refine ⟨h.1 8 i, ?_, ?_⟩
    · rw [if_neg (by decide), sIn_o 3 (by omega), decide_eq_true (by omega), sGd_true, ix_o (by omega)]
    · rw [if_neg l1, if_pos l2, sIn_o 4 (by omega), decide_eq_true (by omega), sGd_true, ix_o (by omega), ← hP.tt i hi]
theorem f_undo (hI : Iv n h g) : ∃ x h' g', J_S_undo n h = some (x, h') ∧ J_M_undo n g = some (x, g') ∧ Iv n h' g' := by
  have hI' := hI
  obtain ⟨w, hw, t, k, hW, hK, hP, hA⟩ := hI
  have t60 := hP.t60
  unfold J_S_undo J_M_undo
  rw [hP.tr.1, hP.tr.2]
  by_cases h0 : t = 0
  · subst h0
    have hk := hP.tz rfl
    subst hk
    refine ⟨0, _, _, if_pos rfl, if_pos rfl, ?_⟩
    have : pI h 0 6 0 = h := by
      have e : h.1 0 6 = 0 := hP.tx.1
      apply Prod.ext
      · funext j m
        rw [pI_i]
        by_cases q : j = 0 ∧ m = 6
        · rw [if_pos q, q.1, q.2, e]
        · rw [if_neg q]
      · rfl
    rw [this]
    exact Iv_code hI' 0
  · obtain ⟨t, rfl⟩ : ∃ u, t = u + 1 := ⟨t - 1, by omega⟩
    have n0 : ¬ o (t + 1) = (0 : Int32) := fun z => by have := (o_inj (by omega) (by omega : 0 < 2147483648)).mp z; omega
    have e1 : o (t + 1) - 1 = o t := o_sub (b := 1) (by omega)
    rw [if_neg n0, if_neg n0, e1, sIn_o 60 (by omega), decide_eq_true (by omega), sGd_true, sGd_true, ix_o (by omega)]
    refine ⟨1, _, _, rfl, rfl, ?_⟩
    have k1 : ∀ j m, ¬ (j = 0 ∧ (m = 0 ∨ m = 42 ∨ m = 43 ∨ m = 44 ∨ m = 47)) → (pI (pI (pI (pI (pI g 0 0 0) 0 44 (o t)) 0 42 (g.1 31 t)) 0 43 (g.1 32 t)) 0 47 0).1 j m = g.1 j m := fun j m y => by (repeat (rw [pI_i, if_neg (by omega)]))
    have kc : Kc h (pI (pI h 0 6 0) 0 5 (o t)) := Kc_pI (Kc_pI (Kc_refl h) (by omega)) (by omega)
    obtain ⟨p1, p2⟩ := hP.past t (by omega)
    refine ⟨w, hw, t, 0, Wr_keep kc (fun j m z => k1 j m (by omega)) hW, Kc_trans hK kc, ?_, ?_⟩
    · refine ⟨by omega, ⟨by simp [pI_i], by simp [pI_i]⟩, by omega, ⟨by simp [pI_i]; rfl, by simp [pI_i]; rfl⟩, fun i hi => absurd hi (by omega), fun _ => rfl, ⟨?_, ?_⟩, fun i hi => ?_, hP.fst, fun i hi => hP.st i (by omega), fun z => by have := hP.rz z; omega, fun i hi => hP.nx i (by omega)⟩
      · show _ = o (eA (h.2 7 t))
        rw [← p1]; simp [pI_i]
      · show _ = o (eB (h.2 7 t))
        rw [← p2]; simp [pI_i]
      · rw [k1 _ _ (by omega), k1 _ _ (by omega)]; exact hP.past i (by omega)
    · have ka : Ka h (pI (pI h 0 6 0) 0 5 (o t)) := ⟨fun j m z => by (repeat (rw [pI_i, if_neg (by omega)])), fun _ _ _ => rfl⟩
      have kr : Kr g (pI (pI (pI (pI (pI g 0 0 0) 0 44 (o t)) 0 42 (g.1 31 t)) 0 43 (g.1 32 t)) 0 47 0) := fun j m z => k1 j m (by omega)
      rcases hA with hA | ⟨f, d, fu, hA⟩
      · exact Or.inl (AtC_keep ka kr hA)
      · exact Or.inr ⟨f, d, fu, AtO_keep ka kr hA⟩
end PA
