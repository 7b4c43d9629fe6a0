/-! command, both sides. -/
section CO
variable {h g : sHp} {n : Nat} {w : Wp}
theorem Scr_det {s t : Int64} (h1 : Scr g s) (h2 : Scr g t) (hs : sT s) (ht : sT t) : s = t := by
  obtain ⟨a1, a2, a3, a4, a5, a6, a7⟩ := h1
  obtain ⟨b1, b2, b3, b4, b5, b6, b7⟩ := h2
  have big : ∀ (s : Int64) j, j < 21 → dg s j < 2147483648 := fun s j hj => by
    have h1 := dg_lt s j
    have : 2 ^ fw j ≤ 16 := by
      have : ∀ j, j < 21 → 2 ^ fw j ≤ 16 := by decide +kernel
      exact this j hj
    omega
  have inj : ∀ j, j < 21 → o (dg s j) = o (dg t j) → dg s j = dg t j := fun j hj e => (o_inj (big s j hj) (big t j hj)).mp e
  refine sT_ext hs ht (fun i hi => inj i hi ?_)
  by_cases i0 : i = 0
  · subst i0; rw [← a1, ← b1]
  by_cases i1 : i < 7
  · obtain ⟨k, rfl⟩ : ∃ k, i = 1 + k := ⟨i - 1, by omega⟩
    rw [← a2 k (by omega), ← b2 k (by omega)]
  by_cases i2 : i < 13
  · obtain ⟨k, rfl⟩ : ∃ k, i = 7 + k := ⟨i - 7, by omega⟩
    rw [← a3 k (by omega), ← b3 k (by omega)]
  by_cases i3 : i < 16
  · obtain ⟨k, rfl⟩ : ∃ k, i = 13 + k := ⟨i - 13, by omega⟩
    rw [← a4 k (by omega), ← b4 k (by omega)]
  by_cases i4 : i < 18
  · obtain ⟨k, rfl⟩ : ∃ k, i = 16 + k := ⟨i - 16, by omega⟩
    rw [← a5 k (by omega), ← b5 k (by omega)]
  by_cases i5 : i < 20
  · obtain ⟨k, rfl⟩ : ∃ k, i = 18 + k := ⟨i - 18, by omega⟩
    rw [← a6 k (by omega), ← b6 k (by omega)]
  · obtain rfl : i = 20 := by omega
    rw [← a7, ← b7]
theorem Kc_symm {h h' : sHp} (hk : Kc h h') : Kc h' h := fun j m z => (hk j m z).symm
/-- a turn, and that it is the same turn in the world's first picture -/
theorem take_all {hw : sHp} (hn : 13 ≤ n) (hW : Wr w h g) (hK : Kc hw h) {s : Int64} (hg : Scr g s) (hS : St w.mo s) {v : Nat} {a b : Int32} (hc : cmdOk w.T v a b) :
    ∃ s' h' g' k' mk, J_E_take n s (o v) a b h = some (s', h') ∧ J_M_turn n (o v) a b g = some g' ∧ Scr g' s' ∧ St w.mo s' ∧ Txt h' g' k' ∧ k' ≤ 3 ∧ Ek h h' ∧ Tk g g' ∧ h'.1 1 3 = mk ∧ g'.1 0 41 = g.1 0 41 ||| mk ∧ Nx n hw s v a b s' := by
  obtain ⟨s', h', g', k', mk, e1, e2, e3, e4, e⟩ := take_both hn hW.p hg hS hc
  obtain ⟨s2, h2, g2, k2, mk2, f1, f2, f3, f4, -⟩ := take_both (h := hw) hn (Wr_keep (Kc_symm hK) (Kg_refl g) hW).p hg hS hc
  have : g2 = g' := by rw [e2] at f2; exact (Option.some.inj f2).symm
  subst this
  have : s2 = s' := Scr_det f3 e3 f4.2.1 e4.2.1
  subst this
  obtain ⟨e5, e6, e7, e8, e9, e10⟩ := e
  exact ⟨_, h', _, k', mk, e1, e2, e3, e4, e5, e6, e7, e8, e9, e10, h2, f1⟩
theorem Nx_det {hw : sHp} {s s1 s2 : Int64} {v : Nat} {a b : Int32} (h1 : Nx n hw s v a b s1) (h2 : Nx n hw s v a b s2) : s1 = s2 := by
  obtain ⟨x, e1⟩ := h1
  obtain ⟨y, e2⟩ := h2
  rw [e1] at e2
  exact (Prod.mk.inj (Option.some.inj e2)).1
theorem M_speech (x1 x2 x3 : Int32) {k : Nat} (hk : k ≤ 3) : ∀ d i M (g : sHp), i + d = k → d < M → g.1 0 39 = o k → ∃ g', sFx (F_M_command_154 n x1 x2 x3) M (o i, g) = some (g.1 0 47, g') ∧ g'.2 = g.2 ∧ ∀ j m, g'.1 j m = if j = 33 ∧ i ≤ m ∧ m < k then g.1 30 m else g.1 j m := by
  intro d
  induction d with
  | zero =>
    intro i M g hi hM h39
    obtain ⟨M, rfl⟩ : ∃ m, M = m + 1 := ⟨M - 1, by omega⟩
    refine ⟨g, ?_, rfl, fun j m => by rw [if_neg (by omega)]⟩
    rw [sFx_s]; unfold F_M_command_154; dsimp only
    rw [h39, if_pos ((o_le (by omega) (by omega)).mpr (by omega))]
  | succ d ih =>
    intro i M g hi hM h39
    obtain ⟨M, rfl⟩ : ∃ m, M = m + 1 := ⟨M - 1, by omega⟩
    obtain ⟨g', e1, e2, e3⟩ := ih (i + 1) M (pI g 33 i (g.1 30 i)) (by omega) (by omega) (by rw [pI_i, if_neg (by omega)]; exact h39)
    refine ⟨g', ?_, e2, fun j m => ?_⟩
    · rw [sFx_s]
      rw [pI_i, if_neg (by omega)] at e1
      generalize sFx (F_M_command_154 n x1 x2 x3) M = X at e1 ⊢
      unfold F_M_command_154; dsimp only
      rw [h39, if_neg (fun z => by have := (o_le (by omega) (by omega)).mp z; omega), sIn_o 4 (by omega), decide_eq_true (by omega), sGd_true, sGd_true, ix_o (by omega), show o i + 1 = o (i + 1) from o_add i 1]
      exact e1
    · rw [e3 j m, pI_i, pI_i]
      by_cases q1 : j = 33 ∧ i + 1 ≤ m ∧ m < k
      · rw [if_pos q1, if_neg (by omega), if_pos (by omega)]
      · rw [if_neg q1]
        by_cases q2 : j = 33 ∧ m = i
        · rw [if_pos q2, if_pos (by omega), q2.2]
        · rw [if_neg q2, if_neg (by omega)]
theorem pC_i (h : sHp) {k : Nat} (hk : k < 2147483648) (j m : Nat) : (pC h 9 8 0 0 (o k)).1 j m = if j = 8 ∧ m < k then h.1 9 m else h.1 j m := by
  have e0 : ix (0 : Int32) = 0 := ix_o (a := 0) (by omega)
  simp only [pC, e0, ix_o hk]
  by_cases hj : j = 8
  · subst hj
    simp [va_cpy]
  · simp [hj]
theorem f_command (hn : 30 ≤ n) (hI : Iv n h g) (x1 x2 x3 : Int32) : FcI n (J_L_command n x1 x2 x3 h) (J_M_command n x1 x2 x3 g) := by
  have hI' := hI
  obtain ⟨w, hw, t, k, hW, hK, hP, hA⟩ := hI
  have hR := hW.p.2.2.2.1.1
  have t60 := hP.t60
  obtain ⟨b, b1, b2, b3⟩ := has_cmd (n := n) hW x1 x2 x3
  unfold J_L_command J_S_command J_M_command
  rw [b1, b2, Option.bind_some, Option.bind_some]
  cases b with
  | false => exact FcI_no hI' 1 (by decide) rfl rfl
  | true =>
    obtain ⟨v, rfl, hc, hc0⟩ := b3 rfl
    obtain ⟨jj, j1, j2, rfl, rfl, rfl⟩ := cmd_j hW b1 rfl hc hc0
    rw [if_neg (show ¬ oB true = 0 by decide), if_neg (show ¬ oB true = 0 by decide), hW.a.rm.1, hW.a.rm.2, hP.tr.1, hP.tr.2]
    have bad : FcI n (jC (K_S_command_36 n (o (jv jj)) (av (ja jj)) (av (jb jj)) h) (fun v7 h7 => some (0, (pL h7 41 (ix 0) (Int32.toInt64 v7)))) (fun k h => if k = 1 then some ((1 : Int32), h) else (if k = 2 then some ((2 : Int32), h) else none))) (K_M_command_31 n (o (jv jj)) (av (ja jj)) (av (jb jj)) g) := FcI_no hI' 2 (by decide) rfl rfl
    by_cases h0 : w.mo 3 = 0
    · rw [h0]; exact bad
    have l0 : ¬ o (w.mo 3) ≤ (0 : Int32) := fun z => by have := (o_le (by omega) (by omega : 0 < 2147483648)).mp z; omega
    have n0 : ¬ o (w.mo 3) = (0 : Int32) := fun z => h0 ((o_inj (by omega) (by omega : 0 < 2147483648)).mp z)
    rw [if_neg l0, if_neg n0]
    by_cases ht : t = 60
    · rw [ht]; exact bad
    have lt : ¬ (60 : Int32) ≤ o t := fun z => by have := (o_le (by omega : 60 < 2147483648) (by omega)).mp z; omega
    have nt : ¬ o t = (60 : Int32) := fun z => ht ((o_inj (by omega) (by omega : 60 < 2147483648)).mp z)
    rw [if_neg lt, if_neg nt]
    unfold K_S_command_37 K_M_command_36
    rw [if_neg (show ¬ (1 : Int32) = 0 by decide), if_pos (show (0 : Int32) ≤ 0 by decide), hP.tr.1, hP.tr.2, hP.now.1, hP.now.2, eA_over, ix_o (by omega), sIn_o 61 (by omega), decide_eq_true (by omega), sGd_true, sGd_true, b_over, Option.bind_some]
    have h8 := dV_lt (h.2 7 t)
    by_cases h20 : dg (h.2 7 t) 20 = 0
    · rw [if_pos h20, if_pos rfl, h20, if_pos (show o 0 ≤ (0 : Int32) by decide), sIn_o 60 (by omega), decide_eq_true (by omega), sGd_true, sGd_true]
      generalize hg0 : pI (pI (pI (pI g 0 0 0) 31 t (o (eA (h.2 7 t)))) 32 t (o (eB (h.2 7 t)))) 0 44 (o t + 1) = g0
      rw [show o t + 1 = o (t + 1) from o_add t 1] at hg0
      rw [show o t + 1 = o (t + 1) from o_add t 1]
      obtain ⟨gl, l1, l2, l3⟩ := M_lay (g := g0) (h.2 7 t) (by omega : 8 ≤ n)
      have k0 : ∀ j m, ¬ (j = 0 ∧ (m = 0 ∨ m = 44)) → ¬ (j = 31 ∧ m = t) → ¬ (j = 32 ∧ m = t) → g0.1 j m = g.1 j m := fun j m x y z => by rw [← hg0]; (repeat (rw [pI_i, if_neg (by omega)]))
      have kg0 : Kg g g0 := fun j m z => k0 j m (by omega) (by omega) (by omega)
      have hWl := Wr_keep (Kc_refl h) (Kg_trans kg0 (Kg_Lk l3)) hW
      have hS : St w.mo (h.2 7 t) := Sg_St (hP.st t (Nat.le_refl _)) (by omega)
      obtain ⟨s', h', g', k', mk, e1, e2, e3, e4, e5, e6, e7, e8, e9, e10, e11⟩ := take_all (by omega : 13 ≤ n) hWl hK l2 hS hc
      have e3' : Scr (pI g' 0 41 (g.1 0 41)) s' := Scr_pI e3 _ (by omega)
      have p1 : (pI (pI (pI (pI g' 0 41 (g.1 0 41)) 0 42 (o (eA s'))) 0 43 (o (eB s'))) 0 47 (g'.1 0 39)).1 0 39 = o k' := by (repeat (rw [pI_i, if_neg (by omega)])); exact e5.2.1
      obtain ⟨g3, m1, m2, m3⟩ := M_speech (n := n) (o (jv jj)) (av (ja jj)) (av (jb jj)) e6 k' 0 n _ (by omega) (by omega) p1
      have p2 : (pI (pI (pI (pI g' 0 41 (g.1 0 41)) 0 42 (o (eA s'))) 0 43 (o (eB s'))) 0 47 (g'.1 0 39)).1 0 47 = o k' := by rw [pI_i, if_pos ⟨rfl, rfl⟩]; exact e5.2.1
      rw [p2] at m1
      -- the class
      generalize hh3 : pC (pI (pI (pL h' 7 (t + 1) s') 0 5 (o (t + 1))) 0 6 (o k')) 9 8 0 0 (o k') = h3
      have c1 : ∀ j m, h3.1 j m = if j = 8 ∧ m < k' then h'.1 9 m else if j = 0 ∧ m = 6 then o k' else if j = 0 ∧ m = 5 then o (t + 1) else h'.1 j m := fun j m => by
        rw [← hh3, pC_i _ (by omega)]
        by_cases q : j = 8 ∧ m < k'
        · rw [if_pos q, if_pos q]; (repeat (rw [pI_i, if_neg (by omega)])); rfl
        · rw [if_neg q, if_neg q, pI_i, pI_i]; rfl
      have c2 : ∀ j m, h3.2 j m = if j = 7 ∧ m = t + 1 then s' else h'.2 j m := fun j m => by rw [← hh3]; exact pL_i h' 7 (t + 1) s' j m
      have x5 : h'.1 0 5 = o t := by rw [e7.1 0 5 (by omega) (by omega)]; exact hP.tr.1
      have x7 : ∀ m, h'.2 7 m = h.2 7 m := fun m => e7.2.1 7 m (by omega)
      have hJ : jC ((J_E_take n (h.2 7 t) (o (jv jj)) (av (ja jj)) (av (jb jj)) h).bind fun v83 =>
  sGd (sIn (o (t + 1)) 61) (sGd (sCp 0 0 (v83.2.1 1 2) 3 3) (some ((.ok ((pC (pI (pI (pL v83.2 7 (ix (o (t + 1))) v83.1) 0 5 ((v83.2.1 0 5) + 1)) 0 6 (v83.2.1 1 2)) 9 8 0 0 (v83.2.1 1 2)).1 0 6) : Except Nat Int32), (pC (pI (pI (pL v83.2 7 (ix (o (t + 1))) v83.1) 0 5 ((v83.2.1 0 5) + 1)) 0 6 (v83.2.1 1 2)) 9 8 0 0 (v83.2.1 1 2)))))) (fun v7 h7 => some ((0 : Int32), (pL h7 41 (ix 0) (Int32.toInt64 v7)))) (fun k h => if k = 1 then some ((1 : Int32), h) else (if k = 2 then some ((2 : Int32), h) else none)) = some (0, pL h3 41 0 (Int32.toInt64 (o k'))) := by
        have scp : sCp 0 0 (o k') 3 3 = true := by
          have : ∀ k, k < 4 → sCp 0 0 (o k) 3 3 = true := by decide +kernel
          exact this k' (by omega)
        rw [e1, Option.bind_some, sIn_o 61 (by omega), decide_eq_true (by omega), sGd_true]
        dsimp only
        rw [e5.1, scp, sGd_true, x5, ix_o (by omega), show o t + 1 = o (t + 1) from o_add t 1, hh3, c1 0 6, if_neg (by omega), if_pos ⟨rfl, rfl⟩]
        rfl
      rw [hJ, l1, Option.bind_some, e2, Option.bind_some, M_packA e3' (by omega), Option.bind_some, M_packB (Scr_pI e3' _ (by omega)) (by omega), Option.bind_some, show (0 : Int32) = o 0 from rfl, m1]
      have k3 : ∀ j m, ¬ (25 ≤ j ∧ j ≤ 33) → ¬ (j = 0 ∧ (m = 0 ∨ m = 32 ∨ m = 38 ∨ m = 39 ∨ m = 41 ∨ m = 42 ∨ m = 43 ∨ m = 44 ∨ m = 47)) → g3.1 j m = g.1 j m := fun j m x y => by
        rw [m3, if_neg (by omega)]
        (repeat (rw [pI_i, if_neg (by omega)]))
        rw [Tk_at e8 (by omega) (by omega), Lk_at l3 (by omega) (by omega), k0 j m (by omega) (by omega) (by omega)]
      have hKc : Kc h h3 := fun j m z => by rw [c1, if_neg (by omega), if_neg (by omega), if_neg (by omega), e7.1 j m (by omega) (by omega)]
      have hKg : Kg g g3 := fun j m z => k3 j m (by omega) (by omega)
      have x7' : ∀ i, i ≤ t → h3.2 7 i = h.2 7 i := fun i hi => by rw [c2, if_neg (by omega), x7]
      have x7t : h3.2 7 (t + 1) = s' := by rw [c2, if_pos ⟨rfl, rfl⟩]
      refine ⟨0, _, _, _, rfl, rfl, ?_, fun _ => by rw [pL_i, if_pos ⟨rfl, rfl⟩], Iv_out ⟨w, hw, t + 1, k', Wr_keep hKc hKg hW, Kc_trans hK hKc, ?_, ?_⟩ _⟩
      · rw [m3, if_neg (by omega)]
        (repeat (rw [pI_i, if_neg (by omega)]))
        rw [Tk_at e8 (by omega) (by omega), Lk_at l3 (by omega) (by omega), ← hg0]
        simp [pI_i]
      · have g31 : ∀ i, i ≤ t → g3.1 31 i = o (eA (h.2 7 i)) ∧ g3.1 32 i = o (eB (h.2 7 i)) := fun i hi => by
          rw [m3, if_neg (by omega), m3, if_neg (by omega)]
          (repeat (rw [pI_i, if_neg (by omega)]))
          rw [Tk_at e8 (by omega) (by omega), Lk_at l3 (by omega) (by omega), Tk_at e8 (by omega) (by omega), Lk_at l3 (by omega) (by omega)]
          by_cases hi' : i = t
          · subst hi'
            rw [← hg0]; simp [pI_i]
          · rw [k0 _ _ (by omega) (by omega) (by omega), k0 _ _ (by omega) (by omega) (by omega)]
            exact hP.past i (by omega)
        refine ⟨by omega, ⟨by rw [c1, if_neg (by omega), if_neg (by omega), if_pos ⟨rfl, rfl⟩], ?_⟩, e6, ⟨by rw [c1, if_neg (by omega), if_pos ⟨rfl, rfl⟩], by rw [m3, if_neg (by omega)]; exact p2⟩, fun i hi => ?_, fun z => absurd z (by omega), ?_, fun i hi => ?_, by rw [x7' 0 (by omega)]; exact hP.fst, fun i hi => ?_, fun z => absurd z h0, fun i hi => ?_⟩
        · rw [m3, if_neg (by omega)]
          (repeat (rw [pI_i, if_neg (by omega)]))
          rw [Tk_at e8 (by omega) (by omega), Lk_at l3 (by omega) (by omega), ← hg0]
          simp [pI_i]
        · rw [c1, if_pos (by omega), m3, if_pos (by omega)]
          (repeat (rw [pI_i, if_neg (by omega)]))
          exact e5.2.2 i hi
        · rw [x7t, m3, if_neg (by omega), m3, if_neg (by omega)]
          simp [pI_i]
        · rw [x7' i (by omega)]; exact g31 i (by omega)
        · by_cases hi' : i = t + 1
          · rw [hi', x7t]; exact St_Sg e4
          · rw [x7' i (by omega)]; exact hP.st i (by omega)
        · rw [x7' i (by omega)]
          by_cases hi' : i = t
          · subst hi'
            rw [x7t]
            exact ⟨h20, jj, j1, j2, e11⟩
          · rw [x7' (i + 1) (by omega)]; exact hP.nx i (by omega)
      · have ka : Ka h h3 := by
          refine ⟨fun j m z => ?_, fun j m z => ?_⟩
          · rw [c1, if_neg (by omega), if_neg (by omega), if_neg (by omega), e7.1 j m (by omega) (by omega)]
          · rw [c2, if_neg (by omega), e7.2.1 j m (by omega)]
        have kr : Kr g g3 := fun j m z => by
          by_cases h41 : j = 0 ∧ m = 41
          · obtain ⟨rfl, rfl⟩ := h41
            rw [m3, if_neg (by omega)]
            simp [pI_i]
          · exact k3 j m (by omega) (by omega)
        rcases hA with hA | ⟨f, d, fu, hA⟩
        · exact Or.inl (AtC_keep ka kr hA)
        · exact Or.inr ⟨f, d, fu, AtO_keep ka kr hA⟩
    · have q0 : ¬ o (dg (h.2 7 t) 20) ≤ (0 : Int32) := fun z => by have := (o_le (by omega) (by omega : 0 < 2147483648)).mp z; omega
      rw [if_neg h20, if_neg (show ¬ (1 : Int32) = 0 by decide), if_neg q0]
      exact ⟨0, _, _, _, rfl, rfl, by rw [pI_i, if_pos ⟨rfl, rfl⟩], fun _ => by rw [show ix (0 : Int32) = 0 from rfl, pL_i, if_pos ⟨rfl, rfl⟩], Iv_out (Iv_code hI' 0) _⟩
end CO
