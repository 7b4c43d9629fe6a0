/-! A rule's effects one after another, both sides. -/
def effL (mo : Nat → Nat) (K X Y : Nat → Int32) : Nat → Nat → Int64 → Int64
  | 0, _, s => s
  | c + 1, i, s => if dg s 20 = 0 then effL mo K X Y c (i + 1) (eff s mo (K i) (X i) (Y i)) else s
theorem pL_pL (h : sHp) (i k : Nat) (a b : Int64) : pL (pL h i k a) i k b = pL h i k b := by
  obtain ⟨f, l⟩ := h
  simp only [pL]
  congr 1
  funext j m
  by_cases hj : j = i
  · subst hj
    simp only [if_true]
    by_cases hm : m = k <;> simp [vp_updL, hm]
  · simp [hj]
theorem pL_at1 (h : sHp) (i k : Nat) (a : Int64) : (pL h i k a).2 i k = a := by simp [pL, vp_updL]
theorem Lk_trans {a b c : sHp} (h1 : Lk a b) (h2 : Lk b c) : Lk a c := ⟨fun j m q1 q2 q3 q4 q5 q6 => (h2.1 j m q1 q2 q3 q4 q5 q6).trans (h1.1 j m q1 q2 q3 q4 q5 q6), h2.2.trans h1.2⟩
theorem effL_ok {mo : Nat → Nat} {K X Y : Nat → Int32} : ∀ c i (s : Int64) (r : Nat → Nat), Rk s r → sT s → (∀ j, i ≤ j → j < i + c → okE mo (K j) (X j) (Y j)) → sT (effL mo K X Y c i s) ∧ ∃ r', Rk (effL mo K X Y c i s) r' := by
  intro c
  induction c with
  | zero => intro i s r hr hs _; exact ⟨hs, r, hr⟩
  | succ c ih =>
    intro i s r hr hs hok
    unfold effL
    by_cases h0 : dg s 20 = 0
    · rw [if_pos h0]
      obtain ⟨a, r', b⟩ := eff_ok hr hs (hok i (Nat.le_refl _) (by omega))
      exact ih (i + 1) _ r' b a (fun j h1 h2 => hok j (by omega) (by omega))
    · rw [if_neg h0]; exact ⟨hs, r, hr⟩
theorem effL_V {mo : Nat → Nat} {K X Y : Nat → Int32} : ∀ c i (s : Int64), Vb mo s → (∀ j, i ≤ j → j < i + c → okE mo (K j) (X j) (Y j)) → Vb mo (effL mo K X Y c i s) := by
  intro c
  induction c with
  | zero => intro i s hV _; exact hV
  | succ c ih =>
    intro i s hV hok
    unfold effL
    by_cases h0 : dg s 20 = 0
    · rw [if_pos h0]
      exact ih (i + 1) _ (eff_V hV (hok i (Nat.le_refl _) (by omega))) (fun j h1 h2 => hok j (by omega) (by omega))
    · rw [if_neg h0]; exact hV
theorem E_effs {n : Nat} (hn : 8 ≤ n) (p1 : Int32) {mo : Nat → Nat} {e : Nat} (he : e ≤ 36) : ∀ c i N (h : sHp) (r : Nat → Nat), i + c = e → c < N → Rk (h.2 1 4) r → sT (h.2 1 4) → (∀ t, t < 3 → mo t < 8 → h.1 15 t = o (mo t)) → (∀ j, i ≤ j → j < e → okE mo (h.1 31 j) (h.1 32 j) (h.1 33 j)) → sFx (F_E_doRule_52 n p1 (o e)) N (o i, h) = some (pL h 1 4 (effL mo (h.1 31) (h.1 32) (h.1 33) c i (h.2 1 4))) := by
  intro c
  induction c with
  | zero =>
    intro i N h r hi hN hr hs hmo hok
    obtain ⟨N, rfl⟩ : ∃ M, N = M + 1 := ⟨N - 1, by omega⟩
    rw [sFx_s]
    unfold F_E_doRule_52
    dsimp only
    rw [if_pos ((o_le (by omega) (by omega)).mpr (by omega))]
    show some h = some (pL h 1 4 (h.2 1 4))
    rw [pL_same]
  | succ c ih =>
    intro i N h r hi hN hr hs hmo hok
    obtain ⟨N, rfl⟩ : ∃ M, N = M + 1 := ⟨N - 1, by omega⟩
    have hlt : ¬ o e ≤ o i := fun z => by have := (o_le (by omega) (by omega)).mp z; omega
    have ok1 := hok i (Nat.le_refl _) (by omega)
    obtain ⟨a1, r', a2⟩ := eff_ok hr hs ok1
    have i1 := ih (i + 1) N (pL h 1 4 (eff (h.2 1 4) mo (h.1 31 i) (h.1 32 i) (h.1 33 i))) r' (by omega) (by omega) (by rw [pL_at1]; exact a2) (by rw [pL_at1]; exact a1) hmo (fun j h1 h2 => hok j (by omega) h2)
    rw [pL_at1, pL_pL] at i1
    rw [sFx_s]
    generalize sFx (F_E_doRule_52 n p1 (o e)) N = R at i1 ⊢
    unfold F_E_doRule_52
    dsimp only
    rw [if_neg hlt, b_over, sIn_o 36 (by omega), decide_eq_true (show i < 36 by omega), ix_o (by omega), show o i + 1 = o (i + 1) from o_add i 1]
    simp only [sGd_true, Option.bind_some, E_effect hr hn hmo ok1]
    unfold effL
    by_cases h0 : dg (h.2 1 4) 20 = 0
    · rw [if_pos h0, if_pos h0, if_pos rfl]
      exact i1
    · rw [if_neg h0, if_neg h0, if_neg (by decide), pL_same]
theorem M_effs {n : Nat} (hn : 8 ≤ n) {mo : Nat → Nat} {q e : Nat} (hq : q < 12) (he : e ≤ 36) : ∀ c i N (g : sHp) (s : Int64) (r : Nat → Nat), i + c = e → c < N → Scr g s → Rk s r → sT s → (3 : Int32) * o q + g.1 17 q = o e → (∀ t, t < 3 → mo t < 8 → g.1 5 t = o (mo t)) → (∀ j, i ≤ j → j < e → okE mo (g.1 18 j) (g.1 19 j) (g.1 20 j)) → ∃ g', sFx (F_M_fire_26 n (o q)) N (o i, g) = some g' ∧ Scr g' (effL mo (g.1 18) (g.1 19) (g.1 20) c i s) ∧ Lk g g' := by
  intro c
  induction c with
  | zero =>
    intro i N g s r hi hN hg hr hs hsz hmo hok
    obtain ⟨N, rfl⟩ : ∃ M, N = M + 1 := ⟨N - 1, by omega⟩
    refine ⟨g, ?_, hg, Lk_refl g⟩
    rw [sFx_s]
    unfold F_M_fire_26
    dsimp only
    rw [sIn_o 12 (by omega), decide_eq_true hq, sGd_true, ix_o (by omega), hsz, if_pos ((o_le (by omega) (by omega)).mpr (by omega))]
  | succ c ih =>
    intro i N g s r hi hN hg hr hs hsz hmo hok
    obtain ⟨N, rfl⟩ : ∃ M, N = M + 1 := ⟨N - 1, by omega⟩
    have hlt : ¬ o e ≤ o i := fun z => by have := (o_le (by omega) (by omega)).mp z; omega
    have ok1 := hok i (Nat.le_refl _) (by omega)
    obtain ⟨a1, r', a2⟩ := eff_ok hr hs ok1
    obtain ⟨g1, c1, c2, c3⟩ := M_change hg hr hn hmo ok1
    have k : ∀ j m, j = 17 ∨ j = 18 ∨ j = 19 ∨ j = 20 ∨ j = 5 → g1.1 j m = g.1 j m := fun j m hj => c3.1 j m (by omega) (by omega) (by omega) (by omega) (by omega) (by omega)
    have e18 : g1.1 18 = g.1 18 := funext fun m => k 18 m (by omega)
    have e19 : g1.1 19 = g.1 19 := funext fun m => k 19 m (by omega)
    have e20 : g1.1 20 = g.1 20 := funext fun m => k 20 m (by omega)
    obtain ⟨g', d1, d2, d3⟩ := ih (i + 1) N g1 _ r' (by omega) (by omega) c2 a2 a1 (by rw [k 17 q (by omega)]; exact hsz) (fun t h1 h2 => by rw [k 5 t (by omega)]; exact hmo t h1 h2) (fun j h1 h2 => by rw [e18, e19, e20]; exact hok j (by omega) h2)
    rw [e18, e19, e20] at d2
    rw [sFx_s]
    generalize sFx (F_M_fire_26 n (o q)) N = R at d1 ⊢
    unfold F_M_fire_26
    dsimp only
    rw [sIn_o 12 (by omega), decide_eq_true hq, sGd_true, ix_o (by omega : q < 2147483648), hsz, if_neg hlt, hg.2.2.2.2.2.2, sIn_o 36 (by omega), decide_eq_true (show i < 36 by omega), ix_o (by omega : i < 2147483648), show o i + 1 = o (i + 1) from o_add i 1, c1]
    simp only [sGd_true, Option.bind_some]
    unfold effL
    have hz : o (dg s 20) = (0 : Int32) ↔ dg s 20 = 0 := o_inj (by have := dV_lt s; omega) (by omega : 0 < 2147483648)
    by_cases h0 : dg s 20 = 0
    · rw [if_pos (hz.mpr h0), if_pos h0]
      exact ⟨g', d1, d2, Lk_trans c3 d3⟩
    · rw [if_neg (fun z => h0 (hz.mp z)), if_neg h0]
      exact ⟨g, rfl, hg, Lk_refl g⟩
