theorem pI_i (h : sHp) (i k : Nat) (x : Int32) (j m : Nat) : (pI h i k x).1 j m = if j = i ∧ m = k then x else h.1 j m := by
  simp only [pI]
  by_cases hj : j = i
  · subst hj
    simp [upd]
  · simp [hj]
theorem pI_l (h : sHp) (i k : Nat) (x : Int32) : (pI h i k x).2 = h.2 := rfl
theorem d16 {a b : Nat} (h : b < 16) : (16 * a + b) / 16 = a ∧ (16 * a + b) % 16 = b := by omega
/-- what lay leaves as it was -/
def Lk (g g' : sHp) : Prop := (∀ j m, j ≠ 25 → j ≠ 26 → j ≠ 27 → j ≠ 28 → j ≠ 29 → ¬ (j = 0 ∧ (m = 32 ∨ m = 38)) → g'.1 j m = g.1 j m) ∧ g'.2 = g.2
theorem Lk_refl (g : sHp) : Lk g g := ⟨fun _ _ _ _ _ _ _ _ => rfl, rfl⟩
theorem Lk_pI {g g' : sHp} {i k : Nat} {x : Int32} (h : Lk g g') (hi : i = 25 ∨ i = 26 ∨ i = 27 ∨ i = 28 ∨ i = 29 ∨ (i = 0 ∧ (k = 32 ∨ k = 38))) : Lk g (pI g' i k x) := by
  refine ⟨fun j m h1 h2 h3 h4 h5 h6 => ?_, h.2⟩
  rw [pI_i, if_neg ?_]
  · exact h.1 j m h1 h2 h3 h4 h5 h6
  · rintro ⟨rfl, rfl⟩
    rcases hi with z | z | z | z | z | z <;> first | omega | exact h6 z
theorem om1 {t : Nat} (h : 0 < t) : o t + (-1) = o (t - 1) := by
  have e : o t = o (t - 1) + o 1 := by rw [o_add]; congr 1; omega
  rw [e, Int32.add_assoc]
  have : o 1 + (-1 : Int32) = 0 := by decide
  rw [this, Int32.add_zero]
theorem om0 : o 0 + (-1) = (-1 : Int32) := by decide
theorem nl0 {t : Nat} (ht : t < 100) : ¬ o t < 0 := fun z => by have := (o_lt (by omega) (by omega : 0 < 2147483648)).mp z; omega
/-- the state's fields that are laid so far: places from a on, lids from b on, numbers from c on, walkers and timers from d on, the room where e = 0 -/
def Ps (h : sHp) (s : Int64) (a b c d e : Nat) : Prop := (e = 0 → h.1 0 32 = o (dg s 0)) ∧ (∀ t, a ≤ t → t < 6 → h.1 25 t = o (dg s (1 + t))) ∧ (∀ t, b ≤ t → t < 6 → h.1 26 t = o (dg s (7 + t))) ∧ (∀ k, c ≤ k → k < 3 → h.1 27 k = o (dg s (13 + k))) ∧ (∀ k, d ≤ k → k < 2 → h.1 28 k = o (dg s (16 + k)) ∧ h.1 29 k = o (dg s (18 + k))) ∧ h.1 0 38 = o (dg s 20)
theorem Ps_Scr {h : sHp} {s : Int64} (p : Ps h s 0 0 0 0 0) : Scr h s := ⟨p.1 rfl, fun t ht => p.2.1 t (Nat.zero_le _) ht, fun t ht => p.2.2.1 t (Nat.zero_le _) ht, fun t ht => p.2.2.2.1 t (Nat.zero_le _) ht, fun t ht => (p.2.2.2.2.1 t (Nat.zero_le _) ht).1, fun t ht => (p.2.2.2.2.1 t (Nat.zero_le _) ht).2, p.2.2.2.2.2⟩
theorem Ps_place {h : sHp} {s : Int64} {a b c d e : Nat} (p : Ps h s (a + 1) b c d e) : Ps (pI h 25 a (o (dg s (1 + a)))) s a b c d e := by
  obtain ⟨p1, p2, p3, p4, p5, p6⟩ := p
  refine ⟨fun z => ?_, fun t h1 h2 => ?_, fun t h1 h2 => ?_, fun t h1 h2 => ?_, fun t h1 h2 => ?_, ?_⟩
  · rw [pI_i, if_neg (by omega)]; exact p1 z
  · rw [pI_i]
    by_cases hq : t = a
    · subst hq; rw [if_pos ⟨rfl, rfl⟩]
    · rw [if_neg (by omega)]; exact p2 t (by omega) h2
  · rw [pI_i, if_neg (by omega)]; exact p3 t h1 h2
  · rw [pI_i, if_neg (by omega)]; exact p4 t h1 h2
  · rw [pI_i, if_neg (by omega), pI_i, if_neg (by omega)]; exact p5 t h1 h2
  · rw [pI_i, if_neg (by omega)]; exact p6
theorem Ps_open {h : sHp} {s : Int64} {a b c d e : Nat} (p : Ps h s a (b + 1) c d e) : Ps (pI h 26 b (o (dg s (7 + b)))) s a b c d e := by
  obtain ⟨p1, p2, p3, p4, p5, p6⟩ := p
  refine ⟨fun z => ?_, fun t h1 h2 => ?_, fun t h1 h2 => ?_, fun t h1 h2 => ?_, fun t h1 h2 => ?_, ?_⟩
  · rw [pI_i, if_neg (by omega)]; exact p1 z
  · rw [pI_i, if_neg (by omega)]; exact p2 t h1 h2
  · rw [pI_i]
    by_cases hq : t = b
    · subst hq; rw [if_pos ⟨rfl, rfl⟩]
    · rw [if_neg (by omega)]; exact p3 t (by omega) h2
  · rw [pI_i, if_neg (by omega)]; exact p4 t h1 h2
  · rw [pI_i, if_neg (by omega), pI_i, if_neg (by omega)]; exact p5 t h1 h2
  · rw [pI_i, if_neg (by omega)]; exact p6
theorem Ps_num {h : sHp} {s : Int64} {a b c d e : Nat} (p : Ps h s a b (c + 1) d e) : Ps (pI h 27 c (o (dg s (13 + c)))) s a b c d e := by
  obtain ⟨p1, p2, p3, p4, p5, p6⟩ := p
  refine ⟨fun z => ?_, fun t h1 h2 => ?_, fun t h1 h2 => ?_, fun t h1 h2 => ?_, fun t h1 h2 => ?_, ?_⟩
  · rw [pI_i, if_neg (by omega)]; exact p1 z
  · rw [pI_i, if_neg (by omega)]; exact p2 t h1 h2
  · rw [pI_i, if_neg (by omega)]; exact p3 t h1 h2
  · rw [pI_i]
    by_cases hq : t = c
    · subst hq; rw [if_pos ⟨rfl, rfl⟩]
    · rw [if_neg (by omega)]; exact p4 t (by omega) h2
  · rw [pI_i, if_neg (by omega), pI_i, if_neg (by omega)]; exact p5 t h1 h2
  · rw [pI_i, if_neg (by omega)]; exact p6
theorem Ps_st {h : sHp} {s : Int64} {a b c d e : Nat} (p : Ps h s a b c (d + 1) e) : Ps (pI (pI h 29 d (o (dg s (18 + d)))) 28 d (o (dg s (16 + d)))) s a b c d e := by
  obtain ⟨p1, p2, p3, p4, p5, p6⟩ := p
  refine ⟨fun z => ?_, fun t h1 h2 => ?_, fun t h1 h2 => ?_, fun t h1 h2 => ?_, fun t h1 h2 => ?_, ?_⟩
  · rw [pI_i, if_neg (by omega), pI_i, if_neg (by omega)]; exact p1 z
  · rw [pI_i, if_neg (by omega), pI_i, if_neg (by omega)]; exact p2 t h1 h2
  · rw [pI_i, if_neg (by omega), pI_i, if_neg (by omega)]; exact p3 t h1 h2
  · rw [pI_i, if_neg (by omega), pI_i, if_neg (by omega)]; exact p4 t h1 h2
  · by_cases hq : t = d
    · subst hq
      refine ⟨?_, ?_⟩
      · rw [pI_i, if_pos ⟨rfl, rfl⟩]
      · rw [pI_i, if_neg (by omega), pI_i, if_pos ⟨rfl, rfl⟩]
    · rw [pI_i, if_neg (by omega), pI_i, if_neg (by omega), pI_i, if_neg (by omega), pI_i, if_neg (by omega)]; exact p5 t (by omega) h2
  · rw [pI_i, if_neg (by omega), pI_i, if_neg (by omega)]; exact p6
theorem Ps_here {h : sHp} {s : Int64} {a b c d e : Nat} (p : Ps h s a b c d e) : Ps (pI h 0 32 (o (dg s 0))) s a b c d 0 := by
  obtain ⟨p1, p2, p3, p4, p5, p6⟩ := p
  refine ⟨fun z => ?_, fun t h1 h2 => ?_, fun t h1 h2 => ?_, fun t h1 h2 => ?_, fun t h1 h2 => ?_, ?_⟩
  · rw [pI_i, if_pos ⟨rfl, rfl⟩]
  · rw [pI_i, if_neg (by omega)]; exact p2 t h1 h2
  · rw [pI_i, if_neg (by omega)]; exact p3 t h1 h2
  · rw [pI_i, if_neg (by omega)]; exact p4 t h1 h2
  · rw [pI_i, if_neg (by omega), pI_i, if_neg (by omega)]; exact p5 t h1 h2
  · rw [pI_i, if_neg (by omega)]; exact p6
theorem sFx_s {S R : Type} (F : (S → Option R) → S → Option R) (N : Nat) (q : S) : sFx F (N + 1) q = F (sFx F N) q := rfl
theorem M_lay4 {g : sHp} (s : Int64) (n : Nat) (p1 p2 : Int32) : ∀ t N (h : sHp), t ≤ 6 → t < N → Ps h s 0 t 0 0 0 → Lk g h → ∃ g', sFx (F_M_lay_128 n p1 p2) N (o (uO s t), o t + (-1), h) = some g' ∧ Scr g' s ∧ Lk g g' := by
  intro t
  induction t with
  | zero =>
    intro N h ht hN p hL
    obtain ⟨N, rfl⟩ : ∃ M, N = M + 1 := ⟨N - 1, by omega⟩
    refine ⟨h, ?_, Ps_Scr p, hL⟩
    show F_M_lay_128 n p1 p2 (sFx (F_M_lay_128 n p1 p2) N) (o (uO s 0), o 0 + (-1), h) = _
    unfold F_M_lay_128
    rfl
  | succ t ih =>
    intro N h ht hN p hL
    obtain ⟨N, rfl⟩ : ∃ M, N = M + 1 := ⟨N - 1, by omega⟩
    obtain ⟨g', e, r⟩ := ih N (pI h 26 t (o (dg s (7 + t)))) (by omega) (by omega) (Ps_open p) (Lk_pI hL (by omega))
    refine ⟨g', ?_, r⟩
    have hb := dO_lt s (show t < 6 by omega)
    have hu := uO_s s (show t + 1 ≤ 6 by omega)
    have eu : uO s (t + 1) = 2 * uO s t + dg s (7 + t) := rfl
    have et : t + 1 - 1 = t := by omega
    rw [sFx_s]
    unfold F_M_lay_128
    dsimp only
    rw [om1 (by omega), et, if_neg (nl0 (by omega)), show (2 : Int32) = o 2 from rfl, jRem_o hu (by omega), o_div hu (by omega), sIn_o 6 (by omega), decide_eq_true (show t < 6 by omega), ix_o (by omega)]
    have e1 : uO s (t + 1) / 2 = uO s t := by omega
    have e2 : uO s (t + 1) % 2 = dg s (7 + t) := by omega
    rw [e1, e2]
    simp only [sGd_true]
    rcases (show dg s (7 + t) = 0 ∨ dg s (7 + t) = 1 by omega) with z | z
    · rw [z, if_neg (by decide : ¬ o 0 = 1)]; rw [z] at e; exact e
    · rw [z, if_pos (by decide : o 1 = 1)]; rw [z] at e; exact e
theorem M_lay3 {g : sHp} (s : Int64) {n : Nat} (hn : 8 ≤ n) (p1 p2 : Int32) : ∀ t N (h : sHp), t ≤ 3 → t < N → Ps h s 0 6 t 0 0 → Lk g h → ∃ g', sFx (F_M_lay_98 n p1 p2) N (o (uN s t), o t + (-1), h) = some g' ∧ Scr g' s ∧ Lk g g' := by
  intro t
  induction t with
  | zero =>
    intro N h ht hN p hL
    obtain ⟨N, rfl⟩ : ∃ M, N = M + 1 := ⟨N - 1, by omega⟩
    exact M_lay4 s n p1 p2 6 n h (by omega) (by omega) p hL
  | succ t ih =>
    intro N h ht hN p hL
    obtain ⟨N, rfl⟩ : ∃ M, N = M + 1 := ⟨N - 1, by omega⟩
    obtain ⟨g', e, r⟩ := ih N (pI h 27 t (o (dg s (13 + t)))) (by omega) (by omega) (Ps_num p) (Lk_pI hL (by omega))
    refine ⟨g', ?_, r⟩
    have hb := dN_lt s (show t < 3 by omega)
    have hu := uN_s s (show t + 1 ≤ 3 by omega)
    have eu : uN s (t + 1) = 8 * uN s t + dg s (13 + t) := rfl
    have et : t + 1 - 1 = t := by omega
    rw [sFx_s]
    unfold F_M_lay_98
    dsimp only
    rw [om1 (by omega), et, if_neg (nl0 (by omega)), show (8 : Int32) = o 8 from rfl, jRem_o hu (by omega), o_div hu (by omega), sIn_o 3 (by omega), decide_eq_true (show t < 3 by omega), ix_o (by omega)]
    have e1 : uN s (t + 1) / 8 = uN s t := by omega
    have e2 : uN s (t + 1) % 8 = dg s (13 + t) := by omega
    rw [e1, e2]
    exact e
theorem M_lay2 {g : sHp} (s : Int64) {n : Nat} (hn : 8 ≤ n) (p1 p2 : Int32) : ∀ t N (h : sHp), t ≤ 2 → t < N → Ps h s 0 6 3 t 0 → Lk g h → ∃ g', sFx (F_M_lay_55 n p1 p2) N (o (uT s t), o t + (-1), h) = some g' ∧ Scr g' s ∧ Lk g g' := by
  intro t
  induction t with
  | zero =>
    intro N h ht hN p hL
    obtain ⟨N, rfl⟩ : ∃ M, N = M + 1 := ⟨N - 1, by omega⟩
    exact M_lay3 s hn p1 p2 3 n h (by omega) (by omega) p hL
  | succ t ih =>
    intro N h ht hN p hL
    obtain ⟨N, rfl⟩ : ∃ M, N = M + 1 := ⟨N - 1, by omega⟩
    obtain ⟨g', e, r⟩ := ih N (pI (pI h 29 t (o (dg s (18 + t)))) 28 t (o (dg s (16 + t)))) (by omega) (by omega) (Ps_st p) (Lk_pI (Lk_pI hL (by omega)) (by omega))
    refine ⟨g', ?_, r⟩
    have hb := dS_lt s (show t < 2 by omega)
    have hc := dC_lt s (show t < 2 by omega)
    have hu := uT_s s (show t + 1 ≤ 2 by omega)
    have eu : uT s (t + 1) = 64 * uT s t + 16 * dg s (16 + t) + dg s (18 + t) := rfl
    have et : t + 1 - 1 = t := by omega
    rw [sFx_s]
    unfold F_M_lay_55
    dsimp only
    rw [om1 (by omega), et, if_neg (nl0 (by omega)), show (16 : Int32) = o 16 from rfl, show (64 : Int32) = o 64 from rfl, show (4 : Int32) = o 4 from rfl, jRem_o hu (by omega), o_div hu (by omega), o_div hu (by omega), jRem_o (by omega) (by omega), sIn_o 2 (by omega), decide_eq_true (show t < 2 by omega), ix_o (by omega)]
    have e1 : uT s (t + 1) / 64 = uT s t := by omega
    have e2 : uT s (t + 1) % 16 = dg s (18 + t) := by omega
    have e3 : uT s (t + 1) / 16 % 4 = dg s (16 + t) := by omega
    rw [e1, e2, e3]
    exact e
theorem M_lay1 {g : sHp} (s : Int64) {n : Nat} (hn : 8 ≤ n) (p1 : Int32) : ∀ t N (h : sHp), t ≤ 6 → t < N → Ps h s t 6 3 2 1 → Lk g h → ∃ g', sFx (F_M_lay_18 n p1 (o (eB s))) N (o (vA s t), o t + (-1), h) = some g' ∧ Scr g' s ∧ Lk g g' := by
  intro t
  induction t with
  | zero =>
    intro N h ht hN p hL
    obtain ⟨N, rfl⟩ : ∃ M, N = M + 1 := ⟨N - 1, by omega⟩
    exact M_lay2 s hn p1 (o (eB s)) 2 n (pI h 0 32 (o (dg s 0))) (by omega) (by omega) (Ps_here p) (Lk_pI hL (by omega))
  | succ t ih =>
    intro N h ht hN p hL
    obtain ⟨N, rfl⟩ : ∃ M, N = M + 1 := ⟨N - 1, by omega⟩
    obtain ⟨g', e, r⟩ := ih N (pI h 25 t (o (dg s (1 + t)))) (by omega) (by omega) (Ps_place p) (Lk_pI hL (by omega))
    refine ⟨g', ?_, r⟩
    have hb := pl_lt s (show t < 6 by omega)
    have hu := vA_s s (show t + 1 ≤ 6 by omega)
    have eu : vA s (t + 1) = 16 * vA s t + pl s t := rfl
    have et : t + 1 - 1 = t := by omega
    rw [sFx_s]
    unfold F_M_lay_18
    dsimp only
    rw [om1 (by omega), et, if_neg (nl0 (by omega)), show (16 : Int32) = o 16 from rfl, jRem_o hu (by omega), o_div hu (by omega), sIn_o 6 (by omega), decide_eq_true (show t < 6 by omega), ix_o (by omega)]
    have e1 : vA s (t + 1) / 16 = vA s t := by omega
    have e2 : vA s (t + 1) % 16 = dg s (1 + t) := by show _ = pl s t; omega
    rw [e1, e2]
    exact e
theorem eA_s (s : Int64) : eA s < 2147483648 := by
  have h1 := vA_lt s 6 (by omega)
  have h2 := dV_lt s
  unfold eA
  omega
/-- lay puts a state into the reference's fields -/
theorem M_lay {g : sHp} (s : Int64) {n : Nat} (hn : 8 ≤ n) : ∃ g', J_M_lay n (o (eA s)) (o (eB s)) g = some g' ∧ Scr g' s ∧ Lk g g' := by
  have h2 := dV_lt s
  have e1 : eA s / 8 = vA s 6 := by unfold eA; omega
  have e2 : eA s % 8 = dg s 20 := by unfold eA; omega
  unfold J_M_lay
  rw [show (8 : Int32) = o 8 from rfl, o_div (eA_s s) (by omega), jRem_o (eA_s s) (by omega), e1, e2]
  refine M_lay1 s hn (o (eA s)) 6 n (pI g 0 38 (o (dg s 20))) (by omega) (by omega) ⟨fun z => by omega, fun t a b => by omega, fun t a b => by omega, fun t a b => by omega, fun t a b => by omega, ?_⟩ (Lk_pI (Lk_refl g) (by omega))
  rw [pI_i, if_pos ⟨rfl, rfl⟩]
