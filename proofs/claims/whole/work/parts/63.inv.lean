/-! What holds between calls. -/
theorem pL_i (h : sHp) (i k : Nat) (x : Int64) (j m : Nat) : (pL h i k x).2 j m = if j = i ∧ m = k then x else h.2 j m := by
  simp only [pL]
  by_cases hj : j = i
  · subst hj
    by_cases hm : m = k <;> simp [vp_updL, hm]
  · simp [hj]
theorem pI_2 (h : sHp) (i k : Nat) (x : Int32) : (pI h i k x).2 = h.2 := rfl
theorem pL_1 (h : sHp) (i k : Nat) (x : Int64) : (pL h i k x).1 = h.1 := rfl
/-- a thing that a command names: none is 0 -/
def av (x : Nat) : Int32 := o x - 1
theorem av0 : av 0 = -1 := rfl
theorem av1 (x : Nat) : av (x + 1) = o x := by unfold av; rw [show (1 : Int32) = o 1 from rfl, o_sub (by omega)]; rfl
theorem av_next (x : Nat) : av x + 1 = av (x + 1) := by
  cases x with
  | zero => decide
  | succ x => rw [av1, av1, show (1 : Int32) = o 1 from rfl, o_add]
/-- the j-th of all commands that could be -/
def jv (j : Nat) : Nat := j / 49
def ja (j : Nat) : Nat := j / 7 % 7
def jb (j : Nat) : Nat := j % 7
/-- whether it is a command -/
def ic (T j : Nat) : Bool :=
  (jv j == 0 && (1 ≤ ja j && ja j ≤ 4) && jb j == 0) || ((1 ≤ jv j && jv j ≤ 4) && (1 ≤ ja j && ja j ≤ T) && jb j == 0) || (jv j == 5 && (1 ≤ ja j && ja j ≤ T) && (1 ≤ jb j && jb j ≤ T)) || (jv j == 6 && ja j == 0 && jb j == 0) || ((7 ≤ jv j && jv j ≤ 8) && ja j ≤ T && jb j ≤ T)
def cnt (T : Nat) : Nat → Nat
  | 0 => 0
  | j + 1 => cnt T j + if ic T j then 1 else 0
def cod (j : Nat) : Nat := 64 * jv j + 8 * ja j + jb j
/-- one turn leads from s to s' -/
def Nx (n : Nat) (hw : sHp) (s : Int64) (v : Nat) (a b : Int32) (s' : Int64) : Prop := ∃ h', J_E_take n s (o v) a b hw = some (s', h')
/-- a state of the line: within bounds where there is a room -/
def Sg (mo : Nat → Nat) (s : Int64) : Prop := (∃ r, Rk s r) ∧ sT s ∧ (0 < mo 3 → Vb mo s)
theorem Sg_St {mo : Nat → Nat} {s : Int64} (hS : Sg mo s) (h0 : 0 < mo 3) : St mo s := ⟨hS.1, hS.2.1, hS.2.2 h0⟩
theorem St_Sg {mo : Nat → Nat} {s : Int64} (hS : St mo s) : Sg mo s := ⟨hS.1, hS.2.1, fun _ => hS.2.2⟩
/-- the play -/
def Pl (n : Nat) (w : Wp) (hw : sHp) (t k : Nat) (h g : sHp) : Prop := (t ≤ 60) ∧ (h.1 0 5 = o t ∧ g.1 0 44 = o t) ∧ (k ≤ 3) ∧ (h.1 0 6 = o k ∧ g.1 0 47 = o k) ∧ (∀ i, i < k → h.1 8 i = g.1 33 i) ∧ (t = 0 → k = 0) ∧ (g.1 0 42 = o (eA (h.2 7 t)) ∧ g.1 0 43 = o (eB (h.2 7 t))) ∧ (∀ i, i < t → g.1 31 i = o (eA (h.2 7 i)) ∧ g.1 32 i = o (eB (h.2 7 i))) ∧ (isF w (h.2 7 0)) ∧ (∀ i, i ≤ t → Sg w.mo (h.2 7 i)) ∧ (w.mo 3 = 0 → t = 0) ∧ (∀ i, i < t → dg (h.2 7 i) 20 = 0 ∧ ∃ j, j < 441 ∧ ic w.T j = true ∧ Nx n hw (h.2 7 i) (jv j) (av (ja j)) (av (jb j)) (h.2 7 (i + 1)))
theorem Pl.t60 {n : Nat} {w : Wp} {hw : sHp} {t k : Nat} {h g : sHp} (x : Pl n w hw t k h g) : t ≤ 60 := x.1
theorem Pl.tr {n : Nat} {w : Wp} {hw : sHp} {t k : Nat} {h g : sHp} (x : Pl n w hw t k h g) : h.1 0 5 = o t ∧ g.1 0 44 = o t := x.2.1
theorem Pl.k3 {n : Nat} {w : Wp} {hw : sHp} {t k : Nat} {h g : sHp} (x : Pl n w hw t k h g) : k ≤ 3 := x.2.2.1
theorem Pl.tx {n : Nat} {w : Wp} {hw : sHp} {t k : Nat} {h g : sHp} (x : Pl n w hw t k h g) : h.1 0 6 = o k ∧ g.1 0 47 = o k := x.2.2.2.1
theorem Pl.tt {n : Nat} {w : Wp} {hw : sHp} {t k : Nat} {h g : sHp} (x : Pl n w hw t k h g) : ∀ i, i < k → h.1 8 i = g.1 33 i := x.2.2.2.2.1
theorem Pl.tz {n : Nat} {w : Wp} {hw : sHp} {t k : Nat} {h g : sHp} (x : Pl n w hw t k h g) : t = 0 → k = 0 := x.2.2.2.2.2.1
theorem Pl.now {n : Nat} {w : Wp} {hw : sHp} {t k : Nat} {h g : sHp} (x : Pl n w hw t k h g) : g.1 0 42 = o (eA (h.2 7 t)) ∧ g.1 0 43 = o (eB (h.2 7 t)) := x.2.2.2.2.2.2.1
theorem Pl.past {n : Nat} {w : Wp} {hw : sHp} {t k : Nat} {h g : sHp} (x : Pl n w hw t k h g) : ∀ i, i < t → g.1 31 i = o (eA (h.2 7 i)) ∧ g.1 32 i = o (eB (h.2 7 i)) := x.2.2.2.2.2.2.2.1
theorem Pl.fst {n : Nat} {w : Wp} {hw : sHp} {t k : Nat} {h g : sHp} (x : Pl n w hw t k h g) : isF w (h.2 7 0) := x.2.2.2.2.2.2.2.2.1
theorem Pl.st {n : Nat} {w : Wp} {hw : sHp} {t k : Nat} {h g : sHp} (x : Pl n w hw t k h g) : ∀ i, i ≤ t → Sg w.mo (h.2 7 i) := x.2.2.2.2.2.2.2.2.2.1
theorem Pl.rz {n : Nat} {w : Wp} {hw : sHp} {t k : Nat} {h g : sHp} (x : Pl n w hw t k h g) : w.mo 3 = 0 → t = 0 := x.2.2.2.2.2.2.2.2.2.2.1
theorem Pl.nx {n : Nat} {w : Wp} {hw : sHp} {t k : Nat} {h g : sHp} (x : Pl n w hw t k h g) : ∀ i, i < t → dg (h.2 7 i) 20 = 0 ∧ ∃ j, j < 441 ∧ ic w.T j = true ∧ Nx n hw (h.2 7 i) (jv j) (av (ja j)) (av (jb j)) (h.2 7 (i + 1)) := x.2.2.2.2.2.2.2.2.2.2.2
/-- the atlas before the first explore -/
def AtC (h g : sHp) : Prop := (h.1 6 10 = 0 ∧ h.1 6 9 = 0 ∧ h.1 6 11 = 0 ∧ h.1 6 8 = 0) ∧ (g.1 0 49 = o 1 ∧ g.1 0 50 = 0 ∧ g.1 0 51 = 0 ∧ g.1 0 41 = 0) ∧ (g.1 34 0 = o (eA (h.2 7 0)) ∧ g.1 35 0 = o (eB (h.2 7 0)) ∧ g.1 36 0 = -1) ∧ (∀ k, k < 5 → g.1 40 k = 0)
theorem AtC.c1 {h g : sHp} (x : AtC h g) : h.1 6 10 = 0 ∧ h.1 6 9 = 0 ∧ h.1 6 11 = 0 ∧ h.1 6 8 = 0 := x.1
theorem AtC.c2 {h g : sHp} (x : AtC h g) : g.1 0 49 = o 1 ∧ g.1 0 50 = 0 ∧ g.1 0 51 = 0 ∧ g.1 0 41 = 0 := x.2.1
theorem AtC.c3 {h g : sHp} (x : AtC h g) : g.1 34 0 = o (eA (h.2 7 0)) ∧ g.1 35 0 = o (eB (h.2 7 0)) ∧ g.1 36 0 = -1 := x.2.2.1
theorem AtC.c4 {h g : sHp} (x : AtC h g) : ∀ k, k < 5 → g.1 40 k = 0 := x.2.2.2
theorem Scr_pI {g : sHp} {s : Int64} (hg : Scr g s) {i k : Nat} (x : Int32) (hi : ¬ (25 ≤ i ∧ i ≤ 29) ∧ ¬ (i = 0 ∧ (k = 32 ∨ k = 38))) : Scr (pI g i k x) s := by
  obtain ⟨a1, a2, a3, a4, a5, a6, a7⟩ := hg
  refine ⟨?_, fun t ht => ?_, fun t ht => ?_, fun t ht => ?_, fun t ht => ?_, fun t ht => ?_, ?_⟩
  · rw [pI_i, if_neg (by omega)]; exact a1
  · rw [pI_i, if_neg (by omega)]; exact a2 t ht
  · rw [pI_i, if_neg (by omega)]; exact a3 t ht
  · rw [pI_i, if_neg (by omega)]; exact a4 t ht
  · rw [pI_i, if_neg (by omega)]; exact a5 t ht
  · rw [pI_i, if_neg (by omega)]; exact a6 t ht
  · rw [pI_i, if_neg (by omega)]; exact a7
section RB
variable {w : Wp} {h g : sHp} {n : Nat}
theorem M_restart (hW : Wr w h g) (hn : 8 ≤ n) {s : Int64} (hs : isF w s) {g1 : sHp} (hk : Kg g g1) : ∃ gl, Lk g1 gl ∧ J_M_restart n g1 = some (pI (pI (pI (pI gl 0 42 (o (eA s))) 0 43 (o (eB s))) 0 44 0) 0 47 0) := by
  obtain ⟨gl, e1, e2, e3⟩ := M_first hW hn hs hk
  refine ⟨gl, e3, ?_⟩
  unfold J_M_restart
  rw [e1, Option.bind_some, M_packA e2 (by omega), Option.bind_some, M_packB (Scr_pI e2 _ (by omega)) (by omega), Option.bind_some]
/-- a state is put into the reference's atlas -/
theorem M_insL {f : Nat} (p1 p2 p3 p4 p5 p6 : Int32) (hf : f < 160) : ∀ d i M (g : sHp), i + d = 5 → d < M → g.1 0 49 = o f → ∃ g', sFx (F_M_insert_66 n p1 p2 p3 p4 p5 p6) M (o i, g) = some g' ∧ g'.2 = g.2 ∧ ∀ j m, g'.1 j m = if j = 0 ∧ m = 49 then o (f + 1) else if j = 40 ∧ 5 * f + i ≤ m ∧ m < 5 * f + 5 then 0 else g.1 j m := by
  intro d
  induction d with
  | zero =>
    intro i M g hi hM h49
    obtain ⟨M, rfl⟩ : ∃ m, M = m + 1 := ⟨M - 1, by omega⟩
    obtain rfl : i = 5 := by omega
    refine ⟨pI g 0 49 (o f + 1), ?_, rfl, fun j m => ?_⟩
    · rw [sFx_s]; unfold F_M_insert_66; dsimp only
      rw [if_pos (by decide : (5 : Int32) ≤ o 5), h49]
    · rw [pI_i, show o f + 1 = o (f + 1) from o_add f 1]
      by_cases hq : j = 0 ∧ m = 49
      · rw [if_pos hq, if_pos hq]
      · rw [if_neg hq, if_neg hq, if_neg (by omega)]
  | succ d ih =>
    intro i M g hi hM h49
    obtain ⟨M, rfl⟩ : ∃ m, M = m + 1 := ⟨M - 1, by omega⟩
    obtain ⟨g', e1, e2, e3⟩ := ih (i + 1) M (pI g 40 (5 * f + i) 0) (by omega) (by omega) (by rw [pI_i, if_neg (by omega)]; exact h49)
    refine ⟨g', ?_, e2, fun j m => ?_⟩
    · rw [sFx_s]
      generalize sFx (F_M_insert_66 n p1 p2 p3 p4 p5 p6) M = X at e1 ⊢
      unfold F_M_insert_66; dsimp only
      have h5 : ¬ (5 : Int32) ≤ o i := fun z => by have := (o_le (by omega : 5 < 2147483648) (by omega)).mp z; omega
      have ei : (5 : Int32) * o f + o i = o (5 * f + i) := by
        show o 5 * o f + o i = _
        rw [o_mul, o_add]
      rw [if_neg h5, h49, ei, sIn_o 800 (by omega), decide_eq_true (by omega), sGd_true, ix_o (by omega), show o i + 1 = o (i + 1) from o_add i 1]
      exact e1
    · rw [e3 j m, pI_i]
      by_cases hq : j = 0 ∧ m = 49
      · rw [if_pos hq, if_pos hq]
      · rw [if_neg hq, if_neg hq]
        by_cases hq2 : j = 40 ∧ m = 5 * f + i
        · rw [if_neg (by omega), if_pos hq2, if_pos (by omega)]
        · by_cases hq3 : j = 40 ∧ 5 * f + (i + 1) ≤ m ∧ m < 5 * f + 5
          · rw [if_pos hq3, if_pos (by omega)]
          · rw [if_neg hq3, if_neg hq2, if_neg (by omega)]
theorem M_insert {f : Nat} (hn : 8 ≤ n) (p1 p2 p3 p4 p5 p6 : Int32) (hf : f < 160) (h49 : g.1 0 49 = o f) : ∃ g', J_M_insert n p1 p2 p3 p4 p5 p6 g = some g' ∧ g'.2 = g.2 ∧ ∀ j m, g'.1 j m = if j = 0 ∧ m = 49 then o (f + 1) else if j = 40 ∧ 5 * f ≤ m ∧ m < 5 * f + 5 then 0 else if m = f ∧ 34 ≤ j ∧ j ≤ 39 then (if j = 34 then p1 else if j = 35 then p2 else if j = 36 then p3 else if j = 37 then p4 else if j = 38 then p5 else p6) else g.1 j m := by
  have k49 : (pI (pI (pI (pI (pI (pI g 34 f p1) 35 f p2) 36 f p3) 37 f p4) 38 f p5) 39 f p6).1 0 49 = o f := by
    rw [pI_i, if_neg (by omega), pI_i, if_neg (by omega), pI_i, if_neg (by omega), pI_i, if_neg (by omega), pI_i, if_neg (by omega), pI_i, if_neg (by omega)]; exact h49
  obtain ⟨g', e1, e2, e3⟩ := M_insL (n := n) p1 p2 p3 p4 p5 p6 hf 5 0 n _ (by omega) (by omega) k49
  refine ⟨g', ?_, e2, fun j m => ?_⟩
  · unfold J_M_insert
    rw [h49, sIn_o 160 (by omega), decide_eq_true hf, ix_o (by omega)]
    simp only [sGd_true]
    exact e1
  · rw [e3 j m]
    by_cases q1 : j = 0 ∧ m = 49
    · rw [if_pos q1, if_pos q1]
    rw [if_neg q1, if_neg q1]
    by_cases q2 : j = 40 ∧ 5 * f ≤ m ∧ m < 5 * f + 5
    · rw [if_pos q2, if_pos (by omega)]
    rw [if_neg q2, if_neg (by omega)]
    by_cases q3 : m = f ∧ 34 ≤ j ∧ j ≤ 39
    · rw [if_pos q3]
      obtain ⟨rfl, a, b⟩ := q3
      have : j = 34 ∨ j = 35 ∨ j = 36 ∨ j = 37 ∨ j = 38 ∨ j = 39 := by omega
      rcases this with rfl | rfl | rfl | rfl | rfl | rfl <;> simp [pI_i]
    · rw [if_neg q3, pI_i, if_neg (by omega), pI_i, if_neg (by omega), pI_i, if_neg (by omega), pI_i, if_neg (by omega), pI_i, if_neg (by omega), pI_i, if_neg (by omega)]
theorem E_start (hW : Wr w h g) (hn : 8 ≤ n) {h1 : sHp} (hk : Kc h h1) : ∃ s, isF w s ∧ J_S_startPlay n h1 = some (pI (pI (pL h1 7 0 s) 0 5 0) 0 6 0) := by
  obtain ⟨s, e1, e2⟩ := E_first (Wr_keep hk (Kg_refl g) hW) hn
  refine ⟨s, e2, ?_⟩
  unfold J_S_startPlay
  rw [e1]
  rfl
/-- the world has changed: both sides start anew -/
theorem renew_both (hW : Wr w h g) (hn : 8 ≤ n) : ∃ h' g', J_S_startAnew n h = some h' ∧ J_M_renew n g = some g' ∧ Wr w h' g' ∧ Pl n w h' 0 0 h' g' ∧ AtC h' g' ∧ Kg g g' ∧ g'.1 0 0 = g.1 0 0 := by
  obtain ⟨s, hs, e1⟩ := E_start hW hn (Kc_refl h)
  obtain ⟨gl, L1, e2⟩ := M_restart hW hn hs (Kg_refl g)
  generalize hg1 : pI (pI (pI (pI gl 0 42 (o (eA s))) 0 43 (o (eB s))) 0 44 0) 0 47 0 = g1 at e2
  generalize hg2 : pI (pI (pI (pI g1 0 49 0) 0 50 0) 0 51 0) 0 41 0 = g2
  have k49 : g2.1 0 49 = o 0 := by rw [← hg2, pI_i, if_neg (by omega), pI_i, if_neg (by omega), pI_i, if_neg (by omega), pI_i, if_pos ⟨rfl, rfl⟩]; rfl
  obtain ⟨g', m1, m2, m3⟩ := M_insert (n := n) hn (g1.1 0 42) (g1.1 0 43) (-1) 0 0 0 (by omega : 0 < 160) k49
  have b42 : g1.1 0 42 = o (eA s) := by rw [← hg1, pI_i, if_neg (by omega), pI_i, if_neg (by omega), pI_i, if_neg (by omega), pI_i, if_pos ⟨rfl, rfl⟩]
  have b43 : g1.1 0 43 = o (eB s) := by rw [← hg1, pI_i, if_neg (by omega), pI_i, if_neg (by omega), pI_i, if_pos ⟨rfl, rfl⟩]
  have b44 : g1.1 0 44 = 0 := by rw [← hg1, pI_i, if_neg (by omega), pI_i, if_pos ⟨rfl, rfl⟩]
  have b47 : g1.1 0 47 = 0 := by rw [← hg1, pI_i, if_pos ⟨rfl, rfl⟩]
  have k2 : ∀ j m, ¬ (j = 0 ∧ (m = 49 ∨ m = 50 ∨ m = 51 ∨ m = 41)) → g2.1 j m = g1.1 j m := fun j m z => by rw [← hg2, pI_i, if_neg (by omega), pI_i, if_neg (by omega), pI_i, if_neg (by omega), pI_i, if_neg (by omega)]
  have kk : ∀ j m, ((j = 0 ∧ m < 30) ∨ (1 ≤ j ∧ j ≤ 24)) → g'.1 j m = g.1 j m := fun j m z => by
    rw [m3, if_neg (by omega), if_neg (by omega), if_neg (by omega), k2 j m (by omega), ← hg1, pI_i, if_neg (by omega), pI_i, if_neg (by omega), pI_i, if_neg (by omega), pI_i, if_neg (by omega), Lk_at L1 (by omega) (by omega)]
  have hKg : Kg g g' := fun j m z => kk j m (by omega)
  have g0 : ∀ m, m ≠ 49 → g'.1 0 m = g2.1 0 m := fun m z => by rw [m3, if_neg (by omega), if_neg (by omega), if_neg (by omega)]
  generalize hh : pI (pI (pI (pI (pI (pI (pL h 7 0 s) 0 5 0) 0 6 0) 6 10 0) 6 9 0) 6 11 0) 6 8 0 = h'
  have hKc : Kc h h' := by
    rw [← hh]
    exact Kc_pI (Kc_pI (Kc_pI (Kc_pI (Kc_pI (Kc_pI (Kc_pL (Kc_refl h)) (by omega)) (by omega)) (by omega)) (by omega)) (by omega)) (by omega)
  have l7 : h'.2 7 0 = s := by rw [← hh]; show (pL h 7 0 s).2 7 0 = s; rw [pL_i, if_pos ⟨rfl, rfl⟩]
  have hSg : Sg w.mo s := ⟨isF_Rk hW hs, hs.1, fun z => isF_V z hs⟩
  have hW' := Wr_keep hKc hKg hW
  refine ⟨h', g', ?_, ?_, hW', ?_, ?_, hKg, kk 0 0 (by omega)⟩
  · unfold J_S_startAnew J_A_forget
    rw [e1, ← hh]; rfl
  · unfold J_M_renew
    rw [e2, Option.bind_some, hg2, m1]; rfl
  · refine ⟨by omega, ⟨?_, ?_⟩, by omega, ⟨?_, ?_⟩, fun i hi => absurd hi (by omega), fun _ => rfl, ?_, fun i hi => absurd hi (by omega), by rw [l7]; exact hs, fun i hi => ?_, fun _ => rfl, fun i hi => absurd hi (by omega)⟩
    · rw [← hh]; simp [pI_i]; rfl
    · rw [g0 44 (by omega), k2 _ _ (by omega), b44]; rfl
    · rw [← hh]; simp [pI_i]; rfl
    · rw [g0 47 (by omega), k2 _ _ (by omega), b47]; rfl
    · rw [g0 42 (by omega), k2 _ _ (by omega), g0 43 (by omega), k2 _ _ (by omega), b42, b43, l7]; exact ⟨rfl, rfl⟩
    · obtain rfl : i = 0 := by omega
      rw [l7]; exact hSg
  · refine ⟨?_, ⟨?_, ?_, ?_, ?_⟩, ⟨?_, ?_, ?_⟩, fun k hk => ?_⟩
    · rw [← hh]; simp [pI_i]
    · rw [m3, if_pos ⟨rfl, rfl⟩]
    · rw [g0 50 (by omega), ← hg2, pI_i, if_neg (by omega), pI_i, if_neg (by omega), pI_i, if_pos ⟨rfl, rfl⟩]
    · rw [g0 51 (by omega), ← hg2, pI_i, if_neg (by omega), pI_i, if_pos ⟨rfl, rfl⟩]
    · rw [g0 41 (by omega), ← hg2, pI_i, if_pos ⟨rfl, rfl⟩]
    · rw [m3, if_neg (by omega), if_neg (by omega), if_pos (by omega), if_pos rfl, b42, l7]
    · rw [m3, if_neg (by omega), if_neg (by omega), if_pos (by omega), if_neg (by omega), if_pos rfl, b43, l7]
    · rw [m3, if_neg (by omega), if_neg (by omega), if_pos (by omega), if_neg (by omega), if_neg (by omega), if_pos rfl]
    · rw [m3, if_neg (by omega), if_pos (by omega)]
end RB
