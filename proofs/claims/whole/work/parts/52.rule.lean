/-! A rule fires: its text, its mark, its effects. -/
/-- what firing leaves of the class's heap: all but the engine's own fields and texts -/
def Ek (h h' : sHp) : Prop := (∀ j m, j ≠ 1 → j ≠ 9 → h'.1 j m = h.1 j m) ∧ (∀ j m, ¬ (j = 1 ∧ m = 4) → h'.2 j m = h.2 j m) ∧ ∀ m, m ≠ 2 → m ≠ 3 → h'.1 1 m = h.1 1 m
theorem Ek_refl (h : sHp) : Ek h h := ⟨fun _ _ _ _ => rfl, fun _ _ _ => rfl, fun _ _ _ => rfl⟩
theorem Ek_trans {a b c : sHp} (h1 : Ek a b) (h2 : Ek b c) : Ek a c := ⟨fun j m q1 q2 => (h2.1 j m q1 q2).trans (h1.1 j m q1 q2), fun j m q => (h2.2.1 j m q).trans (h1.2.1 j m q), fun m q1 q2 => (h2.2.2 m q1 q2).trans (h1.2.2 m q1 q2)⟩
theorem Ek_pL (h : sHp) (v : Int64) : Ek h (pL h 1 4 v) := by
  refine ⟨fun _ _ _ _ => rfl, fun j m q => ?_, fun _ _ _ => rfl⟩
  simp only [pL]
  by_cases hj : j = 1
  · subst hj
    rw [if_pos rfl]
    have : m ≠ 4 := fun z => q ⟨rfl, z⟩
    simp [vp_updL, this]
  · rw [if_neg hj]
theorem Ek_pI1 (h : sHp) {k : Nat} (hk : k = 2 ∨ k = 3) (x : Int32) : Ek h (pI h 1 k x) :=
  ⟨fun j m q1 _ => by rw [pI_i, if_neg (by omega)], fun _ _ _ => rfl, fun m q1 q2 => by rw [pI_i, if_neg (by omega)]⟩
theorem Ek_pI9 (h : sHp) (k : Nat) (x : Int32) : Ek h (pI h 9 k x) :=
  ⟨fun j m _ q2 => by rw [pI_i, if_neg (by omega)], fun _ _ _ => rfl, fun m _ _ => by rw [pI_i, if_neg (by omega)]⟩
/-- what a turn leaves of the reference's heap -/
def Tk (g g' : sHp) : Prop := (∀ j m, j ≠ 25 → j ≠ 26 → j ≠ 27 → j ≠ 28 → j ≠ 29 → j ≠ 30 → ¬ (j = 0 ∧ (m = 32 ∨ m = 38 ∨ m = 39 ∨ m = 41)) → g'.1 j m = g.1 j m) ∧ g'.2 = g.2
theorem Tk_refl (g : sHp) : Tk g g := ⟨fun _ _ _ _ _ _ _ _ _ => rfl, rfl⟩
theorem Tk_trans {a b c : sHp} (h1 : Tk a b) (h2 : Tk b c) : Tk a c := ⟨fun j m q1 q2 q3 q4 q5 q6 q7 => (h2.1 j m q1 q2 q3 q4 q5 q6 q7).trans (h1.1 j m q1 q2 q3 q4 q5 q6 q7), h2.2.trans h1.2⟩
theorem Tk_Lk {a b : sHp} (h : Lk a b) : Tk a b := ⟨fun j m q1 q2 q3 q4 q5 _ q7 => h.1 j m q1 q2 q3 q4 q5 (fun z => q7 (by omega)), h.2⟩
theorem Tk_pI (g : sHp) {i k : Nat} (x : Int32) (hi : i = 25 ∨ i = 26 ∨ i = 27 ∨ i = 28 ∨ i = 29 ∨ i = 30 ∨ (i = 0 ∧ (k = 32 ∨ k = 38 ∨ k = 39 ∨ k = 41))) : Tk g (pI g i k x) := by
  refine ⟨fun j m h1 h2 h3 h4 h5 h6 h7 => ?_, rfl⟩
  rw [pI_i, if_neg ?_]
  rintro ⟨rfl, rfl⟩
  rcases hi with z | z | z | z | z | z | z <;> first | omega | exact h7 z
theorem Scr_keep {g : sHp} {s : Int64} (hg : Scr g s) {i k : Nat} (x : Int32) (hi : i = 30 ∨ (i = 0 ∧ (k = 39 ∨ k = 41))) : Scr (pI g i k x) s := by
  obtain ⟨a1, a2, a3, a4, a5, a6, a7⟩ := hg
  refine ⟨?_, fun t ht => ?_, fun t ht => ?_, fun t ht => ?_, fun t ht => ?_, fun t ht => ?_, ?_⟩
  · rw [pI_i, if_neg (by omega)]; exact a1
  · rw [pI_i, if_neg (by omega)]; exact a2 t ht
  · rw [pI_i, if_neg (by omega)]; exact a3 t ht
  · rw [pI_i, if_neg (by omega)]; exact a4 t ht
  · rw [pI_i, if_neg (by omega)]; exact a5 t ht
  · rw [pI_i, if_neg (by omega)]; exact a6 t ht
  · rw [pI_i, if_neg (by omega)]; exact a7
/-- the texts said so far are alike: k of them -/
def Txt (h g : sHp) (k : Nat) : Prop := h.1 1 2 = o k ∧ g.1 0 39 = o k ∧ ∀ i, i < k → h.1 9 i = g.1 30 i
theorem say_both {h g : sHp} {k : Nat} (ht : Txt h g k) (hk : k < 3) (n : Nat) (x : Int32) : J_E_say n x h = some (pI (pI h 9 k x) 1 2 (o (k + 1))) ∧ J_M_say n x g = some (pI (pI g 30 k x) 0 39 (o (k + 1))) ∧ Txt (pI (pI h 9 k x) 1 2 (o (k + 1))) (pI (pI g 30 k x) 0 39 (o (k + 1))) (k + 1) := by
  obtain ⟨a, b, c⟩ := ht
  refine ⟨?_, ?_, ?_, ?_, fun i hi => ?_⟩
  · unfold J_E_say
    have h3 : ¬ (3 : Int32) ≤ o k := fun z => by have := (o_le (by omega : 3 < 2147483648) (by omega)).mp z; omega
    rw [a, if_neg h3, sIn_o 3 (by omega), decide_eq_true hk, sGd_true, ix_o (by omega), show o k + 1 = o (k + 1) from o_add k 1]
  · unfold J_M_say
    rw [b, sIn_o 4 (by omega), decide_eq_true (show k < 4 by omega), sGd_true, ix_o (by omega), show o k + 1 = o (k + 1) from o_add k 1]
  · rw [pI_i, if_pos ⟨rfl, rfl⟩]
  · rw [pI_i, if_pos ⟨rfl, rfl⟩]
  · have e1 : (pI (pI h 9 k x) 1 2 (o (k + 1))).1 9 i = if 9 = 9 ∧ i = k then x else h.1 9 i := by rw [pI_i, if_neg (by omega), pI_i]
    have e2 : (pI (pI g 30 k x) 0 39 (o (k + 1))).1 30 i = if 30 = 30 ∧ i = k then x else g.1 30 i := by rw [pI_i, if_neg (by omega), pI_i]
    rw [e1, e2]
    by_cases hq : i = k
    · subst hq; rw [if_pos ⟨rfl, rfl⟩, if_pos ⟨rfl, rfl⟩]
    · rw [if_neg (by omega), if_neg (by omega)]; exact c i (by omega)
theorem effL_congr {mo : Nat → Nat} {K X Y K' X' Y' : Nat → Int32} : ∀ c i (s : Int64), (∀ j, i ≤ j → j < i + c → K j = K' j ∧ X j = X' j ∧ Y j = Y' j) → effL mo K X Y c i s = effL mo K' X' Y' c i s := by
  intro c
  induction c with
  | zero => intro i s _; rfl
  | succ c ih =>
    intro i s h
    unfold effL
    obtain ⟨a1, a2, a3⟩ := h i (Nat.le_refl _) (by omega)
    rw [a1, a2, a3, ih (i + 1) _ (fun j h1 h2 => h j (by omega) (by omega))]
/-- a rule fires, both sides -/
theorem fire_both {h g : sHp} {k : Nat} (ht : Txt h g k) (hk : k < 3) {n : Nat} (hn : 8 ≤ n) {s : Int64} {r : Nat → Nat} (hnow : h.2 1 4 = s) (hg : Scr g s) (hr : Rk s r) (hs : sT s) {mo : Nat → Nat} {q c : Nat} (hq : q < 12) (hc : c ≤ 3)
    (hcc : h.1 30 q = o c) (hgc : g.1 17 q = o c) (htx : h.1 24 q = g.1 11 q) (hm1 : ∀ t, t < 3 → mo t < 8 → h.1 15 t = o (mo t)) (hm2 : ∀ t, t < 3 → mo t < 8 → g.1 5 t = o (mo t))
    (hK : ∀ j, j < 36 → h.1 31 j = g.1 18 j ∧ h.1 32 j = g.1 19 j ∧ h.1 33 j = g.1 20 j) (hok : ∀ j, 3 * q ≤ j → j < 3 * q + c → okE mo (h.1 31 j) (h.1 32 j) (h.1 33 j)) :
    ∃ h' g' s' r', J_E_doRule n (o q) h = some h' ∧ J_M_fire n (o q) g = some g' ∧ h'.2 1 4 = s' ∧ Scr g' s' ∧ Rk s' r' ∧ sT s' ∧ Txt h' g' (k + 1) ∧ Ek h h' ∧ Tk g g' ∧ h'.1 1 3 = h.1 1 3 ||| (jIshl 1 (o q)) ∧ g'.1 0 41 = g.1 0 41 ||| (jIshl 1 (o q)) ∧ (Vb mo s → Vb mo s') := by
  have ht0 : Txt (pI h 1 3 (h.1 1 3 ||| jIshl 1 (o q))) g k := by
    obtain ⟨a, b, d⟩ := ht
    refine ⟨by rw [pI_i, if_neg (by omega)]; exact a, b, fun i hi => by rw [pI_i, if_neg (by omega)]; exact d i hi⟩
  obtain ⟨y1, y2, y3⟩ := say_both ht0 hk n (g.1 11 q)
  generalize hh1 : pI (pI (pI h 1 3 (h.1 1 3 ||| jIshl 1 (o q))) 9 k (g.1 11 q)) 1 2 (o (k + 1)) = h1 at y1 y3
  generalize hg1 : pI (pI g 30 k (g.1 11 q)) 0 39 (o (k + 1)) = g1 at y2 y3
  have kh : ∀ j m, j ≠ 1 → j ≠ 9 → h1.1 j m = h.1 j m := fun j m z1 z2 => by rw [← hh1, pI_i, if_neg (by omega), pI_i, if_neg (by omega), pI_i, if_neg (by omega)]
  have kl : h1.2 = h.2 := by rw [← hh1]; rfl
  have kd : h1.1 1 3 = h.1 1 3 ||| jIshl 1 (o q) := by rw [← hh1, pI_i, if_neg (by omega), pI_i, if_neg (by omega), pI_i, if_pos ⟨rfl, rfl⟩]
  have kE : Ek h h1 := by rw [← hh1]; exact Ek_trans (Ek_trans (Ek_pI1 h (Or.inr rfl) _) (Ek_pI9 _ _ _)) (Ek_pI1 _ (Or.inl rfl) _)
  have kg : ∀ j m, j ≠ 0 → j ≠ 30 → g1.1 j m = g.1 j m := fun j m z1 z2 => by rw [← hg1, pI_i, if_neg (by omega), pI_i, if_neg (by omega)]
  have kd2 : g1.1 0 41 = g.1 0 41 := by rw [← hg1, pI_i, if_neg (by omega), pI_i, if_neg (by omega)]
  have kT : Tk g g1 := by rw [← hg1]; exact Tk_trans (Tk_pI g _ (by omega)) (Tk_pI _ _ (by omega))
  have hg1s : Scr g1 s := by rw [← hg1]; exact Scr_keep (Scr_keep hg _ (by omega)) _ (by omega)
  have e31 : h1.1 31 = h.1 31 := funext fun m => kh 31 m (by omega) (by omega)
  have e32 : h1.1 32 = h.1 32 := funext fun m => kh 32 m (by omega) (by omega)
  have e33 : h1.1 33 = h.1 33 := funext fun m => kh 33 m (by omega) (by omega)
  have n1 : h1.2 1 4 = s := by rw [kl]; exact hnow
  have ef := E_effs (n := n) hn (o q) (mo := mo) (e := 3 * q + c) (by omega) c (3 * q) n h1 r rfl (by omega) (by rw [n1]; exact hr) (by rw [n1]; exact hs) (fun t a b => by rw [kh 15 t (by omega) (by omega)]; exact hm1 t a b) (fun j a b => by rw [e31, e32, e33]; exact hok j a b)
  rw [e31, e32, e33, n1] at ef
  -- the reference
  generalize hg2 : pI g1 0 41 (g1.1 0 41 ||| jIshl 1 (o q)) = g2
  have kg2 : ∀ j m, ¬ (j = 0 ∧ m = 41) → g2.1 j m = g1.1 j m := fun j m z => by rw [← hg2, pI_i, if_neg z]
  have f18 : g2.1 18 = g.1 18 := funext fun m => by rw [kg2 18 m (by omega), kg 18 m (by omega) (by omega)]
  have f19 : g2.1 19 = g.1 19 := funext fun m => by rw [kg2 19 m (by omega), kg 19 m (by omega) (by omega)]
  have f20 : g2.1 20 = g.1 20 := funext fun m => by rw [kg2 20 m (by omega), kg 20 m (by omega) (by omega)]
  have hg2s : Scr g2 s := by rw [← hg2]; exact Scr_keep hg1s _ (by omega)
  have hsz : (3 : Int32) * o q + g2.1 17 q = o (3 * q + c) := by
    rw [kg2 17 q (by omega), kg 17 q (by omega) (by omega), hgc]
    show o 3 * o q + o c = _
    rw [o_mul, o_add]
  obtain ⟨g', m1, m2, m3⟩ := M_effs (n := n) hn (mo := mo) (q := q) (e := 3 * q + c) hq (by omega) c (3 * q) n g2 s r rfl (by omega) hg2s hr hs hsz (fun t a b => by rw [kg2 5 t (by omega), kg 5 t (by omega) (by omega)]; exact hm2 t a b) (fun j a b => by
    obtain ⟨x1, x2, x3⟩ := hK j (by omega)
    rw [f18, f19, f20, ← x1, ← x2, ← x3]
    exact hok j a b)
  rw [f18, f19, f20] at m2
  have ec : effL mo (h.1 31) (h.1 32) (h.1 33) c (3 * q) s = effL mo (g.1 18) (g.1 19) (g.1 20) c (3 * q) s := effL_congr c (3 * q) s (fun j a b => hK j (by omega))
  obtain ⟨w1, r', w2⟩ := effL_ok c (3 * q) s r hr hs hok
  have k39 : g'.1 0 39 = g1.1 0 39 := by rw [m3.1 0 39 (by omega) (by omega) (by omega) (by omega) (by omega) (by omega), kg2 0 39 (by omega)]
  have k30 : ∀ i, g'.1 30 i = g1.1 30 i := fun i => by rw [m3.1 30 i (by omega) (by omega) (by omega) (by omega) (by omega) (by omega), kg2 30 i (by omega)]
  refine ⟨_, g', _, r', ?_, ?_, pL_at1 h1 1 4 (effL mo (h.1 31) (h.1 32) (h.1 33) c (3 * q) s), ?_, w2, w1, ?_, Ek_trans kE (Ek_pL _ _), ?_, kd, ?_, fun hV => effL_V c (3 * q) s hV hok⟩
  · unfold J_E_doRule
    rw [sIn_o 12 (by omega), decide_eq_true hq, sGd_true, ix_o (by omega), htx, y1]
    show (J_C_endOf_1 n (o q) h1).bind _ = _
    unfold J_C_endOf_1
    rw [sIn_o 12 (by omega), decide_eq_true hq, sGd_true, ix_o (by omega), kh 30 q (by omega) (by omega), hcc]
    show sFx (F_E_doRule_52 n (o q) (o q * o 3 + o c)) n (o q * o 3, h1) = _
    rw [o_mul, o_add, Nat.mul_comm q 3]
    exact ef
  · unfold J_M_fire
    rw [sIn_o 12 (by omega), decide_eq_true hq, sGd_true, ix_o (by omega), y2]
    show sFx (F_M_fire_26 n (o q)) n (o 3 * o q, pI g1 0 41 (g1.1 0 41 ||| jIshl 1 (o q))) = _
    rw [o_mul, hg2]
    exact m1
  · rw [ec]; exact m2
  · exact ⟨y3.1, by rw [k39]; exact y3.2.1, fun i hi => by rw [k30]; exact y3.2.2 i hi⟩
  · exact Tk_trans (Tk_trans kT (by rw [← hg2]; exact Tk_pI _ _ (by omega))) (Tk_Lk m3)
  · rw [m3.1 0 41 (by omega) (by omega) (by omega) (by omega) (by omega) (by omega), ← hg2, pI_i, if_pos ⟨rfl, rfl⟩, kd2]
