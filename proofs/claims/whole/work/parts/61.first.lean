/-! The world's rows, both sides, and the first state. -/
def Wp : Type := (Nat → Nat) × (Nat → Nat) × (Nat → Nat) × (Nat → Nat) × (Nat → Nat) × Nat × Nat × Nat × Nat × Nat
def Wp.mo (w : Wp) : Nat → Nat := w.1
def Wp.P (w : Wp) : Nat → Nat := w.2.1
def Wp.Kd (w : Wp) : Nat → Nat := w.2.2.1
def Wp.F (w : Wp) : Nat → Nat := w.2.2.2.1
def Wp.C (w : Wp) : Nat → Nat := w.2.2.2.2.1
def Wp.T (w : Wp) : Nat := w.2.2.2.2.2.1
def Wp.U (w : Wp) : Nat := w.2.2.2.2.2.2.1
def Wp.K (w : Wp) : Nat := w.2.2.2.2.2.2.2.1
def Wp.Q (w : Wp) : Nat := w.2.2.2.2.2.2.2.2.1
def Wp.N (w : Wp) : Nat := w.2.2.2.2.2.2.2.2.2
def mW (mo P Kd F C : Nat → Nat) (T U K Q N : Nat) : Wp := (mo, P, Kd, F, C, T, U, K, Q, N)
section MW
variable {mo P Kd F C : Nat → Nat} {T U K Q N : Nat}
theorem mW_mo : (mW mo P Kd F C T U K Q N).mo = mo := rfl
theorem mW_P : (mW mo P Kd F C T U K Q N).P = P := rfl
theorem mW_Kd : (mW mo P Kd F C T U K Q N).Kd = Kd := rfl
theorem mW_F : (mW mo P Kd F C T U K Q N).F = F := rfl
theorem mW_C : (mW mo P Kd F C T U K Q N).C = C := rfl
theorem mW_T : (mW mo P Kd F C T U K Q N).T = T := rfl
theorem mW_U : (mW mo P Kd F C T U K Q N).U = U := rfl
theorem mW_K : (mW mo P Kd F C T U K Q N).K = K := rfl
theorem mW_Q : (mW mo P Kd F C T U K Q N).Q = Q := rfl
theorem mW_N : (mW mo P Kd F C T U K Q N).N = N := rfl
end MW
/-- counts, things, numbers, endings, counts of timers -/
def WrA (w : Wp) (h g : sHp) : Prop := (h.1 2 12 = o (w.mo 3) ∧ g.1 0 1 = o (w.mo 3)) ∧ (h.1 2 13 = o w.T ∧ g.1 0 4 = o w.T) ∧ (h.1 2 14 = o w.N ∧ g.1 0 7 = o w.N) ∧ (h.1 2 15 = o (w.mo 4) ∧ g.1 0 10 = o (w.mo 4)) ∧ (w.mo 4 ≤ 4) ∧ (w.N ≤ 3) ∧ (∀ t, t < w.T → w.P t < 13 ∧ h.1 12 t = o (w.P t) ∧ g.1 4 t = o (w.P t)) ∧ (∀ t, t < w.T → w.Kd t < 8 ∧ h.1 13 t = o (w.Kd t) ∧ g.1 3 t = o (w.Kd t)) ∧ (∀ t, t < w.N → w.F t < 8 ∧ h.1 14 t = o (w.F t) ∧ g.1 6 t = o (w.F t)) ∧ (∀ k, k < w.Q → w.C k < 16 ∧ h.1 20 k = o (w.C k) ∧ g.1 24 k = o (w.C k)) ∧ (∀ e, e < w.mo 4 → ∃ b, h.1 16 e = oB b ∧ g.1 7 e = oB b) ∧ (∀ t, t < 3 → (w.mo t < 8 ↔ t < w.N)) ∧ (∀ t, t < w.T → 7 ≤ w.P t → w.P t - 7 < t) ∧ (∀ i, 4 * w.mo 3 ≤ i → i < 24 → g.1 1 i = 0)
theorem WrA.rm {w : Wp} {h g : sHp} (x : WrA w h g) : h.1 2 12 = o (w.mo 3) ∧ g.1 0 1 = o (w.mo 3) := x.1
theorem WrA.th {w : Wp} {h g : sHp} (x : WrA w h g) : h.1 2 13 = o w.T ∧ g.1 0 4 = o w.T := x.2.1
theorem WrA.nu {w : Wp} {h g : sHp} (x : WrA w h g) : h.1 2 14 = o w.N ∧ g.1 0 7 = o w.N := x.2.2.1
theorem WrA.en {w : Wp} {h g : sHp} (x : WrA w h g) : h.1 2 15 = o (w.mo 4) ∧ g.1 0 10 = o (w.mo 4) := x.2.2.2.1
theorem WrA.e4 {w : Wp} {h g : sHp} (x : WrA w h g) : w.mo 4 ≤ 4 := x.2.2.2.2.1
theorem WrA.n3 {w : Wp} {h g : sHp} (x : WrA w h g) : w.N ≤ 3 := x.2.2.2.2.2.1
theorem WrA.pl {w : Wp} {h g : sHp} (x : WrA w h g) : ∀ t, t < w.T → w.P t < 13 ∧ h.1 12 t = o (w.P t) ∧ g.1 4 t = o (w.P t) := x.2.2.2.2.2.2.1
theorem WrA.kd {w : Wp} {h g : sHp} (x : WrA w h g) : ∀ t, t < w.T → w.Kd t < 8 ∧ h.1 13 t = o (w.Kd t) ∧ g.1 3 t = o (w.Kd t) := x.2.2.2.2.2.2.2.1
theorem WrA.fn {w : Wp} {h g : sHp} (x : WrA w h g) : ∀ t, t < w.N → w.F t < 8 ∧ h.1 14 t = o (w.F t) ∧ g.1 6 t = o (w.F t) := x.2.2.2.2.2.2.2.2.1
theorem WrA.ct {w : Wp} {h g : sHp} (x : WrA w h g) : ∀ k, k < w.Q → w.C k < 16 ∧ h.1 20 k = o (w.C k) ∧ g.1 24 k = o (w.C k) := x.2.2.2.2.2.2.2.2.2.1
theorem WrA.gd {w : Wp} {h g : sHp} (x : WrA w h g) : ∀ e, e < w.mo 4 → ∃ b, h.1 16 e = oB b ∧ g.1 7 e = oB b := x.2.2.2.2.2.2.2.2.2.2.1
theorem WrA.mn {w : Wp} {h g : sHp} (x : WrA w h g) : ∀ t, t < 3 → (w.mo t < 8 ↔ t < w.N) := x.2.2.2.2.2.2.2.2.2.2.2.1
theorem WrA.rk {w : Wp} {h g : sHp} (x : WrA w h g) : ∀ t, t < w.T → 7 ≤ w.P t → w.P t - 7 < t := x.2.2.2.2.2.2.2.2.2.2.2.2.1
theorem WrA.ex {w : Wp} {h g : sHp} (x : WrA w h g) : ∀ i, 4 * w.mo 3 ≤ i → i < 24 → g.1 1 i = 0 := x.2.2.2.2.2.2.2.2.2.2.2.2.2
def Wr (w : Wp) (h g : sHp) : Prop := (WrP h g w.mo w.T w.U w.K w.Q) ∧ (WrA w h g)
theorem Wr.p {w : Wp} {h g : sHp} (x : Wr w h g) : WrP h g w.mo w.T w.U w.K w.Q := x.1
theorem Wr.a {w : Wp} {h g : sHp} (x : Wr w h g) : WrA w h g := x.2
/-- the class's world is kept -/
def Kc (h h' : sHp) : Prop := ∀ j m, (j = 2 ∨ j = 3 ∨ (10 ≤ j ∧ j ≤ 33)) → h'.1 j m = h.1 j m
/-- the reference's world is kept -/
def Kg (g g' : sHp) : Prop := ∀ j m, ((j = 0 ∧ 1 ≤ m ∧ m < 30) ∨ (1 ≤ j ∧ j ≤ 24)) → g'.1 j m = g.1 j m
theorem Kc_refl (h : sHp) : Kc h h := fun _ _ _ => rfl
theorem Kg_refl (h : sHp) : Kg h h := fun _ _ _ => rfl
theorem Kc_trans {a b c : sHp} (x : Kc a b) (y : Kc b c) : Kc a c := fun j m z => (y j m z).trans (x j m z)
theorem Kg_trans {a b c : sHp} (x : Kg a b) (y : Kg b c) : Kg a c := fun j m z => (y j m z).trans (x j m z)
theorem Kc_Ek {h h' : sHp} (hE : Ek h h') : Kc h h' := fun j m z => hE.1 j m (by omega) (by omega)
theorem Kg_Tk {g g' : sHp} (hT : Tk g g') : Kg g g' := fun j m z => hT.1 j m (by omega) (by omega) (by omega) (by omega) (by omega) (by omega) (by omega)
theorem Kg_Lk {g g' : sHp} (hT : Lk g g') : Kg g g' := fun j m z => hT.1 j m (by omega) (by omega) (by omega) (by omega) (by omega) (by omega)
theorem Kc_pI {h h' : sHp} (hk : Kc h h') {i k : Nat} {x : Int32} (hi : ¬ (i = 2 ∨ i = 3 ∨ (10 ≤ i ∧ i ≤ 33))) : Kc h (pI h' i k x) := fun j m z => by rw [pI_i, if_neg (by omega)]; exact hk j m z
theorem Kc_pL {h h' : sHp} (hk : Kc h h') {i k : Nat} {x : Int64} : Kc h (pL h' i k x) := fun j m z => hk j m z
theorem Kg_pI {h h' : sHp} (hk : Kg h h') {i k : Nat} {x : Int32} (hi : ¬ ((i = 0 ∧ 1 ≤ k ∧ k < 30) ∨ (1 ≤ i ∧ i ≤ 24))) : Kg h (pI h' i k x) := fun j m z => by rw [pI_i, if_neg (by omega)]; exact hk j m z
section KW
variable {h h' g g' : sHp}
theorem Wr_keep {w : Wp} (hE : Kc h h') (hT : Kg g g') (hW : Wr w h g) : Wr w h' g' := by
  obtain ⟨⟨⟨r1, r2, r3, rC, rQ⟩, pM, ⟨k1, k2⟩, ⟨x1, x2⟩, ⟨w1, w2, w3, w4⟩, ⟨t1, t2, t3, t4⟩⟩, a⟩ := hW
  refine ⟨⟨⟨r1, ?_, ?_, fun j hj => ?_, fun q hq => ?_⟩, fun t a b => ?_, ⟨k1, fun t ht => ?_⟩, ⟨x1, fun i hi => ?_⟩, ⟨w1, ?_, ?_, fun k hk => ?_⟩, ⟨t1, ?_, ?_, fun k hk => ?_⟩⟩, ?_⟩
  · rw [hE _ _ (by omega)]; exact r2
  · rw [hT _ _ (by omega)]; exact r3
  · rw [hE _ _ (by omega), hE _ _ (by omega), hE _ _ (by omega), hE _ _ (by omega), hE _ _ (by omega), hE _ _ (by omega), hT _ _ (by omega), hT _ _ (by omega), hT _ _ (by omega), hT _ _ (by omega), hT _ _ (by omega), hT _ _ (by omega)]; exact rC j hj
  · obtain ⟨⟨a1, a2, a3, a4, a5⟩, ⟨c, c0, c1, c2, c3⟩, d, d0, d1, d2, d3⟩ := rQ q hq
    refine ⟨⟨?_, ?_, ?_, ?_, ?_⟩, ⟨c, c0, ?_, ?_, fun j x y => ?_⟩, d, d0, ?_, ?_, fun j x y => ?_⟩
    · rw [hE _ _ (by omega), hT _ _ (by omega)]; exact a1
    · rw [hE _ _ (by omega), hT _ _ (by omega)]; exact a2
    · rw [hE _ _ (by omega), hT _ _ (by omega)]; exact a3
    · rw [hE _ _ (by omega), hT _ _ (by omega)]; exact a4
    · rw [hE _ _ (by omega), hT _ _ (by omega)]; exact a5
    · rw [hE _ _ (by omega)]; exact c1
    · rw [hT _ _ (by omega)]; exact c2
    · rw [hE _ _ (by omega), hE _ _ (by omega)]; exact c3 j x y
    · rw [hE _ _ (by omega)]; exact d1
    · rw [hT _ _ (by omega)]; exact d2
    · rw [hE _ _ (by omega), hE _ _ (by omega), hE _ _ (by omega)]; exact d3 j x y
  · rw [hE _ _ (by omega), hT _ _ (by omega)]; exact pM t a b
  · rw [hE _ _ (by omega), hT _ _ (by omega)]; exact k2 t ht
  · rw [hE _ _ (by omega), hE _ _ (by omega), hT _ _ (by omega), hT _ _ (by omega)]; exact x2 i hi
  · rw [hE _ _ (by omega)]; exact w2
  · rw [hT _ _ (by omega)]; exact w3
  · rw [hE _ _ (by omega), hT _ _ (by omega)]
    refine ⟨(w4 k hk).1, fun j hj => ?_⟩
    rw [hE _ _ (by omega), hT _ _ (by omega)]; exact (w4 k hk).2 j hj
  · rw [hE _ _ (by omega)]; exact t2
  · rw [hT _ _ (by omega)]; exact t3
  · rw [hE _ _ (by omega), hT _ _ (by omega)]; exact t4 k hk
  · refine ⟨?_, ?_, ?_, ?_, a.e4, a.n3, fun t ht => ?_, fun t ht => ?_, fun t ht => ?_, fun t ht => ?_, fun e he => ?_, a.mn, a.rk, fun i h1 h2 => ?_⟩
    · rw [hE _ _ (by omega), hT _ _ (by omega)]; exact a.rm
    · rw [hE _ _ (by omega), hT _ _ (by omega)]; exact a.th
    · rw [hE _ _ (by omega), hT _ _ (by omega)]; exact a.nu
    · rw [hE _ _ (by omega), hT _ _ (by omega)]; exact a.en
    · rw [hE _ _ (by omega), hT _ _ (by omega)]; exact a.pl t ht
    · rw [hE _ _ (by omega), hT _ _ (by omega)]; exact a.kd t ht
    · rw [hE _ _ (by omega), hT _ _ (by omega)]; exact a.fn t ht
    · rw [hE _ _ (by omega), hT _ _ (by omega)]; exact a.ct t ht
    · rw [hE _ _ (by omega), hT _ _ (by omega)]; exact a.gd e he
    · rw [hT _ _ (by omega)]; exact a.ex i h1 h2
end KW
/-- the first state's digits -/
def fD (w : Wp) (T N Q j : Nat) : Nat :=
  if j = 0 then 0 else if j < 7 then (if j - 1 < T then w.P (j - 1) else 0) else if j < 13 then (if j - 7 < T ∧ 4 ≤ w.Kd (j - 7) then 1 else 0) else if j < 16 then (if j - 13 < N then w.F (j - 13) else 0) else if j < 18 then 0 else if j < 20 then (if j - 18 < Q then w.C (j - 18) else 0) else 0
def isF (w : Wp) (s : Int64) : Prop := sT s ∧ ∀ j, j < 21 → dg s j = fD w w.T w.N w.Q j
theorem isF_eq {w : Wp} {s t : Int64} (hs : isF w s) (ht : isF w t) : s = t := sT_ext hs.1 ht.1 (fun i hi => (hs.2 i hi).trans (ht.2 i hi).symm)
theorem k4 : ∀ k, k < 8 → ((o k &&& 4 = 0) ↔ ¬ 4 ≤ k) := by decide +kernel
section FS
variable {w : Wp} {h g : sHp} {n : Nat}
theorem cF3 (hW : WrA w h g) (hQ : w.Q ≤ 2) (h17 : h.1 2 17 = o w.Q) : ∀ d i M (s : Int64), i + d = w.Q → d < M → sT s → (∀ j, j < 21 → dg s j = fD w w.T w.N i j) → ∃ s', sFx (F_W_firstState_82 n h) M (s, o i) = some s' ∧ isF w s' := by
  intro d
  induction d with
  | zero =>
    intro i M s hi hM hs hd
    obtain ⟨M, rfl⟩ : ∃ m, M = m + 1 := ⟨M - 1, by omega⟩
    refine ⟨s, ?_, hs, ?_⟩
    · rw [sFx_s]; unfold F_W_firstState_82; dsimp only
      rw [h17, if_pos ((o_le (by omega) (by omega)).mpr (by omega))]
    · have : i = w.Q := by omega
      rw [← this]; exact hd
  | succ d ih =>
    intro i M s hi hM hs hd
    obtain ⟨M, rfl⟩ : ∃ m, M = m + 1 := ⟨M - 1, by omega⟩
    obtain ⟨c0, c1, -⟩ := hW.ct i (by omega)
    have hv : w.C i < 2 ^ fw (18 + i) := by rw [(fs_count i (by omega)).2]; exact c0
    obtain ⟨s', e, e2⟩ := ih (i + 1) M (dW s (18 + i) (w.C i)) (by omega) (by omega) (sT_dW (by omega) hs) (fun j hj => by
      rw [dg_dW s (by omega) hj hv, hd j hj]
      unfold fD
      by_cases hq : j = 18 + i
      · subst hq
        rw [if_pos rfl, if_neg (by omega), if_neg (by omega), if_neg (by omega), if_neg (by omega), if_neg (by omega), if_pos (by omega), if_pos (by omega)]
        congr 1; omega
      · rw [if_neg hq]
        by_cases q1 : j = 0
        · rw [if_pos q1, if_pos q1]
        rw [if_neg q1, if_neg q1]
        by_cases q2 : j < 7
        · rw [if_pos q2, if_pos q2]
        rw [if_neg q2, if_neg q2]
        by_cases q3 : j < 13
        · rw [if_pos q3, if_pos q3]
        rw [if_neg q3, if_neg q3]
        by_cases q4 : j < 16
        · rw [if_pos q4, if_pos q4]
        rw [if_neg q4, if_neg q4]
        by_cases q5 : j < 18
        · rw [if_pos q5, if_pos q5]
        rw [if_neg q5, if_neg q5]
        by_cases q6 : j < 20
        · rw [if_pos q6, if_pos q6]
          by_cases q7 : j - 18 < i
          · rw [if_pos q7, if_pos (by omega)]
          · rw [if_neg q7, if_neg (by omega)]
        · rw [if_neg q6, if_neg q6])
    refine ⟨s', ?_, e2⟩
    rw [sFx_s]
    generalize sFx (F_W_firstState_82 n h) M = X at e ⊢
    unfold F_W_firstState_82; dsimp only
    rw [h17, if_neg (fun z => by have := (o_le (by omega) (by omega)).mp z; omega), sIn_o 2 (by omega), decide_eq_true (show i < 2 by omega), sGd_true, ix_o (by omega), c1, b_wcount n s h (by omega)]
    show X (_, o i + 1) = _
    rw [show o i + 1 = o (i + 1) from o_add i 1]; exact e
theorem cF2 (hW : WrA w h g) (hQ : w.Q ≤ 2) (h17 : h.1 2 17 = o w.Q) (hn : 8 ≤ n) : ∀ d i M (s : Int64), i + d = w.N → d < M → sT s → (∀ j, j < 21 → dg s j = fD w w.T i 0 j) → ∃ s', sFx (F_W_firstState_54 n h) M (s, o i) = some s' ∧ isF w s' := by
  have hN := hW.n3
  intro d
  induction d with
  | zero =>
    intro i M s hi hM hs hd
    obtain ⟨M, rfl⟩ : ∃ m, M = m + 1 := ⟨M - 1, by omega⟩
    have hiN : i = w.N := by omega
    rw [hiN] at hd
    obtain ⟨s', e, e2⟩ := cF3 (n := n) hW hQ h17 w.Q 0 n s (by omega) (by omega) hs hd
    refine ⟨s', ?_, e2⟩
    rw [sFx_s]; unfold F_W_firstState_54; dsimp only
    rw [hW.nu.1, if_pos ((o_le (by omega) (by omega)).mpr (by omega))]
    exact e
  | succ d ih =>
    intro i M s hi hM hs hd
    obtain ⟨M, rfl⟩ : ∃ m, M = m + 1 := ⟨M - 1, by omega⟩
    obtain ⟨c0, c1, -⟩ := hW.fn i (by omega)
    have hv : w.F i < 2 ^ fw (13 + i) := by rw [(fs_amount i (by omega)).2]; exact c0
    obtain ⟨s', e, e2⟩ := ih (i + 1) M (dW s (13 + i) (w.F i)) (by omega) (by omega) (sT_dW (by omega) hs) (fun j hj => by
      rw [dg_dW s (by omega) hj hv, hd j hj]
      unfold fD
      by_cases hq : j = 13 + i
      · subst hq
        rw [if_pos rfl, if_neg (by omega), if_neg (by omega), if_neg (by omega), if_pos (by omega), if_pos (by omega)]
        congr 1; omega
      · rw [if_neg hq]
        by_cases q1 : j = 0
        · rw [if_pos q1, if_pos q1]
        rw [if_neg q1, if_neg q1]
        by_cases q2 : j < 7
        · rw [if_pos q2, if_pos q2]
        rw [if_neg q2, if_neg q2]
        by_cases q3 : j < 13
        · rw [if_pos q3, if_pos q3]
        rw [if_neg q3, if_neg q3]
        by_cases q4 : j < 16
        · rw [if_pos q4, if_pos q4]
          by_cases q7 : j - 13 < i
          · rw [if_pos q7, if_pos (by omega)]
          · rw [if_neg q7, if_neg (by omega)]
        rw [if_neg q4, if_neg q4])
    refine ⟨s', ?_, e2⟩
    rw [sFx_s]
    generalize sFx (F_W_firstState_54 n h) M = X at e ⊢
    unfold F_W_firstState_54; dsimp only
    rw [hW.nu.1, if_neg (fun z => by have := (o_le (by omega) (by omega)).mp z; omega), sIn_o 3 (by omega), decide_eq_true (show i < 3 by omega), sGd_true, ix_o (by omega), c1, b_wamount n s h (by omega)]
    show X (_, o i + 1) = _
    rw [show o i + 1 = o (i + 1) from o_add i 1]; exact e
theorem cF1 (hW : WrA w h g) (hT6 : w.T ≤ 6) (hQ : w.Q ≤ 2) (h17 : h.1 2 17 = o w.Q) (hn : 8 ≤ n) : ∀ d i M (s : Int64), i + d = w.T → d < M → sT s → (∀ j, j < 21 → dg s j = fD w i 0 0 j) → ∃ s', sFx (F_W_firstState_4 n h) M (s, o i) = some s' ∧ isF w s' := by
  have hN := hW.n3
  intro d
  induction d with
  | zero =>
    intro i M s hi hM hs hd
    obtain ⟨M, rfl⟩ : ∃ m, M = m + 1 := ⟨M - 1, by omega⟩
    have hiN : i = w.T := by omega
    rw [hiN] at hd
    obtain ⟨s', e, e2⟩ := cF2 (n := n) hW hQ h17 hn w.N 0 n s (by omega) (by omega) hs hd
    refine ⟨s', ?_, e2⟩
    rw [sFx_s]; unfold F_W_firstState_4; dsimp only
    rw [hW.th.1, if_pos ((o_le (by omega) (by omega)).mpr (by omega))]
    exact e
  | succ d ih =>
    intro i M s hi hM hs hd
    obtain ⟨M, rfl⟩ : ∃ m, M = m + 1 := ⟨M - 1, by omega⟩
    obtain ⟨c0, c1, -⟩ := hW.pl i (by omega)
    obtain ⟨d0, d1, -⟩ := hW.kd i (by omega)
    have hi6 : i < 6 := by omega
    have hv : w.P i < 2 ^ fw (1 + i) := by rw [(fs_place i (by omega)).2]; show _ < 16; omega
    generalize hb : (if 4 ≤ w.Kd i then 1 else 0) = b
    have hb2 : b < 2 := by rw [← hb]; split <;> omega
    have hv2 : b < 2 ^ fw (7 + i) := by rw [(fs_open i (by omega)).2]; exact hb2
    obtain ⟨s', e, e2⟩ := ih (i + 1) M (dW (dW s (1 + i) (w.P i)) (7 + i) b) (by omega) (by omega) (sT_dW (by omega) (sT_dW (by omega) hs)) (fun j hj => by
      rw [dg_dW _ (by omega) hj hv2, dg_dW s (by omega) hj hv, hd j hj]
      unfold fD
      by_cases hq : j = 7 + i
      · subst hq
        rw [if_pos rfl, if_neg (by omega), if_neg (by omega), if_pos (by omega), ← hb]
        have : 7 + i - 7 = i := by omega
        rw [this]
        by_cases z : 4 ≤ w.Kd i
        · rw [if_pos z, if_pos ⟨by omega, z⟩]
        · rw [if_neg z, if_neg (fun y => z y.2)]
      · rw [if_neg hq]
        by_cases hq' : j = 1 + i
        · subst hq'
          rw [if_pos rfl, if_neg (by omega), if_pos (by omega), if_pos (by omega)]
          congr 1; omega
        rw [if_neg hq']
        by_cases q1 : j = 0
        · rw [if_pos q1, if_pos q1]
        rw [if_neg q1, if_neg q1]
        by_cases q2 : j < 7
        · rw [if_pos q2, if_pos q2]
          by_cases q7 : j - 1 < i
          · rw [if_pos q7, if_pos (by omega)]
          · rw [if_neg q7, if_neg (by omega)]
        rw [if_neg q2, if_neg q2]
        by_cases q3 : j < 13
        · rw [if_pos q3, if_pos q3]
          by_cases q7 : j - 7 < i
          · by_cases q8 : 4 ≤ w.Kd (j - 7)
            · rw [if_pos ⟨q7, q8⟩, if_pos ⟨by omega, q8⟩]
            · rw [if_neg (fun y => q8 y.2), if_neg (fun y => q8 y.2)]
          · rw [if_neg (fun y => q7 y.1), if_neg (fun y => by omega)]
        rw [if_neg q3, if_neg q3])
    refine ⟨s', ?_, e2⟩
    rw [sFx_s]
    generalize sFx (F_W_firstState_4 n h) M = X at e ⊢
    unfold F_W_firstState_4; dsimp only
    rw [hW.th.1, if_neg (fun z => by have := (o_le (by omega) (by omega)).mp z; omega), sIn_o 6 (by omega), decide_eq_true hi6, sGd_true, ix_o (by omega), c1, b_wplace n s h (by omega), Option.bind_some, sGd_true, d1]
    have k := k4 (w.Kd i) d0
    have w1 : J_B_withOpen n (dW s (1 + i) (w.P i)) (o i) 1 h = some (dW (dW s (1 + i) (w.P i)) (7 + i) 1) := b_wopen n _ h hi6 1
    have w0 : J_B_withOpen n (dW s (1 + i) (w.P i)) (o i) 0 h = some (dW (dW s (1 + i) (w.P i)) (7 + i) 0) := b_wopen n _ h hi6 0
    rw [w1, w0, Option.bind_some, Option.bind_some, show o i + 1 = o (i + 1) from o_add i 1]
    by_cases z : 4 ≤ w.Kd i
    · rw [if_pos z] at hb
      subst hb
      rw [if_neg (fun y => (k.mp y) z)]
      exact e
    · rw [if_neg z] at hb
      subst hb
      rw [if_pos (k.mpr z)]
      exact e
theorem E_first (hW : Wr w h g) (hn : 8 ≤ n) : ∃ s, J_W_firstState n h = some s ∧ isF w s := by
  have hT6 := hW.p.2.2.1.1
  have hQ := hW.p.2.2.2.2.2.1
  exact cF1 hW.a hT6 hQ hW.p.2.2.2.2.2.2.1 hn w.T 0 n 0 (by omega) (by omega) sT_zero (fun j hj => by
    rw [dg_zero j]; unfold fD
    repeat' split
    all_goals first | rfl | omega)
/-- the first state is one that plays can come to -/
theorem isF_Rk (hW : Wr w h g) {s : Int64} (hs : isF w s) : ∃ r, Rk s r := by
  have hr := hW.a.rk
  refine ⟨fun t => t, fun t ht => ?_⟩
  have hp : pl s t = if t < w.T then w.P t else 0 := by
    unfold pl
    rw [hs.2 _ (by omega)]
    unfold fD
    rw [if_neg (by omega), if_pos (by omega), show 1 + t - 1 = t by omega]
  rw [hp]
  by_cases hq : t < w.T
  · rw [if_pos hq]
    refine ⟨ht, fun h7 => ?_⟩
    have := hr t hq h7
    exact ⟨by omega, this⟩
  · rw [if_neg hq]
    exact ⟨ht, fun z => absurd z (by omega)⟩
theorem isF_V (hR : 0 < w.mo 3) {s : Int64} (hs : isF w s) : Vb w.mo s := by
  have a0 : dg s 0 = 0 := hs.2 0 (by omega)
  have a16 : dg s 16 = 0 := hs.2 16 (by omega)
  have a17 : dg s 17 = 0 := hs.2 17 (by omega)
  have a20 : dg s 20 = 0 := hs.2 20 (by omega)
  refine ⟨by omega, fun k hk => ?_, by omega⟩
  have : k = 0 ∨ k = 1 := by omega
  rcases this with rfl | rfl
  · show dg s 16 < 3; omega
  · show dg s 17 < 3; omega
end FS
