/-! A turn, both sides. -/
/-- a state that plays can come to -/
def St (mo : Nat → Nat) (s : Int64) : Prop := (∃ r, Rk s r) ∧ sT s ∧ Vb mo s
/-- the parts of the world that a turn reads -/
def WrP (h g : sHp) (mo : Nat → Nat) (T U K Q : Nat) : Prop := WrR h g mo U ∧ WrM h g mo ∧ WrK h g T ∧ WrX h g (mo 3) T ∧ WrW h g (mo 3) T K ∧ WrT h g U Q
section TK
variable {h h' g g' : sHp} {mo : Nat → Nat} {T U K Q : Nat}
theorem WrK_keep (hE : Ek h h') (hT : Tk g g') (hW : WrK h g T) : WrK h' g' T := by
  obtain ⟨a, b⟩ := hW
  refine ⟨a, fun t ht => ?_⟩
  obtain ⟨k, k0, k1, k2⟩ := b t ht
  exact ⟨k, k0, by rw [Ek_at hE (by omega)]; exact k1, by rw [Tk_at hT (by omega) (by omega)]; exact k2⟩
theorem WrX_keep {R : Nat} (hE : Ek h h') (hT : Tk g g') (hW : WrX h g R T) : WrX h' g' R T := by
  obtain ⟨a, b⟩ := hW
  refine ⟨a, fun i hi => ?_⟩
  rw [Ek_at hE (by omega), Ek_at hE (by omega), Tk_at hT (by omega) (by omega), Tk_at hT (by omega) (by omega)]
  exact b i hi
theorem WrP_keep (hE : Ek h h') (hT : Tk g g') (hW : WrP h g mo T U K Q) : WrP h' g' mo T U K Q := by
  obtain ⟨a, b, c, d, e, f⟩ := hW
  exact ⟨WrR_keep hE hT a, WrM_keep hE hT b, WrK_keep hE hT c, WrX_keep hE hT d, WrW_keep hE hT e, WrT_keep hE hT f⟩
/-- walkers and timers, behind the text of the command -/
theorem tail_both {n : Nat} (hn : 8 ≤ n) {s0 : Int64} {v1 v2 v3 : Int32} {s : Int64} {k : Nat} (hW : WrP h g mo T U K Q) (hnow : h.2 1 4 = s) (hg : Scr g s) (hS : St mo s) (hX : Txt h g k) (hk : k ≤ 1) :
    ∃ s' h' g' k' mk, K_E_take_66 n s0 v1 v2 v3 h = some (s', h') ∧ K_M_turn_55 n v1 v2 v3 g = some g' ∧ Scr g' s' ∧ St mo s' ∧ Txt h' g' k' ∧ k' ≤ 3 ∧ Ek h h' ∧ Tk g g' ∧ h'.1 1 3 = h.1 1 3 ||| mk ∧ g'.1 0 41 = g.1 0 41 ||| mk := by
  obtain ⟨wR, wM, wK, wX, wW, wT⟩ := hW
  obtain ⟨⟨r, hr⟩, hs, hV⟩ := hS
  have hQ := wT.1
  have h8 := dV_lt s
  have z38 : o (dg s 20) = (0 : Int32) ↔ dg s 20 = 0 := o_inj (by omega) (by omega : 0 < 2147483648)
  by_cases h20 : dg s 20 = 0
  · obtain ⟨s1, g1, r1, a1, a2, a3, a4, a5, a6, a7, a8, a9⟩ := walk_both (n := n) wX.1 wK.1 v1 v2 v3 K 0 n h g s r (by omega) (by have := wW.1; omega) hnow hg hr hs wW h20 hV.2.1
    have hE1 : Ek h (pL h 1 4 s1) := Ek_pL h s1
    have hT1 : Tk g g1 := Tk_Lk a4
    have hX1 : Txt (pL h 1 4 s1) g1 k := ⟨hX.1, by rw [Lk_at a4 (by omega) (by omega)]; exact hX.2.1, fun j hj => by rw [Lk_at a4 (by omega) (by omega)]; exact hX.2.2 j hj⟩
    obtain ⟨s', h', g', r', k', mk, b1, b2, b3, b4, b5, b6, b7, b8, b9, b10, b11, b12, b13⟩ := tim_both (n := n) hn (mo := mo) s0 v1 v2 v3 Q 0 n (pL h 1 4 s1) g1 s1 r1 k (by omega) (by omega) (pL_at1 _ _ _ _) a3 a5 a6 (WrR_keep hE1 hT1 wR) (WrM_keep hE1 hT1 wM) (WrT_keep hE1 hT1 wT) hX1 (by omega)
    refine ⟨s', h', g', k', mk, ?_, ?_, b4, ⟨⟨r', b5⟩, b6, b13 ⟨by rw [a9]; exact hV.1, a8, by rw [a7]; omega⟩⟩, b7, b8, Ek_trans hE1 b9, Tk_trans hT1 b10, b11, ?_⟩
    · unfold K_E_take_66 J_E_stepWalkers K_E_take_80
      rw [hnow, b_over, if_pos h20]
      rw [Option.bind_some, if_pos rfl, show (0 : Int32) = o 0 from rfl, a1]
      exact b1
    · unfold K_M_turn_55
      show sFx (F_M_turn_58 n v1 v2 v3) n (o 0, g) = _
      rw [a2]
      exact b2
    · rw [b12, Lk_at a4 (by omega) (by omega)]
  · obtain ⟨s', h', g', r', k', mk, b1, b2, b3, b4, b5, b6, b7, b8, b9, b10, b11, b12, b13⟩ := tim_both (n := n) hn (mo := mo) s0 v1 v2 v3 Q 0 n h g s r k (by omega) (by omega) hnow hg hr hs wR wM wT hX (by omega)
    refine ⟨s', h', g', k', mk, ?_, ?_, b4, ⟨⟨r', b5⟩, b6, b13 hV⟩, b7, b8, b9, b10, b11, b12⟩
    · unfold K_E_take_66 K_E_take_80
      rw [hnow, b_over, if_neg h20]
      exact b1
    · unfold K_M_turn_55
      obtain ⟨n, rfl⟩ : ∃ m, n = m + 1 := ⟨n - 1, by omega⟩
      rw [sFx_s]
      generalize sFx (F_M_turn_58 (n + 1) v1 v2 v3) n = X
      unfold F_M_turn_58
      dsimp only
      rw [hg.2.2.2.2.2.2, if_neg (fun z => h20 (z38.mp z)), ite_self]
      exact b2
theorem Ek_pIs (h : sHp) (s : Int64) : Ek h (pI (pI (pL h 1 4 s) 1 2 0) 1 3 0) := Ek_trans (Ek_pL h s) (Ek_trans (Ek_pI1 _ (Or.inl rfl) _) (Ek_pI1 _ (Or.inr rfl) _))
/-- a turn -/
theorem take_both {n : Nat} (hn : 13 ≤ n) {s : Int64} {v : Nat} {a b : Int32} (hW : WrP h g mo T U K Q) (hg : Scr g s) (hS : St mo s) (hc : cmdOk T v a b) :
    ∃ s' h' g' k' mk, J_E_take n s (o v) a b h = some (s', h') ∧ J_M_turn n (o v) a b g = some g' ∧ Scr g' s' ∧ St mo s' ∧ Txt h' g' k' ∧ k' ≤ 3 ∧ Ek h h' ∧ Tk g g' ∧ h'.1 1 3 = mk ∧ g'.1 0 41 = g.1 0 41 ||| mk := by
  have hS' := hS
  obtain ⟨⟨r, hr⟩, hs, hV⟩ := hS
  have hE0 := Ek_pIs h s
  have hT0 : Tk g (pI g 0 39 0) := Tk_pI g _ (by omega)
  have hg0 : Scr (pI g 0 39 0) s := Scr_keep hg _ (by omega)
  have hW0 := WrP_keep hE0 hT0 hW
  have hn0 : (pI (pI (pL h 1 4 s) 1 2 0) 1 3 0).2 1 4 = s := pL_at1 h 1 4 s
  have hd0 : (pI (pI (pL h 1 4 s) 1 2 0) 1 3 0).1 1 3 = 0 := by rw [pI_i, if_pos ⟨rfl, rfl⟩]
  have hX0 : Txt (pI (pI (pL h 1 4 s) 1 2 0) 1 3 0) (pI g 0 39 0) 0 := ⟨by rw [pI_i, if_neg (by omega), pI_i, if_pos ⟨rfl, rfl⟩]; rfl, by rw [pI_i, if_pos ⟨rfl, rfl⟩]; rfl, fun i hi => absurd hi (by omega)⟩
  have m0 : (pI g 0 39 0).1 0 41 = g.1 0 41 := by rw [pI_i, if_neg (by omega)]
  unfold J_E_take J_M_turn
  generalize pI (pI (pL h 1 4 s) 1 2 0) 1 3 0 = H0 at *
  generalize pI g 0 39 0 = G0 at *
  have hv := hc.1
  have hT6 := hW.2.2.1.1
  have harg : v = 0 ∨ (arg a ∧ arg b) := by
    by_cases z : v = 0
    · exact Or.inl z
    · obtain ⟨x, y⟩ := hc.2.2.1 (by omega)
      refine Or.inr ⟨?_, ?_⟩
      · rcases x with x | ⟨t, x, y⟩
        · exact Or.inl x
        · exact Or.inr ⟨t, by omega, y⟩
      · rcases y with x | ⟨t, x, y⟩
        · exact Or.inl x
        · exact Or.inr ⟨t, by omega, y⟩
  obtain ⟨x, f1, f2, f3⟩ := fit_both hn0 hg0 hr hW0.1 hn hv harg
  rw [f1, f2, Option.bind_some, Option.bind_some]
  rcases f3 with rfl | ⟨q, hq, rfl⟩
  · rw [if_pos rfl, if_pos m1_lt]
    obtain ⟨bb, s1, g1, r1, e1, e2, e3, e4, e5, e6, e7⟩ := act_both (n := n) hn0 hg0 hr hs hW0.2.2.1 hW0.2.2.2.1 hV.1 (by omega) hc
    rw [e1, e2, Option.bind_some, Option.bind_some]
    have hE1 : Ek H0 (pL H0 1 4 s1) := Ek_pL H0 s1
    have hT1 : Tk G0 g1 := Tk_Lk e4
    have hX1 : Txt (pL H0 1 4 s1) g1 0 := ⟨hX0.1, by rw [Lk_at e4 (by omega) (by omega)]; exact hX0.2.1, fun i hi => absurd hi (by omega)⟩
    have hS1 : St mo s1 := ⟨⟨r1, e5⟩, e6, e7 mo (Nat.le_refl _) (by rw [hn0]; exact hV)⟩
    have m1 : g1.1 0 41 = g.1 0 41 := by rw [Lk_at e4 (by omega) (by omega), m0]
    have d1 : (pL H0 1 4 s1).1 1 3 = 0 := hd0
    have fin : ∀ x : Int32, ∃ s' h' g' k' mk, K_E_take_63 n s (o v) a b x (pL H0 1 4 s1) = some (s', h') ∧ K_M_turn_52 n (o v) a b x g1 = some g' ∧ Scr g' s' ∧ St mo s' ∧ Txt h' g' k' ∧ k' ≤ 3 ∧ Ek h h' ∧ Tk g g' ∧ h'.1 1 3 = mk ∧ g'.1 0 41 = g.1 0 41 ||| mk := fun x => by
      obtain ⟨y1, y2, y3⟩ := say_both hX1 (by omega) n x
      have hE2 : Ek (pL H0 1 4 s1) (pI (pI (pL H0 1 4 s1) 9 0 x) 1 2 (o (0 + 1))) := Ek_trans (Ek_pI9 _ _ _) (Ek_pI1 _ (Or.inl rfl) _)
      have hT2 : Tk g1 (pI (pI g1 30 0 x) 0 39 (o (0 + 1))) := Tk_trans (Tk_pI g1 _ (by omega)) (Tk_pI _ _ (by omega))
      obtain ⟨s', h', g', k', mk, z1, z2, z3, z4, z5, z6, z7, z8, z9, z10⟩ := tail_both (n := n) (by omega) (s0 := s) (v1 := o v) (v2 := a) (v3 := b) (s := s1) (WrP_keep hE2 hT2 (WrP_keep hE1 hT1 hW0)) (pL_at1 H0 1 4 s1) (Scr_keep (Scr_keep e3 _ (by omega)) _ (by omega)) hS1 y3 (by omega)
      refine ⟨s', h', g', k', mk, ?_, ?_, z3, z4, z5, z6, Ek_trans hE0 (Ek_trans hE1 (Ek_trans hE2 z7)), Tk_trans hT0 (Tk_trans hT1 (Tk_trans hT2 z8)), ?_, ?_⟩
      · unfold K_E_take_63
        rw [y1]
        exact z1
      · unfold K_M_turn_52
        rw [y2]
        exact z2
      · rw [z9, pI_i, if_neg (by omega), pI_i, if_neg (by omega), d1]
        simp
      · rw [z10, pI_i, if_neg (by omega), pI_i, if_neg (by omega), m1]
    cases bb with
    | false => exact fin 99
    | true => exact fin (100 + o v)
  · have hU := hW.1.1
    have hq31 : q < 2147483648 := by omega
    have q1 : ¬ o q = (-1 : Int32) := fun z => by
      have : ∀ q, q < 12 → ¬ o q = (-1 : Int32) := by decide +kernel
      exact this q (by omega) z
    have q2 : ¬ o q < (0 : Int32) := fun z => by
      have := (o_lt hq31 (by omega : 0 < 2147483648)).mp z; omega
    rw [if_neg q1, if_neg q2]
    obtain ⟨⟨-, -, -, w4, -⟩, -, ⟨ce, e0, e3, e4, e5⟩⟩ := hW0.1.2.2.2.2 q hq
    obtain ⟨H2, G2, S2, r2, f1, f2, f3, f4, f5, f6, f7, f8, f9, f10, f11, f12⟩ := fire_both hX0 (by omega) (by omega : 8 ≤ n) hn0 hg0 hr hs (by omega : q < 12) e0 e3 e4 w4 (fun t a b => (hW0.2.1 t a b).1) (fun t a b => (hW0.2.1 t a b).2) (fun j hj => (hW0.1.2.2.2.1 j hj).2) e5
    rw [f1, f2, Option.bind_some, Option.bind_some]
    obtain ⟨s', h', g', k', mk, z1, z2, z3, z4, z5, z6, z7, z8, z9, z10⟩ := tail_both (n := n) (by omega) (s0 := s) (v1 := o v) (v2 := a) (v3 := b) (s := S2) (WrP_keep f8 f9 hW0) f3 f4 ⟨⟨r2, f5⟩, f6, f12 hV⟩ f7 (by omega)
    refine ⟨s', h', g', k', jIshl 1 (o q) ||| mk, z1, z2, z3, z4, z5, z6, Ek_trans hE0 (Ek_trans f8 z7), Tk_trans hT0 (Tk_trans f9 z8), ?_, ?_⟩
    · rw [z9, f10, hd0]; simp
    · rw [z10, f11, m0, Int32.or_assoc]
end TK
