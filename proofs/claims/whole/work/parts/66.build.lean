/-! The rows of the world, one by one, where a call changes some of them. -/
section RK
variable {h h' g g' : sHp} {mo mo' : Nat → Nat} {T U K Q R : Nat}
def moLe (mo mo' : Nat → Nat) : Prop := (∀ t, t < 3 → mo t < 8 → mo' t = mo t) ∧ mo 3 ≤ mo' 3 ∧ mo 4 ≤ mo' 4
theorem moLe_refl (mo : Nat → Nat) : moLe mo mo := ⟨fun _ _ _ => rfl, Nat.le_refl _, Nat.le_refl _⟩
theorem okE_mo (hm : moLe mo mo') {k x y : Int32} (hk : okE mo k x y) : okE mo' k x y := by
  unfold okE at hk ⊢
  obtain ⟨m1, m2, m3⟩ := hm
  split at hk
  · rename_i z; rw [if_pos z]
    obtain ⟨a, ha, e⟩ := hk
    exact ⟨a, by omega, e⟩
  rename_i z; rw [if_neg z]
  split at hk
  · rename_i z; rw [if_pos z]; exact hk
  rename_i z; rw [if_neg z]
  split at hk
  · rename_i z; rw [if_pos z]; exact hk
  rename_i z; rw [if_neg z]
  split at hk
  · rename_i z; rw [if_pos z]
    obtain ⟨t, ht, hm, e⟩ := hk
    exact ⟨t, ht, by rw [m1 t ht hm]; exact hm, e⟩
  · rename_i z; rw [if_neg z]
    obtain ⟨a, ha, e⟩ := hk
    exact ⟨a, by omega, e⟩
theorem WrQ_k (hm : moLe mo mo') (c : ∀ j m, (21 ≤ j ∧ j ≤ 33) → h'.1 j m = h.1 j m) (d : ∀ j m, (8 ≤ j ∧ j ≤ 20) → g'.1 j m = g.1 j m) {q : Nat} (hQ : WrQ h g mo q) : WrQ h' g' mo' q := by
  obtain ⟨⟨a1, a2, a3, a4, a5⟩, ⟨c', c0, c1, c2, c3⟩, d', d0, d1, d2, d3⟩ := hQ
  refine ⟨⟨?_, ?_, ?_, ?_, ?_⟩, ⟨c', c0, ?_, ?_, fun j x y => ?_⟩, d', d0, ?_, ?_, fun j x y => ?_⟩
  · rw [c _ _ (by omega), d _ _ (by omega)]; exact a1
  · rw [c _ _ (by omega), d _ _ (by omega)]; exact a2
  · rw [c _ _ (by omega), d _ _ (by omega)]; exact a3
  · rw [c _ _ (by omega), d _ _ (by omega)]; exact a4
  · rw [c _ _ (by omega), d _ _ (by omega)]; exact a5
  · rw [c _ _ (by omega)]; exact c1
  · rw [d _ _ (by omega)]; exact c2
  · rw [c _ _ (by omega), c _ _ (by omega)]; exact c3 j x y
  · rw [c _ _ (by omega)]; exact d1
  · rw [d _ _ (by omega)]; exact d2
  · rw [c _ _ (by omega), c _ _ (by omega), c _ _ (by omega)]; exact okE_mo hm (d3 j x y)
theorem WrR_k (hm : moLe mo mo') (c : ∀ j m, ((j = 3 ∧ m = 7) ∨ (21 ≤ j ∧ j ≤ 33)) → h'.1 j m = h.1 j m) (d : ∀ j m, ((j = 0 ∧ m = 12) ∨ (8 ≤ j ∧ j ≤ 20)) → g'.1 j m = g.1 j m) (hR : WrR h g mo U) : WrR h' g' mo' U := by
  obtain ⟨r1, r2, r3, rC, rQ⟩ := hR
  refine ⟨r1, ?_, ?_, fun j hj => ?_, fun q hq => WrQ_k hm (fun j m z => c j m (by omega)) (fun j m z => d j m (by omega)) (rQ q hq)⟩
  · rw [c _ _ (by omega)]; exact r2
  · rw [d _ _ (by omega)]; exact r3
  · rw [c _ _ (by omega), c _ _ (by omega), c _ _ (by omega), c _ _ (by omega), c _ _ (by omega), c _ _ (by omega), d _ _ (by omega), d _ _ (by omega), d _ _ (by omega), d _ _ (by omega), d _ _ (by omega), d _ _ (by omega)]; exact rC j hj
theorem WrM_k (c : ∀ m, h'.1 15 m = h.1 15 m) (d : ∀ m, g'.1 5 m = g.1 5 m) (hm : ∀ t, t < 3 → mo' t = mo t) (hM : WrM h g mo) : WrM h' g' mo' := fun t a b => by
  rw [c, d, hm t a]; rw [hm t a] at b; exact hM t a b
theorem WrK_k (c : ∀ m, h'.1 13 m = h.1 13 m) (d : ∀ m, g'.1 3 m = g.1 3 m) (hK : WrK h g T) : WrK h' g' T := ⟨hK.1, fun t ht => by rw [c, d]; exact hK.2 t ht⟩
theorem WrX_k {T' : Nat} (hT : T ≤ T') (c : ∀ j m, (j = 10 ∨ j = 11) → h'.1 j m = h.1 j m) (d : ∀ j m, (j = 1 ∨ j = 2) → g'.1 j m = g.1 j m) (hX : WrX h g R T) : WrX h' g' R T' := ⟨hX.1, fun i hi => by
  rw [c _ _ (by omega), c _ _ (by omega), d _ _ (by omega), d _ _ (by omega)]
  rcases hX.2 i hi with x | ⟨x, y⟩
  · exact Or.inl x
  · refine Or.inr ⟨x, ?_⟩
    rcases y with y | ⟨e, y1, y2⟩
    · exact Or.inl y
    · exact Or.inr ⟨e, by omega, y2⟩⟩
theorem WrW_k {T' R' : Nat} (hT : T ≤ T') (hR : R ≤ R') (c : ∀ j m, ((j = 2 ∧ m = 16) ∨ j = 17 ∨ j = 18) → h'.1 j m = h.1 j m) (d : ∀ j m, ((j = 0 ∧ m = 26) ∨ j = 21 ∨ j = 22) → g'.1 j m = g.1 j m) (hW : WrW h g R T K) : WrW h' g' R' T' K := by
  obtain ⟨w1, w2, w3, w4⟩ := hW
  refine ⟨w1, by rw [c _ _ (by omega)]; exact w2, by rw [d _ _ (by omega)]; exact w3, fun k hk => ?_⟩
  obtain ⟨⟨t, t1, t2⟩, y⟩ := w4 k hk
  rw [c _ _ (by omega), d _ _ (by omega)]
  refine ⟨⟨t, by omega, t2⟩, fun j hj => ?_⟩
  obtain ⟨a, a1, a2⟩ := y j hj
  rw [c _ _ (by omega), d _ _ (by omega)]
  exact ⟨a, by omega, a2⟩
theorem WrT_k {U' : Nat} (hU : U ≤ U') (c : ∀ j m, ((j = 2 ∧ m = 17) ∨ j = 19) → h'.1 j m = h.1 j m) (d : ∀ j m, ((j = 0 ∧ m = 29) ∨ j = 23) → g'.1 j m = g.1 j m) (hT : WrT h g U Q) : WrT h' g' U' Q := by
  obtain ⟨t1, t2, t3, t4⟩ := hT
  refine ⟨t1, by rw [c _ _ (by omega)]; exact t2, by rw [d _ _ (by omega)]; exact t3, fun k hk => ?_⟩
  obtain ⟨q, q1, q2⟩ := t4 k hk
  rw [c _ _ (by omega), d _ _ (by omega)]
  exact ⟨q, by omega, q2⟩
end RK
section BC
variable {h g : sHp} {n : Nat}
/-- a new room: its exits are none -/
theorem E_addR {R : Nat} (hR : R < 6) : ∀ d i M (h : sHp), i + d = 4 → d < M → h.1 2 12 = o R → ∃ h', sFx (F_W_addRoom_2 n) M (o i, h) = some (o R, h') ∧ h'.2 = h.2 ∧ ∀ j m, h'.1 j m = if j = 2 ∧ m = 12 then o (R + 1) else if (j = 10 ∨ j = 11) ∧ 4 * R + i ≤ m ∧ m < 4 * R + 4 then -1 else h.1 j m := by
  intro d
  induction d with
  | zero =>
    intro i M h hi hM h12
    obtain ⟨M, rfl⟩ : ∃ m, M = m + 1 := ⟨M - 1, by omega⟩
    obtain rfl : i = 4 := by omega
    refine ⟨pI h 2 12 (o R + 1), ?_, rfl, fun j m => ?_⟩
    · rw [sFx_s]; unfold F_W_addRoom_2; dsimp only
      rw [if_pos (by decide : (4 : Int32) ≤ o 4), h12]
    · rw [pI_i, show o R + 1 = o (R + 1) from o_add R 1]
      by_cases hq : j = 2 ∧ m = 12
      · rw [if_pos hq, if_pos hq]
      · rw [if_neg hq, if_neg hq, if_neg (by omega)]
  | succ d ih =>
    intro i M h hi hM h12
    obtain ⟨M, rfl⟩ : ∃ m, M = m + 1 := ⟨M - 1, by omega⟩
    obtain ⟨h', e1, e2, e3⟩ := ih (i + 1) M (pI (pI h 10 (4 * R + i) (-1)) 11 (4 * R + i) (-1)) (by omega) (by omega) (by (repeat (rw [pI_i, if_neg (by omega)])); exact h12)
    refine ⟨h', ?_, e2, fun j m => ?_⟩
    · rw [sFx_s]
      generalize sFx (F_W_addRoom_2 n) M = X at e1 ⊢
      unfold F_W_addRoom_2 J_W_setExit; dsimp only
      have h5 : ¬ (4 : Int32) ≤ o i := fun z => by have := (o_le (by omega : 4 < 2147483648) (by omega)).mp z; omega
      have ei : o R * (4 : Int32) + o i = o (4 * R + i) := by
        show o R * o 4 + o i = _
        rw [o_mul, o_add, Nat.mul_comm]
      rw [if_neg h5, h12, ei, sIn_o 24 (by omega), decide_eq_true (by omega)]
      simp only [sGd_true, ix_o (show 4 * R + i < 2147483648 by omega), show o i + 1 = o (i + 1) from o_add i 1, Option.bind_some]
      exact e1
    · rw [e3 j m, pI_i, pI_i]
      by_cases hq : j = 2 ∧ m = 12
      · rw [if_pos hq, if_pos hq]
      · rw [if_neg hq, if_neg hq]
        by_cases hq2 : (j = 10 ∨ j = 11) ∧ m = 4 * R + i
        · rw [if_neg (by omega), if_pos (show (j = 10 ∨ j = 11) ∧ 4 * R + i ≤ m ∧ m < 4 * R + 4 by omega)]
          by_cases hq4 : j = 11 ∧ m = 4 * R + i
          · rw [if_pos hq4]
          · rw [if_neg hq4, if_pos (by omega)]
        · by_cases hq3 : (j = 10 ∨ j = 11) ∧ 4 * R + (i + 1) ≤ m ∧ m < 4 * R + 4
          · rw [if_pos hq3, if_pos (by omega)]
          · rw [if_neg hq3, if_neg (by omega), if_neg (by omega), if_neg (by omega)]
theorem FcI_yes {w : Wp} {h1 g1 : sHp} (hn : 8 ≤ n) (hW : Wr w h1 g1) (h0 : g1.1 0 0 = 0) {X Y : Option (Int32 × sHp)} (r : Int32) {i : Nat} (hi : 1 ≤ i ∧ i < 30) (hr : g1.1 0 i - 1 = r)
    (e1 : ∀ h', J_S_startAnew n h1 = some h' → X = some (0, pL h' 41 0 (Int32.toInt64 r))) (e2 : ∀ g', J_M_renew n g1 = some g' → Y = some (g'.1 0 i - 1, g')) : FcI n X Y := by
  obtain ⟨h', g', a, b, c, d, e⟩ := Iv_new hW hn
  refine ⟨0, _, _, _, e1 h' a, e2 g' b, by rw [e, h0], fun _ => ?_, Iv_out c _⟩
  rw [pL_i, if_pos ⟨rfl, rfl⟩, d 0 i (by omega), hr]
theorem FcV_yes {w : Wp} {h1 g1 : sHp} (hn : 8 ≤ n) (hW : Wr w h1 g1) (h0 : g1.1 0 0 = 0) {X : Option (Int32 × sHp)} {Y : Option sHp}
    (e1 : ∀ h', J_S_startAnew n h1 = some h' → X = some (0, h')) (e2 : ∀ g', J_M_renew n g1 = some g' → Y = some g') : FcV n X Y := by
  obtain ⟨h', g', a, b, c, d, e⟩ := Iv_new hW hn
  exact ⟨0, _, _, e1 h' a, e2 g' b, by rw [e, h0], c⟩
theorem f_room (hn : 8 ≤ n) (hI : Iv n h g) : FcI n (J_L_room n h) (J_M_room n g) := by
  have hI' := hI
  obtain ⟨w, hw, t, k, hW, -⟩ := hI
  obtain ⟨p, a⟩ := hW
  have hR := p.2.2.2.1.1
  by_cases h6 : w.mo 3 = 6
  · refine FcI_no hI' 1 (by decide) ?_ ?_
    · unfold J_L_room J_S_room K_S_room_17
      rw [a.rm.1, h6, if_pos (by decide)]; rfl
    · unfold J_M_room K_M_room_15
      rw [a.rm.2, h6, if_pos (by decide)]; rfl
  · obtain ⟨h1, e1, -, e3⟩ := E_addR (n := n) (R := w.mo 3) (by omega) 4 0 n h (by omega) (by omega) a.rm.1
    have hc : ∀ j m, ¬ (j = 2 ∧ m = 12) → j ≠ 10 → j ≠ 11 → h1.1 j m = h.1 j m := fun j m x y z => by rw [e3, if_neg x, if_neg (by omega)]
    have l6 : ¬ (6 : Int32) ≤ o (w.mo 3) := fun z => by have := (o_le (by omega : 6 < 2147483648) (by omega)).mp z; omega
    have n6 : ¬ o (w.mo 3) = (6 : Int32) := fun z => h6 ((o_inj (by omega) (by omega : 6 < 2147483648)).mp z)
    have gk : ∀ j m, ¬ (j = 0 ∧ m < 2) → (pI (pI g 0 0 0) 0 1 (o (w.mo 3 + 1))).1 j m = g.1 j m := fun j m z => by (repeat (rw [pI_i, if_neg (by omega)]))
    have m1 : moLe w.mo (fun x => if x = 3 then w.mo 3 + 1 else w.mo x) := ⟨fun t a _ => by dsimp only [mW_mo, mW_P, mW_Kd, mW_F, mW_C, mW_T, mW_U, mW_K, mW_Q, mW_N]; rw [if_neg (by omega)], by simp, by simp⟩
    have hW1 : Wr (mW (fun x => if x = 3 then w.mo 3 + 1 else w.mo x) w.P w.Kd w.F w.C w.T w.U w.K w.Q w.N) h1 (pI (pI g 0 0 0) 0 1 (o (w.mo 3 + 1))) := by
      refine ⟨⟨WrR_k m1 (fun j m z => hc j m (by omega) (by omega) (by omega)) (fun j m z => gk j m (by omega)) p.1, WrM_k (fun m => hc _ m (by omega) (by omega) (by omega)) (fun m => gk _ m (by omega)) (fun t ht => by dsimp only [mW_mo, mW_P, mW_Kd, mW_F, mW_C, mW_T, mW_U, mW_K, mW_Q, mW_N]; rw [if_neg (by omega)]) p.2.1, WrK_k (fun m => hc _ m (by omega) (by omega) (by omega)) (fun m => gk _ m (by omega)) p.2.2.1, ⟨by dsimp only [mW_mo, mW_P, mW_Kd, mW_F, mW_C, mW_T, mW_U, mW_K, mW_Q, mW_N]; rw [if_pos rfl]; omega, fun i hi => ?_⟩, WrW_k (Nat.le_refl _) (by dsimp only [mW_mo, mW_P, mW_Kd, mW_F, mW_C, mW_T, mW_U, mW_K, mW_Q, mW_N]; rw [if_pos rfl]; omega) (fun j m z => hc j m (by omega) (by omega) (by omega)) (fun j m z => gk j m (by omega)) p.2.2.2.2.1, WrT_k (Nat.le_refl _) (fun j m z => hc j m (by omega) (by omega) (by omega)) (fun j m z => gk j m (by omega)) p.2.2.2.2.2⟩, ?_⟩
      · dsimp only [mW_mo, mW_P, mW_Kd, mW_F, mW_C, mW_T, mW_U, mW_K, mW_Q, mW_N] at hi ⊢
        rw [if_pos rfl] at hi ⊢
        rw [gk _ _ (by omega), gk _ _ (by omega)]
        by_cases hq : 4 * w.mo 3 ≤ i
        · exact Or.inl ⟨by rw [e3, if_neg (by omega), if_pos (by omega)], a.ex i hq (by omega)⟩
        · rw [show h1.1 10 i = h.1 10 i by rw [e3, if_neg (by omega), if_neg (by omega)], show h1.1 11 i = h.1 11 i by rw [e3, if_neg (by omega), if_neg (by omega)]]
          rcases p.2.2.2.1.2 i (by omega) with x | ⟨⟨b, b1, b2⟩, y⟩
          · exact Or.inl x
          · exact Or.inr ⟨⟨b, by omega, b2⟩, y⟩
      · refine ⟨⟨?_, ?_⟩, ?_, ?_, ?_, a.e4, a.n3, fun t ht => ?_, fun t ht => ?_, fun t ht => ?_, fun t ht => ?_, fun e he => ?_, fun t ht => by dsimp only [mW_mo, mW_P, mW_Kd, mW_F, mW_C, mW_T, mW_U, mW_K, mW_Q, mW_N]; rw [if_neg (by omega)]; exact a.mn t ht, a.rk, fun i x y => ?_⟩
        · rw [e3, if_pos ⟨rfl, rfl⟩]; rfl
        · rw [pI_i, if_pos ⟨rfl, rfl⟩]; rfl
        · rw [hc _ _ (by omega) (by omega) (by omega), gk _ _ (by omega)]; exact a.th
        · rw [hc _ _ (by omega) (by omega) (by omega), gk _ _ (by omega)]; exact a.nu
        · rw [hc _ _ (by omega) (by omega) (by omega), gk _ _ (by omega)]; exact a.en
        · rw [hc _ _ (by omega) (by omega) (by omega), gk _ _ (by omega)]; exact a.pl t ht
        · rw [hc _ _ (by omega) (by omega) (by omega), gk _ _ (by omega)]; exact a.kd t ht
        · rw [hc _ _ (by omega) (by omega) (by omega), gk _ _ (by omega)]; exact a.fn t ht
        · rw [hc _ _ (by omega) (by omega) (by omega), gk _ _ (by omega)]; exact a.ct t ht
        · rw [hc _ _ (by omega) (by omega) (by omega), gk _ _ (by omega)]; exact a.gd e he
        · dsimp only [mW_mo, mW_P, mW_Kd, mW_F, mW_C, mW_T, mW_U, mW_K, mW_Q, mW_N] at x
          rw [if_pos rfl] at x
          rw [gk _ _ (by omega)]; exact a.ex i (by omega) y
    refine FcI_yes hn hW1 (by rw [pI_i, if_neg (by omega), pI_i, if_pos ⟨rfl, rfl⟩]) (o (w.mo 3)) (i := 1) (by omega) ?_ (fun h' hh => ?_) (fun g' hg => ?_)
    · rw [pI_i, if_pos ⟨rfl, rfl⟩]
      rw [show (1 : Int32) = o 1 from rfl, o_sub (by omega)]; rfl
    · unfold J_L_room J_S_room K_S_room_17 J_W_addRoom
      rw [a.rm.1, if_neg l6, if_neg (by decide), show (0 : Int32) = o 0 from rfl, e1, Option.bind_some, hh, Option.bind_some]; rfl
    · unfold J_M_room K_M_room_15
      rw [a.rm.2, if_neg n6, if_pos (by decide), show o (w.mo 3) + 1 = o (w.mo 3 + 1) from o_add _ 1, hg]; rfl
end BC
