/-! Walkers, timers, clear and begin, both sides. -/
section WA
variable {h g : sHp} {n : Nat} {w : Wp}
def wkr (f : Nat → Int32) (p : Int32) : Nat → Nat → Bool
  | 0, _ => false
  | d + 1, i => decide (f i = p) || wkr f p d (i + 1)
theorem wkr_congr {f f' : Nat → Int32} {p : Int32} : ∀ d i, (∀ j, i ≤ j → j < i + d → f j = f' j) → wkr f p d i = wkr f' p d i := by
  intro d
  induction d with
  | zero => intro i _; rfl
  | succ d ih =>
    intro i hh
    show (decide (f i = p) || wkr f p d (i + 1)) = (decide (f' i = p) || wkr f' p d (i + 1))
    rw [hh i (Nat.le_refl _) (by omega), ih (i + 1) (fun j a b => hh j (by omega) (by omega))]
theorem E_isW {K : Nat} (hK : K ≤ 2) (h16 : h.1 2 16 = o K) (p : Int32) : ∀ d i M, i + d = K → d < M → sFx (F_W_isWalker_2 n p h) M (o i) = some (oB (wkr (h.1 17) p d i)) := by
  intro d
  induction d with
  | zero =>
    intro i M hi hM
    obtain ⟨M, rfl⟩ : ∃ m, M = m + 1 := ⟨M - 1, by omega⟩
    rw [sFx_s]; unfold F_W_isWalker_2
    rw [h16, if_pos ((o_le (by omega) (by omega)).mpr (by omega))]; rfl
  | succ d ih =>
    intro i M hi hM
    obtain ⟨M, rfl⟩ : ∃ m, M = m + 1 := ⟨M - 1, by omega⟩
    have e := ih (i + 1) M (by omega) (by omega)
    rw [sFx_s]
    generalize sFx (F_W_isWalker_2 n p h) M = X at e ⊢
    unfold F_W_isWalker_2
    rw [h16, if_neg (fun z => by have := (o_le (by omega) (by omega)).mp z; omega), sIn_o 2 (by omega), decide_eq_true (show i < 2 by omega), sGd_true, ix_o (by omega), show o i + 1 = o (i + 1) from o_add i 1]
    show _ = some (oB (decide (h.1 17 i = p) || wkr (h.1 17) p d (i + 1)))
    by_cases hq : h.1 17 i = p
    · rw [if_pos hq, decide_eq_true hq]; rfl
    · rw [if_neg hq, decide_eq_false hq, Bool.false_or]; exact e
theorem M_isW {K : Nat} (hK : K ≤ 2) (h26 : g.1 0 26 = o K) (x1 x2 x3 x4 : Int32) (X : Int32 × Int32 → Option sHp) : ∀ d i M b, i + d = K → d < M → sFx (F_M_walker_6 n x1 x2 x3 x4 g) M (oB b, o i) = F_M_walker_6 n x1 x2 x3 x4 g X (oB (b || wkr (g.1 21) x1 d i), o K) := by
  intro d
  induction d with
  | zero =>
    intro i M b hi hM
    obtain ⟨M, rfl⟩ : ∃ m, M = m + 1 := ⟨M - 1, by omega⟩
    obtain rfl : i = K := by omega
    rw [sFx_s]
    have e : (b || wkr (g.1 21) x1 0 i) = b := Bool.or_false b
    rw [e]
    unfold F_M_walker_6
    dsimp only
    rw [h26, if_pos ((o_le (by omega) (by omega)).mpr (by omega)), if_pos ((o_le (by omega) (by omega)).mpr (by omega))]
  | succ d ih =>
    intro i M b hi hM
    obtain ⟨M, rfl⟩ : ∃ m, M = m + 1 := ⟨M - 1, by omega⟩
    have e1 := ih (i + 1) M true (by omega) (by omega)
    have e0 := ih (i + 1) M false (by omega) (by omega)
    rw [sFx_s]
    generalize sFx (F_M_walker_6 n x1 x2 x3 x4 g) M = Y at e1 e0 ⊢
    rw [show (b || wkr (g.1 21) x1 (d + 1) i) = ((b || decide (g.1 21 i = x1)) || wkr (g.1 21) x1 d (i + 1)) by rw [Bool.or_assoc]; rfl]
    generalize hR : F_M_walker_6 n x1 x2 x3 x4 g X (oB ((b || decide (g.1 21 i = x1)) || wkr (g.1 21) x1 d (i + 1)), o K) = Rr
    unfold F_M_walker_6
    dsimp only
    rw [h26, if_neg (fun z => by have := (o_le (by omega) (by omega)).mp z; omega), sIn_o 2 (by omega), decide_eq_true (show i < 2 by omega), sGd_true, ix_o (by omega), show o i + 1 = o (i + 1) from o_add i 1]
    cases b with
    | true => rw [if_neg (by decide)]; rw [← hR, Bool.true_or]; exact e1
    | false =>
      rw [if_pos (by decide)]
      by_cases hq : g.1 21 i = x1
      · rw [if_pos hq]; rw [← hR, decide_eq_true hq, Bool.false_or]; exact e1
      · rw [if_neg hq]; rw [← hR, decide_eq_false hq, Bool.false_or]; exact e0
theorem f_walker (hn : 8 ≤ n) (hI : Iv n h g) (x1 x2 x3 x4 : Int32) : FcV n (J_L_walker n x1 x2 x3 x4 h) (J_M_walker n x1 x2 x3 x4 g) := by
  have hI' := hI
  obtain ⟨w, hw, t, k, hW, -⟩ := hI
  have hR := hW.p.2.2.2.1.1
  have hT := hW.p.2.2.1.1
  obtain ⟨hK, w16, w26, wk⟩ := hW.p.2.2.2.2.1
  have ew := E_isW (n := n) hK w16 x1 w.K 0 n (by omega) (by omega)
  have em := M_isW (n := n) hK w26 x1 x2 x3 x4 (fun _ => none) w.K 0 n false (by omega) (by omega)
  rw [Bool.false_or, ← wkr_congr (f := h.1 17) w.K 0 (fun j a b => by obtain ⟨⟨t, t1, t2, t3⟩, -⟩ := wk j (by omega); rw [t2, t3])] at em
  generalize wkr (h.1 17) x1 w.K 0 = is at ew em
  unfold J_M_walker
  rw [show ((0 : Int32), (0 : Int32)) = (oB false, o 0) from rfl, em]
  unfold J_L_walker J_S_walker K_S_walker_49 K_S_walker_50 K_S_walker_79 K_S_walker_80 F_M_walker_6 K_M_walker_78 K_M_walker_95 K_M_walker_100 J_W_isWalker
  simp only [W_thing hW, W_room hW, M_thing hW, M_room hW, Option.bind_some, oB_0, w16, w26, if_pos ((o_le (show w.K < 2147483648 by omega) (show w.K < 2147483648 by omega)).mpr (Nat.le_refl _))]
  have bad : FcV n (jC (some ((.error 0 : Except Nat Unit), h)) (fun v6 h6 => some ((0 : Int32), h6)) (fun k h => if k = 0 then some ((1 : Int32), h) else (if k = 2 then some ((2 : Int32), h) else none))) (some (pI g 0 0 1)) := FcV_no hI' 1 rfl rfl
  have bad2 : FcV n (jC (some ((.error 2 : Except Nat Unit), h)) (fun v6 h6 => some ((0 : Int32), h6)) (fun k h => if k = 0 then some ((1 : Int32), h) else (if k = 2 then some ((2 : Int32), h) else none))) (some (pI g 0 0 2)) := FcV_no hI' 2 rfl rfl
  cases c1 : sIn x1 w.T
  · exact bad
  cases c2 : sIn x2 (w.mo 3)
  · exact bad
  cases c3 : sIn x3 (w.mo 3)
  · exact bad
  cases c4 : sIn x4 (w.mo 3)
  · exact bad
  obtain ⟨t, ht, rfl⟩ := of_sIn c1
  obtain ⟨a, ha, rfl⟩ := of_sIn c2
  obtain ⟨b, hb, rfl⟩ := of_sIn c3
  obtain ⟨c, hc, rfl⟩ := of_sIn c4
  simp only [if_neg (show ¬ true = false by decide), if_neg (show ¬ (1 : Int32) = 0 by decide), if_neg (show ¬ (1 : Int32) ≤ 0 by decide), if_neg (show ¬ (2 : Int32) ≤ 0 by decide), if_pos (show (0 : Int32) ≤ 0 by decide), Bool.not_true, if_true]
  by_cases h2 : w.K = 2
  · rw [h2]; exact bad2
  · have l2 : ¬ (2 : Int32) ≤ o w.K := fun z => by have := (o_le (by omega : 2 < 2147483648) (by omega)).mp z; omega
    have n2 : ¬ o w.K = (2 : Int32) := fun z => h2 ((o_inj (by omega) (by omega : 2 < 2147483648)).mp z)
    rw [show (0 : Int32) = o 0 from rfl]
    rw [if_neg l2, if_neg n2, ew, Option.bind_some]
    cases is with
    | true => exact bad2
    | false =>
      rw [if_pos (show oB false = o 0 from rfl), if_pos (show false = false from rfl)]
      unfold J_W_addWalker
      have e0 : o w.K * (3 : Int32) = o (3 * w.K) := by
        show o w.K * o 3 = _
        rw [o_mul, Nat.mul_comm]
      have e0' : (3 : Int32) * o w.K = o (3 * w.K) := by
        show o 3 * o w.K = _
        rw [o_mul]
      simp only [w16, e0, e0', show o (3 * w.K) + 1 = o (3 * w.K + 1) from o_add _ 1, show o (3 * w.K) + 2 = o (3 * w.K + 2) from o_add _ 2, sIn_o 2 (show w.K < 2147483648 by omega), sIn_o 6 (show 3 * w.K < 2147483648 by omega), sIn_o 6 (show 3 * w.K + 1 < 2147483648 by omega), sIn_o 6 (show 3 * w.K + 2 < 2147483648 by omega), sIn_o 6 (show t < 2147483648 by omega), decide_eq_true (show w.K < 2 by omega), decide_eq_true (show 3 * w.K < 6 by omega), decide_eq_true (show 3 * w.K + 1 < 6 by omega), decide_eq_true (show 3 * w.K + 2 < 6 by omega), decide_eq_true (show t < 6 by omega), sGd_true, ix_o (show w.K < 2147483648 by omega), ix_o (show 3 * w.K < 2147483648 by omega), ix_o (show 3 * w.K + 1 < 2147483648 by omega), ix_o (show 3 * w.K + 2 < 2147483648 by omega), ix_o (show t < 2147483648 by omega), Option.bind_some, show o w.K + 1 = o (w.K + 1) from o_add _ 1]
      have hW1 : Wr (mW w.mo (fun x => if x = t then a else w.P x) w.Kd w.F w.C w.T w.U (w.K + 1) w.Q w.N) (pI (pI (pI (pI (pI (pI h 17 w.K (o t)) 18 (3 * w.K) (o a)) 18 (3 * w.K + 1) (o b)) 18 (3 * w.K + 2) (o c)) 12 t (o a)) 2 16 (o (w.K + 1))) (pI (pI (pI (pI (pI (pI (pI g 0 0 (o 0)) 21 w.K (o t)) 22 (3 * w.K) (o a)) 22 (3 * w.K + 1) (o b)) 22 (3 * w.K + 2) (o c)) 0 26 (o (w.K + 1))) 4 t (o a)) := by
        obtain ⟨p, aa⟩ := hW
        refine ⟨⟨WrR_k (moLe_refl _) (fun j m z => by (repeat (rw [pI_i, if_neg (by omega)]))) (fun j m z => by (repeat (rw [pI_i, if_neg (by omega)]))) p.1, WrM_k (fun m => by (repeat (rw [pI_i, if_neg (by omega)]))) (fun m => by (repeat (rw [pI_i, if_neg (by omega)]))) (fun t ht => rfl) p.2.1, WrK_k (fun m => by (repeat (rw [pI_i, if_neg (by omega)]))) (fun m => by (repeat (rw [pI_i, if_neg (by omega)]))) p.2.2.1, WrX_k (Nat.le_refl _) (fun j m z => by (repeat (rw [pI_i, if_neg (by omega)]))) (fun j m z => by (repeat (rw [pI_i, if_neg (by omega)]))) p.2.2.2.1, ⟨by show w.K + 1 ≤ 2; omega, by rw [pI_i, if_pos ⟨rfl, rfl⟩]; rfl, by rw [pI_i, if_neg (by omega), pI_i, if_pos ⟨rfl, rfl⟩]; rfl, fun k hk => ?_⟩, WrT_k (Nat.le_refl _) (fun j m z => by (repeat (rw [pI_i, if_neg (by omega)]))) (fun j m z => by (repeat (rw [pI_i, if_neg (by omega)]))) p.2.2.2.2.2⟩, ?_⟩
        · have hk : k < w.K + 1 := hk
          by_cases hkK : k = w.K
          · subst hkK
            refine ⟨⟨t, ht, by simp [pI_i], by simp [pI_i]⟩, fun j hj => ?_⟩
            have : j = 0 ∨ j = 1 ∨ j = 2 := by omega
            rcases this with rfl | rfl | rfl
            · exact ⟨a, ha, by simp [pI_i], by simp [pI_i]⟩
            · exact ⟨b, hb, by simp [pI_i], by simp [pI_i]⟩
            · exact ⟨c, hc, by simp [pI_i], by simp [pI_i]⟩
          · obtain ⟨⟨t', y1, y2, y3⟩, y4⟩ := wk k (by omega)
            refine ⟨⟨t', y1, by (repeat (rw [pI_i, if_neg (by omega)])); exact y2, by (repeat (rw [pI_i, if_neg (by omega)])); exact y3⟩, fun j hj => ?_⟩
            obtain ⟨a', z1, z2, z3⟩ := y4 j hj
            exact ⟨a', z1, by (repeat (rw [pI_i, if_neg (by omega)])); exact z2, by (repeat (rw [pI_i, if_neg (by omega)])); exact z3⟩
        · refine ⟨⟨by (repeat (rw [pI_i, if_neg (by omega)])); exact aa.rm.1, by (repeat (rw [pI_i, if_neg (by omega)])); exact aa.rm.2⟩, ⟨by (repeat (rw [pI_i, if_neg (by omega)])); exact aa.th.1, by (repeat (rw [pI_i, if_neg (by omega)])); exact aa.th.2⟩, ⟨by (repeat (rw [pI_i, if_neg (by omega)])); exact aa.nu.1, by (repeat (rw [pI_i, if_neg (by omega)])); exact aa.nu.2⟩, ⟨by (repeat (rw [pI_i, if_neg (by omega)])); exact aa.en.1, by (repeat (rw [pI_i, if_neg (by omega)])); exact aa.en.2⟩, aa.e4, aa.n3, fun u hu => ?_, fun t ht => ⟨(aa.kd t ht).1, by (repeat (rw [pI_i, if_neg (by omega)])); exact (aa.kd t ht).2.1, by (repeat (rw [pI_i, if_neg (by omega)])); exact (aa.kd t ht).2.2⟩, fun t ht => ⟨(aa.fn t ht).1, by (repeat (rw [pI_i, if_neg (by omega)])); exact (aa.fn t ht).2.1, by (repeat (rw [pI_i, if_neg (by omega)])); exact (aa.fn t ht).2.2⟩, fun t ht => ⟨(aa.ct t ht).1, by (repeat (rw [pI_i, if_neg (by omega)])); exact (aa.ct t ht).2.1, by (repeat (rw [pI_i, if_neg (by omega)])); exact (aa.ct t ht).2.2⟩, fun e he => (by obtain ⟨b, b1, b2⟩ := aa.gd e he; exact ⟨b, by (repeat (rw [pI_i, if_neg (by omega)])); exact b1, by (repeat (rw [pI_i, if_neg (by omega)])); exact b2⟩), aa.mn, fun u hu h7 => ?_, fun i x y => by (repeat (rw [pI_i, if_neg (by omega)])); exact aa.ex i x y⟩
          · rw [mW_P]
            by_cases hut : u = t
            · subst hut
              simp only [if_true]
              exact ⟨by omega, by simp [pI_i], by simp [pI_i]⟩
            · simp only [if_neg hut]
              obtain ⟨e1, e2, e3⟩ := aa.pl u hu
              exact ⟨e1, by (repeat (rw [pI_i, if_neg (by omega)])); exact e2, by (repeat (rw [pI_i, if_neg (by omega)])); exact e3⟩
          · rw [mW_P] at h7 ⊢
            by_cases hut : u = t
            · simp only [if_pos hut] at h7; omega
            · simp only [if_neg hut] at h7 ⊢; exact aa.rk u hu h7
      exact FcV_yes hn hW1 (by simp [pI_i]; rfl) (fun h' hh => by rw [hh]; rfl) (fun g' hg => by rw [hg]; rfl)
theorem f_timer (hn : 8 ≤ n) (hI : Iv n h g) (x1 x2 : Int32) : FcV n (J_L_timer n x1 x2 h) (J_M_timer n x1 x2 g) := by
  have hI' := hI
  obtain ⟨w, hw, t, k, hW, -⟩ := hI
  have hU := hW.p.1.1
  obtain ⟨hQ, t17, t29, tk⟩ := hW.p.2.2.2.2.2
  have z1 : (1 : Int32).toInt = 1 := rfl
  have z15 : (15 : Int32).toInt = 15 := rfl
  unfold J_L_timer J_S_timer J_M_timer K_S_timer_51 K_S_timer_52 K_M_timer_24 K_M_timer_45 K_M_timer_50
  simp only [W_rule hW, M_rule hW, Option.bind_some, oB_0, frm_eq, z1, z15, t17, t29]
  cases c1 : sIn x1 w.U
  · exact FcV_no hI' 1 rfl rfl
  obtain ⟨q, hq, rfl⟩ := of_sIn c1
  have hin : sIn (o q) 12 = true := by rw [sIn_o 12 (by omega), decide_eq_true (by omega)]
  obtain ⟨⟨qa1, qa2, qa3, qa4, qa5⟩, -⟩ := hW.p.1.2.2.2.2 q hq
  simp only [if_neg (show ¬ true = false by decide), Bool.not_true, if_true, hin, sGd_true, ix_o (show q < 2147483648 by omega), qa5]
  by_cases c2 : 1 ≤ x2.toInt ∧ x2.toInt ≤ 15
  · obtain ⟨c, rfl, k1, k2⟩ := of_range (by omega) c2.1 c2.2
    have l1 : ¬ o c < (1 : Int32) := fun z => by have := i32_lt.mp z; omega
    have l2 : o c ≤ (15 : Int32) := i32_le.mpr (by omega)
    simp only [decide_eq_true c2, if_neg l1, if_pos l2, if_neg (show ¬ true = false by decide), if_neg (show ¬ (1 : Int32) = 0 by decide), if_pos (show (0 : Int32) ≤ 0 by decide), if_neg (show ¬ (3 : Int32) ≤ 0 by decide)]
    have bad3 : FcV n (jC (some ((.error 2 : Except Nat Unit), h)) (fun v3 h3 => some ((0 : Int32), h3)) (fun k h => if k = 0 then some ((1 : Int32), h) else (if k = 1 then some ((2 : Int32), h) else (if k = 2 then some ((3 : Int32), h) else none)))) (some (pI g 0 0 3)) := FcV_no hI' 3 rfl rfl
    by_cases h2 : w.Q = 2
    · rw [h2]; exact bad3
    · have l3 : ¬ (2 : Int32) ≤ o w.Q := fun z => by have := (o_le (by omega : 2 < 2147483648) (by omega)).mp z; omega
      have n3 : ¬ o w.Q = (2 : Int32) := fun z => h2 ((o_inj (by omega) (by omega : 2 < 2147483648)).mp z)
      rw [if_neg l3, if_neg n3]
      by_cases ht : g.1 12 q = 0
      · rw [if_pos ht, if_pos ht]
        unfold J_W_addTimer
        simp only [t17, sIn_o 2 (show w.Q < 2147483648 by omega), decide_eq_true (show w.Q < 2 by omega), hin, sGd_true, ix_o (show w.Q < 2147483648 by omega), ix_o (show q < 2147483648 by omega), Option.bind_some, show o w.Q + 1 = o (w.Q + 1) from o_add _ 1]
        have hW1 : Wr (mW w.mo w.P w.Kd w.F (fun x => if x = w.Q then c else w.C x) w.T w.U w.K (w.Q + 1) w.N) (pI (pI (pI (pI h 19 w.Q (o q)) 20 w.Q (o c)) 25 q 1) 2 17 (o (w.Q + 1))) (pI (pI (pI (pI (pI g 0 0 0) 12 q 1) 23 w.Q (o q)) 24 w.Q (o c)) 0 29 (o (w.Q + 1))) := by
          obtain ⟨p, aa⟩ := hW
          refine ⟨⟨⟨p.1.1, by (repeat (rw [pI_i, if_neg (by omega)])); exact p.1.2.1, by (repeat (rw [pI_i, if_neg (by omega)])); exact p.1.2.2.1, fun j hj => ?_, fun q' hq' => ?_⟩, WrM_k (fun m => by (repeat (rw [pI_i, if_neg (by omega)]))) (fun m => by (repeat (rw [pI_i, if_neg (by omega)]))) (fun t ht => rfl) p.2.1, WrK_k (fun m => by (repeat (rw [pI_i, if_neg (by omega)]))) (fun m => by (repeat (rw [pI_i, if_neg (by omega)]))) p.2.2.1, WrX_k (Nat.le_refl _) (fun j m z => by (repeat (rw [pI_i, if_neg (by omega)]))) (fun j m z => by (repeat (rw [pI_i, if_neg (by omega)]))) p.2.2.2.1, WrW_k (Nat.le_refl _) (Nat.le_refl _) (fun j m z => by (repeat (rw [pI_i, if_neg (by omega)]))) (fun j m z => by (repeat (rw [pI_i, if_neg (by omega)]))) p.2.2.2.2.1, ⟨by show w.Q + 1 ≤ 2; omega, by rw [pI_i, if_pos ⟨rfl, rfl⟩]; rfl, by rw [pI_i, if_pos ⟨rfl, rfl⟩]; rfl, fun k hk => ?_⟩⟩, ?_⟩
          · obtain ⟨⟨y1, y2, y3⟩, y4, y5, y6⟩ := p.1.2.2.2.1 j hj
            exact ⟨⟨by (repeat (rw [pI_i, if_neg (by omega)])); exact y1, by (repeat (rw [pI_i, if_neg (by omega)])); exact y2, by (repeat (rw [pI_i, if_neg (by omega)])); exact y3⟩, by (repeat (rw [pI_i, if_neg (by omega)])); exact y4, by (repeat (rw [pI_i, if_neg (by omega)])); exact y5, by (repeat (rw [pI_i, if_neg (by omega)])); exact y6⟩
          · obtain ⟨⟨a1, a2, a3, a4, a5⟩, ⟨c', c0, c1, c2, c3⟩, d', d0, d1, d2, d3⟩ := p.1.2.2.2.2 q' hq'
            refine ⟨⟨by (repeat (rw [pI_i, if_neg (by omega)])); exact a1, by (repeat (rw [pI_i, if_neg (by omega)])); exact a2, by (repeat (rw [pI_i, if_neg (by omega)])); exact a3, by (repeat (rw [pI_i, if_neg (by omega)])); exact a4, ?_⟩, ⟨c', c0, by (repeat (rw [pI_i, if_neg (by omega)])); exact c1, by (repeat (rw [pI_i, if_neg (by omega)])); exact c2, fun j x y => ?_⟩, d', d0, by (repeat (rw [pI_i, if_neg (by omega)])); exact d1, by (repeat (rw [pI_i, if_neg (by omega)])); exact d2, fun j x y => ?_⟩
            · by_cases hqq : q' = q
              · subst hqq; simp [pI_i]
              · (repeat (rw [pI_i, if_neg (by omega)])); exact a5
            · have e1 : ∀ u m, (26 ≤ u ∧ u ≤ 33) → (pI (pI (pI (pI h 19 w.Q (o q)) 20 w.Q (o c)) 25 q 1) 2 17 (o (w.Q + 1))).1 u m = h.1 u m := fun u m z => by (repeat (rw [pI_i, if_neg (by omega)]))
              rw [e1 _ _ (by omega), e1 _ _ (by omega)]; exact c3 j x y
            · have e1 : ∀ u m, (26 ≤ u ∧ u ≤ 33) → (pI (pI (pI (pI h 19 w.Q (o q)) 20 w.Q (o c)) 25 q 1) 2 17 (o (w.Q + 1))).1 u m = h.1 u m := fun u m z => by (repeat (rw [pI_i, if_neg (by omega)]))
              rw [e1 _ _ (by omega), e1 _ _ (by omega), e1 _ _ (by omega)]; exact d3 j x y
          · have hk : k < w.Q + 1 := hk
            by_cases hkQ : k = w.Q
            · subst hkQ
              exact ⟨q, hq, by simp [pI_i], by simp [pI_i]⟩
            · obtain ⟨q', y1, y2, y3⟩ := tk k (by omega)
              exact ⟨q', y1, by (repeat (rw [pI_i, if_neg (by omega)])); exact y2, by (repeat (rw [pI_i, if_neg (by omega)])); exact y3⟩
          · refine ⟨⟨by (repeat (rw [pI_i, if_neg (by omega)])); exact aa.rm.1, by (repeat (rw [pI_i, if_neg (by omega)])); exact aa.rm.2⟩, ⟨by (repeat (rw [pI_i, if_neg (by omega)])); exact aa.th.1, by (repeat (rw [pI_i, if_neg (by omega)])); exact aa.th.2⟩, ⟨by (repeat (rw [pI_i, if_neg (by omega)])); exact aa.nu.1, by (repeat (rw [pI_i, if_neg (by omega)])); exact aa.nu.2⟩, ⟨by (repeat (rw [pI_i, if_neg (by omega)])); exact aa.en.1, by (repeat (rw [pI_i, if_neg (by omega)])); exact aa.en.2⟩, aa.e4, aa.n3, fun t ht => ⟨(aa.pl t ht).1, by (repeat (rw [pI_i, if_neg (by omega)])); exact (aa.pl t ht).2.1, by (repeat (rw [pI_i, if_neg (by omega)])); exact (aa.pl t ht).2.2⟩, fun t ht => ⟨(aa.kd t ht).1, by (repeat (rw [pI_i, if_neg (by omega)])); exact (aa.kd t ht).2.1, by (repeat (rw [pI_i, if_neg (by omega)])); exact (aa.kd t ht).2.2⟩, fun t ht => ⟨(aa.fn t ht).1, by (repeat (rw [pI_i, if_neg (by omega)])); exact (aa.fn t ht).2.1, by (repeat (rw [pI_i, if_neg (by omega)])); exact (aa.fn t ht).2.2⟩, fun u hu => ?_, fun e he => (by obtain ⟨b, b1, b2⟩ := aa.gd e he; exact ⟨b, by (repeat (rw [pI_i, if_neg (by omega)])); exact b1, by (repeat (rw [pI_i, if_neg (by omega)])); exact b2⟩), aa.mn, aa.rk, fun i x y => by (repeat (rw [pI_i, if_neg (by omega)])); exact aa.ex i x y⟩
            have hu : u < w.Q + 1 := hu
            rw [mW_C]
            by_cases huQ : u = w.Q
            · subst huQ
              simp only [if_true]
              exact ⟨by omega, by simp [pI_i], by simp [pI_i]⟩
            · simp only [if_neg huQ]
              obtain ⟨e1, e2, e3⟩ := aa.ct u (by omega)
              exact ⟨e1, by (repeat (rw [pI_i, if_neg (by omega)])); exact e2, by (repeat (rw [pI_i, if_neg (by omega)])); exact e3⟩
        exact FcV_yes hn hW1 (by simp [pI_i]) (fun h' hh => by rw [hh]; rfl) (fun g' hg => by rw [hg]; rfl)
      · rw [if_neg ht, if_neg ht]; exact bad3
  · simp only [decide_eq_false c2]
    by_cases l1 : x2 < 1
    · rw [if_pos l1]; exact FcV_no hI' 2 rfl rfl
    · have l2 : ¬ x2 ≤ 15 := fun z => c2 ⟨by rw [i32_lt] at l1; omega, by have := i32_le.mp z; omega⟩
      rw [if_neg l1, if_neg l2]; exact FcV_no hI' 2 rfl rfl
end WA
