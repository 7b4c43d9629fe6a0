/-! Conditions and effects are added, both sides. -/
section CL
variable {h g : sHp} {n : Nat} {w : Wp}
theorem Iv_code2 (x : Iv n h g) (c d : Int32) : Iv n h (pI (pI g 0 0 c) 0 0 d) := Iv_code (Iv_code x c) d
theorem FcV_no2 (hI : Iv n h g) {X : Option (Int32 × sHp)} {Y : Option sHp} (c d : Int32) (e1 : X = some (c, h)) (e2 : Y = some (pI (pI g 0 0 d) 0 0 c)) : FcV n X Y :=
  ⟨c, h, _, e1, e2, by rw [pI_i, if_pos ⟨rfl, rfl⟩], Iv_code2 hI d c⟩
theorem c3q {q c : Nat} : (3 : Int32) * o q + o c = o (3 * q + c) := by
  show o 3 * o q + o c = _
  rw [o_mul, o_add]
theorem q3c {q c : Nat} : o q * (3 : Int32) + o c = o (3 * q + c) := by
  show o q * o 3 + o c = _
  rw [o_mul, o_add, Nat.mul_comm]
theorem cond_tail (hn : 8 ≤ n) (hI : Iv n h g) (hW : Wr w h g) {q : Nat} (hq : q < w.U) {kd x : Int32} (y : Int32) (hx : okX kd x) :
    FcV n (jC ((J_C_hasSpace n (o q) h).bind fun v77 => if v77 = 0 then some ((.error 2 : Except Nat Unit), h) else ((J_C_append n (o q) kd x y h).bind fun v98 => (J_S_startAnew n v98).bind fun v102 => some (.ok (), v102))) (fun v6 h6 => some ((0 : Int32), h6)) (fun k h => if k = 0 then some ((1 : Int32), h) else (if k = 1 then some ((2 : Int32), h) else (if k = 2 then some ((3 : Int32), h) else none)))) (K_M_condition_90 n (o q) kd x y (pI g 0 0 0)) := by
  have hU := hW.p.1.1
  obtain ⟨qa, ⟨c, c0, c1, c2, c3⟩, qc⟩ := hW.p.1.2.2.2.2 q hq
  have hin : sIn (o q) 12 = true := by rw [sIn_o 12 (by omega), decide_eq_true (by omega)]
  have g13 : (pI g 0 0 0).1 13 q = o c := by rw [pI_i, if_neg (by omega)]; exact c2
  unfold J_C_hasSpace J_C_append J_C_endOf K_M_condition_90 K_M_condition_91 K_M_condition_118
  simp only [hin, sGd_true, ix_o (show q < 2147483648 by omega), c1, g13, if_true, Option.bind_some]
  by_cases h3 : c = 3
  · rw [h3]; exact FcV_no2 hI 3 0 rfl rfl
  · have l3 : ¬ (3 : Int32) ≤ o c := fun z => by have := (o_le (by omega : 3 < 2147483648) (by omega)).mp z; omega
    have n3 : ¬ o c = (3 : Int32) := fun z => h3 ((o_inj (by omega) (by omega : 3 < 2147483648)).mp z)
    have hin2 : sIn (o (3 * q + c)) 36 = true := by rw [sIn_o 36 (by omega), decide_eq_true (by omega)]
    simp only [if_neg l3, if_neg n3, c3q, q3c, hin2, sGd_true, ix_o (show 3 * q + c < 2147483648 by omega), if_neg (show ¬ (1 : Int32) = 0 by decide), Option.bind_some, if_pos (show (0 : Int32) ≤ 0 by decide), show o c + 1 = o (c + 1) from o_add _ 1]
    generalize hi : 3 * q + c = i
    have hW1 : Wr w (pI (pI (pI (pI h 27 i kd) 28 i x) 29 i y) 26 q (o (c + 1))) (pI (pI (pI (pI (pI (pI g 0 0 0) 0 0 0) 14 i kd) 15 i x) 16 i y) 13 q (o (c + 1))) := by
      obtain ⟨p, aa⟩ := hW
      refine ⟨⟨⟨hU, by (repeat (rw [pI_i, if_neg (by omega)])); exact p.1.2.1, by (repeat (rw [pI_i, if_neg (by omega)])); exact p.1.2.2.1, fun j hj => ?_, fun q' hq' => ?_⟩, WrM_k (fun m => by (repeat (rw [pI_i, if_neg (by omega)]))) (fun m => by (repeat (rw [pI_i, if_neg (by omega)]))) (fun t ht => rfl) p.2.1, WrK_k (fun m => by (repeat (rw [pI_i, if_neg (by omega)]))) (fun m => by (repeat (rw [pI_i, if_neg (by omega)]))) p.2.2.1, WrX_k (Nat.le_refl _) (fun j m z => by (repeat (rw [pI_i, if_neg (by omega)]))) (fun j m z => by (repeat (rw [pI_i, if_neg (by omega)]))) p.2.2.2.1, WrW_k (Nat.le_refl _) (Nat.le_refl _) (fun j m z => by (repeat (rw [pI_i, if_neg (by omega)]))) (fun j m z => by (repeat (rw [pI_i, if_neg (by omega)]))) p.2.2.2.2.1, WrT_k (Nat.le_refl _) (fun j m z => by (repeat (rw [pI_i, if_neg (by omega)]))) (fun j m z => by (repeat (rw [pI_i, if_neg (by omega)]))) p.2.2.2.2.2⟩, ?_⟩
      · obtain ⟨⟨y1, y2, y3⟩, y4, y5, y6⟩ := p.1.2.2.2.1 j hj
        refine ⟨?_, by (repeat (rw [pI_i, if_neg (by omega)])); exact y4, by (repeat (rw [pI_i, if_neg (by omega)])); exact y5, by (repeat (rw [pI_i, if_neg (by omega)])); exact y6⟩
        by_cases hji : j = i
        · subst hji; simp [pI_i]
        · refine ⟨by (repeat (rw [pI_i, if_neg (by omega)])); exact y1, by (repeat (rw [pI_i, if_neg (by omega)])); exact y2, by (repeat (rw [pI_i, if_neg (by omega)])); exact y3⟩
      · obtain ⟨⟨a1, a2, a3, a4, a5⟩, ⟨c', c0', c1', c2', c3'⟩, d', d0, d1, d2, d3⟩ := p.1.2.2.2.2 q' hq'
        refine ⟨⟨by (repeat (rw [pI_i, if_neg (by omega)])); exact a1, by (repeat (rw [pI_i, if_neg (by omega)])); exact a2, by (repeat (rw [pI_i, if_neg (by omega)])); exact a3, by (repeat (rw [pI_i, if_neg (by omega)])); exact a4, by (repeat (rw [pI_i, if_neg (by omega)])); exact a5⟩, ?_, d', d0, by (repeat (rw [pI_i, if_neg (by omega)])); exact d1, by (repeat (rw [pI_i, if_neg (by omega)])); exact d2, fun j x y => ?_⟩
        · by_cases hqq : q' = q
          · subst hqq
            refine ⟨c + 1, by omega, by rw [pI_i, if_pos ⟨rfl, rfl⟩], by rw [pI_i, if_pos ⟨rfl, rfl⟩], fun j z1 z2 => ?_⟩
            by_cases hji : j = i
            · subst hji
              rw [show (pI (pI (pI (pI h 27 j kd) 28 j x) 29 j y) 26 q' (o (c + 1))).1 27 j = kd by simp [pI_i], show (pI (pI (pI (pI h 27 j kd) 28 j x) 29 j y) 26 q' (o (c + 1))).1 28 j = x by simp [pI_i]]
              exact hx
            · rw [show (pI (pI (pI (pI h 27 i kd) 28 i x) 29 i y) 26 q' (o (c + 1))).1 27 j = h.1 27 j by (repeat (rw [pI_i, if_neg (by omega)])), show (pI (pI (pI (pI h 27 i kd) 28 i x) 29 i y) 26 q' (o (c + 1))).1 28 j = h.1 28 j by (repeat (rw [pI_i, if_neg (by omega)]))]
              exact c3 j z1 (by omega)
          · refine ⟨c', c0', by (repeat (rw [pI_i, if_neg (by omega)])); exact c1', by (repeat (rw [pI_i, if_neg (by omega)])); exact c2', fun j z1 z2 => ?_⟩
            rw [show (pI (pI (pI (pI h 27 i kd) 28 i x) 29 i y) 26 q (o (c + 1))).1 27 j = h.1 27 j by (repeat (rw [pI_i, if_neg (by omega)])), show (pI (pI (pI (pI h 27 i kd) 28 i x) 29 i y) 26 q (o (c + 1))).1 28 j = h.1 28 j by (repeat (rw [pI_i, if_neg (by omega)]))]
            exact c3' j z1 z2
        · rename_i x' y'
          have e1 : ∀ u m, (31 ≤ u ∧ u ≤ 33) → (pI (pI (pI (pI h 27 i kd) 28 i x') 29 i y') 26 q (o (c + 1))).1 u m = h.1 u m := fun u m z => by (repeat (rw [pI_i, if_neg (by omega)]))
          rw [e1 _ _ (by omega), e1 _ _ (by omega), e1 _ _ (by omega)]; exact d3 j x y
      · exact ⟨⟨by (repeat (rw [pI_i, if_neg (by omega)])); exact aa.rm.1, by (repeat (rw [pI_i, if_neg (by omega)])); exact aa.rm.2⟩, ⟨by (repeat (rw [pI_i, if_neg (by omega)])); exact aa.th.1, by (repeat (rw [pI_i, if_neg (by omega)])); exact aa.th.2⟩, ⟨by (repeat (rw [pI_i, if_neg (by omega)])); exact aa.nu.1, by (repeat (rw [pI_i, if_neg (by omega)])); exact aa.nu.2⟩, ⟨by (repeat (rw [pI_i, if_neg (by omega)])); exact aa.en.1, by (repeat (rw [pI_i, if_neg (by omega)])); exact aa.en.2⟩, aa.e4, aa.n3, fun t ht => ⟨(aa.pl t ht).1, by (repeat (rw [pI_i, if_neg (by omega)])); exact (aa.pl t ht).2.1, by (repeat (rw [pI_i, if_neg (by omega)])); exact (aa.pl t ht).2.2⟩, fun t ht => ⟨(aa.kd t ht).1, by (repeat (rw [pI_i, if_neg (by omega)])); exact (aa.kd t ht).2.1, by (repeat (rw [pI_i, if_neg (by omega)])); exact (aa.kd t ht).2.2⟩, fun t ht => ⟨(aa.fn t ht).1, by (repeat (rw [pI_i, if_neg (by omega)])); exact (aa.fn t ht).2.1, by (repeat (rw [pI_i, if_neg (by omega)])); exact (aa.fn t ht).2.2⟩, fun t ht => ⟨(aa.ct t ht).1, by (repeat (rw [pI_i, if_neg (by omega)])); exact (aa.ct t ht).2.1, by (repeat (rw [pI_i, if_neg (by omega)])); exact (aa.ct t ht).2.2⟩, fun e he => (by obtain ⟨b, b1, b2⟩ := aa.gd e he; exact ⟨b, by (repeat (rw [pI_i, if_neg (by omega)])); exact b1, by (repeat (rw [pI_i, if_neg (by omega)])); exact b2⟩), aa.mn, aa.rk, fun i x y => by (repeat (rw [pI_i, if_neg (by omega)])); exact aa.ex i x y⟩
    exact FcV_yes hn hW1 (by simp [pI_i]) (fun h' hh => by rw [hh]; rfl) (fun g' hg => by rw [hg]; rfl)
theorem nb_jB (b : Bool) : ((some (oB b)).bind fun v => sGd (jB v) (some v)) = some (oB b) := by cases b <;> rfl
/-- what a clause is about is there -/
def sbj (w : Wp) (k : Nat) (x : Int32) : Bool := if k = 0 then sIn x (w.mo 3) else if k = 1 ∨ k = 2 then sIn x w.T else sIn x w.N
theorem W_subj (hW : Wr w h g) {k : Nat} (hk : k < 5) (x : Int32) : J_W_hasSubject n (o k) x h = some (oB (sbj w k x)) := by
  unfold J_W_hasSubject sbj
  rw [W_room hW, W_thing hW, W_number hW, nb_jB, nb_jB, nb_jB]
  have : k = 0 ∨ k = 1 ∨ k = 2 ∨ k = 3 ∨ k = 4 := by omega
  rcases this with rfl | rfl | rfl | rfl | rfl <;> rfl
theorem M_lacks (hW : Wr w h g) {k : Nat} (hk : k < 5) (x y : Int32) : J_M_lacks n (o k) x y g = some (oB (!(sbj w k x && (decide (k ≠ 1) || pOk y (w.mo 3) w.T)))) := by
  unfold J_M_lacks sbj
  rw [M_room hW, M_thing hW, M_number hW, M_place hW, nb_jB, nb_jB, nb_jB]
  have : k = 0 ∨ k = 1 ∨ k = 2 ∨ k = 3 ∨ k = 4 := by omega
  rcases this with rfl | rfl | rfl | rfl | rfl
  · cases sIn x (w.mo 3) <;> rfl
  · cases sIn x w.T <;> cases pOk y (w.mo 3) w.T <;> rfl
  · cases sIn x w.T <;> rfl
  · cases sIn x w.N <;> rfl
  · cases sIn x w.N <;> rfl
theorem sbj_okX (hW : Wr w h g) {k : Nat} (hk : k < 5) {x : Int32} (hs : sbj w k x = true) : okX (o k) x := by
  have hT := hW.p.2.2.1.1
  have hN := hW.a.n3
  unfold sbj at hs
  unfold okX
  have : k = 0 ∨ k = 1 ∨ k = 2 ∨ k = 3 ∨ k = 4 := by omega
  rcases this with rfl | rfl | rfl | rfl | rfl
  · rw [if_pos (by decide)]; trivial
  · rw [if_neg (by decide), if_pos (by decide)]
    obtain ⟨a, h1, h2⟩ := of_sIn (R := w.T) hs
    exact ⟨a, by omega, h2⟩
  · rw [if_neg (by decide), if_pos (by decide)]
    obtain ⟨a, h1, h2⟩ := of_sIn (R := w.T) hs
    exact ⟨a, by omega, h2⟩
  · rw [if_neg (by decide), if_neg (by decide)]
    obtain ⟨a, h1, h2⟩ := of_sIn (R := w.N) hs
    exact ⟨a, by omega, h2⟩
  · rw [if_neg (by decide), if_neg (by decide)]
    obtain ⟨a, h1, h2⟩ := of_sIn (R := w.N) hs
    exact ⟨a, by omega, h2⟩
/-- the levels -/
theorem lev_c {k : Nat} (hk : k < 5) (y : Int32) (q x : Int32) (g : sHp) : ∃ b : Bool, J_S_isConditionLevel n (o k) y h = some (oB b) ∧ (if o k = 2 then (if y < 0 then (K_M_condition_86 n q (o k) x y g) else (if 1 < y then (K_M_condition_86 n q (o k) x y g) else (K_M_condition_69 n q (o k) x y g))) else (K_M_condition_69 n q (o k) x y g)) = if b then K_M_condition_90 n q (o k) x y g else K_M_condition_86 n q (o k) x y g := by
  have z0 : (0 : Int32).toInt = 0 := rfl
  have z1 : (1 : Int32).toInt = 1 := rfl
  have z7 : (7 : Int32).toInt = 7 := rfl
  unfold J_S_isConditionLevel K_M_condition_69
  simp only [frm_eq, nb_jB, z0, z1, z7]
  have : k = 0 ∨ k = 1 ∨ k = 2 ∨ k = 3 ∨ k = 4 := by omega
  rcases this with rfl | rfl | rfl | rfl | rfl
  · exact ⟨true, rfl, rfl⟩
  · exact ⟨true, rfl, rfl⟩
  · refine ⟨_, rfl, ?_⟩
    rw [if_pos (by decide), if_pos (show o 2 ≤ 2 by decide)]
    by_cases a1 : y < 0
    · rw [if_pos a1, decide_eq_false (by have := i32_lt.mp a1; omega)]; rfl
    · rw [if_neg a1]
      by_cases a2 : 1 < y
      · rw [if_pos a2, decide_eq_false (by have := i32_lt.mp a2; omega)]; rfl
      · rw [if_neg a2, decide_eq_true (by rw [i32_lt] at a1 a2; omega)]; rfl
  · refine ⟨_, rfl, ?_⟩
    rw [if_neg (by decide), if_neg (by decide)]
    by_cases a1 : y < 0
    · rw [if_pos a1, decide_eq_false (by have := i32_lt.mp a1; omega)]; rfl
    · rw [if_neg a1]
      by_cases a2 : y ≤ 7
      · rw [if_pos a2, decide_eq_true (by rw [i32_lt] at a1; have := i32_le.mp a2; omega)]; rfl
      · rw [if_neg a2, decide_eq_false (by rw [i32_le] at a2; omega)]; rfl
  · refine ⟨_, rfl, ?_⟩
    rw [if_neg (by decide), if_neg (by decide)]
    by_cases a1 : y < 0
    · rw [if_pos a1, decide_eq_false (by have := i32_lt.mp a1; omega)]; rfl
    · rw [if_neg a1]
      by_cases a2 : y ≤ 7
      · rw [if_pos a2, decide_eq_true (by rw [i32_lt] at a1; have := i32_le.mp a2; omega)]; rfl
      · rw [if_neg a2, decide_eq_false (by rw [i32_le] at a2; omega)]; rfl
theorem f_condition (hn : 8 ≤ n) (hI : Iv n h g) (x1 x2 x3 x4 : Int32) : FcV n (J_L_condition n x1 x2 x3 x4 h) (J_M_condition n x1 x2 x3 x4 g) := by
  have hI' := hI
  obtain ⟨w, hw, t, k, hW, -⟩ := hI
  have z0 : (0 : Int32).toInt = 0 := rfl
  have z4 : (4 : Int32).toInt = 4 := rfl
  unfold J_L_condition J_S_condition J_M_condition
  rw [W_rule hW, M_rule hW, Option.bind_some, Option.bind_some, frm_eq, z0, z4]
  cases c1 : sIn x1 w.U
  · exact FcV_no hI' 1 rfl rfl
  obtain ⟨q, hq, rfl⟩ := of_sIn c1
  rw [if_neg (show ¬ oB true = 0 by decide), if_pos (show oB (!true) = 0 from rfl), Option.bind_some]
  by_cases c2 : 0 ≤ x2.toInt ∧ x2.toInt ≤ 4
  · obtain ⟨k, rfl, k1, k2⟩ := of_range (by omega) c2.1 c2.2
    have hk : k < 5 := by omega
    have l1 : ¬ o k < (0 : Int32) := fun z => by have := i32_lt.mp z; omega
    have l2 : o k ≤ (4 : Int32) := i32_le.mpr (by omega)
    rw [decide_eq_true c2, if_neg (show ¬ oB true = 0 by decide), if_neg l1, if_pos l2, W_subj hW hk, M_lacks hW hk, Option.bind_some, Option.bind_some]
    cases c3 : sbj w k x3
    · exact FcV_no hI' 1 rfl rfl
    rw [if_neg (show ¬ oB true = 0 by decide), Bool.true_and]
    have hk1 : o k = (1 : Int32) ↔ k = 1 := o_inj (by omega) (by omega : 1 < 2147483648)
    have fin : FcV n (jC (K_S_condition_49 n (o q) (o k) x3 x4 h) (fun v6 h6 => some ((0 : Int32), h6)) (fun k h => if k = 0 then some ((1 : Int32), h) else (if k = 1 then some ((2 : Int32), h) else (if k = 2 then some ((3 : Int32), h) else none)))) (K_M_condition_42 n (o q) (o k) x3 x4 0 g) := by
      obtain ⟨b, b1, b2⟩ := lev_c (n := n) (h := h) hk x4 (o q) x3 (pI g 0 0 0)
      unfold K_S_condition_49 K_S_condition_54 K_M_condition_42
      rw [if_neg (show ¬ (1 : Int32) = 0 by decide), b1, Option.bind_some, if_pos (show (0 : Int32) ≤ 0 by decide), b2]
      cases b with
      | false => exact FcV_no2 hI' 2 0 rfl rfl
      | true => exact cond_tail hn hI' hW hq x4 (sbj_okX hW hk c3)
    by_cases hk1' : k = 1
    · rw [if_pos (hk1.mpr hk1'), W_place hW, Option.bind_some, decide_eq_false (by omega), Bool.false_or]
      cases c4 : pOk x4 (w.mo 3) w.T
      · exact FcV_no hI' 1 rfl rfl
      · exact fin
    · rw [if_neg (fun z => hk1' (hk1.mp z)), decide_eq_true (by omega), Bool.true_or]
      exact fin
  · rw [decide_eq_false c2, if_pos (show oB false = 0 from rfl)]
    by_cases l1 : x2 < 0
    · rw [if_pos l1]; exact FcV_no hI' 2 rfl rfl
    · rw [if_neg l1, if_neg (fun z => c2 ⟨by rw [i32_lt] at l1; omega, by have := i32_le.mp z; omega⟩)]; exact FcV_no hI' 2 rfl rfl
end CL
