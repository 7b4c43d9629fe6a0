section BE
variable {h g : sHp} {n : Nat}
theorem f_number (hn : 8 ≤ n) (hI : Iv n h g) (x1 x2 : Int32) : FcI n (J_L_number n x1 x2 h) (J_M_number n x1 x2 g) := by
  have hI' := hI
  obtain ⟨w, hw, t, k, hW, -⟩ := hI
  have hN := hW.a.n3
  have z0 : (0 : Int32).toInt = 0 := rfl
  have z1 : (1 : Int32).toInt = 1 := rfl
  have z7 : (7 : Int32).toInt = 7 := rfl
  unfold J_L_number J_S_number J_M_number K_S_number_23 K_S_number_24 K_S_number_43 K_M_number_21 K_M_number_38
  simp only [frm_eq, z0, z1, z7, Option.bind_some, oB_0]
  have bad : FcI n (jC (some ((.error 1 : Except Nat Int32), h)) (fun v5 h5 => some ((0 : Int32), pL h5 41 (ix 0) (Int32.toInt64 v5))) (fun k h => if k = 1 then some ((1 : Int32), h) else (if k = 2 then some ((2 : Int32), h) else none))) (some (0, pI g 0 0 1)) := FcI_no hI' 1 (by decide) rfl rfl
  by_cases a1 : 1 ≤ x2.toInt ∧ x2.toInt ≤ 7
  · have l1 : ¬ x2 < 1 := fun z => by have := i32_lt.mp z; omega
    have l2 : ¬ 7 < x2 := fun z => by have := i32_lt.mp z; omega
    by_cases a2 : 0 ≤ x1.toInt ∧ x1.toInt ≤ x2.toInt
    · have l3 : ¬ x1 < 0 := fun z => by have := i32_lt.mp z; omega
      have l4 : x1 ≤ x2 := i32_le.mpr a2.2
      obtain ⟨m, rfl, m1, m2⟩ := of_range (by omega) a1.1 a1.2
      obtain ⟨f, rfl, f1, f2⟩ := of_range (by omega) a2.1 a2.2
      have m8 : m < 8 := by omega
      have f8 : f < 8 := by omega
      simp only [decide_eq_true a1, decide_eq_true a2, if_neg l1, if_neg l2, if_neg l3, if_pos l4, if_neg (show ¬ true = false by decide), if_pos (show (0 : Int32) ≤ 0 by decide), if_neg (show ¬ (1 : Int32) = 0 by decide), hW.a.nu.1, hW.a.nu.2]
      by_cases h3 : w.N = 3
      · rw [h3]; exact FcI_no hI' 2 (by decide) rfl rfl
      · have l6 : ¬ (3 : Int32) ≤ o w.N := fun z => by have := (o_le (by omega : 3 < 2147483648) (by omega)).mp z; omega
        have n6 : ¬ o w.N = (3 : Int32) := fun z => h3 ((o_inj (by omega) (by omega : 3 < 2147483648)).mp z)
        unfold J_W_addNumber
        rw [if_neg l6, if_neg n6, hW.a.nu.1, sIn_o 3 (by omega), decide_eq_true (by omega), sGd_true, sGd_true, sGd_true, sGd_true, ix_o (by omega), show o w.N + 1 = o (w.N + 1) from o_add _ 1, Option.bind_some]
        have hmN : ¬ w.mo w.N < 8 := fun z => by have := (hW.a.mn w.N (by omega)).mp z; omega
        have hW1 : Wr (mW (fun x => if x = w.N then m else w.mo x) w.P w.Kd (fun x => if x = w.N then f else w.F x) w.C w.T w.U w.K w.Q (w.N + 1)) (pI (pI (pI h 14 w.N (o f)) 15 w.N (o m)) 2 14 (o (w.N + 1))) (pI (pI (pI (pI g 0 0 0) 6 w.N (o f)) 5 w.N (o m)) 0 7 (o (w.N + 1))) := by
          obtain ⟨p, aa⟩ := hW
          have e3 : (if 3 = w.N then m else w.mo 3) = w.mo 3 := if_neg (by omega)
          have e4 : (if 4 = w.N then m else w.mo 4) = w.mo 4 := if_neg (by omega)
          refine ⟨⟨WrR_k ⟨fun t ht hm => ?_, ?_, ?_⟩ (fun j m z => by (repeat (rw [pI_i, if_neg (by omega)]))) (fun j m z => by (repeat (rw [pI_i, if_neg (by omega)]))) p.1, fun t ht hm => ?_, WrK_k (fun m => by (repeat (rw [pI_i, if_neg (by omega)]))) (fun m => by (repeat (rw [pI_i, if_neg (by omega)]))) p.2.2.1, ?_, ?_, WrT_k (Nat.le_refl _) (fun j m z => by (repeat (rw [pI_i, if_neg (by omega)]))) (fun j m z => by (repeat (rw [pI_i, if_neg (by omega)]))) p.2.2.2.2.2⟩, ?_⟩
          · dsimp only [mW_mo, mW_P, mW_Kd, mW_F, mW_C, mW_T, mW_U, mW_K, mW_Q, mW_N]
            rw [if_neg (fun z => by subst z; exact hmN hm)]
          · dsimp only [mW_mo, mW_P, mW_Kd, mW_F, mW_C, mW_T, mW_U, mW_K, mW_Q, mW_N]; rw [e3]; exact Nat.le_refl _
          · dsimp only [mW_mo, mW_P, mW_Kd, mW_F, mW_C, mW_T, mW_U, mW_K, mW_Q, mW_N]; rw [e4]; exact Nat.le_refl _
          · dsimp only [mW_mo, mW_P, mW_Kd, mW_F, mW_C, mW_T, mW_U, mW_K, mW_Q, mW_N] at hm ⊢
            by_cases hq : t = w.N
            · subst hq
              rw [if_pos rfl]
              exact ⟨by rw [pI_i, if_neg (by omega), pI_i, if_pos ⟨rfl, rfl⟩], by rw [pI_i, if_neg (by omega), pI_i, if_pos ⟨rfl, rfl⟩]⟩
            · rw [if_neg hq] at hm ⊢
              obtain ⟨e1, e2⟩ := p.2.1 t ht hm
              exact ⟨by (repeat (rw [pI_i, if_neg (by omega)])); exact e1, by (repeat (rw [pI_i, if_neg (by omega)])); exact e2⟩
          · dsimp only [mW_mo, mW_P, mW_Kd, mW_F, mW_C, mW_T, mW_U, mW_K, mW_Q, mW_N]; rw [e3]; exact WrX_k (Nat.le_refl _) (fun j m z => by (repeat (rw [pI_i, if_neg (by omega)]))) (fun j m z => by (repeat (rw [pI_i, if_neg (by omega)]))) p.2.2.2.1
          · dsimp only [mW_mo, mW_P, mW_Kd, mW_F, mW_C, mW_T, mW_U, mW_K, mW_Q, mW_N]; rw [e3]; exact WrW_k (Nat.le_refl _) (Nat.le_refl _) (fun j m z => by (repeat (rw [pI_i, if_neg (by omega)]))) (fun j m z => by (repeat (rw [pI_i, if_neg (by omega)]))) p.2.2.2.2.1
          · refine ⟨⟨by dsimp only [mW_mo, mW_P, mW_Kd, mW_F, mW_C, mW_T, mW_U, mW_K, mW_Q, mW_N]; rw [e3]; (repeat (rw [pI_i, if_neg (by omega)])); exact aa.rm.1, by dsimp only [mW_mo, mW_P, mW_Kd, mW_F, mW_C, mW_T, mW_U, mW_K, mW_Q, mW_N]; rw [e3]; (repeat (rw [pI_i, if_neg (by omega)])); exact aa.rm.2⟩, ⟨by (repeat (rw [pI_i, if_neg (by omega)])); exact aa.th.1, by (repeat (rw [pI_i, if_neg (by omega)])); exact aa.th.2⟩, ⟨by rw [pI_i, if_pos ⟨rfl, rfl⟩]; rfl, by rw [pI_i, if_pos ⟨rfl, rfl⟩]; rfl⟩, ⟨by dsimp only [mW_mo, mW_P, mW_Kd, mW_F, mW_C, mW_T, mW_U, mW_K, mW_Q, mW_N]; rw [e4]; (repeat (rw [pI_i, if_neg (by omega)])); exact aa.en.1, by dsimp only [mW_mo, mW_P, mW_Kd, mW_F, mW_C, mW_T, mW_U, mW_K, mW_Q, mW_N]; rw [e4]; (repeat (rw [pI_i, if_neg (by omega)])); exact aa.en.2⟩, by dsimp only [mW_mo, mW_P, mW_Kd, mW_F, mW_C, mW_T, mW_U, mW_K, mW_Q, mW_N]; rw [e4]; exact aa.e4, by dsimp only [mW_mo, mW_P, mW_Kd, mW_F, mW_C, mW_T, mW_U, mW_K, mW_Q, mW_N]; omega, fun t ht => ⟨(aa.pl t ht).1, by (repeat (rw [pI_i, if_neg (by omega)])); exact (aa.pl t ht).2.1, by (repeat (rw [pI_i, if_neg (by omega)])); exact (aa.pl t ht).2.2⟩, fun t ht => ⟨(aa.kd t ht).1, by (repeat (rw [pI_i, if_neg (by omega)])); exact (aa.kd t ht).2.1, by (repeat (rw [pI_i, if_neg (by omega)])); exact (aa.kd t ht).2.2⟩, fun t ht => ?_, fun t ht => ⟨(aa.ct t ht).1, by (repeat (rw [pI_i, if_neg (by omega)])); exact (aa.ct t ht).2.1, by (repeat (rw [pI_i, if_neg (by omega)])); exact (aa.ct t ht).2.2⟩, fun e he => ?_, fun t ht => ?_, aa.rk, fun i x y => by dsimp only [mW_mo, mW_P, mW_Kd, mW_F, mW_C, mW_T, mW_U, mW_K, mW_Q, mW_N] at x; rw [e3] at x; (repeat (rw [pI_i, if_neg (by omega)])); exact aa.ex i x y⟩
            · dsimp only [mW_mo, mW_P, mW_Kd, mW_F, mW_C, mW_T, mW_U, mW_K, mW_Q, mW_N] at ht ⊢
              by_cases hq : t = w.N
              · subst hq
                rw [if_pos rfl]
                exact ⟨f8, by rw [pI_i, if_neg (by omega), pI_i, if_neg (by omega), pI_i, if_pos ⟨rfl, rfl⟩], by rw [pI_i, if_neg (by omega), pI_i, if_neg (by omega), pI_i, if_pos ⟨rfl, rfl⟩]⟩
              · rw [if_neg hq]
                obtain ⟨e1, e2, e3⟩ := aa.fn t (by omega)
                exact ⟨e1, by (repeat (rw [pI_i, if_neg (by omega)])); exact e2, by (repeat (rw [pI_i, if_neg (by omega)])); exact e3⟩
            · dsimp only [mW_mo, mW_P, mW_Kd, mW_F, mW_C, mW_T, mW_U, mW_K, mW_Q, mW_N] at he
              rw [e4] at he
              obtain ⟨b, b1, b2⟩ := aa.gd e he
              exact ⟨b, by (repeat (rw [pI_i, if_neg (by omega)])); exact b1, by (repeat (rw [pI_i, if_neg (by omega)])); exact b2⟩
            · dsimp only [mW_mo, mW_P, mW_Kd, mW_F, mW_C, mW_T, mW_U, mW_K, mW_Q, mW_N]
              by_cases hq : t = w.N
              · rw [if_pos hq]; omega
              · rw [if_neg hq, aa.mn t ht]; omega
        refine FcI_yes hn hW1 (by rw [pI_i, if_neg (by omega), pI_i, if_neg (by omega), pI_i, if_neg (by omega), pI_i, if_pos ⟨rfl, rfl⟩]) (o w.N) (i := 7) (by omega) ?_ (fun h' hh => ?_) (fun g' hg => ?_)
        · rw [pI_i, if_pos ⟨rfl, rfl⟩]
          rw [show (1 : Int32) = o 1 from rfl, o_sub (by omega)]; rfl
        · rw [hh]; rfl
        · rw [hg]; rfl
    · simp only [decide_eq_true a1, decide_eq_false a2, if_neg l1, if_neg l2]
      by_cases l3 : x1 < 0
      · rw [if_pos l3]; exact bad
      · rw [if_neg l3, if_neg (fun z => a2 ⟨by rw [i32_lt] at l3; omega, i32_le.mp z⟩)]; exact bad
  · simp only [decide_eq_false a1]
    by_cases l1 : x2 < 1
    · rw [if_pos l1]; exact bad
    · have l2 : 7 < x2 := i32_lt.mpr (by rw [i32_lt] at l1; omega)
      rw [if_neg l1, if_pos l2]; exact bad
theorem nar_b : ∀ b : Bool, vp_nar .boolean (oB b) = oB b := by intro b; cases b <;> rfl
theorem f_ending (hn : 8 ≤ n) (hI : Iv n h g) (b : Bool) : FcI n (J_L_ending n (oB b) h) (J_M_ending n (oB b) g) := by
  have hI' := hI
  obtain ⟨w, hw, t, k, hW, -⟩ := hI
  have hE := hW.a.e4
  unfold J_L_ending J_S_ending J_M_ending K_S_ending_16 K_M_ending_14
  simp only [hW.a.en.1, hW.a.en.2]
  by_cases h4 : w.mo 4 = 4
  · rw [h4]; exact FcI_no hI' 1 (by decide) rfl rfl
  · have l6 : ¬ (4 : Int32) ≤ o (w.mo 4) := fun z => by have := (o_le (by omega : 4 < 2147483648) (by omega)).mp z; omega
    have n6 : ¬ o (w.mo 4) = (4 : Int32) := fun z => h4 ((o_inj (by omega) (by omega : 4 < 2147483648)).mp z)
    unfold J_W_addEnding
    rw [if_neg l6, if_neg n6, hW.a.en.1, sIn_o 4 (by omega), decide_eq_true (by omega), sGd_true, sGd_true, ix_o (by omega), show o (w.mo 4) + 1 = o (w.mo 4 + 1) from o_add _ 1, if_neg (by decide), if_pos (by decide), Option.bind_some, nar_b]
    have hW1 : Wr (mW (fun x => if x = 4 then w.mo 4 + 1 else w.mo x) w.P w.Kd w.F w.C w.T w.U w.K w.Q w.N) (pI (pI h 16 (w.mo 4) (oB b)) 2 15 (o (w.mo 4 + 1))) (pI (pI (pI g 0 0 0) 7 (w.mo 4) (oB b)) 0 10 (o (w.mo 4 + 1))) := by
      obtain ⟨p, aa⟩ := hW
      refine ⟨⟨WrR_k (mo := w.mo) (h := h) (g := g) ⟨fun t ht hm => ?_, Nat.le_refl _, ?_⟩ (fun j m z => by (repeat (rw [pI_i, if_neg (by omega)]))) (fun j m z => by (repeat (rw [pI_i, if_neg (by omega)]))) p.1, WrM_k (fun m => by (repeat (rw [pI_i, if_neg (by omega)]))) (fun m => by (repeat (rw [pI_i, if_neg (by omega)]))) (fun t ht => by dsimp only [mW_mo, mW_P, mW_Kd, mW_F, mW_C, mW_T, mW_U, mW_K, mW_Q, mW_N]; rw [if_neg (by omega)]) p.2.1, WrK_k (fun m => by (repeat (rw [pI_i, if_neg (by omega)]))) (fun m => by (repeat (rw [pI_i, if_neg (by omega)]))) p.2.2.1, WrX_k (Nat.le_refl _) (fun j m z => by (repeat (rw [pI_i, if_neg (by omega)]))) (fun j m z => by (repeat (rw [pI_i, if_neg (by omega)]))) p.2.2.2.1, WrW_k (Nat.le_refl _) (Nat.le_refl _) (fun j m z => by (repeat (rw [pI_i, if_neg (by omega)]))) (fun j m z => by (repeat (rw [pI_i, if_neg (by omega)]))) p.2.2.2.2.1, WrT_k (Nat.le_refl _) (fun j m z => by (repeat (rw [pI_i, if_neg (by omega)]))) (fun j m z => by (repeat (rw [pI_i, if_neg (by omega)]))) p.2.2.2.2.2⟩, ?_⟩
      · dsimp only [mW_mo, mW_P, mW_Kd, mW_F, mW_C, mW_T, mW_U, mW_K, mW_Q, mW_N]; rw [if_neg (by omega)]
      · dsimp only [mW_mo, mW_P, mW_Kd, mW_F, mW_C, mW_T, mW_U, mW_K, mW_Q, mW_N]; rw [if_pos rfl]; omega
      · refine ⟨⟨by (repeat (rw [pI_i, if_neg (by omega)])); exact aa.rm.1, by (repeat (rw [pI_i, if_neg (by omega)])); exact aa.rm.2⟩, ⟨by (repeat (rw [pI_i, if_neg (by omega)])); exact aa.th.1, by (repeat (rw [pI_i, if_neg (by omega)])); exact aa.th.2⟩, ⟨by (repeat (rw [pI_i, if_neg (by omega)])); exact aa.nu.1, by (repeat (rw [pI_i, if_neg (by omega)])); exact aa.nu.2⟩, ⟨by rw [pI_i, if_pos ⟨rfl, rfl⟩]; rfl, by rw [pI_i, if_pos ⟨rfl, rfl⟩]; rfl⟩, by dsimp only [mW_mo, mW_P, mW_Kd, mW_F, mW_C, mW_T, mW_U, mW_K, mW_Q, mW_N]; rw [if_pos rfl]; omega, aa.n3, fun t ht => ⟨(aa.pl t ht).1, by (repeat (rw [pI_i, if_neg (by omega)])); exact (aa.pl t ht).2.1, by (repeat (rw [pI_i, if_neg (by omega)])); exact (aa.pl t ht).2.2⟩, fun t ht => ⟨(aa.kd t ht).1, by (repeat (rw [pI_i, if_neg (by omega)])); exact (aa.kd t ht).2.1, by (repeat (rw [pI_i, if_neg (by omega)])); exact (aa.kd t ht).2.2⟩, fun t ht => ⟨(aa.fn t ht).1, by (repeat (rw [pI_i, if_neg (by omega)])); exact (aa.fn t ht).2.1, by (repeat (rw [pI_i, if_neg (by omega)])); exact (aa.fn t ht).2.2⟩, fun t ht => ⟨(aa.ct t ht).1, by (repeat (rw [pI_i, if_neg (by omega)])); exact (aa.ct t ht).2.1, by (repeat (rw [pI_i, if_neg (by omega)])); exact (aa.ct t ht).2.2⟩, fun e he => ?_, fun t ht => by dsimp only [mW_mo, mW_P, mW_Kd, mW_F, mW_C, mW_T, mW_U, mW_K, mW_Q, mW_N]; rw [if_neg (by omega)]; exact aa.mn t ht, aa.rk, fun i x y => by (repeat (rw [pI_i, if_neg (by omega)])); exact aa.ex i x y⟩
        · dsimp only [mW_mo, mW_P, mW_Kd, mW_F, mW_C, mW_T, mW_U, mW_K, mW_Q, mW_N] at he
          rw [if_pos rfl] at he
          by_cases hq : e = w.mo 4
          · subst hq
            exact ⟨b, by rw [pI_i, if_neg (by omega), pI_i, if_pos ⟨rfl, rfl⟩], by rw [pI_i, if_neg (by omega), pI_i, if_pos ⟨rfl, rfl⟩]⟩
          · obtain ⟨b, b1, b2⟩ := aa.gd e (by omega)
            exact ⟨b, by (repeat (rw [pI_i, if_neg (by omega)])); exact b1, by (repeat (rw [pI_i, if_neg (by omega)])); exact b2⟩
    refine FcI_yes hn hW1 (by rw [pI_i, if_neg (by omega), pI_i, if_neg (by omega), pI_i, if_pos ⟨rfl, rfl⟩]) (o (w.mo 4)) (i := 10) (by omega) ?_ (fun h' hh => ?_) (fun g' hg => ?_)
    · rw [pI_i, if_pos ⟨rfl, rfl⟩]
      rw [show (1 : Int32) = o 1 from rfl, o_sub (by omega)]; rfl
    · rw [hh]; rfl
    · rw [hg]; rfl
theorem f_rule (hn : 8 ≤ n) (hI : Iv n h g) (x1 x2 x3 x4 : Int32) : FcI n (J_L_rule n x1 x2 x3 x4 h) (J_M_rule n x1 x2 x3 x4 g) := by
  have hI' := hI
  obtain ⟨w, hw, t, k, hW, -⟩ := hI
  have hU := hW.p.1.1
  have z0 : (0 : Int32).toInt = 0 := rfl
  have zm : (-2 : Int32).toInt = -2 := rfl
  have z5 : (5 : Int32).toInt = 5 := rfl
  have z8 : (8 : Int32).toInt = 8 := rfl
  have z98 : (98 : Int32).toInt = 98 := rfl
  unfold J_L_rule J_S_rule J_M_rule K_S_rule_25 K_S_rule_26 K_S_rule_53 K_S_rule_54 K_S_rule_77 K_M_rule_44 K_M_rule_49 K_M_rule_75
  simp only [frm_eq, z0, zm, z5, z8, z98, Option.bind_some, oB_0]
  have bad : FcI n (jC (some ((.error 1 : Except Nat Int32), h)) (fun v9 h9 => some ((0 : Int32), pL h9 41 (ix 0) (Int32.toInt64 v9))) (fun k h => if k = 1 then some ((1 : Int32), h) else (if k = 2 then some ((2 : Int32), h) else none))) (some (0, pI g 0 0 1)) := FcI_no hI' 1 (by decide) rfl rfl
  by_cases b1 : x1 < 0
  · have := i32_lt.mp b1
    simp only [if_pos b1, decide_eq_false (show ¬ (0 ≤ x1.toInt ∧ x1.toInt ≤ 8) by omega)]; exact bad
  by_cases b2 : 8 < x1
  · have := i32_lt.mp b2
    simp only [if_neg b1, if_pos b2, decide_eq_false (show ¬ (0 ≤ x1.toInt ∧ x1.toInt ≤ 8) by omega)]; exact bad
  have c1 : 0 ≤ x1.toInt ∧ x1.toInt ≤ 8 := by rw [i32_lt] at b1 b2; omega
  by_cases c4 : 0 ≤ x4.toInt ∧ x4.toInt ≤ 98
  · have l4 : ¬ x4 < 0 := fun z => by have := i32_lt.mp z; omega
    have l5 : x4 ≤ 98 := i32_le.mpr (by omega)
    by_cases c2 : -2 ≤ x2.toInt ∧ x2.toInt ≤ 5
    · have m1 : ¬ x2 < -2 := fun z => by have := i32_lt.mp z; omega
      have m2 : ¬ 5 < x2 := fun z => by have := i32_lt.mp z; omega
      by_cases c3 : -2 ≤ x3.toInt ∧ x3.toInt ≤ 5
      · have m3 : ¬ x3 < -2 := fun z => by have := i32_lt.mp z; omega
        have m4 : ¬ 5 < x3 := fun z => by have := i32_lt.mp z; omega
        simp only [decide_eq_true c1, decide_eq_true c2, decide_eq_true c3, decide_eq_true c4, if_neg b1, if_neg b2, if_neg m1, if_neg m2, if_neg m3, if_neg m4, if_neg l4, if_pos l5, if_neg (show ¬ true = false by decide), if_pos (show (0 : Int32) ≤ 0 by decide), if_neg (show ¬ (1 : Int32) = 0 by decide), hW.p.1.2.1, hW.p.1.2.2.1]
        by_cases h12 : w.U = 12
        · rw [h12]; exact FcI_no hI' 2 (by decide) rfl rfl
        · have l6 : ¬ (12 : Int32) ≤ o w.U := fun z => by have := (o_le (by omega : 12 < 2147483648) (by omega)).mp z; omega
          have n6 : ¬ o w.U = (12 : Int32) := fun z => h12 ((o_inj (by omega) (by omega : 12 < 2147483648)).mp z)
          unfold J_R_append
          have hin : sIn (o w.U) 12 = true := by rw [sIn_o 12 (by omega), decide_eq_true (by omega)]
          simp only [if_neg l6, if_neg n6, hW.p.1.2.1, hin, sGd_true, ix_o (show w.U < 2147483648 by omega), show o w.U + 1 = o (w.U + 1) from o_add _ 1, Option.bind_some]
          have hW1 : Wr (mW w.mo w.P w.Kd w.F w.C w.T (w.U + 1) w.K w.Q w.N) (pI (pI (pI (pI (pI (pI (pI (pI h 21 w.U x1) 22 w.U x2) 23 w.U x3) 24 w.U x4) 25 w.U 0) 26 w.U 0) 30 w.U 0) 3 7 (o (w.U + 1))) (pI (pI (pI (pI (pI (pI (pI (pI (pI g 0 0 0) 8 w.U x1) 9 w.U x2) 10 w.U x3) 11 w.U x4) 12 w.U 0) 13 w.U 0) 17 w.U 0) 0 12 (o (w.U + 1))) := by
            obtain ⟨p, aa⟩ := hW
            refine ⟨⟨⟨by dsimp only [mW_mo, mW_P, mW_Kd, mW_F, mW_C, mW_T, mW_U, mW_K, mW_Q, mW_N]; omega, by rw [pI_i, if_pos ⟨rfl, rfl⟩]; rfl, by rw [pI_i, if_pos ⟨rfl, rfl⟩]; rfl, fun j hj => ?_, fun q hq => ?_⟩, WrM_k (fun m => by (repeat (rw [pI_i, if_neg (by omega)]))) (fun m => by (repeat (rw [pI_i, if_neg (by omega)]))) (fun t ht => rfl) p.2.1, WrK_k (fun m => by (repeat (rw [pI_i, if_neg (by omega)]))) (fun m => by (repeat (rw [pI_i, if_neg (by omega)]))) p.2.2.1, WrX_k (Nat.le_refl _) (fun j m z => by (repeat (rw [pI_i, if_neg (by omega)]))) (fun j m z => by (repeat (rw [pI_i, if_neg (by omega)]))) p.2.2.2.1, WrW_k (Nat.le_refl _) (Nat.le_refl _) (fun j m z => by (repeat (rw [pI_i, if_neg (by omega)]))) (fun j m z => by (repeat (rw [pI_i, if_neg (by omega)]))) p.2.2.2.2.1, WrT_k (by dsimp only [mW_mo, mW_P, mW_Kd, mW_F, mW_C, mW_T, mW_U, mW_K, mW_Q, mW_N]; omega) (fun j m z => by (repeat (rw [pI_i, if_neg (by omega)]))) (fun j m z => by (repeat (rw [pI_i, if_neg (by omega)]))) p.2.2.2.2.2⟩, ?_⟩
            · obtain ⟨⟨y1, y2, y3⟩, y4, y5, y6⟩ := p.1.2.2.2.1 j hj
              exact ⟨⟨by (repeat (rw [pI_i, if_neg (by omega)])); exact y1, by (repeat (rw [pI_i, if_neg (by omega)])); exact y2, by (repeat (rw [pI_i, if_neg (by omega)])); exact y3⟩, by (repeat (rw [pI_i, if_neg (by omega)])); exact y4, by (repeat (rw [pI_i, if_neg (by omega)])); exact y5, by (repeat (rw [pI_i, if_neg (by omega)])); exact y6⟩
            · dsimp only [mW_mo, mW_P, mW_Kd, mW_F, mW_C, mW_T, mW_U, mW_K, mW_Q, mW_N] at hq
              by_cases hqU : q = w.U
              · subst hqU
                refine ⟨?_, ⟨0, by omega, ?_, ?_, fun j y z => absurd z (by omega)⟩, 0, by omega, ?_, ?_, fun j y z => absurd z (by omega)⟩
                · simp [pI_i]
                · simp [pI_i]; rfl
                · simp [pI_i]; rfl
                · simp [pI_i]; rfl
                · simp [pI_i]; rfl
              · obtain ⟨⟨a1, a2, a3, a4, a5⟩, ⟨c', c0, c1, c2, c3⟩, d', d0, d1, d2, d3⟩ := p.1.2.2.2.2 q (by omega)
                refine ⟨⟨by (repeat (rw [pI_i, if_neg (by omega)])); exact a1, by (repeat (rw [pI_i, if_neg (by omega)])); exact a2, by (repeat (rw [pI_i, if_neg (by omega)])); exact a3, by (repeat (rw [pI_i, if_neg (by omega)])); exact a4, by (repeat (rw [pI_i, if_neg (by omega)])); exact a5⟩, ⟨c', c0, by (repeat (rw [pI_i, if_neg (by omega)])); exact c1, by (repeat (rw [pI_i, if_neg (by omega)])); exact c2, fun j x y => ?_⟩, d', d0, by (repeat (rw [pI_i, if_neg (by omega)])); exact d1, by (repeat (rw [pI_i, if_neg (by omega)])); exact d2, fun j x y => ?_⟩
                · have e1 : ∀ m, (pI (pI (pI (pI (pI (pI (pI (pI h 21 w.U x1) 22 w.U x2) 23 w.U x3) 24 w.U x4) 25 w.U 0) 26 w.U 0) 30 w.U 0) 3 7 (o (w.U + 1))).1 27 m = h.1 27 m := fun m => by (repeat (rw [pI_i, if_neg (by omega)]))
                  have e2 : ∀ m, (pI (pI (pI (pI (pI (pI (pI (pI h 21 w.U x1) 22 w.U x2) 23 w.U x3) 24 w.U x4) 25 w.U 0) 26 w.U 0) 30 w.U 0) 3 7 (o (w.U + 1))).1 28 m = h.1 28 m := fun m => by (repeat (rw [pI_i, if_neg (by omega)]))
                  rw [e1, e2]; exact c3 j x y
                · have e1 : ∀ i m, (31 ≤ i ∧ i ≤ 33) → (pI (pI (pI (pI (pI (pI (pI (pI h 21 w.U x1) 22 w.U x2) 23 w.U x3) 24 w.U x4) 25 w.U 0) 26 w.U 0) 30 w.U 0) 3 7 (o (w.U + 1))).1 i m = h.1 i m := fun i m z => by (repeat (rw [pI_i, if_neg (by omega)]))
                  rw [e1 _ _ (by omega), e1 _ _ (by omega), e1 _ _ (by omega)]; exact d3 j x y
            · exact ⟨⟨by (repeat (rw [pI_i, if_neg (by omega)])); exact aa.rm.1, by (repeat (rw [pI_i, if_neg (by omega)])); exact aa.rm.2⟩, ⟨by (repeat (rw [pI_i, if_neg (by omega)])); exact aa.th.1, by (repeat (rw [pI_i, if_neg (by omega)])); exact aa.th.2⟩, ⟨by (repeat (rw [pI_i, if_neg (by omega)])); exact aa.nu.1, by (repeat (rw [pI_i, if_neg (by omega)])); exact aa.nu.2⟩, ⟨by (repeat (rw [pI_i, if_neg (by omega)])); exact aa.en.1, by (repeat (rw [pI_i, if_neg (by omega)])); exact aa.en.2⟩, aa.e4, aa.n3, fun t ht => ⟨(aa.pl t ht).1, by (repeat (rw [pI_i, if_neg (by omega)])); exact (aa.pl t ht).2.1, by (repeat (rw [pI_i, if_neg (by omega)])); exact (aa.pl t ht).2.2⟩, fun t ht => ⟨(aa.kd t ht).1, by (repeat (rw [pI_i, if_neg (by omega)])); exact (aa.kd t ht).2.1, by (repeat (rw [pI_i, if_neg (by omega)])); exact (aa.kd t ht).2.2⟩, fun t ht => ⟨(aa.fn t ht).1, by (repeat (rw [pI_i, if_neg (by omega)])); exact (aa.fn t ht).2.1, by (repeat (rw [pI_i, if_neg (by omega)])); exact (aa.fn t ht).2.2⟩, fun t ht => ⟨(aa.ct t ht).1, by (repeat (rw [pI_i, if_neg (by omega)])); exact (aa.ct t ht).2.1, by (repeat (rw [pI_i, if_neg (by omega)])); exact (aa.ct t ht).2.2⟩, fun e he => (by obtain ⟨b, b1, b2⟩ := aa.gd e he; exact ⟨b, by (repeat (rw [pI_i, if_neg (by omega)])); exact b1, by (repeat (rw [pI_i, if_neg (by omega)])); exact b2⟩), aa.mn, aa.rk, fun i x y => by (repeat (rw [pI_i, if_neg (by omega)])); exact aa.ex i x y⟩
          refine FcI_yes hn hW1 (by simp [pI_i]) (o w.U) (i := 12) (by omega) ?_ (fun h' hh => ?_) (fun g' hg => ?_)
          · rw [pI_i, if_pos ⟨rfl, rfl⟩]
            rw [show (1 : Int32) = o 1 from rfl, o_sub (by omega)]; rfl
          · rw [hh]; rfl
          · rw [hg]; rfl
      · simp only [decide_eq_true c1, decide_eq_true c2, decide_eq_false c3, decide_eq_true c4, if_neg b1, if_neg b2, if_neg m1, if_neg m2]
        by_cases m3 : x3 < -2
        · rw [if_pos m3]; exact bad
        · rw [if_neg m3, if_pos (i32_lt.mpr (by rw [i32_lt] at m3; omega))]; exact bad
    · simp only [decide_eq_true c1, decide_eq_false c2, decide_eq_true c4, if_neg b1, if_neg b2]
      by_cases m3 : x2 < -2
      · rw [if_pos m3]; exact bad
      · rw [if_neg m3, if_pos (i32_lt.mpr (by rw [i32_lt] at m3; omega))]; exact bad
  · simp only [decide_eq_true c1, decide_eq_false c4, if_neg b1, if_neg b2]
    by_cases l4 : x4 < 0
    · simp only [if_pos l4, ite_self]; exact bad
    · have : ¬ x4 ≤ 98 := fun z => c4 ⟨by rw [i32_lt] at l4; omega, by have := i32_le.mp z; omega⟩
      simp only [if_neg l4, if_neg this, ite_self]; exact bad
end BE
