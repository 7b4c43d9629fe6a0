section BD
variable {h g : sHp} {n : Nat}
theorem jE_ok {β γ : Type} (v : γ) (h : sHp) (F : γ → sHp → Option (Except Nat β × sHp)) : jE (some (.ok v, h)) F = F v h := rfl
theorem oB_1 (b : Bool) : (oB b = 1) ↔ b = true := by cases b <;> decide
theorem f_exit (hn : 8 ≤ n) (hI : Iv n h g) (x1 x2 x3 x4 : Int32) : FcV n (J_L_exit n x1 x2 x3 x4 h) (J_M_exit n x1 x2 x3 x4 g) := by
  have hI' := hI
  obtain ⟨w, hw, t, k, hW, -⟩ := hI
  have hR := hW.p.2.2.2.1.1
  have hT := hW.p.2.2.1.1
  unfold J_L_exit J_S_exit J_M_exit K_S_exit_44 K_S_exit_40 K_S_exit_45 K_M_exit_36 K_M_exit_32 K_M_exit_45 K_M_exit_50
  simp only [W_room hW, W_thing hW, M_room hW, M_thing hW, Option.bind_some, oB_0, frm_eq]
  have bad : FcV n (jC (some ((.error 0 : Except Nat Unit), h)) (fun v6 h6 => some ((0 : Int32), h6)) (fun k h => if k = 0 then some ((1 : Int32), h) else (if k = 1 then some ((2 : Int32), h) else none))) (some (pI g 0 0 1)) := FcV_no hI' 1 rfl rfl
  have bad2 : FcV n (jC (some ((.error 1 : Except Nat Unit), h)) (fun v6 h6 => some ((0 : Int32), h6)) (fun k h => if k = 0 then some ((1 : Int32), h) else (if k = 1 then some ((2 : Int32), h) else none))) (some (pI g 0 0 2)) := FcV_no hI' 2 rfl rfl
  cases c1 : sIn x1 (w.mo 3)
  · exact bad
  cases c3 : sIn x3 (w.mo 3)
  · exact bad
  obtain ⟨a, ha, rfl⟩ := of_sIn c1
  obtain ⟨b, hb, rfl⟩ := of_sIn c3
  have fin : (x4 = -1 ∨ ∃ d, d < w.T ∧ x4 = o d) → FcV n (jC (if decide ((0 : Int32).toInt ≤ x2.toInt ∧ x2.toInt ≤ (3 : Int32).toInt) = false then some ((.error 1 : Except Nat Unit), h) else (J_W_setExit n (o a) x2 (o b) x4 h).bind fun v66 => (J_S_startAnew n v66).bind fun v70 => some (.ok (), v70)) (fun v6 h6 => some ((0 : Int32), h6)) (fun k h => if k = 0 then some ((1 : Int32), h) else (if k = 1 then some ((2 : Int32), h) else none)))
     (if x2 < 0 then some (pI g 0 0 2) else if x2 ≤ 3 then sGd (sIn (4 * o a + x2) 24) (sGd (sIn (4 * o a + x2) 24) ((J_M_renew n (pI (pI (pI g 0 0 0) 1 (ix (4 * o a + x2)) (o b + 1)) 2 (ix (4 * o a + x2)) (x4 + 1))).bind fun v89 => some v89)) else some (pI g 0 0 2)) := by
    intro h4
    have z0 : (0 : Int32).toInt = 0 := rfl
    have z3 : (3 : Int32).toInt = 3 := rfl
    rw [z0, z3]
    by_cases hd : 0 ≤ x2.toInt ∧ x2.toInt ≤ 3
    · obtain ⟨e, rfl, e1, e2⟩ := of_range (by omega) hd.1 hd.2
      have he : e < 4 := by omega
      have ei : (4 : Int32) * o a + o e = o (4 * a + e) := by
        show o 4 * o a + o e = _
        rw [o_mul, o_add]
      have ei' : o a * (4 : Int32) + o e = o (4 * a + e) := by
        show o a * o 4 + o e = _
        rw [o_mul, o_add, Nat.mul_comm]
      have l1 : ¬ o e < (0 : Int32) := fun z => by have := (o_lt (by omega) (by omega : 0 < 2147483648)).mp z; omega
      have l2 : o e ≤ (3 : Int32) := (o_le (by omega) (by omega : 3 < 2147483648)).mpr (by omega)
      rw [decide_eq_true hd, if_neg (by decide), if_neg l1, if_pos l2]
      unfold J_W_setExit
      rw [ei, ei', sIn_o 24 (by omega), decide_eq_true (by omega)]
      simp only [sGd_true, ix_o (show 4 * a + e < 2147483648 by omega), Option.bind_some, show o b + 1 = o (b + 1) from o_add b 1]
      generalize hi : 4 * a + e = i
      have gk : ∀ j m, ¬ (j = 0 ∧ m = 0) → j ≠ 1 → j ≠ 2 → (pI (pI (pI g 0 0 0) 1 i (o (b + 1))) 2 i (x4 + 1)).1 j m = g.1 j m := fun j m x y z => by (repeat (rw [pI_i, if_neg (by omega)]))
      have hc : ∀ j m, j ≠ 10 → j ≠ 11 → (pI (pI h 10 i (o b)) 11 i x4).1 j m = h.1 j m := fun j m x y => by (repeat (rw [pI_i, if_neg (by omega)]))
      have hW1 : Wr w (pI (pI h 10 i (o b)) 11 i x4) (pI (pI (pI g 0 0 0) 1 i (o (b + 1))) 2 i (x4 + 1)) := by
        obtain ⟨p, aa⟩ := hW
        refine ⟨⟨WrR_k (moLe_refl _) (fun j m z => hc j m (by omega) (by omega)) (fun j m z => gk j m (by omega) (by omega) (by omega)) p.1, WrM_k (fun m => hc _ m (by omega) (by omega)) (fun m => gk _ m (by omega) (by omega) (by omega)) (fun t ht => rfl) p.2.1, WrK_k (fun m => hc _ m (by omega) (by omega)) (fun m => gk _ m (by omega) (by omega) (by omega)) p.2.2.1, ⟨hR, fun q hq => ?_⟩, WrW_k (Nat.le_refl _) (Nat.le_refl _) (fun j m z => hc j m (by omega) (by omega)) (fun j m z => gk j m (by omega) (by omega) (by omega)) p.2.2.2.2.1, WrT_k (Nat.le_refl _) (fun j m z => hc j m (by omega) (by omega)) (fun j m z => gk j m (by omega) (by omega) (by omega)) p.2.2.2.2.2⟩, ?_⟩
        · by_cases hqi : q = i
          · subst hqi
            refine Or.inr ⟨⟨b, hb, by rw [pI_i, if_neg (by omega), pI_i, if_pos ⟨rfl, rfl⟩], by rw [pI_i, if_neg (by omega), pI_i, if_pos ⟨rfl, rfl⟩]⟩, ?_⟩
            rw [pI_i, if_pos ⟨rfl, rfl⟩, pI_i, if_pos ⟨rfl, rfl⟩]
            rcases h4 with rfl | ⟨d, hd, rfl⟩
            · exact Or.inl ⟨rfl, by decide⟩
            · exact Or.inr ⟨d, hd, rfl, o_add d 1⟩
          · rw [pI_i, if_neg (by omega), pI_i, if_neg (by omega), pI_i, if_neg (by omega), pI_i, if_neg (by omega), pI_i, if_neg (by omega), pI_i, if_neg (by omega), pI_i, if_neg (by omega), pI_i, if_neg (by omega), pI_i, if_neg (by omega), pI_i, if_neg (by omega)]
            exact p.2.2.2.1.2 q hq
        · refine ⟨?_, ?_, ?_, ?_, aa.e4, aa.n3, fun t ht => ?_, fun t ht => ?_, fun t ht => ?_, fun t ht => ?_, fun e he => ?_, aa.mn, aa.rk, fun i x y => ?_⟩
          · rw [hc _ _ (by omega) (by omega), gk _ _ (by omega) (by omega) (by omega)]; exact aa.rm
          · rw [hc _ _ (by omega) (by omega), gk _ _ (by omega) (by omega) (by omega)]; exact aa.th
          · rw [hc _ _ (by omega) (by omega), gk _ _ (by omega) (by omega) (by omega)]; exact aa.nu
          · rw [hc _ _ (by omega) (by omega), gk _ _ (by omega) (by omega) (by omega)]; exact aa.en
          · rw [hc _ _ (by omega) (by omega), gk _ _ (by omega) (by omega) (by omega)]; exact aa.pl t ht
          · rw [hc _ _ (by omega) (by omega), gk _ _ (by omega) (by omega) (by omega)]; exact aa.kd t ht
          · rw [hc _ _ (by omega) (by omega), gk _ _ (by omega) (by omega) (by omega)]; exact aa.fn t ht
          · rw [hc _ _ (by omega) (by omega), gk _ _ (by omega) (by omega) (by omega)]; exact aa.ct t ht
          · rw [hc _ _ (by omega) (by omega), gk _ _ (by omega) (by omega) (by omega)]; exact aa.gd e he
          · rw [pI_i, if_neg (by omega), pI_i, if_neg (by omega), pI_i, if_neg (by omega)]; exact aa.ex i x y
      exact FcV_yes hn hW1 (by rw [pI_i, if_neg (by omega), pI_i, if_neg (by omega), pI_i, if_pos ⟨rfl, rfl⟩]) (fun h' hh => by rw [hh]; rfl) (fun g' hg => by rw [hg]; rfl)
    · rw [decide_eq_false hd, if_pos rfl]
      by_cases l1 : x2 < 0
      · rw [if_pos l1]; exact bad2
      · rw [if_neg l1, if_neg (fun z => hd ⟨by rw [i32_lt] at l1; omega, by have := i32_le.mp z; omega⟩)]; exact bad2
  by_cases c4 : x4 = -1
  · simp only [if_pos c4, if_neg (show ¬ true = false by decide), if_neg (show ¬ (1 : Int32) = 0 by decide), if_pos (show (0 : Int32) ≤ 0 by decide), if_neg (show ¬ (2 : Int32) ≤ 0 by decide)]
    exact fin (Or.inl c4)
  · cases c5 : sIn x4 w.T
    · simp only [if_neg c4]
      exact bad
    · obtain ⟨d, hd, rfl⟩ := of_sIn c5
      simp only [if_neg c4, if_neg (show ¬ true = false by decide), if_neg (show ¬ (1 : Int32) = 0 by decide), if_pos (show (0 : Int32) ≤ 0 by decide), if_neg (show ¬ (2 : Int32) ≤ 0 by decide)]
      exact fin (Or.inr ⟨d, hd, rfl⟩)
theorem kind_ok : ∀ k, k < 8 → ((o k &&& 4 = 0) ↔ k < 4) ∧ ((o k &&& 2 = 0) ↔ (k ≠ 2 ∧ k ≠ 3 ∧ k ≠ 6 ∧ k ≠ 7)) := by decide +kernel
theorem S_kind (x : Int32) : ∃ b : Bool, J_S_isThingKind n x h = some (oB b) ∧ (b = true → ∃ k, k < 8 ∧ x = o k ∧ k ≠ 4 ∧ k ≠ 5) ∧ (b = false → x.toInt < 0 ∨ 7 < x.toInt ∨ x = 4 ∨ x = 5) := by
  have z0 : (0 : Int32).toInt = 0 := rfl
  have z7 : (7 : Int32).toInt = 7 := rfl
  unfold J_S_isThingKind K_S_isThingKind_11
  simp only [frm_eq, z0, z7, Option.bind_some, oB_0]
  by_cases hd : 0 ≤ x.toInt ∧ x.toInt ≤ 7
  · obtain ⟨k, rfl, e1, e2⟩ := of_range (by omega) hd.1 hd.2
    have hk : k < 8 := by omega
    obtain ⟨a, b⟩ := kind_ok k hk
    simp only [decide_eq_true hd, a, b]
    by_cases k4 : k < 4
    · refine ⟨true, ?_, fun _ => ⟨k, hk, rfl, by omega, by omega⟩, fun z => absurd z (by decide)⟩
      rw [if_pos k4, if_neg (by decide)]; rfl
    · rw [if_neg k4, if_neg (by decide), if_neg (by decide)]
      by_cases k6 : k = 6 ∨ k = 7
      · refine ⟨true, ?_, fun _ => ⟨k, hk, rfl, by omega, by omega⟩, fun z => absurd z (by decide)⟩
        rw [if_neg (by omega)]; rfl
      · refine ⟨false, ?_, fun z => absurd z (by decide), fun _ => ?_⟩
        · rw [if_pos (by omega)]; rfl
        · have : k = 4 ∨ k = 5 := by omega
          rcases this with rfl | rfl
          · exact Or.inr (Or.inr (Or.inl rfl))
          · exact Or.inr (Or.inr (Or.inr rfl))
  · refine ⟨false, ?_, fun z => absurd z (by decide), fun _ => by omega⟩
    simp only [decide_eq_false hd, if_true]
    split <;> rfl
theorem f_thing (hn : 8 ≤ n) (hI : Iv n h g) (x1 x2 : Int32) : FcI n (J_L_thing n x1 x2 h) (J_M_thing n x1 x2 g) := by
  have hI' := hI
  obtain ⟨w, hw, t, k, hW, -⟩ := hI
  have hR := hW.p.2.2.2.1.1
  have hT := hW.p.2.2.1.1
  obtain ⟨kb, s1, s2, s3⟩ := S_kind (n := n) (h := h) x2
  unfold J_L_thing J_S_thing J_M_thing K_S_thing_35 K_M_thing_33 K_M_thing_51
  simp only [W_place hW, M_place hW, Option.bind_some, oB_0, s1]
  cases c1 : pOk x1 (w.mo 3) w.T
  · exact FcI_no hI' 1 (by decide) rfl rfl
  cases kb with
  | false =>
    have y : ∀ Z : Option (Int32 × sHp), (if x2 < 0 then some ((0 : Int32), pI g 0 0 2) else if 7 < x2 then some ((0 : Int32), pI g 0 0 2) else if x2 = 4 then some ((0 : Int32), pI g 0 0 2) else if x2 = 5 then some ((0 : Int32), pI g 0 0 2) else Z) = some (0, pI g 0 0 2) := fun Z => by
      by_cases a1 : x2 < 0
      · rw [if_pos a1]
      rw [if_neg a1]
      by_cases a2 : 7 < x2
      · rw [if_pos a2]
      rw [if_neg a2]
      by_cases a3 : x2 = 4
      · rw [if_pos a3]
      rw [if_neg a3]
      by_cases a4 : x2 = 5
      · rw [if_pos a4]
      exfalso
      rw [i32_lt] at a1 a2
      have z0 : (0 : Int32).toInt = 0 := rfl
      have z7 : (7 : Int32).toInt = 7 := rfl
      rcases s3 rfl with z | z | z | z
      · omega
      · omega
      · exact a3 z
      · exact a4 z
    exact FcI_no hI' 2 (by decide) rfl (y _)
  | true =>
    obtain ⟨kd, k8, rfl, k4, k5⟩ := s2 rfl
    obtain ⟨a, a13, rfl, a7⟩ := of_pOk c1 hR hT
    have l0 : ¬ o kd < (0 : Int32) := fun z => by have := (o_lt (by omega) (by omega : 0 < 2147483648)).mp z; omega
    have l7 : ¬ (7 : Int32) < o kd := fun z => by have := (o_lt (by omega : 7 < 2147483648) (by omega)).mp z; omega
    have n4 : ¬ o kd = (4 : Int32) := fun z => k4 ((o_inj (by omega) (by omega : 4 < 2147483648)).mp z)
    have n5 : ¬ o kd = (5 : Int32) := fun z => k5 ((o_inj (by omega) (by omega : 5 < 2147483648)).mp z)
    simp only [if_neg l0, if_neg l7, if_neg n4, if_neg n5, if_neg (show ¬ true = false by decide), if_pos (show (0 : Int32) ≤ 0 by decide), if_neg (show ¬ (1 : Int32) = 0 by decide), hW.a.th.1, hW.a.th.2]
    by_cases h6 : w.T = 6
    · rw [h6]; exact FcI_no hI' 3 (by decide) rfl rfl
    · have l6 : ¬ (6 : Int32) ≤ o w.T := fun z => by have := (o_le (by omega : 6 < 2147483648) (by omega)).mp z; omega
      have n6 : ¬ o w.T = (6 : Int32) := fun z => h6 ((o_inj (by omega) (by omega : 6 < 2147483648)).mp z)
      unfold J_W_addThing
      rw [if_neg l6, if_neg n6, hW.a.th.1, sIn_o 6 (by omega), decide_eq_true (by omega), sGd_true, sGd_true, sGd_true, sGd_true, ix_o (by omega), show o w.T + 1 = o (w.T + 1) from o_add _ 1, Option.bind_some]
      have hW1 : Wr (mW w.mo (fun x => if x = w.T then a else w.P x) (fun x => if x = w.T then kd else w.Kd x) w.F w.C (w.T + 1) w.U w.K w.Q w.N) (pI (pI (pI h 12 w.T (o a)) 13 w.T (o kd)) 2 13 (o (w.T + 1))) (pI (pI (pI (pI g 0 0 0) 4 w.T (o a)) 3 w.T (o kd)) 0 4 (o (w.T + 1))) := by
        obtain ⟨p, aa⟩ := hW
        refine ⟨⟨WrR_k (moLe_refl _) (fun j m z => by (repeat (rw [pI_i, if_neg (by omega)]))) (fun j m z => by (repeat (rw [pI_i, if_neg (by omega)]))) p.1, WrM_k (fun m => by (repeat (rw [pI_i, if_neg (by omega)]))) (fun m => by (repeat (rw [pI_i, if_neg (by omega)]))) (fun t ht => rfl) p.2.1, ⟨by dsimp only [mW_mo, mW_P, mW_Kd, mW_F, mW_C, mW_T, mW_U, mW_K, mW_Q, mW_N]; omega, fun t ht => ?_⟩, WrX_k (by dsimp only [mW_mo, mW_P, mW_Kd, mW_F, mW_C, mW_T, mW_U, mW_K, mW_Q, mW_N]; omega) (fun j m z => by (repeat (rw [pI_i, if_neg (by omega)]))) (fun j m z => by (repeat (rw [pI_i, if_neg (by omega)]))) p.2.2.2.1, WrW_k (by dsimp only [mW_mo, mW_P, mW_Kd, mW_F, mW_C, mW_T, mW_U, mW_K, mW_Q, mW_N]; omega) (Nat.le_refl _) (fun j m z => by (repeat (rw [pI_i, if_neg (by omega)]))) (fun j m z => by (repeat (rw [pI_i, if_neg (by omega)]))) p.2.2.2.2.1, WrT_k (Nat.le_refl _) (fun j m z => by (repeat (rw [pI_i, if_neg (by omega)]))) (fun j m z => by (repeat (rw [pI_i, if_neg (by omega)]))) p.2.2.2.2.2⟩, ?_⟩
        · by_cases hq : t = w.T
          · subst hq
            exact ⟨kd, k8, by rw [pI_i, if_neg (by omega), pI_i, if_pos ⟨rfl, rfl⟩], by rw [pI_i, if_neg (by omega), pI_i, if_pos ⟨rfl, rfl⟩]⟩
          · obtain ⟨e, e1, e2, e3⟩ := p.2.2.1.2 t (by dsimp only [mW_mo, mW_P, mW_Kd, mW_F, mW_C, mW_T, mW_U, mW_K, mW_Q, mW_N] at ht; omega)
            exact ⟨e, e1, by (repeat (rw [pI_i, if_neg (by omega)])); exact e2, by (repeat (rw [pI_i, if_neg (by omega)])); exact e3⟩
        · refine ⟨⟨by (repeat (rw [pI_i, if_neg (by omega)])); exact aa.rm.1, by (repeat (rw [pI_i, if_neg (by omega)])); exact aa.rm.2⟩, ⟨by rw [pI_i, if_pos ⟨rfl, rfl⟩]; rfl, by rw [pI_i, if_pos ⟨rfl, rfl⟩]; rfl⟩, ⟨by (repeat (rw [pI_i, if_neg (by omega)])); exact aa.nu.1, by (repeat (rw [pI_i, if_neg (by omega)])); exact aa.nu.2⟩, ⟨by (repeat (rw [pI_i, if_neg (by omega)])); exact aa.en.1, by (repeat (rw [pI_i, if_neg (by omega)])); exact aa.en.2⟩, aa.e4, aa.n3, fun t ht => ?_, fun t ht => ?_, fun t ht => ⟨(aa.fn t ht).1, by (repeat (rw [pI_i, if_neg (by omega)])); exact (aa.fn t ht).2.1, by (repeat (rw [pI_i, if_neg (by omega)])); exact (aa.fn t ht).2.2⟩, fun t ht => ⟨(aa.ct t ht).1, by (repeat (rw [pI_i, if_neg (by omega)])); exact (aa.ct t ht).2.1, by (repeat (rw [pI_i, if_neg (by omega)])); exact (aa.ct t ht).2.2⟩, fun e he => ?_, aa.mn, fun t ht h7 => ?_, fun i x y => by (repeat (rw [pI_i, if_neg (by omega)])); exact aa.ex i x y⟩
          · dsimp only [mW_mo, mW_P, mW_Kd, mW_F, mW_C, mW_T, mW_U, mW_K, mW_Q, mW_N] at ht ⊢
            by_cases hq : t = w.T
            · subst hq
              rw [if_pos rfl]
              exact ⟨a13, by rw [pI_i, if_neg (by omega), pI_i, if_neg (by omega), pI_i, if_pos ⟨rfl, rfl⟩], by rw [pI_i, if_neg (by omega), pI_i, if_neg (by omega), pI_i, if_pos ⟨rfl, rfl⟩]⟩
            · rw [if_neg hq]
              obtain ⟨e1, e2, e3⟩ := aa.pl t (by omega)
              exact ⟨e1, by (repeat (rw [pI_i, if_neg (by omega)])); exact e2, by (repeat (rw [pI_i, if_neg (by omega)])); exact e3⟩
          · dsimp only [mW_mo, mW_P, mW_Kd, mW_F, mW_C, mW_T, mW_U, mW_K, mW_Q, mW_N] at ht ⊢
            by_cases hq : t = w.T
            · subst hq
              rw [if_pos rfl]
              exact ⟨k8, by rw [pI_i, if_neg (by omega), pI_i, if_pos ⟨rfl, rfl⟩], by rw [pI_i, if_neg (by omega), pI_i, if_pos ⟨rfl, rfl⟩]⟩
            · rw [if_neg hq]
              obtain ⟨e1, e2, e3⟩ := aa.kd t (by omega)
              exact ⟨e1, by (repeat (rw [pI_i, if_neg (by omega)])); exact e2, by (repeat (rw [pI_i, if_neg (by omega)])); exact e3⟩
          · obtain ⟨b, b1, b2⟩ := aa.gd e he
            exact ⟨b, by (repeat (rw [pI_i, if_neg (by omega)])); exact b1, by (repeat (rw [pI_i, if_neg (by omega)])); exact b2⟩
          · dsimp only [mW_mo, mW_P, mW_Kd, mW_F, mW_C, mW_T, mW_U, mW_K, mW_Q, mW_N] at ht h7 ⊢
            by_cases hq : t = w.T
            · subst hq
              rw [if_pos rfl] at h7 ⊢
              exact a7 h7
            · rw [if_neg hq] at h7 ⊢
              exact aa.rk t (by omega) h7
      refine FcI_yes hn hW1 (by rw [pI_i, if_neg (by omega), pI_i, if_neg (by omega), pI_i, if_neg (by omega), pI_i, if_pos ⟨rfl, rfl⟩]) (o w.T) (i := 4) (by omega) ?_ (fun h' hh => ?_) (fun g' hg => ?_)
      · rw [pI_i, if_pos ⟨rfl, rfl⟩]
        rw [show (1 : Int32) = o 1 from rfl, o_sub (by omega)]; rfl
      · rw [hh]; rfl
      · rw [hg]; rfl
end BD
