section RF
variable {n : Nat} {w : Wp} {hw h g : sHp} {f d : Nat} {full : Bool}
theorem kr00 (g : sHp) : Kr g (pI g 0 0 0) := fun j m z => by rw [pI_i, if_neg (by omega)]
theorem ka_refl (h : sHp) : Ka h h := ⟨fun _ _ _ => rfl, fun _ _ _ => rfl⟩
/-- an answer that changes nothing but the code -/
theorem FcI_say (hI : Iv n h g) {X Y : Option (Int32 × sHp)} (r : Int32) (e1 : X = some (0, pL h 41 0 (Int32.toInt64 r))) (e2 : Y = some (r, pI g 0 0 0)) : FcI n X Y :=
  ⟨0, _, _, _, e1, e2, by rw [pI_i, if_pos ⟨rfl, rfl⟩], fun _ => by rw [pL_i, if_pos ⟨rfl, rfl⟩], Iv_out (Iv_code hI 0) _⟩
theorem over_all (hn : 600 ≤ n) {e : Nat} (he : e < 4) {t k : Nat} (hP : Pl n w hw t k h g) (hA : AtC h g ∨ ∃ f d full, AtO n w hw f d full h g) : ∃ x fin : Int32, J_A_firstOverWith n (o e) h = some x ∧ J_M_firstOver n (o e) (pI g 0 0 0) = some x ∧ J_A_isFinished n h = some fin ∧ J_M_finished n (pI g 0 0 0) = some fin ∧ (x = -1 ∨ ∃ i f d full, i < f ∧ x = o i ∧ AtO n w hw f d full h (pI g 0 0 0)) := by
  rcases hA with hA | ⟨f, d, full, hA⟩
  · have hF : dg (h.2 7 0) 20 = 0 := hP.fst.2 20 (by omega)
    have hA' := AtC_keep (ka_refl h) (kr00 g) hA
    obtain ⟨a, b⟩ := over_closed (n := n) he (by omega) hA' hF
    refine ⟨-1, 0, a, b, ?_, ?_, Or.inl rfl⟩
    · unfold J_A_isFinished; rw [hA.c1.1, if_pos (by decide)]
    · unfold J_M_finished; rw [hA'.c2.1, hA'.c2.2.1, hA'.c2.2.2.1]; rfl
  · have hA' := AtO_keep (ka_refl h) (kr00 g) hA
    have f160 := hA.f160
    obtain ⟨x, a, b, c⟩ := overL (n := n) he hA' f 0 n (by omega) (by omega)
    obtain ⟨p, q⟩ := fin_both hA'
    refine ⟨x, _, a, b, p, q, ?_⟩
    rcases c with c | ⟨i, c1, c2⟩
    · exact Or.inl c
    · exact Or.inr ⟨i, f, d, full, c1, c2, hA'⟩
theorem f_reach (hn : 1100 ≤ n) (hI : Iv n h g) (x1 x2 : Int32) : FcI n (J_L_reach n x1 x2 h) (J_M_reach n x1 x2 g) := by
  have hI' := hI
  obtain ⟨w, hw, t, k, hW, hK, hP, hA⟩ := hI
  have hR := hW.p.2.2.2.1.1
  have hE := hW.a.e4
  unfold J_L_reach J_S_reach J_M_reach K_S_reach_15 K_M_reach_24 K_M_reach_29
  rw [hW.a.rm.1, hW.a.rm.2, hW.a.en.2]
  by_cases h0 : w.mo 3 = 0
  · rw [h0]; exact FcI_no hI' 1 (by decide) rfl rfl
  have l0 : ¬ o (w.mo 3) ≤ (0 : Int32) := fun z => by have := (o_le (by omega) (by omega : 0 < 2147483648)).mp z; omega
  have n0 : ¬ o (w.mo 3) = (0 : Int32) := fun z => h0 ((o_inj (by omega) (by omega : 0 < 2147483648)).mp z)
  rw [if_neg l0, if_neg n0, if_neg (by decide), W_ending hW, Option.bind_some]
  have no := no_sIn x1 (R := w.mo 4) (by omega)
  cases c : sIn x1 (w.mo 4) with
  | false =>
    rw [c] at no
    rw [if_pos (show oB false = 0 from rfl)]
    by_cases a1 : x1 < 0
    · rw [if_pos a1]; exact FcI_no hI' 2 (by decide) rfl rfl
    · rw [if_neg a1] at no ⊢
      by_cases a2 : x1 < o (w.mo 4)
      · rw [if_pos a2] at no; exact absurd (Option.some.inj no) (by decide)
      · rw [if_neg a2]; exact FcI_no hI' 2 (by decide) rfl rfl
  | true =>
    obtain ⟨e, he, rfl⟩ := of_sIn c
    have l1 : ¬ o e < (0 : Int32) := fun z => by have := (o_lt (by omega) (by omega : 0 < 2147483648)).mp z; omega
    have l2 : o e < o (w.mo 4) := (o_lt (by omega) (by omega)).mpr he
    obtain ⟨x, fin, e1, e2, e3, e4, e5⟩ := over_all (by omega) (show e < 4 by omega) hP hA
    rw [if_neg (show ¬ oB true = 0 by decide), if_neg l1, if_pos l2, if_pos (show (0 : Int32) ≤ 0 by decide), e1, e2, e3, e4]
    simp only [Option.bind_some]
    have yes : ∀ r : Int32, FcI n (jC (some ((.ok r : Except Nat Int32), h)) (fun v5 h5 => some ((0 : Int32), (pL h5 41 (ix 0) (Int32.toInt64 v5)))) (fun k h => if k = 2 then some ((1 : Int32), h) else (if k = 0 then some ((2 : Int32), h) else none))) (some (r, pI g 0 0 0)) := fun r => FcI_say hI' r rfl rfl
    rcases e5 with rfl | ⟨i, f, d, full, i1, rfl, hA'⟩
    · rw [if_pos (show (-1 : Int32) = -1 from rfl), if_pos (show (-1 : Int32) < 0 by decide), if_neg (show ¬ (0 : Int32) ≤ -1 by decide), if_pos (show (-1 : Int32) = -1 from rfl)]
      by_cases x0 : x2 = 0
      · rw [if_pos x0, if_pos x0]
        by_cases ff : fin = 0
        · rw [if_pos ff, if_pos ff]; exact yes 2
        · rw [if_neg ff, if_neg ff]; exact yes 0
      · rw [if_neg x0, if_neg x0]; exact yes (-1)
    · have f160 := hA'.f160
      have m1 : ¬ o i = (-1 : Int32) := fun z => by
        have : (o i).toInt = (-1 : Int32).toInt := by rw [z]
        rw [o_toInt (by omega)] at this
        have z1 : (-1 : Int32).toInt = -1 := rfl
        omega
      have m2 : ¬ o i < (0 : Int32) := fun z => by have := (o_lt (by omega) (by omega : 0 < 2147483648)).mp z; omega
      have m3 : (0 : Int32) ≤ o i := (o_le (by omega : 0 < 2147483648) (by omega)).mpr (by omega)
      obtain ⟨d1, d2, -⟩ := depth_both (n := n) (by omega) hA' i1
      rw [if_neg m1, if_neg m2, if_neg m1, if_pos m3, d1, d2]
      by_cases x0 : x2 = 0
      · rw [if_pos x0, if_pos x0]; exact yes 1
      · rw [if_neg x0, if_neg x0]; exact yes _
/-- going back along the way -/
theorem wayL (hn : 600 ≤ n) (hA : AtO n w hw f d full h g) (x1 x3 : Int32) (y1 : Int32) {i : Nat} (hi : i < 160) : ∀ c q M, dp (prn h) q = i + 1 + c → q < f → c < M → ∃ j, j < 441 ∧ sFx (F_A_codeOnWay_11 n y1 (o i) h) M (o q, o (dp (prn h) q) - 1) = some (o (cod j)) ∧ sFx (F_M_way_78 n x1 (o i) x3 g) M (o q) = (if x3 = 0 then some (o (jv j), g) else if x3 = 1 then some (av (ja j), g) else some (av (jb j), g)) := by
  have f160 := hA.f160
  have hP : ∀ i, 0 < i → i < f → prn h i < i := fun i a b => (prn_ok hA a b).1
  intro c
  induction c with
  | zero =>
    intro q M hq hf hM
    obtain ⟨M, rfl⟩ : ∃ m, M = m + 1 := ⟨M - 1, by omega⟩
    have q0 : 0 < q := by
      by_cases z : q = 0
      · rw [z, dp_0] at hq; omega
      · omega
    obtain ⟨j, j1, j2, j3, j4, j5⟩ := hA.byc q q0 hf
    obtain ⟨-, d2, -⟩ := depth_both hn hA hf
    have e1 : o (dp (prn h) q) - 1 = o i := by rw [show (1 : Int32) = o 1 from rfl, o_sub (by omega), hq]; rfl
    have hin : sIn (o q) 160 = true := by rw [sIn_o 160 (by omega), decide_eq_true (by omega)]
    refine ⟨j, j1, ?_, ?_⟩
    · rw [sFx_s]; unfold F_A_codeOnWay_11; dsimp only
      rw [e1, if_pos ((o_le (by omega) (by omega)).mpr (Nat.le_refl _)), hin, sGd_true, ix_o (by omega), j2]
    · rw [sFx_s]; unfold F_M_way_78
      rw [d2, Option.bind_some, show o i + 1 = o (i + 1) from o_add i 1, if_pos ((o_le (by omega) (by omega)).mpr (by omega)), hin]
      simp only [sGd_true, ix_o (show q < 2147483648 by omega), j3, j4, j5]
  | succ c ih =>
    intro q M hq hf hM
    obtain ⟨M, rfl⟩ : ∃ m, M = m + 1 := ⟨M - 1, by omega⟩
    have q0 : 0 < q := by
      by_cases z : q = 0
      · rw [z, dp_0] at hq; omega
      · omega
    obtain ⟨p1, p2, p3⟩ := prn_ok hA q0 hf
    have hs := dp_s hP q0 hf
    have hd := dp_le hP q q (Nat.le_refl _) hf
    obtain ⟨j, j1, j2, j3⟩ := ih (prn h q) M (by omega) (by omega) (by omega)
    obtain ⟨-, d2, -⟩ := depth_both hn hA hf
    have e1 : o (dp (prn h) q) - 1 = o (dp (prn h) (prn h q)) := by rw [show (1 : Int32) = o 1 from rfl, o_sub (by omega), hs]; rfl
    have hin : sIn (o q) 160 = true := by rw [sIn_o 160 (by omega), decide_eq_true (by omega)]
    refine ⟨j, j1, ?_, ?_⟩
    · rw [sFx_s]
      generalize sFx (F_A_codeOnWay_11 n y1 (o i) h) M = X at j2 ⊢
      unfold F_A_codeOnWay_11; dsimp only
      rw [e1, if_neg (fun z => by have := (o_le (by omega) (by omega)).mp z; omega), hin, sGd_true, ix_o (by omega), p2, ← os1]
      exact j2
    · rw [sFx_s]
      generalize sFx (F_M_way_78 n x1 (o i) x3 g) M = X at j3 ⊢
      unfold F_M_way_78
      rw [d2, Option.bind_some, show o i + 1 = o (i + 1) from o_add i 1, if_neg (fun z => by have := (o_le (by omega) (by omega)).mp z; omega), hin, sGd_true, ix_o (by omega), p3]
      exact j3
theorem f_way (hn : 1100 ≤ n) (hI : Iv n h g) (x1 x2 x3 : Int32) : FcI n (J_L_way n x1 x2 x3 h) (J_M_way n x1 x2 x3 g) := by
  have hI' := hI
  obtain ⟨w, hw, t, k, hW, hK, hP, hA⟩ := hI
  have hR := hW.p.2.2.2.1.1
  have hE := hW.a.e4
  unfold J_L_way J_S_way J_M_way K_S_way_15 K_M_way_24 K_M_way_29
  rw [hW.a.rm.1, hW.a.rm.2, hW.a.en.2]
  by_cases h0 : w.mo 3 = 0
  · rw [h0]; exact FcI_no hI' 1 (by decide) rfl rfl
  have l0 : ¬ o (w.mo 3) ≤ (0 : Int32) := fun z => by have := (o_le (by omega) (by omega : 0 < 2147483648)).mp z; omega
  have n0 : ¬ o (w.mo 3) = (0 : Int32) := fun z => h0 ((o_inj (by omega) (by omega : 0 < 2147483648)).mp z)
  rw [if_neg l0, if_neg n0, if_neg (by decide), W_ending hW, Option.bind_some]
  have no := no_sIn x1 (R := w.mo 4) (by omega)
  cases c : sIn x1 (w.mo 4) with
  | false =>
    rw [c] at no
    rw [if_pos (show oB false = 0 from rfl)]
    by_cases a1 : x1 < 0
    · rw [if_pos a1]; exact FcI_no hI' 2 (by decide) rfl rfl
    · rw [if_neg a1] at no ⊢
      by_cases a2 : x1 < o (w.mo 4)
      · rw [if_pos a2] at no; exact absurd (Option.some.inj no) (by decide)
      · rw [if_neg a2]; exact FcI_no hI' 2 (by decide) rfl rfl
  | true =>
    obtain ⟨e, he, rfl⟩ := of_sIn c
    have l1 : ¬ o e < (0 : Int32) := fun z => by have := (o_lt (by omega) (by omega : 0 < 2147483648)).mp z; omega
    have l2 : o e < o (w.mo 4) := (o_lt (by omega) (by omega)).mpr he
    obtain ⟨x, fin, e1, e2, e3, e4, e5⟩ := over_all (by omega) (show e < 4 by omega) hP hA
    rw [if_neg (show ¬ oB true = 0 by decide), if_neg l1, if_pos l2, if_pos (show (0 : Int32) ≤ 0 by decide), e1, e2]
    simp only [Option.bind_some]
    have yes : ∀ r : Int32, FcI n (jC (some ((.ok r : Except Nat Int32), h)) (fun v7 h7 => some ((0 : Int32), (pL h7 41 (ix 0) (Int32.toInt64 v7)))) (fun k h => if k = 2 then some ((1 : Int32), h) else (if k = 0 then some ((2 : Int32), h) else none))) (some (r, pI g 0 0 0)) := fun r => FcI_say hI' r rfl rfl
    rcases e5 with rfl | ⟨q, f, d, full, i1, rfl, hA'⟩
    · exact yes (-1)
    · have f160 := hA'.f160
      have m1 : ¬ o q = (-1 : Int32) := fun z => by
        have : (o q).toInt = (-1 : Int32).toInt := by rw [z]
        rw [o_toInt (by omega)] at this
        have z1 : (-1 : Int32).toInt = -1 := rfl
        omega
      have m2 : ¬ o q < (0 : Int32) := fun z => by have := (o_lt (by omega) (by omega : 0 < 2147483648)).mp z; omega
      obtain ⟨d1, d2, d3⟩ := depth_both (n := n) (by omega) hA' i1
      rw [if_neg m1, if_neg m2, d1, d2]
      simp only [Option.bind_some]
      rw [frm_sIn n x2 (by omega), Option.bind_some]
      have no2 := no_sIn x2 (R := dp (prn h) q) (by omega)
      cases c2 : sIn x2 (dp (prn h) q) with
      | false =>
        rw [if_pos (show oB false = 0 from rfl)]
        rw [c2] at no2
        by_cases a1 : x2 < 0
        · rw [if_pos a1]; exact yes (-1)
        · rw [if_neg a1] at no2 ⊢
          by_cases a2 : x2 < o (dp (prn h) q)
          · rw [if_pos a2] at no2; exact absurd (Option.some.inj no2) (by decide)
          · rw [if_pos (i32_le.mpr (by rw [i32_lt] at a2; omega))]; exact yes (-1)
      | true =>
        obtain ⟨i, hi, rfl⟩ := of_sIn c2
        have k1 : ¬ o i < (0 : Int32) := fun z => by have := (o_lt (by omega) (by omega : 0 < 2147483648)).mp z; omega
        have k2 : ¬ o (dp (prn h) q) ≤ o i := fun z => by have := (o_le (by omega) (by omega)).mp z; omega
        obtain ⟨j, j1, j2, j3⟩ := wayL (n := n) (by omega) hA' (o e) x3 (o q) (show i < 160 by omega) (dp (prn h) q - (i + 1)) q n (by omega) i1 (by omega)
        rw [if_neg (show ¬ oB true = 0 by decide), if_neg k1, if_neg k2]
        unfold J_A_codeOnWay
        rw [d1, Option.bind_some, j2, j3, Option.bind_some, D_verb j1, D_first j1, D_second j1]
        simp only [Option.bind_some]
        by_cases v0 : x3 = 0
        · subst v0; exact yes _
        by_cases v1 : x3 = 1
        · subst v1; exact yes _
        by_cases v2 : x3 = 2
        · subst v2; exact yes _
        rw [if_neg v0, if_neg v1, if_neg v2]
        by_cases a1 : x3 < 0
        · rw [if_pos a1]; exact yes (-1)
        · rw [if_neg a1]
          have : ¬ x3 ≤ 2 := fun z => by
            have z2 : (2 : Int32).toInt = 2 := rfl
            have z0 : (0 : Int32).toInt = 0 := rfl
            have y := i32_le.mp z
            rw [i32_lt] at a1
            obtain ⟨m, rfl, y1, y2⟩ := of_range (p := x3) (a := 0) (b := 2) (by omega) (by omega) (by omega)
            have : m = 0 ∨ m = 1 ∨ m = 2 := by omega
            rcases this with rfl | rfl | rfl
            · exact v0 rfl
            · exact v1 rfl
            · exact v2 rfl
          rw [if_neg this]; exact yes (-1)
end RF
