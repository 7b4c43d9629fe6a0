section SF
variable {n : Nat} {h g : sHp}
theorem f_study (hn : 1100 ≤ n) (hI : Iv n h g) (x1 x2 : Int32) : FcI n (J_L_study n x1 x2 h) (J_M_study n x1 x2 g) := by
  have hI' := hI
  obtain ⟨w, hw, t, k, hW, hK, hP, hA⟩ := hI
  have hR := hW.p.2.2.2.1.1
  have hU := hW.p.1.1
  have t60 := hP.t60
  have z0 : (0 : Int32).toInt = 0 := rfl
  have z4 : (4 : Int32).toInt = 4 := rfl
  unfold J_L_study J_S_study J_M_study K_S_study_15 K_M_study_21 K_M_study_26
  rw [hW.a.rm.1, hW.a.rm.2]
  by_cases h0 : w.mo 3 = 0
  · rw [h0]; exact FcI_no hI' 1 (by decide) rfl rfl
  have l0 : ¬ o (w.mo 3) ≤ (0 : Int32) := fun z => by have := (o_le (by omega) (by omega : 0 < 2147483648)).mp z; omega
  have n0 : ¬ o (w.mo 3) = (0 : Int32) := fun z => h0 ((o_inj (by omega) (by omega : 0 < 2147483648)).mp z)
  rw [if_neg l0, if_neg n0, if_neg (by decide), frm_eq, z0, z4, Option.bind_some]
  by_cases c1 : 0 ≤ x1.toInt ∧ x1.toInt ≤ 4
  · obtain ⟨m, rfl, k1, k2⟩ := of_range (by omega) c1.1 c1.2
    have l1 : ¬ o m < (0 : Int32) := fun z => by have := i32_lt.mp z; omega
    have l2 : o m ≤ (4 : Int32) := i32_le.mpr (by omega)
    rw [decide_eq_true c1, if_neg (show ¬ oB true = 0 by decide), if_neg l1, if_pos l2, if_pos (show (0 : Int32) ≤ 0 by decide)]
    have yes : ∀ r : Int32, FcI n (jC (some ((.ok r : Except Nat Int32), h)) (fun v5 h5 => some ((0 : Int32), (pL h5 41 (ix 0) (Int32.toInt64 v5)))) (fun k h => if k = 2 then some ((1 : Int32), h) else (if k = 1 then some ((2 : Int32), h) else none))) (some (r, pI g 0 0 0)) := fun r => FcI_say hI' r rfl rfl
    have hm : m = 0 ∨ m = 1 ∨ m = 2 ∨ m = 3 ∨ m = 4 := by omega
    -- the answers of an unfinished atlas
    have unf : m ≠ 0 → J_A_isFinished n h = some 0 → J_M_finished n (pI g 0 0 0) = some 0 → FcI n (jC (if o m = 0 then (some ((.ok (jMmax (h.1 6 10) 1) : Except Nat Int32), h)) else ((J_A_isFinished n h).bind fun v47 =>
  if v47 = 0 then (if o m = 1 then (some (.ok 2, h)) else (some (.ok (-1), h))) else (if o m = 1 then (sGd (sIn (h.1 0 5) 61) ((J_A_isHopeless n (h.2 7 (ix (h.1 0 5))) h).bind fun v105 =>
  if v105 = 0 then (some (.ok 0, h)) else (some (.ok 1, h)))) else (if o m = 2 then ((J_S_spoilingTurn n h).bind fun v118 =>
  some (.ok v118, h)) else (if o m = 3 then ((J_A_countStuck n h).bind fun v126 =>
  some (.ok v126, h)) else ((J_A_idleRule n x2 (h.1 3 7) h).bind fun v145 =>
  some (.ok v145, h))))))) (fun v5 h5 => some ((0 : Int32), (pL h5 41 (ix 0) (Int32.toInt64 v5)))) (fun k h => if k = 2 then some ((1 : Int32), h) else (if k = 1 then some ((2 : Int32), h) else none))) (if o m = 0 then (some ((g.1 0 49), (pI g 0 0 0))) else ((J_M_finished n (pI g 0 0 0)).bind fun v48 =>
  if v48 = 0 then (if o m = 1 then (some (2, (pI g 0 0 0))) else (some ((-1), (pI g 0 0 0)))) else (if o m = 3 then ((J_M_stuck n (pI g 0 0 0)).bind fun v71 =>
  some (v71, (pI g 0 0 0))) else (if o m = 4 then ((J_M_unused n x2 (pI g 0 0 0)).bind fun v82 =>
  some (v82, (pI g 0 0 0))) else ((J_M_judge n (pI g 0 0 0)).bind fun v87 =>
  (J_M_search n (v87.1 0 42) (v87.1 0 43) v87).bind fun v103 =>
  sGd (sIn v103 160) (if (v87.1 41 (ix v103)) = 0 then (K_M_study_115 n (o m) x2 1 v87) else (K_M_study_115 n (o m) x2 0 v87))))))) := fun hm0 q1 q2 => by
      have nm : ¬ o m = (0 : Int32) := fun z => hm0 ((o_inj (by omega) (by omega : 0 < 2147483648)).mp z)
      rw [if_neg nm, if_neg nm, q1, q2, Option.bind_some, Option.bind_some, if_pos rfl, if_pos rfl]
      by_cases c : o m = 1
      · rw [if_pos c, if_pos c]; exact yes 2
      · rw [if_neg c, if_neg c]; exact yes (-1)
    rcases hA with hA | ⟨f, d, full, hA⟩
    · by_cases hm0 : m = 0
      · subst hm0
        rw [if_pos (show o 0 = 0 from rfl), if_pos (show o 0 = 0 from rfl), hA.c1.1, hA.c2.1]
        exact yes _
      · have hA' := AtC_keep (ka_refl h) (kr00 g) hA
        refine unf hm0 ?_ ?_
        · unfold J_A_isFinished; rw [hA.c1.1, if_pos (by decide)]
        · unfold J_M_finished; rw [hA'.c2.1, hA'.c2.2.1, hA'.c2.2.2.1]; rfl
    · have f160 := hA.f160
      have f1 := hA.f1
      by_cases hm0 : m = 0
      · subst hm0
        rw [if_pos (show o 0 = 0 from rfl), if_pos (show o 0 = 0 from rfl), hA.fo.1, hA.fo.2]
        have : jMmax (o f) 1 = o f := by
          unfold jMmax
          rw [if_neg (fun z => by have := (o_lt (by omega) (by omega : 1 < 2147483648)).mp z; omega)]
        rw [this]
        exact yes _
      have hA' := AtO_keep (ka_refl h) (kr00 g) hA
      have hP' : Pl n w hw t k h (pI g 0 0 0) := Pl_keep ⟨fun _ _ _ => rfl, fun _ => rfl⟩ (fun j m z => by rw [pI_i, if_neg (by omega)]) hP
      have hW' := Wr_keep (Kc_refl h) (Kg_pI (x := 0) (i := 0) (k := 0) (Kg_refl g) (by omega)) hW
      obtain ⟨q1, q2⟩ := fin_both hA'
      by_cases hd : d = f
      · rw [if_pos hd] at q1 q2
        have nm : ¬ o m = (0 : Int32) := fun z => hm0 ((o_inj (by omega) (by omega : 0 < 2147483648)).mp z)
        rw [if_neg nm, if_neg nm, q1, q2, Option.bind_some, Option.bind_some, if_neg (show ¬ (1 : Int32) = 0 by decide), if_neg (show ¬ (1 : Int32) = 0 by decide)]
        -- the judge
        obtain ⟨gj, p', j1, j2, j3⟩ := M_judge (n := n) (by omega) hW' hK hA'
        have hJ : Jd (pI g 0 0 0) gj f (hpf h) := Jd_eq j2 (fun i hi => by
          rw [Bool.eq_iff_iff, j3 i, hA'.hp hd i (by omega)])
        obtain ⟨x, x1, x2'⟩ := line_found hP' hA' hd t (Nat.le_refl _)
        have a1 := E_hopeless (n := n) (by omega) hA' x1
        have a2 := M_found (n := n) (by omega) hA' hJ x1
        rw [x2'] at a1 a2
        have p42 : gj.1 0 42 = o (eA (h.2 7 t)) := by rw [hJ.2.1 0 42 (by omega)]; exact hP'.now.1
        have p43 : gj.1 0 43 = o (eB (h.2 7 t)) := by rw [hJ.2.1 0 43 (by omega)]; exact hP'.now.2
        have hIj : Iv n h gj := Iv_keep (Kc_refl h) (fun j m z => by rw [hJ.2.1 j m (by omega), pI_i, if_neg (by omega)]) ⟨fun _ _ _ => rfl, fun _ => rfl⟩ (fun j m z => by rw [hJ.2.1 j m (by omega), pI_i, if_neg (by omega)]) (ka_refl h) (fun j m z => by rw [hJ.2.1 j m (by omega), pI_i, if_neg (by omega)]) hI'
        have gj0 : gj.1 0 0 = 0 := by rw [hJ.2.1 0 0 (by omega), pI_i, if_pos ⟨rfl, rfl⟩]
        have yesj : ∀ r : Int32, FcI n (jC (some ((.ok r : Except Nat Int32), h)) (fun v5 h5 => some ((0 : Int32), (pL h5 41 (ix 0) (Int32.toInt64 v5)))) (fun k h => if k = 2 then some ((1 : Int32), h) else (if k = 1 then some ((2 : Int32), h) else none))) (some (r, gj)) := fun r => ⟨0, pL h 41 0 (Int32.toInt64 r), _, _, rfl, rfl, gj0, fun _ => by rw [pL_i, if_pos ⟨rfl, rfl⟩], Iv_out hIj _⟩
        have ejudge : ((J_M_judge n (pI g 0 0 0)).bind fun v87 => (J_M_search n (v87.1 0 42) (v87.1 0 43) v87).bind fun v103 => sGd (sIn v103 160) (if (v87.1 41 (ix v103)) = 0 then (K_M_study_115 n (o m) x2 1 v87) else (K_M_study_115 n (o m) x2 0 v87))) = K_M_study_115 n (o m) x2 (oB (!hpf h x)) gj := by
          rw [j1, Option.bind_some, p42, p43, a2, Option.bind_some, sIn_o 160 (by omega), decide_eq_true (by omega), sGd_true, ix_o (by omega), hJ.2.2 x x1]
          cases hpf h x <;> rfl
        have h5 : h.1 0 5 = o t := hP.tr.1
        rcases hm with rfl | rfl | rfl | rfl | rfl
        · exact absurd rfl hm0
        · rw [if_pos (show o 1 = 1 from rfl), if_neg (show ¬ o 1 = 3 by decide), if_neg (show ¬ o 1 = 4 by decide), ejudge, h5, sIn_o 61 (by omega), decide_eq_true (by omega), sGd_true, ix_o (by omega), a1, Option.bind_some]
          unfold K_M_study_115
          rw [if_pos (show o 1 = 1 from rfl)]
          cases hpf h x with
          | true => exact yesj 0
          | false => exact yesj 1
        · rw [if_neg (show ¬ o 2 = 1 by decide), if_pos (show o 2 = 2 from rfl), if_neg (show ¬ o 2 = 3 by decide), if_neg (show ¬ o 2 = 4 by decide), ejudge]
          unfold K_M_study_115 J_S_spoilingTurn J_M_blamed
          rw [if_neg (show ¬ o 2 = 1 by decide), h5, sIn_o 61 (by omega), decide_eq_true (by omega), sGd_true, ix_o (by omega), a1, Option.bind_some]
          obtain ⟨y, y1, y2⟩ := spoil (n := n) (by omega) hP' hA' hd hJ t n (Nat.le_refl _) (by omega)
          have g44 : gj.1 0 44 = o t := by rw [hJ.2.1 0 44 (by omega)]; exact hP'.tr.2
          rw [g44, os1, y1, y2]
          cases hpf h x with
          | true => exact yesj (-1)
          | false => exact yesj y
        · rw [if_neg (show ¬ o 3 = 1 by decide), if_neg (show ¬ o 3 = 2 by decide), if_pos (show o 3 = 3 from rfl), if_pos (show o 3 = 3 from rfl)]
          obtain ⟨y, y1, y2⟩ := stuckL (n := n) (by omega) hA' hd f 0 n 0 (by omega) (by omega)
          unfold J_A_countStuck J_M_stuck
          rw [show ((0 : Int32), (0 : Int32)) = (o 0, o 0) from rfl, y1, y2]
          exact yes y
        · rw [if_neg (show ¬ o 4 = 1 by decide), if_neg (show ¬ o 4 = 2 by decide), if_neg (show ¬ o 4 = 3 by decide), if_neg (show ¬ o 4 = 3 by decide), if_pos (show o 4 = 4 from rfl)]
          have e12 : (pI g 0 0 0).1 0 12 = o w.U := by rw [pI_i, if_neg (by omega)]; exact hW.p.1.2.2.1
          have e := idle_both hA' e12 x2
          obtain ⟨y, y1⟩ := idle_some (n := n) (h := h) hU x2 w.U 0 n 0 (by omega) (by omega)
          have y2 : J_A_idleRule n x2 (o w.U) h = some y := y1
          rw [hW.p.1.2.1, ← e, y2]
          exact yes y
      · rw [if_neg hd] at q1 q2
        exact unf hm0 q1 q2
  · rw [decide_eq_false c1, if_pos (show oB false = 0 from rfl)]
    by_cases l1 : x1 < 0
    · rw [if_pos l1]; exact FcI_no hI' 2 (by decide) rfl rfl
    · have l2 : ¬ x1 ≤ 4 := fun z => c1 ⟨by rw [i32_lt] at l1; omega, by have := i32_le.mp z; omega⟩
      rw [if_neg l1, if_neg l2]; exact FcI_no hI' 2 (by decide) rfl rfl
end SF
