section EF
variable {h g : sHp} {n : Nat} {w : Wp}
theorem eff_tail (hn : 8 ≤ n) (hI : Iv n h g) (hW : Wr w h g) {q : Nat} (hq : q < w.U) {kd x y : Int32} (hx : okE w.mo kd x y) :
    FcV n (jC ((J_C_hasSpace_1 n (o q) h).bind fun v77 => if v77 = 0 then some ((.error 2 : Except Nat Unit), h) else ((J_C_append_1 n (o q) kd x y h).bind fun v98 => (J_S_startAnew n v98).bind fun v102 => some (.ok (), v102))) (fun v6 h6 => some ((0 : Int32), h6)) (fun k h => if k = 0 then some ((1 : Int32), h) else (if k = 1 then some ((2 : Int32), h) else (if k = 2 then some ((3 : Int32), h) else none)))) (K_M_effect_121 n (o q) kd x y (pI g 0 0 0)) := by
  have hU := hW.p.1.1
  obtain ⟨qa, qc, ⟨c, c0, c1, c2, c3⟩⟩ := hW.p.1.2.2.2.2 q hq
  have hin : sIn (o q) 12 = true := by rw [sIn_o 12 (by omega), decide_eq_true (by omega)]
  have g17 : (pI g 0 0 0).1 17 q = o c := by rw [pI_i, if_neg (by omega)]; exact c2
  unfold J_C_hasSpace_1 J_C_append_1 J_C_endOf_1 K_M_effect_121 K_M_effect_122 K_M_effect_149
  simp only [hin, sGd_true, ix_o (show q < 2147483648 by omega), c1, g17, if_true, Option.bind_some]
  by_cases h3 : c = 3
  · rw [h3]; exact FcV_no2 hI 3 0 rfl rfl
  · have l3 : ¬ (3 : Int32) ≤ o c := fun z => by have := (o_le (by omega : 3 < 2147483648) (by omega)).mp z; omega
    have n3 : ¬ o c = (3 : Int32) := fun z => h3 ((o_inj (by omega) (by omega : 3 < 2147483648)).mp z)
    have hin2 : sIn (o (3 * q + c)) 36 = true := by rw [sIn_o 36 (by omega), decide_eq_true (by omega)]
    simp only [if_neg l3, if_neg n3, c3q, q3c, hin2, sGd_true, ix_o (show 3 * q + c < 2147483648 by omega), if_neg (show ¬ (1 : Int32) = 0 by decide), Option.bind_some, if_pos (show (0 : Int32) ≤ 0 by decide), show o c + 1 = o (c + 1) from o_add _ 1]
    generalize hi : 3 * q + c = i
    have hW1 : Wr w (pI (pI (pI (pI h 31 i kd) 32 i x) 33 i y) 30 q (o (c + 1))) (pI (pI (pI (pI (pI (pI g 0 0 0) 0 0 0) 18 i kd) 19 i x) 20 i y) 17 q (o (c + 1))) := by
      obtain ⟨p, aa⟩ := hW
      refine ⟨⟨⟨hU, by (repeat (rw [pI_i, if_neg (by omega)])); exact p.1.2.1, by (repeat (rw [pI_i, if_neg (by omega)])); exact p.1.2.2.1, fun j hj => ?_, fun q' hq' => ?_⟩, WrM_k (fun m => by (repeat (rw [pI_i, if_neg (by omega)]))) (fun m => by (repeat (rw [pI_i, if_neg (by omega)]))) (fun t ht => rfl) p.2.1, WrK_k (fun m => by (repeat (rw [pI_i, if_neg (by omega)]))) (fun m => by (repeat (rw [pI_i, if_neg (by omega)]))) p.2.2.1, WrX_k (Nat.le_refl _) (fun j m z => by (repeat (rw [pI_i, if_neg (by omega)]))) (fun j m z => by (repeat (rw [pI_i, if_neg (by omega)]))) p.2.2.2.1, WrW_k (Nat.le_refl _) (Nat.le_refl _) (fun j m z => by (repeat (rw [pI_i, if_neg (by omega)]))) (fun j m z => by (repeat (rw [pI_i, if_neg (by omega)]))) p.2.2.2.2.1, WrT_k (Nat.le_refl _) (fun j m z => by (repeat (rw [pI_i, if_neg (by omega)]))) (fun j m z => by (repeat (rw [pI_i, if_neg (by omega)]))) p.2.2.2.2.2⟩, ?_⟩
      · obtain ⟨⟨y1, y2, y3⟩, y4, y5, y6⟩ := p.1.2.2.2.1 j hj
        refine ⟨⟨by (repeat (rw [pI_i, if_neg (by omega)])); exact y1, by (repeat (rw [pI_i, if_neg (by omega)])); exact y2, by (repeat (rw [pI_i, if_neg (by omega)])); exact y3⟩, ?_⟩
        by_cases hji : j = i
        · subst hji; simp [pI_i]
        · refine ⟨by (repeat (rw [pI_i, if_neg (by omega)])); exact y4, by (repeat (rw [pI_i, if_neg (by omega)])); exact y5, by (repeat (rw [pI_i, if_neg (by omega)])); exact y6⟩
      · obtain ⟨⟨a1, a2, a3, a4, a5⟩, ⟨d', d0, d1, d2, d3⟩, c', c0', c1', c2', c3'⟩ := p.1.2.2.2.2 q' hq'
        refine ⟨⟨by (repeat (rw [pI_i, if_neg (by omega)])); exact a1, by (repeat (rw [pI_i, if_neg (by omega)])); exact a2, by (repeat (rw [pI_i, if_neg (by omega)])); exact a3, by (repeat (rw [pI_i, if_neg (by omega)])); exact a4, by (repeat (rw [pI_i, if_neg (by omega)])); exact a5⟩, ⟨d', d0, by (repeat (rw [pI_i, if_neg (by omega)])); exact d1, by (repeat (rw [pI_i, if_neg (by omega)])); exact d2, fun j z1 z2 => ?_⟩, ?_⟩
        · rw [show (pI (pI (pI (pI h 31 i kd) 32 i x) 33 i y) 30 q (o (c + 1))).1 27 j = h.1 27 j by (repeat (rw [pI_i, if_neg (by omega)])), show (pI (pI (pI (pI h 31 i kd) 32 i x) 33 i y) 30 q (o (c + 1))).1 28 j = h.1 28 j by (repeat (rw [pI_i, if_neg (by omega)]))]
          exact d3 j z1 z2
        · by_cases hqq : q' = q
          · subst hqq
            refine ⟨c + 1, by omega, by rw [pI_i, if_pos ⟨rfl, rfl⟩], by rw [pI_i, if_pos ⟨rfl, rfl⟩], fun j z1 z2 => ?_⟩
            by_cases hji : j = i
            · subst hji
              rw [show (pI (pI (pI (pI h 31 j kd) 32 j x) 33 j y) 30 q' (o (c + 1))).1 31 j = kd by simp [pI_i], show (pI (pI (pI (pI h 31 j kd) 32 j x) 33 j y) 30 q' (o (c + 1))).1 32 j = x by simp [pI_i], show (pI (pI (pI (pI h 31 j kd) 32 j x) 33 j y) 30 q' (o (c + 1))).1 33 j = y by simp [pI_i]]
              exact hx
            · rw [show (pI (pI (pI (pI h 31 i kd) 32 i x) 33 i y) 30 q' (o (c + 1))).1 31 j = h.1 31 j by (repeat (rw [pI_i, if_neg (by omega)])), show (pI (pI (pI (pI h 31 i kd) 32 i x) 33 i y) 30 q' (o (c + 1))).1 32 j = h.1 32 j by (repeat (rw [pI_i, if_neg (by omega)])), show (pI (pI (pI (pI h 31 i kd) 32 i x) 33 i y) 30 q' (o (c + 1))).1 33 j = h.1 33 j by (repeat (rw [pI_i, if_neg (by omega)]))]
              exact c3 j z1 (by omega)
          · refine ⟨c', c0', by (repeat (rw [pI_i, if_neg (by omega)])); exact c1', by (repeat (rw [pI_i, if_neg (by omega)])); exact c2', fun j z1 z2 => ?_⟩
            rw [show (pI (pI (pI (pI h 31 i kd) 32 i x) 33 i y) 30 q (o (c + 1))).1 31 j = h.1 31 j by (repeat (rw [pI_i, if_neg (by omega)])), show (pI (pI (pI (pI h 31 i kd) 32 i x) 33 i y) 30 q (o (c + 1))).1 32 j = h.1 32 j by (repeat (rw [pI_i, if_neg (by omega)])), show (pI (pI (pI (pI h 31 i kd) 32 i x) 33 i y) 30 q (o (c + 1))).1 33 j = h.1 33 j by (repeat (rw [pI_i, if_neg (by omega)]))]
            exact c3' j z1 z2
      · exact ⟨⟨by (repeat (rw [pI_i, if_neg (by omega)])); exact aa.rm.1, by (repeat (rw [pI_i, if_neg (by omega)])); exact aa.rm.2⟩, ⟨by (repeat (rw [pI_i, if_neg (by omega)])); exact aa.th.1, by (repeat (rw [pI_i, if_neg (by omega)])); exact aa.th.2⟩, ⟨by (repeat (rw [pI_i, if_neg (by omega)])); exact aa.nu.1, by (repeat (rw [pI_i, if_neg (by omega)])); exact aa.nu.2⟩, ⟨by (repeat (rw [pI_i, if_neg (by omega)])); exact aa.en.1, by (repeat (rw [pI_i, if_neg (by omega)])); exact aa.en.2⟩, aa.e4, aa.n3, fun t ht => ⟨(aa.pl t ht).1, by (repeat (rw [pI_i, if_neg (by omega)])); exact (aa.pl t ht).2.1, by (repeat (rw [pI_i, if_neg (by omega)])); exact (aa.pl t ht).2.2⟩, fun t ht => ⟨(aa.kd t ht).1, by (repeat (rw [pI_i, if_neg (by omega)])); exact (aa.kd t ht).2.1, by (repeat (rw [pI_i, if_neg (by omega)])); exact (aa.kd t ht).2.2⟩, fun t ht => ⟨(aa.fn t ht).1, by (repeat (rw [pI_i, if_neg (by omega)])); exact (aa.fn t ht).2.1, by (repeat (rw [pI_i, if_neg (by omega)])); exact (aa.fn t ht).2.2⟩, fun t ht => ⟨(aa.ct t ht).1, by (repeat (rw [pI_i, if_neg (by omega)])); exact (aa.ct t ht).2.1, by (repeat (rw [pI_i, if_neg (by omega)])); exact (aa.ct t ht).2.2⟩, fun e he => (by obtain ⟨b, b1, b2⟩ := aa.gd e he; exact ⟨b, by (repeat (rw [pI_i, if_neg (by omega)])); exact b1, by (repeat (rw [pI_i, if_neg (by omega)])); exact b2⟩), aa.mn, aa.rk, fun i x y => by (repeat (rw [pI_i, if_neg (by omega)])); exact aa.ex i x y⟩
    exact FcV_yes hn hW1 (by simp [pI_i]) (fun h' hh => by rw [hh]; rfl) (fun g' hg => by rw [hg]; rfl)

theorem lev_e {k : Nat} (hk : k < 5) (y : Int32) (q x : Int32) (g : sHp) : ∃ b : Bool, J_S_isEffectLevel n (o k) y h = some (oB b) ∧ (if o k = 2 then (if y < 0 then (K_M_effect_117 n q (o k) x y g) else (if 1 < y then (K_M_effect_117 n q (o k) x y g) else (K_M_effect_98 n q (o k) x y g))) else (K_M_effect_98 n q (o k) x y g)) = (if b then K_M_effect_121 n q (o k) x y g else K_M_effect_117 n q (o k) x y g) ∧ (b = true → (k = 2 → ∃ c, c < 2 ∧ y = o c) ∧ (k = 3 → -7 ≤ y.toInt ∧ y.toInt ≤ 7)) := by
  have z0 : (0 : Int32).toInt = 0 := rfl
  have z1 : (1 : Int32).toInt = 1 := rfl
  have z7 : (7 : Int32).toInt = 7 := rfl
  have zm : (-7 : Int32).toInt = -7 := rfl
  unfold J_S_isEffectLevel K_M_effect_98
  simp only [frm_eq, nb_jB, z0, z1, z7, zm]
  have : k = 0 ∨ k = 1 ∨ k = 2 ∨ k = 3 ∨ k = 4 := by omega
  rcases this with rfl | rfl | rfl | rfl | rfl
  · exact ⟨true, rfl, rfl, fun _ => ⟨by omega, by omega⟩⟩
  · exact ⟨true, rfl, rfl, fun _ => ⟨by omega, by omega⟩⟩
  · refine ⟨_, rfl, ?_, fun z => ⟨fun _ => ?_, by omega⟩⟩
    · rw [if_pos (by decide), if_neg (show ¬ o 2 = 3 by decide)]
      by_cases a1 : y < 0
      · rw [if_pos a1, decide_eq_false (by have := i32_lt.mp a1; omega)]; rfl
      · rw [if_neg a1]
        by_cases a2 : 1 < y
        · rw [if_pos a2, decide_eq_false (by have := i32_lt.mp a2; omega)]; rfl
        · rw [if_neg a2, decide_eq_true (by rw [i32_lt] at a1 a2; omega)]; rfl
    · have z := of_decide_eq_true z
      obtain ⟨c, rfl, e1, e2⟩ := of_range (by omega) z.1 z.2
      exact ⟨c, by omega, rfl⟩
  · refine ⟨_, rfl, ?_, fun z => ⟨by omega, fun _ => of_decide_eq_true z⟩⟩
    rw [if_neg (by decide), if_pos (by decide)]
    by_cases a1 : y < -7
    · rw [if_pos a1, decide_eq_false (by have := i32_lt.mp a1; omega)]; rfl
    · rw [if_neg a1]
      by_cases a2 : y ≤ 7
      · rw [if_pos a2, decide_eq_true (by rw [i32_lt] at a1; have := i32_le.mp a2; omega)]; rfl
      · rw [if_neg a2, decide_eq_false (by rw [i32_le] at a2; omega)]; rfl
  · exact ⟨true, rfl, rfl, fun _ => ⟨by omega, by omega⟩⟩
/-- what an effect is about is there -/
def sbe (w : Wp) (k : Nat) (x : Int32) : Bool := if k = 4 then sIn x (w.mo 4) else sbj w k x
theorem sbe_okE (hW : Wr w h g) {k : Nat} (hk : k < 5) {x y : Int32} (hs : sbe w k x = true) (hp : k = 1 → pOk y (w.mo 3) w.T = true) (h2 : k = 2 → ∃ c, c < 2 ∧ y = o c) (h3 : k = 3 → -7 ≤ y.toInt ∧ y.toInt ≤ 7) : okE w.mo (o k) x y := by
  have hT := hW.p.2.2.1.1
  have hR := hW.p.2.2.2.1.1
  have hN := hW.a.n3
  have hE := hW.a.e4
  unfold sbe sbj at hs
  unfold okE
  have : k = 0 ∨ k = 1 ∨ k = 2 ∨ k = 3 ∨ k = 4 := by omega
  rcases this with rfl | rfl | rfl | rfl | rfl
  · rw [if_pos (by decide)]
    obtain ⟨a, h1, h2⟩ := of_sIn (R := w.mo 3) hs
    exact ⟨a, by omega, h2⟩
  · rw [if_neg (by decide), if_pos (by decide)]
    obtain ⟨a, h1, h2⟩ := of_sIn (R := w.T) hs
    obtain ⟨p, p1, p2, -⟩ := of_pOk (hp rfl) hR hT
    exact ⟨a, p, by omega, p1, h2, p2⟩
  · rw [if_neg (by decide), if_neg (by decide), if_pos (by decide)]
    obtain ⟨a, h1, h2'⟩ := of_sIn (R := w.T) hs
    obtain ⟨c, c1, c2⟩ := h2 rfl
    exact ⟨a, c, by omega, c1, h2', c2⟩
  · rw [if_neg (by decide), if_neg (by decide), if_neg (by decide), if_pos (by decide)]
    obtain ⟨a, h1, h2'⟩ := of_sIn (R := w.N) hs
    exact ⟨a, by omega, (hW.a.mn a (by omega)).mpr h1, h2', h3 rfl⟩
  · rw [if_neg (by decide), if_neg (by decide), if_neg (by decide), if_neg (by decide)]
    obtain ⟨a, h1, h2'⟩ := of_sIn (R := w.mo 4) hs
    exact ⟨a, by omega, h2'⟩
theorem f_effect (hn : 8 ≤ n) (hI : Iv n h g) (x1 x2 x3 x4 : Int32) : FcV n (J_L_effect n x1 x2 x3 x4 h) (J_M_effect n x1 x2 x3 x4 g) := by
  have hI' := hI
  obtain ⟨w, hw, t, k, hW, -⟩ := hI
  have hE := hW.a.e4
  have z0 : (0 : Int32).toInt = 0 := rfl
  have z4 : (4 : Int32).toInt = 4 := rfl
  -- what the reference asks of x, whatever the kind
  have hM : ∃ b : Int32, J_M_effect n x1 x2 x3 x4 g = K_M_effect_33 n x1 x2 x3 x4 b g ∧ ∀ k, k < 5 → x2 = o k → b = oB (!(sbe w k x3 && (decide (k ≠ 1) || pOk x4 (w.mo 3) w.T))) := by
    unfold J_M_effect K_M_effect_17
    by_cases h4 : x2 = 4
    · rw [if_pos h4]
      refine ⟨oB (!sIn x3 (w.mo 4)), ?_, fun k hk e => ?_⟩
      · have := no_sIn x3 (R := w.mo 4) (by omega)
        rw [hW.a.en.2]
        by_cases a1 : x3 < 0
        · rw [if_pos a1] at this ⊢
          rw [← Option.some.inj this]
        · rw [if_neg a1] at this ⊢
          by_cases a2 : x3 < o (w.mo 4)
          · rw [if_pos a2] at this ⊢
            rw [← Option.some.inj this]
          · rw [if_neg a2] at this ⊢
            rw [← Option.some.inj this]
      · have : k = 4 := by
          rw [h4] at e
          exact ((o_inj (by omega : 4 < 2147483648) (by omega)).mp e).symm
        subst this
        unfold sbe
        rw [if_pos rfl, decide_eq_true (by omega), Bool.true_or, Bool.and_true]
    · rw [if_neg h4]
      by_cases c2 : 0 ≤ x2.toInt ∧ x2.toInt ≤ 4
      · obtain ⟨k, rfl, k1, k2⟩ := of_range (by omega) c2.1 c2.2
        have hk : k < 5 := by omega
        refine ⟨_, by rw [M_lacks hW hk, Option.bind_some], fun k' hk' e => ?_⟩
        have : k = k' := (o_inj (by omega) (by omega)).mp e
        subst this
        unfold sbe
        rw [if_neg (fun z => h4 (by rw [z]; rfl))]
      · have : ∃ b, J_M_lacks n x2 x3 x4 g = some b := by
          unfold J_M_lacks
          rw [M_room hW, M_thing hW, M_number hW, M_place hW, nb_jB, nb_jB, nb_jB]
          have n0 : ¬ x2 = 0 := fun z => c2 (by rw [z]; decide)
          have n1 : ¬ x2 = 1 := fun z => c2 (by rw [z]; decide)
          have n2 : ¬ x2 = 2 := fun z => c2 (by rw [z]; decide)
          rw [if_neg n0, if_neg n1, if_neg n2]
          exact ⟨_, rfl⟩
        obtain ⟨b, hb⟩ := this
        refine ⟨b, by rw [hb, Option.bind_some], fun k hk e => absurd ?_ c2⟩
        rw [e, o_toInt (by omega)]; omega
  obtain ⟨b, hb, hb2⟩ := hM
  rw [hb]
  unfold J_L_effect J_S_effect K_M_effect_33
  rw [W_rule hW, M_rule hW, Option.bind_some, Option.bind_some, frm_eq, z0, z4]
  cases c1 : sIn x1 w.U
  · exact FcV_no hI' 1 rfl rfl
  obtain ⟨q, hq, rfl⟩ := of_sIn c1
  rw [if_neg (show ¬ oB true = 0 by decide), if_pos (show oB (!true) = 0 from rfl), Option.bind_some]
  by_cases c2 : 0 ≤ x2.toInt ∧ x2.toInt ≤ 4
  · obtain ⟨k, rfl, k1, k2⟩ := of_range (by omega) c2.1 c2.2
    have hk : k < 5 := by omega
    have l1 : ¬ o k < (0 : Int32) := fun z => by have := i32_lt.mp z; omega
    have l2 : o k ≤ (4 : Int32) := i32_le.mpr (by omega)
    have hb3 := hb2 k hk rfl
    subst hb3
    have hk4 : o k = (4 : Int32) ↔ k = 4 := o_inj (by omega) (by omega : 4 < 2147483648)
    have hk1 : o k = (1 : Int32) ↔ k = 1 := o_inj (by omega) (by omega : 1 < 2147483648)
    have es : (if o k = 4 then ((J_W_hasEnding n x3 h).bind fun v30 => K_S_effect_45 n (o q) (o k) x3 x4 v30 h) else ((J_W_hasSubject n (o k) x3 h).bind fun v42 => K_S_effect_45 n (o q) (o k) x3 x4 v42 h)) = K_S_effect_45 n (o q) (o k) x3 x4 (oB (sbe w k x3)) h := by
      unfold sbe
      by_cases k4 : k = 4
      · rw [if_pos (hk4.mpr k4), if_pos k4, W_ending hW, Option.bind_some]
      · rw [if_neg (fun z => k4 (hk4.mp z)), if_neg k4, W_subj hW hk, Option.bind_some]
    rw [decide_eq_true c2, if_neg (show ¬ oB true = 0 by decide), if_neg l1, if_pos l2, es]
    unfold K_S_effect_45
    cases c3 : sbe w k x3
    · exact FcV_no hI' 1 rfl rfl
    rw [if_neg (show ¬ oB true = 0 by decide), Bool.true_and]
    have fin : (k = 1 → pOk x4 (w.mo 3) w.T = true) → FcV n (jC (K_S_effect_65 n (o q) (o k) x3 x4 h) (fun v6 h6 => some ((0 : Int32), h6)) (fun k h => if k = 0 then some ((1 : Int32), h) else (if k = 1 then some ((2 : Int32), h) else (if k = 2 then some ((3 : Int32), h) else none)))) (K_M_effect_71 n (o q) (o k) x3 x4 0 g) := by
      intro hp
      obtain ⟨b, b1, b2, b3⟩ := lev_e (n := n) (h := h) hk x4 (o q) x3 (pI g 0 0 0)
      unfold K_S_effect_65 K_S_effect_70 K_M_effect_71
      rw [if_neg (show ¬ (1 : Int32) = 0 by decide), b1, Option.bind_some, if_pos (show (0 : Int32) ≤ 0 by decide), b2]
      cases b with
      | false => exact FcV_no2 hI' 2 0 rfl rfl
      | true => exact eff_tail hn hI' hW hq (sbe_okE hW hk c3 hp (b3 rfl).1 (b3 rfl).2)
    by_cases hk1' : k = 1
    · rw [if_pos (hk1.mpr hk1'), W_place hW, Option.bind_some, decide_eq_false (by omega), Bool.false_or]
      cases c4 : pOk x4 (w.mo 3) w.T
      · exact FcV_no hI' 1 rfl rfl
      · exact fin (fun _ => c4)
    · rw [if_neg (fun z => hk1' (hk1.mp z)), decide_eq_true (by omega), Bool.true_or]
      exact fin (fun z => absurd z hk1')
  · rw [decide_eq_false c2, if_pos (show oB false = 0 from rfl)]
    by_cases l1 : x2 < 0
    · rw [if_pos l1]; exact FcV_no hI' 2 rfl rfl
    · rw [if_neg l1, if_neg (fun z => c2 ⟨by rw [i32_lt] at l1; omega, by have := i32_le.mp z; omega⟩)]; exact FcV_no hI' 2 rfl rfl
end EF
