section XF
variable {n : Nat} {w : Wp} {hw h g : sHp}
theorem xend {f d : Nat} {full : Bool} (x1 : Int32) (hA : AtO n w hw f d full h g) : ∃ r, K_S_explore_84 n x1 h = some (.ok r, h) ∧ K_M_explore_114 n x1 g = some (r, g) := by
  have f160 := hA.f160
  have f1 := hA.f1
  have hdf := hA.df
  have lf : ¬ o f ≤ (0 : Int32) := fun z => by have := (o_le (by omega) (by omega : 0 < 2147483648)).mp z; omega
  unfold K_S_explore_84 K_M_explore_114 J_A_isFinished
  rw [hA.fu.1, hA.fu.2, hA.fo.1, hA.fo.2, hA.go.1, hA.go.2, if_neg lf]
  cases full with
  | true => exact ⟨2, rfl, rfl⟩
  | false =>
    rw [if_pos (show oB false = 0 from rfl), if_pos (show oB false = 0 from rfl)]
    by_cases c : o d = o f
    · rw [if_pos c, if_pos c]; exact ⟨1, rfl, rfl⟩
    · rw [if_neg c, if_neg c]; exact ⟨0, rfl, rfl⟩
theorem xloop (hn : 600 ≤ n) {F : Nat} (hF : F ≤ 1000) : ∀ c i M (h g : sHp) (f d : Nat) (full : Bool), i + c = F → c < M → Wr w h g → Kc hw h → AtO n w hw f d full h g →
    ∃ r h' g', sFx (F_S_explore_52 n (o F)) M (o i, h) = some (.ok r, h') ∧ sFx (F_M_explore_42 n (o F)) M (o i, g) = some (r, g') ∧ Wr w h' g' ∧ Kc hw h' ∧ Kp h h' ∧ Kq g g' ∧ g'.1 0 0 = g.1 0 0 ∧ ∃ f d full, AtO n w hw f d full h' g' := by
  intro c
  induction c with
  | zero =>
    intro i M h g f d full hi hM hW hK hA
    obtain ⟨M, rfl⟩ : ∃ m, M = m + 1 := ⟨M - 1, by omega⟩
    obtain ⟨r, e1, e2⟩ := xend (o F) hA
    have l : o F ≤ o i := (o_le (by omega) (by omega)).mpr (by omega)
    refine ⟨r, h, g, ?_, ?_, hW, hK, ⟨fun _ _ _ => rfl, fun _ => rfl⟩, fun _ _ _ => rfl, rfl, f, d, full, hA⟩
    · rw [sFx_s]; unfold F_S_explore_52; dsimp only
      rw [if_pos l]; exact e1
    · rw [sFx_s]; unfold F_M_explore_42; dsimp only
      rw [if_pos l]; exact e2
  | succ c ih =>
    intro i M h g f d full hi hM hW hK hA
    obtain ⟨M, rfl⟩ : ∃ m, M = m + 1 := ⟨M - 1, by omega⟩
    have f160 := hA.f160
    have hdf := hA.df
    have l : ¬ o F ≤ o i := fun z => by have := (o_le (by omega) (by omega)).mp z; omega
    by_cases more : d < f ∧ full = false
    · obtain ⟨hd, rfl⟩ := more
      obtain ⟨h1, g1, a1, a2, a3, a4, a5, a6, a7, a8⟩ := next_both hn hW hK hA hd (o F) (sFx (F_M_explore_42 n (o F)) M) (o i)
      have go : ∃ f d full, AtO n w hw f d full h1 g1 := by
        rcases a8 with ⟨f', x⟩ | ⟨f', x⟩
        · exact ⟨f', _, _, x⟩
        · exact ⟨f', _, _, x⟩
      obtain ⟨f', d', full', hA'⟩ := go
      obtain ⟨r, h2, g2, b1, b2, b3, b4, b5, b6, b7, b8⟩ := ih (i + 1) M h1 g1 f' d' full' (by omega) (by omega) a3 a4 hA'
      have ld : ¬ o f ≤ o d := fun z => by have := (o_le (by omega) (by omega)).mp z; omega
      refine ⟨r, h2, g2, ?_, ?_, b3, b4, ⟨fun j m z => (b5.1 j m z).trans (a5.1 j m z), fun m => (b5.2 m).trans (a5.2 m)⟩, fun j m z => (b6 j m z).trans (a6 j m z), b7.trans a7, b8⟩
      · rw [sFx_s]
        generalize sFx (F_S_explore_52 n (o F)) M = X at b1 ⊢
        unfold F_S_explore_52 J_A_hasMore; dsimp only
        rw [if_neg l, hA.fo.1, hA.go.1, if_neg ld, hA.fu.1, if_pos (show oB false = 0 from rfl), Option.bind_some, if_neg (by decide), a1, Option.bind_some, show o i + 1 = o (i + 1) from o_add i 1]
        exact b1
      · rw [sFx_s]
        generalize sFx (F_M_explore_42 n (o F)) M = X at b2 a2 ⊢
        unfold F_M_explore_42; dsimp only
        rw [if_neg l, hA.fu.2, if_pos (show oB false = 0 from rfl), hA.fo.2, hA.go.2, if_neg ld, sIn_o 160 (by omega), decide_eq_true (by omega), sGd_true, ix_o (by omega), a2, show o i + 1 = o (i + 1) from o_add i 1]
        exact b2
    · obtain ⟨r, e1, e2⟩ := xend (o F) hA
      refine ⟨r, h, g, ?_, ?_, hW, hK, ⟨fun _ _ _ => rfl, fun _ => rfl⟩, fun _ _ _ => rfl, rfl, f, d, full, hA⟩
      · rw [sFx_s]
        generalize sFx (F_S_explore_52 n (o F)) M = X
        unfold F_S_explore_52 J_A_hasMore; dsimp only
        rw [if_neg l, hA.fo.1, hA.go.1, hA.fu.1]
        by_cases hd : d < f
        · have hfu : full = true := by
            cases hf : full with
            | true => rfl
            | false => exact absurd ⟨hd, hf⟩ more
          rw [if_neg (fun z => by have := (o_le (by omega) (by omega)).mp z; omega), hfu, if_neg (show ¬ oB true = 0 by decide), Option.bind_some, if_pos rfl]; exact e1
        · rw [if_pos ((o_le (by omega) (by omega)).mpr (by omega)), Option.bind_some, if_pos rfl]; exact e1
      · rw [sFx_s]
        generalize sFx (F_M_explore_42 n (o F)) M = X
        unfold F_M_explore_42; dsimp only
        rw [if_neg l, hA.fo.2, hA.go.2, hA.fu.2]
        by_cases hd : d < f
        · have hfu : full = true := by
            cases hf : full with
            | true => rfl
            | false => exact absurd ⟨hd, hf⟩ more
          rw [hfu, if_neg (show ¬ oB true = 0 by decide)]; exact e2
        · rw [if_pos ((o_le (by omega) (by omega)).mpr (by omega)), e2, ite_self]
theorem f_explore (hn : 1100 ≤ n) (hI : Iv n h g) (x1 : Int32) : FcI n (J_L_explore n x1 h) (J_M_explore n x1 g) := by
  have hI' := hI
  obtain ⟨w, hw, t, k, hW, hK, hP, hA⟩ := hI
  have hR := hW.p.2.2.2.1.1
  have z0 : (0 : Int32).toInt = 0 := rfl
  have z1000 : (1000 : Int32).toInt = 1000 := rfl
  unfold J_L_explore J_S_explore J_M_explore K_S_explore_15 K_M_explore_23 K_M_explore_28
  rw [hW.a.rm.1, hW.a.rm.2]
  by_cases h0 : w.mo 3 = 0
  · rw [h0]; exact FcI_no hI' 1 (by decide) rfl rfl
  have l0 : ¬ o (w.mo 3) ≤ (0 : Int32) := fun z => by have := (o_le (by omega) (by omega : 0 < 2147483648)).mp z; omega
  have n0 : ¬ o (w.mo 3) = (0 : Int32) := fun z => h0 ((o_inj (by omega) (by omega : 0 < 2147483648)).mp z)
  rw [if_neg l0, if_neg n0, if_neg (by decide), frm_eq, z0, z1000, Option.bind_some]
  by_cases c1 : 0 ≤ x1.toInt ∧ x1.toInt ≤ 1000
  · obtain ⟨F, rfl, k1, k2⟩ := of_range (by omega) c1.1 c1.2
    have l1 : ¬ o F < (0 : Int32) := fun z => by have := i32_lt.mp z; omega
    have l2 : o F ≤ (1000 : Int32) := i32_le.mpr (by omega)
    rw [decide_eq_true c1, if_neg (show ¬ oB true = 0 by decide), if_neg l1, if_pos l2, if_pos (show (0 : Int32) ≤ 0 by decide)]
    have kg0 : Kg g (pI g 0 0 0) := Kg_pI (Kg_refl g) (by omega)
    have kr0 : Kr g (pI g 0 0 0) := fun j m z => by rw [pI_i, if_neg (by omega)]
    -- from an open atlas on
    have fin : ∀ h1, Kc h h1 → Kp h h1 → (∃ f d full, AtO n w hw f d full h1 (pI g 0 0 0)) → FcI n (jC (K_S_explore_50 n (o F) h1) (fun v4 h4 => some (0, (pL h4 41 (ix 0) (Int32.toInt64 v4)))) (fun k h => if k = 2 then some ((1 : Int32), h) else (if k = 1 then some ((2 : Int32), h) else none))) (sFx (F_M_explore_42 n (o F)) n (0, pI g 0 0 0)) := fun h1 kc kp ⟨f, d, full, hA1⟩ => by
      obtain ⟨r, h2, g2, b1, b2, b3, b4, b5, b6, b7, f2, d2, full2, b8⟩ := xloop (n := n) (by omega) (by omega : F ≤ 1000) F 0 n h1 (pI g 0 0 0) f d full (by omega) (by omega) (Wr_keep kc kg0 hW) (Kc_trans hK kc) hA1
      refine ⟨0, pL h2 41 0 (Int32.toInt64 r), r, g2, ?_, b2, by rw [b7, pI_i, if_pos ⟨rfl, rfl⟩], fun _ => by rw [pL_i, if_pos ⟨rfl, rfl⟩], Iv_out ⟨w, hw, t, k, b3, b4, Pl_keep ⟨fun j m z => (b5.1 j m z).trans (kp.1 j m z), fun m => (b5.2 m).trans (kp.2 m)⟩ (fun j m z => by rw [b6 j m z, pI_i, if_neg (by omega)]) hP, Or.inr ⟨f2, d2, full2, b8⟩⟩ _⟩
      unfold K_S_explore_50
      rw [show (0 : Int32) = o 0 from rfl, b1]; rfl
    rcases hA with hA | ⟨f, d, full, hA⟩
    · rw [hA.c1.1, if_pos rfl]
      obtain ⟨h1, a1, a2, a3, a4⟩ := open_both (hw := hw) (n := n) (by omega) hW (by omega) hP.fst hA
      rw [a1, Option.bind_some]
      exact fin h1 a2 a3 ⟨1, 0, false, AtO_keep ⟨fun _ _ _ => rfl, fun _ _ _ => rfl⟩ kr0 a4⟩
    · have f1 := hA.f1
      have f160 := hA.f160
      rw [hA.fo.1, if_neg (fun z => by have := (o_inj (by omega) (by omega : 0 < 2147483648)).mp z; omega)]
      exact fin h (Kc_refl h) ⟨fun _ _ _ => rfl, fun _ => rfl⟩ ⟨f, d, full, AtO_keep ⟨fun _ _ _ => rfl, fun _ _ _ => rfl⟩ kr0 hA⟩
  · rw [decide_eq_false c1, if_pos (show oB false = 0 from rfl)]
    by_cases l1 : x1 < 0
    · rw [if_pos l1]; exact FcI_no hI' 2 (by decide) rfl rfl
    · have l2 : ¬ x1 ≤ 1000 := fun z => c1 ⟨by rw [i32_lt] at l1; omega, by have := i32_le.mp z; omega⟩
      rw [if_neg l1, if_neg l2]; exact FcI_no hI' 2 (by decide) rfl rfl
end XF
