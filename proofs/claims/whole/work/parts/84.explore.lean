/-! explore, both sides. -/
section EX
variable {n : Nat} {w : Wp} {hw : sHp} {d : Nat}
theorem fld_full : ∀ c j (g : sHp), g.1 0 51 ≠ 0 → fld (bM n) c j g = some g := by
  intro c
  induction c with
  | zero => intro j g _; rfl
  | succ c ih =>
    intro j g hg
    show (bM n j g).bind (fld (bM n) c (j + 1)) = some g
    unfold bM
    rw [if_neg hg, Option.bind_some]
    exact ih (j + 1) g hg
theorem go_all (hn : 600 ≤ n) (s : Int64) : ∀ c j M (h g : sHp) (f : Nat), j + c = 441 → cnt w.T 441 - cnt w.T j < M → Wr w h g → Kc hw h → AtO n w hw f d false h g → d < f → h.2 35 d = s → Row n w hw f d j h →
    ∃ h' g', sFx (F_A_goThroughNext_38 n s (o (cnt w.T 441))) M (o (cnt w.T j), h) = K_A_goThroughNext_110 n h' ∧ fld (bM n) c j g = some g' ∧ Wr w h' g' ∧ Kc hw h' ∧ Kp h h' ∧ Kq g g' ∧ g'.1 0 0 = g.1 0 0 ∧ ((∃ f', AtO n w hw f' d false h' g' ∧ d < f' ∧ Row n w hw f' d 441 h') ∨ ∃ f', AtO n w hw f' d true h' g') := by
  intro c
  induction c with
  | zero =>
    intro j M h g f hj hM hW hK hA hd hs hR
    obtain ⟨M, rfl⟩ : ∃ m, M = m + 1 := ⟨M - 1, by omega⟩
    obtain rfl : j = 441 := by omega
    have hT := hW.p.2.2.1.1
    have c163 := cnt_tab w.T (by omega)
    refine ⟨h, g, ?_, rfl, hW, hK, ⟨fun _ _ _ => rfl, fun _ => rfl⟩, fun _ _ _ => rfl, rfl, Or.inl ⟨f, hA, hd, hR⟩⟩
    rw [sFx_s]; unfold F_A_goThroughNext_38; dsimp only
    rw [if_pos ((o_le (by omega) (by omega)).mpr (Nat.le_refl _))]
  | succ c ih =>
    intro j M h g f hj hM hW hK hA hd hs hR
    have hT := hW.p.2.2.1.1
    have hj' : j < 441 := by omega
    have c163 := cnt_tab w.T (by omega)
    have f0 : g.1 0 51 = 0 := hA.fu.2
    have f0' : h.1 6 11 = 0 := hA.fu.1
    show ∃ h' g', _ ∧ (bM n j g).bind (fld (bM n) c (j + 1)) = some g' ∧ _
    cases hc : ic w.T j with
    | false =>
      have b : bM n j g = some g := by
        unfold bM
        rw [if_pos f0, M_ic hW hj', Option.bind_some, hc]; rfl
      rw [b, Option.bind_some, ← cnt_skip hc]
      exact ih (j + 1) M h g f (by omega) (by rw [cnt_skip hc]; exact hM) hW hK hA hd hs (fun i hi hic => by
        by_cases hij : i = j
        · rw [hij, hc] at hic; exact absurd hic (by decide)
        · exact hR i (by omega) hic)
    | true =>
      obtain ⟨M, rfl⟩ : ∃ m, M = m + 1 := ⟨M - 1, by omega⟩
      obtain ⟨cl, -⟩ := cnt_lt hT hj' hc
      obtain ⟨h1, g1, a1, a2, a3, a4, a5, a6, a7, a8, a9⟩ := try_both hn hW hK hA hd hj' hc hR
      have b : bM n j g = some g1 := by
        unfold bM
        rw [if_pos f0, M_ic hW hj', Option.bind_some, hc, if_neg (show ¬ oB true = 0 by decide)]; exact a2
      have e1 : sFx (F_A_goThroughNext_38 n s (o (cnt w.T 441))) (M + 1) (o (cnt w.T j), h) = sFx (F_A_goThroughNext_38 n s (o (cnt w.T 441))) M (o (cnt w.T (j + 1)), h1) := by
        rw [sFx_s, cnt_step hc]
        generalize sFx (F_A_goThroughNext_38 n s (o (cnt w.T 441))) M = X
        rw [hs] at a1
        unfold F_A_goThroughNext_38; dsimp only
        rw [if_neg (fun z => by have := (o_le (by omega) (by omega)).mp z; omega), if_pos f0', sIn_o 163 (by omega), decide_eq_true (by omega), sGd_true, ix_o (by omega), hA.cm.2 j hj' hc, D_verb hj', Option.bind_some, D_first hj', Option.bind_some, D_second hj', Option.bind_some, show o (cnt w.T j) + 1 = o (cnt w.T j + 1) from o_add _ 1]
        cases ht : J_E_take n s (o (jv j)) (av (ja j)) (av (jb j)) h with
        | none => rw [ht] at a1; exact absurd a1 (by simp)
        | some v =>
          rw [ht, Option.bind_some] at a1
          rw [Option.bind_some, a1, Option.bind_some]
      rw [b, Option.bind_some, e1]
      rcases a9 with ⟨f', x1, x2, x3⟩ | x1
      · obtain ⟨h2, g2, y1, y2, y3, y4, y5, y6, y7, y8⟩ := ih (j + 1) M h1 g1 f' (by omega) (by rw [cnt_step hc]; omega) a3 a4 x1 x2 (by rw [a8, hs]) x3
        exact ⟨h2, g2, y1, y2, y3, y4, ⟨fun j m z => (y5.1 j m z).trans (a5.1 j m z), fun m => (y5.2 m).trans (a5.2 m)⟩, fun j m z => (y6 j m z).trans (a6 j m z), y7.trans a7, y8⟩
      · refine ⟨h1, g1, ?_, fld_full c (j + 1) g1 (by rw [x1.fu.2]; decide), a3, a4, a5, a6, a7, Or.inr ⟨f, x1⟩⟩
        obtain ⟨M, rfl⟩ : ∃ m, M = m + 1 := ⟨M - 1, by omega⟩
        have n0 : ¬ h1.1 6 11 = 0 := by rw [x1.fu.1]; decide
        rw [sFx_s]; unfold F_A_goThroughNext_38; dsimp only
        rw [if_neg n0, ite_self]
/-- the state gone through is done -/
theorem AtO_next {f : Nat} {h h' g : sHp} (x : AtO n w hw f d false h g) (hd : d < f) (hR : dg (h.2 35 d) 20 = 0 → Row n w hw f d 441 h) (i1 : ∀ j m, h'.1 j m = if j = 6 ∧ m = 9 then o (d + 1) else h.1 j m) (i2 : ∀ j m, j ≠ 40 → h'.2 j m = h.2 j m) (hp : d + 1 = f → ∀ i, i < 192 → (hpf h' i = true ↔ Hp f (ld h) (fun x => wn hw (h.2 35 x)) i)) : AtO n w hw f (d + 1) false h' (pI g 0 50 (o (d + 1))) := by
  have hq : ∀ j m, ¬ (j = 6 ∧ m = 9) → h'.1 j m = h.1 j m := fun j m z => by rw [i1, if_neg z]
  have gq : ∀ j m, ¬ (j = 0 ∧ m = 50) → (pI g 0 50 (o (d + 1))).1 j m = g.1 j m := fun j m z => by rw [pI_i, if_neg z]
  have e35 : h'.2 35 = h.2 35 := funext fun m => i2 35 m (by omega)
  have e70 : h'.2 7 0 = h.2 7 0 := i2 7 0 (by omega)
  have i38 : h'.1 38 = h.1 38 := funext fun m => hq 38 m (by omega)
  have eld : ld h' = ld h := by funext i j; unfold ld; rw [i2 39 _ (by omega)]
  have erf : rf (pI g 0 50 (o (d + 1))) = rf g := by funext i j; unfold rf; rw [gq _ _ (by omega)]
  obtain ⟨a1, a2, a3, a4, a5, a6, a7, a8, a9, a10, a11, a12, a13, a14, a15, a16, a17, a18, a19, a20, a21, a22, a23, a24⟩ := x
  refine ⟨a1, a2, by omega, fun z => absurd z (by decide), ?_, ?_, ?_, ?_, a9, by rw [e35, e70]; exact a10, by rw [e35]; exact a11, by rw [e35]; exact a12, fun i hi => ?_, fun i h1 h2 => ?_, ?_, fun i h1 h2 => ?_, ⟨?_, fun j h1 h2 => ?_⟩, by rw [eld, erf]; exact a18, by rw [eld]; exact a19, fun i hi ho j hj hc => ?_, by rw [i38]; exact a21, by rw [i38, e35]; exact a22, by rw [i38]; exact a23, by rw [eld, e35]; exact hp⟩
  · rw [hq _ _ (by omega), gq _ _ (by omega)]; exact a5
  · rw [i1, if_pos ⟨rfl, rfl⟩, pI_i, if_pos ⟨rfl, rfl⟩]; exact ⟨rfl, rfl⟩
  · rw [hq _ _ (by omega), gq _ _ (by omega)]; exact a7
  · rw [hq _ _ (by omega), gq _ _ (by omega)]; exact a8
  · rw [e35, gq _ _ (by omega), gq _ _ (by omega)]; exact a13 i hi
  · rw [hq _ _ (by omega), gq _ _ (by omega)]; exact a14 i h1 h2
  · rw [gq _ _ (by omega)]; exact a15
  · rw [hq _ _ (by omega), gq _ _ (by omega), gq _ _ (by omega), gq _ _ (by omega)]; exact a16 i h1 h2
  · rw [hq _ _ (by omega)]; exact a17.1
  · rw [hq _ _ (by omega)]; exact a17.2 j h1 h2
  · rw [e35] at ho ⊢
    rw [eld]
    by_cases hid : i = d
    · subst hid
      exact hR ho j hj hc
    · exact a20 i (by omega) ho j hj hc
/-- behind the commands of one state -/
theorem after_both {f : Nat} {h g : sHp} (hn : 600 ≤ n) (hW : Wr w h g) (hK : Kc hw h) (hA : AtO n w hw f d false h g) (hd : d < f) (hR : dg (h.2 35 d) 20 = 0 → Row n w hw f d 441 h) : ∃ h', K_A_goThroughNext_110 n h = some h' ∧ Wr w h' (pI g 0 50 (o (d + 1))) ∧ Kc hw h' ∧ Kp h h' ∧ AtO n w hw f (d + 1) false h' (pI g 0 50 (o (d + 1))) := by
  have f160 := hA.f160
  generalize hh1 : pI h 6 9 (o (d + 1)) = h1
  have k1 : ∀ j m, h1.1 j m = if j = 6 ∧ m = 9 then o (d + 1) else h.1 j m := fun j m => by rw [← hh1, pI_i]
  have k2 : h1.2 = h.2 := by rw [← hh1]; rfl
  have kc1 : Kc h h1 := fun j m z => by rw [k1, if_neg (by omega)]
  have kg : Kg g (pI g 0 50 (o (d + 1))) := Kg_pI (Kg_refl g) (by omega)
  have hW1 := Wr_keep kc1 kg hW
  have hfin : J_A_isFinished n h1 = some (if d + 1 = f then 1 else 0) := by
    have k10 : h1.1 6 10 = o f := by rw [k1, if_neg (by omega)]; exact hA.fo.1
    have k9 : h1.1 6 9 = o (d + 1) := by rw [k1, if_pos ⟨rfl, rfl⟩]
    have lf : ¬ o f ≤ (0 : Int32) := fun z => by have := (o_le (by omega) (by omega : 0 < 2147483648)).mp z; omega
    unfold J_A_isFinished
    rw [k10, k9, if_neg lf]
    by_cases c : d + 1 = f
    · rw [if_pos (show o (d + 1) = o f by rw [c]), if_pos c]
    · rw [if_neg (show ¬ o (d + 1) = o f from fun z => c ((o_inj (by omega) (by omega)).mp z)), if_neg c]
  have e : ∀ {h' : sHp}, (if d + 1 = f then J_A_findHope n h1 else some h1) = some h' → K_A_goThroughNext_110 n h = some h' := fun {h'} z => by
    unfold K_A_goThroughNext_110
    rw [hA.fu.1, if_pos (show oB false = 0 from rfl), hA.go.1, show o d + 1 = o (d + 1) from o_add d 1, hh1, hfin, Option.bind_some]
    by_cases c : d + 1 = f
    · rw [if_pos c] at z
      rw [if_pos c, if_neg (by decide), z]; rfl
    · rw [if_neg c] at z
      rw [if_neg c, if_pos rfl]; exact z
  by_cases c : d + 1 = f
  · obtain ⟨h2, a1, a2, a3, a4⟩ := A_findHope hn f160 hW1 (Kc_trans hK kc1) (fun i hi => by rw [k2]; exact hA.st i hi) (by rw [k1, if_neg (by omega)]; exact hA.fo.1)
    have eld : ld h1 = ld h := by funext i j; unfold ld; rw [k2]
    rw [eld, k2] at a4
    have kc2 : Kc h1 h2 := fun j m z => by rw [a2]
    refine ⟨h2, e (by rw [if_pos c]; exact a1), Wr_keep kc2 (Kg_refl _) hW1, Kc_trans hK (Kc_trans kc1 kc2), ⟨fun j m z => by rw [a2, k1, if_neg (by omega)], fun m => by rw [a3 7 m (by omega), k2]⟩, AtO_next hA hd hR (fun j m => by rw [a2, k1]) (fun j m z => by rw [a3 j m z, k2]) (fun _ => a4)⟩
  · exact ⟨h1, e (by rw [if_neg c]), hW1, Kc_trans hK kc1, ⟨fun j m z => by rw [k1, if_neg (by omega)], fun m => by rw [k2]⟩, AtO_next hA hd hR k1 (fun j m z => by rw [k2]) (fun z => absurd z c)⟩
/-- one state is gone through -/
theorem next_both {f : Nat} {h g : sHp} (hn : 600 ≤ n) (hW : Wr w h g) (hK : Kc hw h) (hA : AtO n w hw f d false h g) (hd : d < f) (x1 : Int32) (rec42 : Int32 × sHp → Option (Int32 × sHp)) (x2 : Int32) :
    ∃ h' g', J_A_goThroughNext n h = some h' ∧ (if (jRem (g.1 34 d) 8) = 0 then ((J_M_tryAll n g).bind fun v81 => K_M_explore_84 n x1 rec42 x2 v81) else (K_M_explore_84 n x1 rec42 x2 g)) = rec42 (x2 + 1, g') ∧ Wr w h' g' ∧ Kc hw h' ∧ Kp h h' ∧ Kq g g' ∧ g'.1 0 0 = g.1 0 0 ∧ ((∃ f', AtO n w hw f' (d + 1) false h' g') ∨ ∃ f', AtO n w hw f' d true h' g') := by
  have f160 := hA.f160
  have hT := hW.p.2.2.1.1
  have c163 := cnt_tab w.T (by omega)
  have h8 := dV_lt (h.2 35 d)
  have more : J_A_hasMore n h = some 1 := by
    unfold J_A_hasMore
    rw [hA.fo.1, hA.go.1, if_neg (fun z => by have := (o_le (by omega) (by omega)).mp z; omega), hA.fu.1, if_pos (show oB false = 0 from rfl)]
  have eC : ∀ {X : Option sHp}, (if dg (h.2 35 d) 20 = 0 then sFx (F_A_goThroughNext_38 n (h.2 35 d) (o (cnt w.T 441))) n (o 0, h) else K_A_goThroughNext_110 n h) = X → J_A_goThroughNext n h = X := fun {X} z => by
    unfold J_A_goThroughNext K_A_goThroughNext_33
    rw [more, Option.bind_some, if_neg (by decide), hA.go.1, sIn_o 160 (by omega), decide_eq_true (by omega), sGd_true, ix_o (by omega), b_over, Option.bind_some, hA.cm.1]
    by_cases c : dg (h.2 35 d) 20 = 0
    · rw [if_pos c] at z
      rw [if_pos c, if_pos rfl]; exact z
    · rw [if_neg c] at z
      rw [if_neg c, if_neg (by decide)]
      obtain ⟨m, rfl⟩ : ∃ m, n = m + 1 := ⟨n - 1, by omega⟩
      rw [sFx_s]; unfold F_A_goThroughNext_38; dsimp only
      rw [if_pos (by decide)]; exact z
  rw [(hA.enc d hd).1, eA_over]
  have ov : o (dg (h.2 35 d) 20) = (0 : Int32) ↔ dg (h.2 35 d) 20 = 0 := o_inj (by omega) (by omega : 0 < 2147483648)
  have kq : Kq g (pI g 0 50 (o (d + 1))) := fun j m z => by rw [pI_i, if_neg (by omega)]
  by_cases c : dg (h.2 35 d) 20 = 0
  · rw [if_pos (ov.mpr c), M_tryAll (by omega)]
    obtain ⟨h1, g1, a1, a2, a3, a4, a5, a6, a7, a8⟩ := go_all (n := n) hn (h.2 35 d) 441 0 n h g f (by omega) (by show cnt w.T 441 - 0 < n; omega) hW hK hA hd rfl (fun i hi => absurd hi (by omega))
    rw [a2, Option.bind_some]
    rcases a8 with ⟨f', y1, y2, y3⟩ | ⟨f', y1⟩
    · obtain ⟨h2, b1, b2, b3, b4, b5⟩ := after_both hn a3 a4 y1 y2 (fun _ => y3)
      refine ⟨h2, pI g1 0 50 (o (d + 1)), eC (by rw [if_pos c]; exact a1.trans b1), ?_, b2, b3, ⟨fun j m z => (b4.1 j m z).trans (a5.1 j m z), fun m => (b4.2 m).trans (a5.2 m)⟩, fun j m z => by rw [pI_i, if_neg (by omega)]; exact a6 j m z, by rw [pI_i, if_neg (by omega)]; exact a7, Or.inl ⟨f', b5⟩⟩
      unfold K_M_explore_84
      rw [y1.fu.2, if_pos (show oB false = 0 from rfl), y1.go.2, show o d + 1 = o (d + 1) from o_add d 1]
    · have y160 := y1.f160
      have hdf := y1.fl rfl
      refine ⟨h1, g1, eC ?_, ?_, a3, a4, a5, a6, a7, Or.inr ⟨f', y1⟩⟩
      · rw [if_pos c, show (0 : Nat) = cnt w.T 0 from rfl, a1]
        unfold K_A_goThroughNext_110 J_A_isFinished
        rw [y1.fu.1, if_neg (show ¬ oB true = 0 by decide), y1.fo.1, y1.go.1, if_neg (fun z => by have := (o_le (by omega) (by omega : 0 < 2147483648)).mp z; omega), if_neg (fun z => by have := (o_inj (by omega) (by omega)).mp z; omega), Option.bind_some, if_pos rfl]
      · unfold K_M_explore_84
        rw [y1.fu.2, if_neg (show ¬ oB true = 0 by decide)]
        have : pI g1 0 50 (g1.1 0 50) = g1 := by
          apply Prod.ext
          · funext j m
            rw [pI_i]
            by_cases q : j = 0 ∧ m = 50
            · rw [if_pos q, q.1, q.2]
            · rw [if_neg q]
          · rfl
        rw [this]
  · rw [if_neg (fun z => c (ov.mp z))]
    obtain ⟨h2, b1, b2, b3, b4, b5⟩ := after_both hn hW hK hA hd (fun z => absurd z c)
    refine ⟨h2, pI g 0 50 (o (d + 1)), eC (by rw [if_neg c]; exact b1), ?_, b2, b3, b4, kq, by rw [pI_i, if_neg (by omega)], Or.inl ⟨f, b5⟩⟩
    unfold K_M_explore_84
    rw [hA.fu.2, if_pos (show oB false = 0 from rfl), hA.go.2, show o d + 1 = o (d + 1) from o_add d 1]
end EX
