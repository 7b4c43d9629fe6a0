/-! One command is tried from one state, both sides. -/
section ST
variable {n : Nat} {w : Wp} {hw h h' g g' : sHp} {f d : Nat} {full : Bool}
def Ka2 (h h' : sHp) : Prop := (∀ j m, ((j = 6 ∧ m ≠ 8) ∨ (34 ≤ j ∧ j ≤ 38)) → h'.1 j m = h.1 j m) ∧ ∀ j m, ((j = 7 ∧ m = 0) ∨ j = 35 ∨ j = 39 ∨ j = 40) → h'.2 j m = h.2 j m
def Kr2 (g g' : sHp) : Prop := ∀ j m, ((j = 0 ∧ (m = 49 ∨ m = 50 ∨ m = 51)) ∨ (34 ≤ j ∧ j ≤ 40)) → g'.1 j m = g.1 j m
theorem AtO_keep2 (a : Ka2 h h') (b : Kr2 g g') (hdn : h'.1 6 8 = g'.1 0 41) (x : AtO n w hw f d full h g) : AtO n w hw f d full h' g' := by
  have e35 : h'.2 35 = h.2 35 := funext fun m => a.2 35 m (by omega)
  have e39 : h'.2 39 = h.2 39 := funext fun m => a.2 39 m (by omega)
  have e40 : h'.2 40 = h.2 40 := funext fun m => a.2 40 m (by omega)
  have e70 : h'.2 7 0 = h.2 7 0 := a.2 7 0 (by omega)
  have i34 : h'.1 34 = h.1 34 := funext fun m => a.1 34 m (by omega)
  have i36 : h'.1 36 = h.1 36 := funext fun m => a.1 36 m (by omega)
  have i37 : h'.1 37 = h.1 37 := funext fun m => a.1 37 m (by omega)
  have i38 : h'.1 38 = h.1 38 := funext fun m => a.1 38 m (by omega)
  have q34 : g'.1 34 = g.1 34 := funext fun m => b 34 m (by omega)
  have q35 : g'.1 35 = g.1 35 := funext fun m => b 35 m (by omega)
  have q36 : g'.1 36 = g.1 36 := funext fun m => b 36 m (by omega)
  have q37 : g'.1 37 = g.1 37 := funext fun m => b 37 m (by omega)
  have q38 : g'.1 38 = g.1 38 := funext fun m => b 38 m (by omega)
  have q39 : g'.1 39 = g.1 39 := funext fun m => b 39 m (by omega)
  have q40 : g'.1 40 = g.1 40 := funext fun m => b 40 m (by omega)
  have eld : ld h' = ld h := by funext i j; unfold ld; rw [e39]
  have erf : rf g' = rf g := by funext i j; unfold rf; rw [q40]
  have ehp : hpf h' = hpf h := by funext j; unfold hpf; rw [e40]
  obtain ⟨a1, a2, a3, a4, a5, a6, a7, a8, a9, a10, a11, a12, a13, a14, a15, a16, a17, a18, a19, a20, a21, a22, a23, a24⟩ := x
  exact ⟨a1, a2, a3, a4, by rw [a.1 6 10 (by omega), b 0 49 (by omega)]; exact a5, by rw [a.1 6 9 (by omega), b 0 50 (by omega)]; exact a6, by rw [a.1 6 11 (by omega), b 0 51 (by omega)]; exact a7, hdn, a9, by rw [e35, e70]; exact a10, by rw [e35]; exact a11, by rw [e35]; exact a12, by rw [e35, q34, q35]; exact a13, by rw [i36, q36]; exact a14, by rw [q36]; exact a15, by rw [i37, q37, q38, q39]; exact a16, by rw [a.1 6 1 (by omega), i34]; exact a17, by rw [eld, erf]; exact a18, by rw [eld]; exact a19, by rw [e35, eld]; exact a20, by rw [i38]; exact a21, by rw [i38, e35]; exact a22, by rw [i38]; exact a23, by rw [ehp, eld, e35]; exact a24⟩
/-- a lead is noted -/
theorem AtO_lead (x : AtO n w hw f d false h g) (hd : d < f) {y : Nat} (hy : y < f) (i1 : h'.1 = h.1) (i2 : ∀ j m, ¬ (j = 39 ∧ m = 3 * d + y / 64) → h'.2 j m = h.2 j m) (i3 : ∀ i j, i < 160 → j < 192 → ld h' i j = (ld h i j || (decide (i = d) && decide (j = y)))) (j1 : ∀ j m, ¬ (j = 40 ∧ m = 5 * d + y / 32) → g'.1 j m = g.1 j m) (j2 : ∀ i j, i < 160 → j < 160 → rf g' i j = (rf g i j || (decide (i = d) && decide (j = y)))) : AtO n w hw f d false h' g' := by
  have e35 : h'.2 35 = h.2 35 := funext fun m => i2 35 m (by omega)
  have e70 : h'.2 7 0 = h.2 7 0 := i2 7 0 (by omega)
  have gq : ∀ j m, j ≠ 40 → g'.1 j m = g.1 j m := fun j m z => j1 j m (by omega)
  obtain ⟨a1, a2, a3, a4, a5, a6, a7, a8, a9, a10, a11, a12, a13, a14, a15, a16, a17, a18, a19, a20, a21, a22, a23, a24⟩ := x
  refine ⟨a1, a2, a3, a4, ?_, ?_, ?_, ?_, a9, by rw [e35, e70]; exact a10, by rw [e35]; exact a11, by rw [e35]; exact a12, fun i hi => ?_, fun i h1 h2 => ?_, ?_, fun i h1 h2 => ?_, ?_, fun i hi j hj => ?_, fun i hi j hj hl => ?_, fun i hi ho j hj hc => ?_, by rw [i1]; exact a21, by rw [i1, e35]; exact a22, by rw [i1]; exact a23, fun z => absurd z (by omega)⟩
  · rw [i1, gq _ _ (by omega)]; exact a5
  · rw [i1, gq _ _ (by omega)]; exact a6
  · rw [i1, gq _ _ (by omega)]; exact a7
  · rw [i1, gq _ _ (by omega)]; exact a8
  · rw [e35, gq _ _ (by omega), gq _ _ (by omega)]; exact a13 i hi
  · rw [i1, gq _ _ (by omega)]; exact a14 i h1 h2
  · rw [gq _ _ (by omega)]; exact a15
  · rw [i1, gq _ _ (by omega), gq _ _ (by omega), gq _ _ (by omega)]; exact a16 i h1 h2
  · rw [i1]; exact a17
  · rw [i3 i j (by omega) (by omega), j2 i j (by omega) hj, a18 i hi j hj]
  · rw [i3 i j (by omega) hj, Bool.or_eq_true, Bool.and_eq_true, decide_eq_true_eq, decide_eq_true_eq] at hl
    rcases hl with hl | hl
    · exact a19 i hi j hj hl
    · omega
  · rw [e35] at ho ⊢
    obtain ⟨z, z1, z2, z3⟩ := a20 i hi ho j hj hc
    exact ⟨z, z1, z2, by rw [i3 i z (by omega) (by omega), z3]; rfl⟩
/-- the limit is met -/
theorem AtO_full (x : AtO n w hw f d false h g) (hd : d < f) : AtO n w hw f d true (pI h 6 11 1) (pI g 0 51 1) := by
  have hq : ∀ j m, ¬ (j = 6 ∧ m = 11) → (pI h 6 11 1).1 j m = h.1 j m := fun j m z => by rw [pI_i, if_neg z]
  have gq : ∀ j m, ¬ (j = 0 ∧ m = 51) → (pI g 0 51 1).1 j m = g.1 j m := fun j m z => by rw [pI_i, if_neg z]
  have q40 : (pI g 0 51 1).1 40 = g.1 40 := funext fun m => gq 40 m (by omega)
  have i38 : (pI h 6 11 1).1 38 = h.1 38 := funext fun m => hq 38 m (by omega)
  have erf : rf (pI g 0 51 1) = rf g := by funext i j; unfold rf; rw [q40]
  have eld : ld (pI h 6 11 1) = ld h := rfl
  obtain ⟨a1, a2, a3, a4, a5, a6, a7, a8, a9, a10, a11, a12, a13, a14, a15, a16, a17, a18, a19, a20, a21, a22, a23, a24⟩ := x
  refine ⟨a1, a2, a3, fun _ => hd, ?_, ?_, ?_, ?_, a9, a10, a11, a12, fun i hi => ?_, fun i h1 h2 => ?_, ?_, fun i h1 h2 => ?_, ?_, by rw [eld, erf]; exact a18, a19, a20, by rw [i38]; exact a21, by rw [i38]; exact a22, by rw [i38]; exact a23, fun z => absurd z (by omega)⟩
  · rw [hq _ _ (by omega), gq _ _ (by omega)]; exact a5
  · rw [hq _ _ (by omega), gq _ _ (by omega)]; exact a6
  · rw [pI_i, if_pos ⟨rfl, rfl⟩, pI_i, if_pos ⟨rfl, rfl⟩]; exact ⟨rfl, rfl⟩
  · rw [hq _ _ (by omega), gq _ _ (by omega)]; exact a8
  · rw [gq _ _ (by omega), gq _ _ (by omega)]; exact a13 i hi
  · rw [hq _ _ (by omega), gq _ _ (by omega)]; exact a14 i h1 h2
  · rw [gq _ _ (by omega)]; exact a15
  · rw [hq _ _ (by omega), gq _ _ (by omega), gq _ _ (by omega), gq _ _ (by omega)]; exact a16 i h1 h2
  · rw [hq _ _ (by omega)]
    refine ⟨a17.1, fun j h1 h2 => ?_⟩
    rw [hq _ _ (by omega)]; exact a17.2 j h1 h2
/-- a new state is put in -/
theorem AtO_app (x : AtO n w hw f d false h g) (hd : d < f) (hf : f < 160) {s : Int64} (hs : St w.mo s) (hnew : ∀ i, i < f → h.2 35 i ≠ s) {e0 c : Nat} (he0 : e0 < 512) (hz : h.1 38 ((hsh s + e0) % 512) = 0) (hpath : ∀ e, e < e0 → h.1 38 ((hsh s + e) % 512) ≠ 0) (hc : c < 441)
    (i1 : ∀ j m, h'.1 j m = if j = 38 ∧ m = (hsh s + e0) % 512 then o (f + 1) else if j = 6 ∧ m = 10 then o (f + 1) else if j = 36 ∧ m = f then o d else if j = 37 ∧ m = f then o (cod c) else h.1 j m)
    (i2 : ∀ j m, h'.2 j m = if j = 39 ∧ 3 * f ≤ m ∧ m < 3 * f + 3 then 0 else if j = 35 ∧ m = f then s else h.2 j m)
    (j1 : ∀ j m, g'.1 j m = if j = 0 ∧ m = 49 then o (f + 1) else if j = 40 ∧ 5 * f ≤ m ∧ m < 5 * f + 5 then 0 else if m = f ∧ 34 ≤ j ∧ j ≤ 39 then (if j = 34 then o (eA s) else if j = 35 then o (eB s) else if j = 36 then o d else if j = 37 then o (jv c) else if j = 38 then av (ja c) else av (jb c)) else g.1 j m) : AtO n w hw (f + 1) d false h' g' := by
  have s1 : ∀ i, i < f → h'.2 35 i = h.2 35 i := fun i hi => by rw [i2, if_neg (by omega), if_neg (by omega)]
  have s2 : h'.2 35 f = s := by rw [i2, if_neg (by omega), if_pos ⟨rfl, rfl⟩]
  have l1 : ∀ i j, i < f → j < 192 → ld h' i j = ld h i j := fun i j hi hj => by unfold ld; rw [i2, if_neg (by omega), if_neg (by omega)]
  have l2 : ∀ j, j < 192 → ld h' f j = false := fun j hj => by
    unfold ld
    rw [i2, if_pos (by omega)]
    have : ∀ k, k < 64 → lB 0 k = false := by decide +kernel
    exact this _ (Nat.mod_lt _ (by omega))
  have r1 : ∀ i j, i < f → j < 160 → rf g' i j = rf g i j := fun i j hi hj => by unfold rf; rw [j1, if_neg (by omega), if_neg (by omega), if_neg (by omega)]
  have r2 : ∀ j, j < 160 → rf g' f j = false := fun j hj => by
    unfold rf
    rw [j1, if_neg (by omega), if_pos (by omega)]
    have : ∀ k, k < 32 → iB 0 k = false := by decide +kernel
    exact this _ (Nat.mod_lt _ (by omega))
  have n1 : o (f + 1) ≠ (0 : Int32) := fun z => by have := (o_inj (by omega) (by omega : 0 < 2147483648)).mp z; omega
  have t1 : ∀ q, q ≠ (hsh s + e0) % 512 → h'.1 38 q = h.1 38 q := fun q hq => by rw [i1, if_neg (by omega), if_neg (by omega), if_neg (by omega), if_neg (by omega)]
  have t2 : h'.1 38 ((hsh s + e0) % 512) = o (f + 1) := by rw [i1, if_pos ⟨rfl, rfl⟩]
  have t3 : ∀ q, h.1 38 q ≠ 0 → h'.1 38 q ≠ 0 := fun q hq => by
    by_cases z : q = (hsh s + e0) % 512
    · rw [z, t2]; exact n1
    · rw [t1 q z]; exact hq
  obtain ⟨a1, a2, a3, a4, a5, a6, a7, a8, a9, a10, a11, a12, a13, a14, a15, a16, a17, a18, a19, a20, a21, a22, a23, a24⟩ := x
  refine ⟨by omega, by omega, by omega, fun z => absurd z (by decide), ⟨?_, ?_⟩, ?_, ?_, ?_, a9, ?_, fun i hi => ?_, fun i j hi hj e => ?_, fun i hi => ?_, fun i h1 h2 => ?_, ?_, fun i h1 h2 => ?_, ?_, fun i hi j hj => ?_, fun i hi j hj hl => ?_, fun i hi ho j hj hc => ?_, fun q hq => ?_, fun i hi => ?_, ?_, fun z => absurd z (by omega)⟩
  · rw [i1, if_neg (by omega), if_pos ⟨rfl, rfl⟩]
  · rw [j1, if_pos ⟨rfl, rfl⟩]
  · rw [i1, if_neg (by omega), if_neg (by omega), if_neg (by omega), if_neg (by omega), j1, if_neg (by omega), if_neg (by omega), if_neg (by omega)]; exact a6
  · rw [i1, if_neg (by omega), if_neg (by omega), if_neg (by omega), if_neg (by omega), j1, if_neg (by omega), if_neg (by omega), if_neg (by omega)]; exact a7
  · rw [i1, if_neg (by omega), if_neg (by omega), if_neg (by omega), if_neg (by omega), j1, if_neg (by omega), if_neg (by omega), if_neg (by omega)]; exact a8
  · rw [s1 0 (by omega), i2, if_neg (by omega), if_neg (by omega)]; exact a10
  · by_cases hq : i = f
    · rw [hq, s2]; exact hs
    · rw [s1 i (by omega)]; exact a11 i (by omega)
  · by_cases hq : i = f
    · by_cases hq2 : j = f
      · omega
      · rw [hq, s2, s1 j (by omega)] at e
        exact absurd e.symm (hnew j (by omega))
    · by_cases hq2 : j = f
      · rw [hq2, s2, s1 i (by omega)] at e
        exact absurd e (hnew i (by omega))
      · rw [s1 i (by omega), s1 j (by omega)] at e
        exact a12 i j (by omega) (by omega) e
  · by_cases hq : i = f
    · subst hq
      rw [s2, j1, if_neg (by omega), if_neg (by omega), if_pos (by omega), if_pos rfl, j1, if_neg (by omega), if_neg (by omega), if_pos (by omega), if_neg (by omega), if_pos rfl]
      exact ⟨rfl, rfl⟩
    · rw [s1 i (by omega), j1, if_neg (by omega), if_neg (by omega), if_neg (by omega), j1, if_neg (by omega), if_neg (by omega), if_neg (by omega)]
      exact a13 i (by omega)
  · by_cases hq : i = f
    · subst hq
      refine ⟨d, hd, ?_, ?_⟩
      · rw [i1, if_neg (by omega), if_neg (by omega), if_pos ⟨rfl, rfl⟩]
      · rw [j1, if_neg (by omega), if_neg (by omega), if_pos (by omega), if_neg (by omega), if_neg (by omega), if_pos rfl]
    · rw [i1, if_neg (by omega), if_neg (by omega), if_neg (by omega), if_neg (by omega), j1, if_neg (by omega), if_neg (by omega), if_neg (by omega)]
      exact a14 i h1 (by omega)
  · rw [j1, if_neg (by omega), if_neg (by omega), if_neg (by omega)]; exact a15
  · by_cases hq : i = f
    · subst hq
      refine ⟨c, hc, ?_, ?_, ?_, ?_⟩
      · rw [i1, if_neg (by omega), if_neg (by omega), if_neg (by omega), if_pos ⟨rfl, rfl⟩]
      · rw [j1, if_neg (by omega), if_neg (by omega), if_pos (by omega), if_neg (by omega), if_neg (by omega), if_neg (by omega), if_pos rfl]
      · rw [j1, if_neg (by omega), if_neg (by omega), if_pos (by omega), if_neg (by omega), if_neg (by omega), if_neg (by omega), if_neg (by omega), if_pos rfl]
      · rw [j1, if_neg (by omega), if_neg (by omega), if_pos (by omega), if_neg (by omega), if_neg (by omega), if_neg (by omega), if_neg (by omega), if_neg (by omega)]
    · obtain ⟨c', x1, x2, x3, x4, x5⟩ := a16 i h1 (by omega)
      refine ⟨c', x1, ?_, ?_, ?_, ?_⟩
      · rw [i1, if_neg (by omega), if_neg (by omega), if_neg (by omega), if_neg (by omega)]; exact x2
      · rw [j1, if_neg (by omega), if_neg (by omega), if_neg (by omega)]; exact x3
      · rw [j1, if_neg (by omega), if_neg (by omega), if_neg (by omega)]; exact x4
      · rw [j1, if_neg (by omega), if_neg (by omega), if_neg (by omega)]; exact x5
  · refine ⟨?_, fun j h1 h2 => ?_⟩
    · rw [i1, if_neg (by omega), if_neg (by omega), if_neg (by omega), if_neg (by omega)]; exact a17.1
    · rw [i1, if_neg (by omega), if_neg (by omega), if_neg (by omega), if_neg (by omega)]; exact a17.2 j h1 h2
  · by_cases hq : i = f
    · rw [hq, l2 j (by omega), r2 j hj]
    · rw [l1 i j (by omega) (by omega), r1 i j (by omega) hj]; exact a18 i (by omega) j hj
  · by_cases hq : i = f
    · rw [hq, l2 j hj] at hl; exact absurd hl (by decide)
    · rw [l1 i j (by omega) hj] at hl
      have := a19 i (by omega) j hj hl
      omega
  · rw [s1 i (by omega)] at ho ⊢
    obtain ⟨z, z1, z2, z3⟩ := a20 i hi ho j hj hc
    exact ⟨z, by omega, by rw [s1 z z1]; exact z2, by rw [l1 i z (by omega) (by omega)]; exact z3⟩
  · by_cases z : q = (hsh s + e0) % 512
    · exact ⟨f + 1, by omega, by rw [z, t2]⟩
    · obtain ⟨x, x1, x2⟩ := a21 q hq
      exact ⟨x, by omega, by rw [t1 q z]; exact x2⟩
  · by_cases hq : i = f
    · rw [hq, s2]
      exact ⟨e0, he0, t2, fun e' he' => t3 _ (hpath e' he')⟩
    · rw [s1 i (by omega)]
      obtain ⟨e, e1, e2, e3⟩ := a22 i (by omega)
      refine ⟨e, e1, ?_, fun e' he' => t3 _ (e3 e' he')⟩
      rw [t1 _ (fun z => ?_)]
      · exact e2
      · rw [z, hz] at e2
        have := (o_inj (a := 0) (by omega) (by omega : i + 1 < 2147483648)).mp e2
        omega
  · have := zc_upd (f := h.1 38) (f' := h'.1 38) (q := (hsh s + e0) % 512) hz (by rw [t2]; exact n1) (fun j hj => t1 j hj) 512
    rw [if_pos (Nat.mod_lt _ (by omega))] at this
    omega
end ST
