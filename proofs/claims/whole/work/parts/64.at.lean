/-! The atlas, both sides. -/
/-- the leads of the class: from i to j -/
def ld (h : sHp) (i j : Nat) : Bool := lB (h.2 39 (3 * i + j / 64)) (j % 64)
/-- those of the reference -/
def rf (g : sHp) (i j : Nat) : Bool := iB (g.1 40 (5 * i + j / 32)) (j % 32)
/-- the class's hopeful ones -/
def hpf (h : sHp) (j : Nat) : Bool := lB (h.2 40 (j / 64)) (j % 64)
/-- where a state belongs in the table -/
def hsh (s : Int64) : Nat := ix (Int64.toInt32 (jLushr (s * (-7046029254386353131)) 55))
def zc (f : Nat → Int32) : Nat → Nat
  | 0 => 0
  | m + 1 => zc f m + if f m = 0 then 1 else 0
/-- a good ending -/
def wn (hw : sHp) (s : Int64) : Bool := decide (0 < dg s 20) && !decide (hw.1 16 (dg s 20 - 1) = 0)
/-- the states from which a good ending can come -/
def Hp (f : Nat) (l : Nat → Nat → Bool) (wo : Nat → Bool) (i : Nat) : Prop := ∀ X : Nat → Prop, (∀ i, i < f → wo i = true → X i) → (∀ i j, i < f → j < f → l i j = true → X j → X i) → X i
theorem Hp.won {f : Nat} {l : Nat → Nat → Bool} {wo : Nat → Bool} {i : Nat} (h1 : i < f) (h2 : wo i = true) : Hp f l wo i := fun _ a _ => a i h1 h2
theorem Hp.step {f : Nat} {l : Nat → Nat → Bool} {wo : Nat → Bool} {i j : Nat} (h1 : i < f) (h2 : j < f) (h3 : l i j = true) (h4 : Hp f l wo j) : Hp f l wo i := fun X a b => b i j h1 h2 h3 (h4 X a b)
def AtO (n : Nat) (w : Wp) (hw : sHp) (f d : Nat) (full : Bool) (h g : sHp) : Prop := (1 ≤ f) ∧ (f ≤ 160) ∧ (d ≤ f) ∧ (full = true → d < f) ∧ (h.1 6 10 = o f ∧ g.1 0 49 = o f) ∧ (h.1 6 9 = o d ∧ g.1 0 50 = o d) ∧ (h.1 6 11 = oB full ∧ g.1 0 51 = oB full) ∧ (h.1 6 8 = g.1 0 41) ∧ (0 < w.mo 3) ∧ (h.2 35 0 = h.2 7 0) ∧ (∀ i, i < f → St w.mo (h.2 35 i)) ∧ (∀ i j, i < f → j < f → h.2 35 i = h.2 35 j → i = j) ∧ (∀ i, i < f → g.1 34 i = o (eA (h.2 35 i)) ∧ g.1 35 i = o (eB (h.2 35 i))) ∧ (∀ i, 0 < i → i < f → ∃ p, p < i ∧ h.1 36 i = o p ∧ g.1 36 i = o p) ∧ (g.1 36 0 = -1) ∧ (∀ i, 0 < i → i < f → ∃ j, j < 441 ∧ h.1 37 i = o (cod j) ∧ g.1 37 i = o (jv j) ∧ g.1 38 i = av (ja j) ∧ g.1 39 i = av (jb j)) ∧ (h.1 6 1 = o (cnt w.T 441) ∧ ∀ j, j < 441 → ic w.T j = true → h.1 34 (cnt w.T j) = o (cod j)) ∧ (∀ i, i < f → ∀ j, j < 160 → ld h i j = rf g i j) ∧ (∀ i, i < f → ∀ j, j < 192 → ld h i j = true → j < f) ∧ (∀ i, i < d → dg (h.2 35 i) 20 = 0 → ∀ j, j < 441 → ic w.T j = true → ∃ x, x < f ∧ Nx n hw (h.2 35 i) (jv j) (av (ja j)) (av (jb j)) (h.2 35 x) ∧ ld h i x = true) ∧ (∀ q, q < 512 → ∃ x, x ≤ f ∧ h.1 38 q = o x) ∧ (∀ i, i < f → ∃ e, e < 512 ∧ h.1 38 ((hsh (h.2 35 i) + e) % 512) = o (i + 1) ∧ ∀ e', e' < e → h.1 38 ((hsh (h.2 35 i) + e') % 512) ≠ 0) ∧ (zc (h.1 38) 512 + f = 512) ∧ (d = f → ∀ i, i < 192 → (hpf h i = true ↔ Hp f (ld h) (fun x => wn hw (h.2 35 x)) i))
theorem AtO.f1 {n : Nat} {w : Wp} {hw : sHp} {f d : Nat} {full : Bool} {h g : sHp} (x : AtO n w hw f d full h g) : 1 ≤ f := x.1
theorem AtO.f160 {n : Nat} {w : Wp} {hw : sHp} {f d : Nat} {full : Bool} {h g : sHp} (x : AtO n w hw f d full h g) : f ≤ 160 := x.2.1
theorem AtO.df {n : Nat} {w : Wp} {hw : sHp} {f d : Nat} {full : Bool} {h g : sHp} (x : AtO n w hw f d full h g) : d ≤ f := x.2.2.1
theorem AtO.fl {n : Nat} {w : Wp} {hw : sHp} {f d : Nat} {full : Bool} {h g : sHp} (x : AtO n w hw f d full h g) : full = true → d < f := x.2.2.2.1
theorem AtO.fo {n : Nat} {w : Wp} {hw : sHp} {f d : Nat} {full : Bool} {h g : sHp} (x : AtO n w hw f d full h g) : h.1 6 10 = o f ∧ g.1 0 49 = o f := x.2.2.2.2.1
theorem AtO.go {n : Nat} {w : Wp} {hw : sHp} {f d : Nat} {full : Bool} {h g : sHp} (x : AtO n w hw f d full h g) : h.1 6 9 = o d ∧ g.1 0 50 = o d := x.2.2.2.2.2.1
theorem AtO.fu {n : Nat} {w : Wp} {hw : sHp} {f d : Nat} {full : Bool} {h g : sHp} (x : AtO n w hw f d full h g) : h.1 6 11 = oB full ∧ g.1 0 51 = oB full := x.2.2.2.2.2.2.1
theorem AtO.dn {n : Nat} {w : Wp} {hw : sHp} {f d : Nat} {full : Bool} {h g : sHp} (x : AtO n w hw f d full h g) : h.1 6 8 = g.1 0 41 := x.2.2.2.2.2.2.2.1
theorem AtO.rp {n : Nat} {w : Wp} {hw : sHp} {f d : Nat} {full : Bool} {h g : sHp} (x : AtO n w hw f d full h g) : 0 < w.mo 3 := x.2.2.2.2.2.2.2.2.1
theorem AtO.s0 {n : Nat} {w : Wp} {hw : sHp} {f d : Nat} {full : Bool} {h g : sHp} (x : AtO n w hw f d full h g) : h.2 35 0 = h.2 7 0 := x.2.2.2.2.2.2.2.2.2.1
theorem AtO.st {n : Nat} {w : Wp} {hw : sHp} {f d : Nat} {full : Bool} {h g : sHp} (x : AtO n w hw f d full h g) : ∀ i, i < f → St w.mo (h.2 35 i) := x.2.2.2.2.2.2.2.2.2.2.1
theorem AtO.inj {n : Nat} {w : Wp} {hw : sHp} {f d : Nat} {full : Bool} {h g : sHp} (x : AtO n w hw f d full h g) : ∀ i j, i < f → j < f → h.2 35 i = h.2 35 j → i = j := x.2.2.2.2.2.2.2.2.2.2.2.1
theorem AtO.enc {n : Nat} {w : Wp} {hw : sHp} {f d : Nat} {full : Bool} {h g : sHp} (x : AtO n w hw f d full h g) : ∀ i, i < f → g.1 34 i = o (eA (h.2 35 i)) ∧ g.1 35 i = o (eB (h.2 35 i)) := x.2.2.2.2.2.2.2.2.2.2.2.2.1
theorem AtO.frm {n : Nat} {w : Wp} {hw : sHp} {f d : Nat} {full : Bool} {h g : sHp} (x : AtO n w hw f d full h g) : ∀ i, 0 < i → i < f → ∃ p, p < i ∧ h.1 36 i = o p ∧ g.1 36 i = o p := x.2.2.2.2.2.2.2.2.2.2.2.2.2.1
theorem AtO.fr0 {n : Nat} {w : Wp} {hw : sHp} {f d : Nat} {full : Bool} {h g : sHp} (x : AtO n w hw f d full h g) : g.1 36 0 = -1 := x.2.2.2.2.2.2.2.2.2.2.2.2.2.2.1
theorem AtO.byc {n : Nat} {w : Wp} {hw : sHp} {f d : Nat} {full : Bool} {h g : sHp} (x : AtO n w hw f d full h g) : ∀ i, 0 < i → i < f → ∃ j, j < 441 ∧ h.1 37 i = o (cod j) ∧ g.1 37 i = o (jv j) ∧ g.1 38 i = av (ja j) ∧ g.1 39 i = av (jb j) := x.2.2.2.2.2.2.2.2.2.2.2.2.2.2.2.1
theorem AtO.cm {n : Nat} {w : Wp} {hw : sHp} {f d : Nat} {full : Bool} {h g : sHp} (x : AtO n w hw f d full h g) : h.1 6 1 = o (cnt w.T 441) ∧ ∀ j, j < 441 → ic w.T j = true → h.1 34 (cnt w.T j) = o (cod j) := x.2.2.2.2.2.2.2.2.2.2.2.2.2.2.2.2.1
theorem AtO.le {n : Nat} {w : Wp} {hw : sHp} {f d : Nat} {full : Bool} {h g : sHp} (x : AtO n w hw f d full h g) : ∀ i, i < f → ∀ j, j < 160 → ld h i j = rf g i j := x.2.2.2.2.2.2.2.2.2.2.2.2.2.2.2.2.2.1
theorem AtO.lf {n : Nat} {w : Wp} {hw : sHp} {f d : Nat} {full : Bool} {h g : sHp} (x : AtO n w hw f d full h g) : ∀ i, i < f → ∀ j, j < 192 → ld h i j = true → j < f := x.2.2.2.2.2.2.2.2.2.2.2.2.2.2.2.2.2.2.1
theorem AtO.dne {n : Nat} {w : Wp} {hw : sHp} {f d : Nat} {full : Bool} {h g : sHp} (x : AtO n w hw f d full h g) : ∀ i, i < d → dg (h.2 35 i) 20 = 0 → ∀ j, j < 441 → ic w.T j = true → ∃ x, x < f ∧ Nx n hw (h.2 35 i) (jv j) (av (ja j)) (av (jb j)) (h.2 35 x) ∧ ld h i x = true := x.2.2.2.2.2.2.2.2.2.2.2.2.2.2.2.2.2.2.2.1
theorem AtO.tb {n : Nat} {w : Wp} {hw : sHp} {f d : Nat} {full : Bool} {h g : sHp} (x : AtO n w hw f d full h g) : ∀ q, q < 512 → ∃ x, x ≤ f ∧ h.1 38 q = o x := x.2.2.2.2.2.2.2.2.2.2.2.2.2.2.2.2.2.2.2.2.1
theorem AtO.ti {n : Nat} {w : Wp} {hw : sHp} {f d : Nat} {full : Bool} {h g : sHp} (x : AtO n w hw f d full h g) : ∀ i, i < f → ∃ e, e < 512 ∧ h.1 38 ((hsh (h.2 35 i) + e) % 512) = o (i + 1) ∧ ∀ e', e' < e → h.1 38 ((hsh (h.2 35 i) + e') % 512) ≠ 0 := x.2.2.2.2.2.2.2.2.2.2.2.2.2.2.2.2.2.2.2.2.2.1
theorem AtO.tz {n : Nat} {w : Wp} {hw : sHp} {f d : Nat} {full : Bool} {h g : sHp} (x : AtO n w hw f d full h g) : zc (h.1 38) 512 + f = 512 := x.2.2.2.2.2.2.2.2.2.2.2.2.2.2.2.2.2.2.2.2.2.2.1
theorem AtO.hp {n : Nat} {w : Wp} {hw : sHp} {f d : Nat} {full : Bool} {h g : sHp} (x : AtO n w hw f d full h g) : d = f → ∀ i, i < 192 → (hpf h i = true ↔ Hp f (ld h) (fun x => wn hw (h.2 35 x)) i) := x.2.2.2.2.2.2.2.2.2.2.2.2.2.2.2.2.2.2.2.2.2.2.2
/-- what the atlas of the class is made of, kept -/
def Ka (h h' : sHp) : Prop := (∀ j m, (j = 6 ∨ (34 ≤ j ∧ j ≤ 38)) → h'.1 j m = h.1 j m) ∧ ∀ j m, ((j = 7 ∧ m = 0) ∨ j = 35 ∨ j = 39 ∨ j = 40) → h'.2 j m = h.2 j m
def Kr (g g' : sHp) : Prop := ∀ j m, ((j = 0 ∧ (m = 41 ∨ m = 49 ∨ m = 50 ∨ m = 51)) ∨ (34 ≤ j ∧ j ≤ 40)) → g'.1 j m = g.1 j m
theorem AtC_keep {h h' g g' : sHp} (a : Ka h h') (b : Kr g g') (x : AtC h g) : AtC h' g' := by
  obtain ⟨c1, c2, c3, c4⟩ := x
  refine ⟨?_, ?_, ?_, fun k hk => ?_⟩
  · rw [a.1 _ _ (by omega), a.1 _ _ (by omega), a.1 _ _ (by omega), a.1 _ _ (by omega)]; exact c1
  · rw [b _ _ (by omega), b _ _ (by omega), b _ _ (by omega), b _ _ (by omega)]; exact c2
  · rw [b _ _ (by omega), b _ _ (by omega), b _ _ (by omega), a.2 _ _ (by omega)]; exact c3
  · rw [b _ _ (by omega)]; exact c4 k hk
theorem AtO_keep {n : Nat} {w : Wp} {hw : sHp} {f d : Nat} {full : Bool} {h h' g g' : sHp} (a : Ka h h') (b : Kr g g') (x : AtO n w hw f d full h g) : AtO n w hw f d full h' g' := by
  have e35 : h'.2 35 = h.2 35 := funext fun m => a.2 35 m (by omega)
  have e39 : h'.2 39 = h.2 39 := funext fun m => a.2 39 m (by omega)
  have e40 : h'.2 40 = h.2 40 := funext fun m => a.2 40 m (by omega)
  have e70 : h'.2 7 0 = h.2 7 0 := a.2 7 0 (by omega)
  have i6 : h'.1 6 = h.1 6 := funext fun m => a.1 6 m (by omega)
  have i34 : h'.1 34 = h.1 34 := funext fun m => a.1 34 m (by omega)
  have i36 : h'.1 36 = h.1 36 := funext fun m => a.1 36 m (by omega)
  have i37 : h'.1 37 = h.1 37 := funext fun m => a.1 37 m (by omega)
  have i38 : h'.1 38 = h.1 38 := funext fun m => a.1 38 m (by omega)
  have g41 : g'.1 0 41 = g.1 0 41 := b 0 41 (by omega)
  have g49 : g'.1 0 49 = g.1 0 49 := b 0 49 (by omega)
  have g50 : g'.1 0 50 = g.1 0 50 := b 0 50 (by omega)
  have g51 : g'.1 0 51 = g.1 0 51 := b 0 51 (by omega)
  have q34 : g'.1 34 = g.1 34 := funext fun m => b 34 m (by omega)
  have q35 : g'.1 35 = g.1 35 := funext fun m => b 35 m (by omega)
  have q36 : g'.1 36 = g.1 36 := funext fun m => b 36 m (by omega)
  have q37 : g'.1 37 = g.1 37 := funext fun m => b 37 m (by omega)
  have q38 : g'.1 38 = g.1 38 := funext fun m => b 38 m (by omega)
  have q39 : g'.1 39 = g.1 39 := funext fun m => b 39 m (by omega)
  have q40 : g'.1 40 = g.1 40 := funext fun m => b 40 m (by omega)
  have eld : ld h' = ld h := by funext i j; unfold ld; rw [e39]
  have erf : rf g' = rf g := by funext i j; unfold rf; rw [q40]
  have ehp : hpf h' = hpf h := by funext j; unfold hpf; rw [e40]
  obtain ⟨a1, a2, a3, a4, a5, a6, a7, a8, a9, a10, a11, a12, a13, a14, a15, a16, a17, a18, a19, a20, a21, a22, a23, a24⟩ := x
  exact ⟨a1, a2, a3, a4, by rw [i6, g49]; exact a5, by rw [i6, g50]; exact a6, by rw [i6, g51]; exact a7, by rw [i6, g41]; exact a8, a9, by rw [e35, e70]; exact a10, by rw [e35]; exact a11, by rw [e35]; exact a12, by rw [e35, q34, q35]; exact a13, by rw [i36, q36]; exact a14, by rw [q36]; exact a15, by rw [i37, q37, q38, q39]; exact a16, by rw [i6, i34]; exact a17, by rw [eld, erf]; exact a18, by rw [eld]; exact a19, by rw [e35, eld]; exact a20, by rw [i38]; exact a21, by rw [i38, e35]; exact a22, by rw [i38]; exact a23, by rw [ehp, eld, e35]; exact a24⟩
/-- all that holds between calls -/
def Iv (n : Nat) (h g : sHp) : Prop := ∃ w hw t k, Wr w h g ∧ Kc hw h ∧ Pl n w hw t k h g ∧ (AtC h g ∨ ∃ f d full, AtO n w hw f d full h g)
/-- the play is kept -/
def Kp (h h' : sHp) : Prop := (∀ j m, ((j = 0 ∧ (m = 5 ∨ m = 6)) ∨ j = 8) → h'.1 j m = h.1 j m) ∧ ∀ m, h'.2 7 m = h.2 7 m
def Kq (g g' : sHp) : Prop := ∀ j m, ((j = 0 ∧ (42 ≤ m ∧ m ≤ 47)) ∨ (31 ≤ j ∧ j ≤ 33)) → g'.1 j m = g.1 j m
theorem Pl_keep {n : Nat} {w : Wp} {hw : sHp} {t k : Nat} {h h' g g' : sHp} (a : Kp h h') (b : Kq g g') (x : Pl n w hw t k h g) : Pl n w hw t k h' g' := by
  have e7 : h'.2 7 = h.2 7 := funext fun m => a.2 m
  obtain ⟨a1, a2, a3, a4, a5, a6, a7, a8, a9, a10, a11, a12⟩ := x
  refine ⟨a1, ?_, a3, ?_, fun i hi => ?_, a6, ?_, fun i hi => ?_, by rw [e7]; exact a9, by rw [e7]; exact a10, a11, by rw [e7]; exact a12⟩
  · rw [a.1 _ _ (by omega), b _ _ (by omega)]; exact a2
  · rw [a.1 _ _ (by omega), b _ _ (by omega)]; exact a4
  · rw [a.1 _ _ (by omega), b _ _ (by omega)]; exact a5 i hi
  · rw [b _ _ (by omega), b _ _ (by omega), e7]; exact a7
  · rw [b _ _ (by omega), b _ _ (by omega), e7]; exact a8 i hi
theorem Iv_keep {n : Nat} {h h' g g' : sHp} (c : Kc h h') (d : Kg g g') (a : Kp h h') (b : Kq g g') (p : Ka h h') (q : Kr g g') (x : Iv n h g) : Iv n h' g' := by
  obtain ⟨w, hw, t, k, x1, x2, x3, x4⟩ := x
  refine ⟨w, hw, t, k, Wr_keep c d x1, Kc_trans x2 c, Pl_keep a b x3, ?_⟩
  rcases x4 with x4 | ⟨f, e, fu, x4⟩
  · exact Or.inl (AtC_keep p q x4)
  · exact Or.inr ⟨f, e, fu, AtO_keep p q x4⟩
/-- the code of the call is written; the answer is written -/
theorem Iv_code {n : Nat} {h g : sHp} (x : Iv n h g) (c : Int32) : Iv n h (pI g 0 0 c) :=
  Iv_keep (Kc_refl h) (Kg_pI (Kg_refl g) (by omega)) ⟨fun _ _ _ => rfl, fun _ => rfl⟩ (fun j m z => by rw [pI_i, if_neg (by omega)]) ⟨fun _ _ _ => rfl, fun _ _ _ => rfl⟩ (fun j m z => by rw [pI_i, if_neg (by omega)]) x
theorem Iv_out {n : Nat} {h g : sHp} (x : Iv n h g) (c : Int64) : Iv n (pL h 41 0 c) g :=
  Iv_keep (Kc_pL (Kc_refl h)) (Kg_refl g) ⟨fun _ _ _ => rfl, fun m => by rw [pL_i, if_neg (by omega)]⟩ (fun _ _ _ => rfl) ⟨fun _ _ _ => rfl, fun j m z => by rw [pL_i, if_neg (by omega)]⟩ (fun _ _ _ => rfl) x
theorem Iv_jn {n : Nat} {q r g g' : sHp} (x : Iv n r g') (e1 : ∀ i, i < 42 → q.1 i = r.1 i ∧ q.2 i = r.2 i) (e2 : ∀ i, i < 42 → g.1 i = g'.1 i ∧ g.2 i = g'.2 i) : Iv n q g :=
  Iv_keep (fun j m z => by rw [(e1 j (by omega)).1]) (fun j m z => by rw [(e2 j (by omega)).1]) ⟨fun j m z => by rw [(e1 j (by omega)).1], fun m => by rw [(e1 7 (by omega)).2]⟩ (fun j m z => by rw [(e2 j (by omega)).1]) ⟨fun j m z => by rw [(e1 j (by omega)).1], fun j m z => by rw [(e1 j (by omega)).2]⟩ (fun j m z => by rw [(e2 j (by omega)).1]) x
/-- a world that has just changed -/
theorem Iv_new {n : Nat} {w : Wp} {h g : sHp} (hW : Wr w h g) (hn : 8 ≤ n) : ∃ h' g', J_S_startAnew n h = some h' ∧ J_M_renew n g = some g' ∧ Iv n h' g' ∧ Kg g g' ∧ g'.1 0 0 = g.1 0 0 := by
  obtain ⟨h', g', a, b, c, d, e, f, i⟩ := renew_both hW hn
  exact ⟨h', g', a, b, ⟨w, h', 0, 0, c, Kc_refl h', d, Or.inl e⟩, f, i⟩
