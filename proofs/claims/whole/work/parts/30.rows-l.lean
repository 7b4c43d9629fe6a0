/-! The law's own rows: a call of a method with handlers (it may make a cell), a loop whose rounds make cells. -/
def sMu : sMa → sMa
  | (p, l, e, R, s, m, args, below, meth, c, cs, sl, cf, sf) => (p, l, e, R, s, m, args, below, meth, c, cs + 1, sl + 6, cf, sf)
def sRm : sMa → Nat → Prop
  | (_, _, _, _, _, _, _, _, _, _, cs, sl, cf, sf), n => cs + n ≤ cf ∧ sl + 6 * n ≤ sf
/-- the script, of k ints xs, is an old cell and none of the world's; its number is the first behind the world's -/
def sOkl (Z : sZo) (k : Nat) (xs : Nat → Int32) : sMa → sWo → Prop
  | (_, l, _, _, s, _, _, _, _, _, _, _, _, _), (_, _, ad) => (l.flags = flags0 ∧ sZs (sAr Z.2 ad) s s.heap ∧ sNc s) ∧ va_X (ad Z.2.length) k xs s s.heap ∧ ad Z.2.length < s.heap.size ∧ ∀ q, sAr Z.2 ad q → s.heap.size ≤ q
theorem sOk_up {Z : sZo} {M : sMa} {V : sWo} {cc : ByteArray} {nL : Nat} {own : String} {ret : Option FieldType} {rm : Room} (O : sOk Z M V cc nL own ret rm) (hr : sRm M 1) : sOk Z (sMu M) V cc nL own ret rm := by
  obtain ⟨p, l, e, R, s, m, args, below, meth, c, cs, sl, cf, sf⟩ := M
  obtain ⟨D, cA, ad⟩ := V
  obtain ⟨o1, o2, o3, o4, o5, o6, o7, o8, o9, o10, ⟨o13, o14⟩, o11, o12⟩ := O
  exact ⟨o1, o2, o3, o4, o5, o6, o7, o8, o9, o10, ⟨hr.1, hr.2⟩, o11, o12⟩
theorem sOkl_up {Z : sZo} {k : Nat} {xs : Nat → Int32} {M : sMa} {V : sWo} (T : sOkl Z k xs M V) : sOkl Z k xs (sMu M) V := by
  obtain ⟨p, l, e, R, s, m, args, below, meth, c, cs, sl, cf, sf⟩ := M
  exact T
theorem sRm_up {M : sMa} {n : Nat} (h : sRm M (n + 1)) : sRm (sMu M) n := by
  obtain ⟨p, l, e, R, s, m, args, below, meth, c, cs, sl, cf, sf⟩ := M
  obtain ⟨h1, h2⟩ := h
  exact ⟨by show cs + 1 + n ≤ cf; omega, by show sl + 6 + 6 * n ≤ sf; omega⟩
theorem sRm_1 {M : sMa} {n : Nat} (h : sRm M (n + 1)) : sRm M 1 := by
  obtain ⟨p, l, e, R, s, m, args, below, meth, c, cs, sl, cf, sf⟩ := M
  obtain ⟨h1, h2⟩ := h
  exact ⟨by show cs + 1 ≤ cf; omega, by show sl + 6 * 1 ≤ sf; omega⟩
section SLW
variable {ρ : Type} {Z : sZo} {M : sMa} {V : sWo} {fin : ρ → sOut × sHp} {cc cc' : ByteArray} {nL nL' pc idx n : Nat} {own : String} {y : MethodName} {ret : Option FieldType} {rm rm' : Room} {lv : List (Nat × Value)} {st av : List Value} {h : sHp}
theorem r_up {X : Option ρ} (k : sS Z (sMu M) V fin pc lv st h X) : sS Z M V fin pc lv st h X := by
  obtain ⟨p, l, e, R, s, m, args, below, meth, c, cs, sl, cf, sf⟩ := M
  obtain ⟨D, cA, ad⟩ := V
  intro r hX H locs ls hl hP hS
  have hq : sQ Z (sMu (p, l, e, R, s, m, args, below, meth, c, cs, sl, cf, sf)) (D, cA, ad) (fin r).1 (fin r).2 = sQ Z (p, l, e, R, s, m, args, below, meth, c, cs, sl, cf, sf) (D, cA, ad) (fin r).1 (fin r).2 := by
    cases (fin r).1 <;> rfl
  have kk := k r hX H locs ls hl hP hS
  rw [hq] at kk
  exact W.widen (Nat.le_add_right _ _) (Nat.le_add_right _ _) kk
theorem r_fxL {S : Type} {kk : Nat} {xs : Nat → Int32} (lf : S → List (Nat × Value)) (hf : S → sHp) (F : (S → Option ρ) → S → Option ρ) (k : ∀ M' : sMa, sOk Z M' V cc nL own ret rm → sOk Z (sMu M') V cc nL own ret rm → sOkl Z kk xs M' V → ∀ rec : S → Option ρ, (∀ q, sS Z (sMu M') V fin pc (lf q) st (hf q) (rec q)) → ∀ q, sS Z M' V fin pc (lf q) st (hf q) (F rec q)) (n : Nat) : ∀ M : sMa, sOk Z M V cc nL own ret rm → sOkl Z kk xs M V → sRm M n → ∀ q, sS Z M V fin pc (lf q) st (hf q) (sFx F n q) := by
  induction n with
  | zero => intro M _ _ _ q r hX; cases hX
  | succ n ih => intro M O T hr q; exact k M O (sOk_up O (sRm_1 hr)) T _ (ih (sMu M) (sOk_up O (sRm_1 hr)) (sOkl_up T) (sRm_up hr)) q
/-- what the tables say of a call of a method with handlers -/
def sCh (own : String) (idx : Nat) (y : MethodName) (cc : ByteArray) (nL : Nat) (hs : List (Nat × Nat × Nat × Nat)) (rm' rm : Room) (n : Nat) : Prop := Cond.methodLink own idx y ∈ sTB ∧ Cond.initialized y.cls ∈ sTB ∧ Cond.codeWith y cc nL (some .int) hs ∈ sTB ∧ (y.cls ≠ "java/lang/invoke/MethodHandle" ∧ y.cls ≠ "java/lang/invoke/VarHandle") ∧ (parseMethodDescriptor y.desc).map (fun d => d.parameters.length) = some n ∧ (rm'.cells = 1 ∧ rm'.slots = 6) ∧ rm'.frames + 1 ≤ rm.frames ∧ 8 + (nL + 11) + rm'.locals ≤ rm.locals
theorem r_callH {kk : Nat} {xs : Nat → Int32} {hs : List (Nat × Nat × Nat × Nat)} {X : Option (Int32 × sHp)} {F : Int32 × sHp → Option ρ} (O : sOk Z M V cc nL own ret rm) (O2 : sOk Z (sMu M) V cc nL own ret rm) (T : sOkl Z kk xs M V) (av : List Value) (hM : sMh Z y cc' nL' hs rm' av h X) (cw : sCh own idx y cc' nL' hs rm' rm n) (hst : Cond.static y ∈ sTB) (hn : av.length = n) (hw : (st.map fun v => v.category).sum ≤ 8) (d : decode cc pc = .ok (.invokestatic idx, 3)) {st0 : List Value} (h0 : av.reverse ++ st = st0) (k : ∀ v, sS Z (sMu M) V fin (pc + 3) lv (.int v.1 :: st) v.2 (F v)) : sS Z M V fin pc lv st0 h (X.bind F) := by
  subst h0
  obtain ⟨p, l, e, R, s, m, args, below, meth, c, cs, sl, cf, sf⟩ := M
  obtain ⟨D, cA, ad⟩ := V
  intro r hX H locs ls hl hP hS
  obtain ⟨w, hX2, hF⟩ := sB_of hX
  obtain ⟨c1, c2, c3, c4, c5, c6, c7, c8⟩ := cw
  obtain ⟨o1, o2, o3, o4, o5, o6, o7, o8, o9, o10, ⟨o13, o14⟩, o11, o12⟩ := O
  obtain ⟨-, -, -, -, -, -, -, -, -, -, ⟨p13, p14⟩, -, -⟩ := O2
  obtain ⟨⟨t1, t2, t3⟩, -⟩ := T
  subst o10
  have hm := hM l (D, cA, ad) w t1 hX2
  have hZ : sZs (sAr Z.2 ad) s H := t2.kept hS.2.1
  have hpre : ∀ U : State, U.heap = H → s.WarmedH U.vm → sPh Z (D, cA, ad) av h (av.map (sV ad)).toArray U := fun U hU hW => ⟨⟨⟨rfl, sTab_warm hW o5, va_K.moved hW.alike o6, o7, by rw [hU]; exact hP⟩, by rw [hU]; exact hZ.moved hW.alike⟩, t3.moved hW.alike⟩
  have hstk : ((av.reverse ++ st).map (sV ad)) = (av.map (sV ad)).reverse ++ st.map (sV ad) := by rw [List.map_append, List.map_reverse]
  have hwt : 2 * (F0 m pc ls ((av.reverse ++ st).map (sV ad))).monitorRoom + ((st.map (sV ad)).map fun v => v.category).sum ≤ 8 := lv_room (by rw [sV_sum]; exact hw)
  have hcode : (Cond.codeWith y cc' nL' (some .int) hs).before args s = true := sTab_use o5 c3 rfl args
  have hini : (Cond.initialized y.cls).before args s = true := sTab_use o5 c2 rfl args
  have hstat : (Cond.static y).before args s = true := sTab_use o5 hst rfl args
  have hlink : (Cond.methodLink own idx y).before args s = true := sTab_use o5 c1 rfl args
  have hlen : ∀ sig, parseMethodDescriptor y.desc = some sig → (av.map (sV ad)).length = sig.parameters.length := fun sig hsig => by rw [List.length_map, hn]; exact sDesc c5 sig hsig
  have hws : ∀ w ∈ [Cond.codeWith y cc' nL' (some .int) hs], ∀ (a' : Array Value) (U : State), s.WarmedH U.vm → w.before a' U = true := fun w hw a' U hW => by
    rw [List.mem_singleton.mp hw]
    exact word_at hW (Or.inl (by first | rfl | simp [Cond.onTables, Cond.keeps, Cond.steady])) hcode
  have hK : Back l R p e below s args y 3 8 (PreOf R 1 6 (sPh Z (D, cA, ad) av h)) (PostOf (sQr Z (D, cA, ad) (some (.int w.1)) w.2) 1 6 (sAr Z.2 ad)) := va_backW (hh := hs) (bytes := cc') (maxL := nL') (ret := some .int) hm (sPh_blind Z (D, cA, ad) av h) c6.1 c6.2 c7 c8 hws (List.mem_singleton.mpr rfl) (sIniW hini)
  intro T0 hT0 X0
  obtain ⟨mk, methM, cM, hnamed, hmethM, -, -, -, -, -, -, hsigM⟩ := Cond.codeWith_spec hcode
  have hstatic : methM.isStatic = true := Cond.static_spec hnamed hmethM hstat
  obtain ⟨kP, hkP, -⟩ := className_of_methodNamed hnamed
  have hinitP : kP.init = .initialized := Cond.initialized_spec (findClass_of_methodNamed hnamed) hkP hini
  obtain ⟨vm₁, X₁, hstep₁⟩ := X0.invokestatic o1 o4 hlink hnamed hmethM hstatic hkP hinitP c4 (g := F0 m pc ls ((av.reverse ++ st).map (sV ad))) rfl (argsL := av.map (sV ad)) (rest := st.map (sV ad)) (hlen _ hsigM) hstk (by rw [o2]; exact d)
  obtain ⟨v, ⟨U', l2, c2', s2⟩, X', ⟨g', mk', t, L, e1, e2, hq, h1, hL, h2, h3⟩, hsteps⟩ := hK m meth c ⟨T0.setVm vm₁, locs, cs, sl⟩ { (F0 m pc ls ((av.reverse ++ st).map (sV ad))) with stack := st.map (sV ad) } (.invokestatic idx) mk (av.map (sV ad)).toArray X₁ rfl hl.1 (by show decode c.code pc = _; rw [o2]; exact d) hwt (X₁.named hnamed) ⟨Nat.le_trans p13 o11, Nat.le_trans p14 o12, hpre (T0.setVm vm₁) hT0 X₁.warmed⟩
  dsimp only [Pt.U, Pt.locs, Pt.cells, Pt.slots] at X' e1 e2 h1 h2 h3 hsteps
  subst h1; subst h2; subst h3
  obtain ⟨hv, hp, hz, hk⟩ := hq
  cases hv
  have hz' : H.size ≤ t.heap.size := by rw [← hT0]; exact hz
  have hk' : ∀ q : Nat, q < H.size → ¬ sAr Z.2 ad q → t.heap[q]? = H[q]? := by rw [← hT0]; exact hk
  have kk := k w r hF U'.heap (locs ++ L) ls hl (by rw [e1]; exact hp)
    ⟨Nat.le_trans hS.1 (by rw [e1]; exact hz'), fun q h1 h2 => by rw [e1, hk' q (Nat.lt_of_lt_of_le h1 hS.1) h2]; exact hS.2.1 q h1 h2, fun q hq => by
      rcases List.mem_append.mp hq with h | h
      · exact hS.2.2 q h
      · exact hL q h⟩
  have hqq : sQ Z (sMu (p, l, e, R, s, m, args, below, meth, c, cs, sl, cf, sf)) (D, cA, ad) (fin r).1 (fin r).2 = sQ Z (p, l, e, R, s, m, args, below, meth, c, cs, sl, cf, sf) (D, cA, ad) (fin r).1 (fin r).2 := by
    cases (fin r).1 <;> rfl
  rw [hqq] at kk
  obtain ⟨t2', a1, b1⟩ := kk U' rfl X'
  exact ⟨t2', hstep₁ _ fun acts => by rw [doInvoke_state]; exact hsteps.trans a1, b1⟩
theorem r_sld {kk : Nat} {xs : Nat → Int32} {X : Option ρ} (O : sOk Z M V cc nL own ret rm) (T : sOkl Z kk xs M V) {i : Nat} {j x : Int32} (hi : Z.2.length = i) (d : decode cc pc = .ok (.iaload, 1)) (hx : xs j.toNatClampNeg = x) (k : sS Z M V fin (pc + 1) lv (.int x :: st) h X) : sS Z M V fin pc lv (.int j :: .ref i :: st) h (sGd (sIn j kk) X) := by
  obtain ⟨p, l, e, R, s, m, args, below, meth, c, cs, sl, cf, sf⟩ := M
  obtain ⟨D, cA, ad⟩ := V
  intro r hX H locs ls hl hP hS
  obtain ⟨q1, q2⟩ := sGd_some hX
  subst hx
  subst hi
  exact va_sld O.1 O.2.1 T.2.1 T.2.2.1 (fun z => absurd (T.2.2.2 _ z) (Nat.not_le.mpr T.2.2.1)) hS (sIn_iff.mp q1) d (k r q2 H locs ls hl hP hS)
theorem r_slen {kk : Nat} {xs : Nat → Int32} {X : Option ρ} (O : sOk Z M V cc nL own ret rm) (T : sOkl Z kk xs M V) {i : Nat} (hi : Z.2.length = i) (d : decode cc pc = .ok (.arraylength, 1)) (k : sS Z M V fin (pc + 1) lv (.int (Int32.ofNat kk) :: st) h X) : sS Z M V fin pc lv (.ref i :: st) h X := by
  obtain ⟨p, l, e, R, s, m, args, below, meth, c, cs, sl, cf, sf⟩ := M
  obtain ⟨D, cA, ad⟩ := V
  intro r hX H locs ls hl hP hS
  subst hi
  exact va_slen O.1 O.2.1 T.2.1 T.2.2.1 (fun z => absurd (T.2.2.2 _ z) (Nat.not_le.mpr T.2.2.1)) hS d (k r hX H locs ls hl hP hS)
end SLW
