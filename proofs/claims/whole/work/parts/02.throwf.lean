def sOkh (Z : sZo) (hs : List (Nat × Nat × Nat × Nat)) : sMa → sWo → Prop
  | (_, l, _, R, s, _, _, _, _, c, cs, sl, cf, sf), (_, _, ad) => l.flags = flags0 ∧ sZs (sAr Z.2 ad) s s.heap ∧ sNc s ∧ c.exceptionTable.toList.map (fun h => (h.startPc, h.endPc, h.handlerPc, h.catchType)) = hs ∧ (cs = 0 ∧ sl = 0) ∧ 1 ≤ cf ∧ 6 ≤ sf
/-- behind a call that may throw, in a method that catches all of it and answers a number then -/
def jC {γ ρ : Type} (X : Option (Except Nat γ × sHp)) (F : γ → sHp → Option ρ) (G : Nat → sHp → Option ρ) : Option ρ := match X with
  | some (.ok v, h) => F v h
  | some (.error k, h) => G k h
  | none => none
/-- what a handler does: it keeps the exception, and answers a number -/
def sHnd (cc : ByteArray) (nL hp : Nat) (v : Int32) : Prop := (∃ (j : Fin 4) (n : Int), decode cc hp = .ok (.astore_n j, 1) ∧ (j : Nat) < nL ∧ decode cc (hp + 1) = .ok (.iconst n, 1) ∧ Int32.ofInt n = v ∧ decode cc (hp + 1 + 1) = .ok (.ireturn, 1)) ∨ ∃ (j : Nat) (n : Int), decode cc hp = .ok (.astore j, 2) ∧ j < nL ∧ decode cc (hp + 2) = .ok (.iconst n, 1) ∧ Int32.ofInt n = v ∧ decode cc (hp + 2 + 1) = .ok (.ireturn, 1)
section SG
variable {p : Program} {l : Launch} {e : Env} {R : Room} {s : State} {m : MethodId} {args : Array Value} {below : List Frame} {meth : Method} {c : Code} {H : Heap} {locs : List Loc} {cs sl : Nat}
theorem sHandle {Qc : Array Value → State → Outcome → State → Prop} {free : Addr → Prop} {cc : ByteArray} {nL hp : Nat} {v : Int32} {lv : List (Nat × Value)} {ls : Array Slot} {x : Addr} (hexec : p.tables.exec = Jvm.exec) (hb : c.code = cc) (hml : c.maxLocals = nL) (hl : lv_has ls c.maxLocals lv) (hh : sHnd cc nL hp v) (hr : meth.sig.returnType = some .int) (hlocks : meth.locks = false)
    (hq : ∀ t : State, t.heap = H → s.WarmedH t.vm → Qc args s (.returned (some (.int v))) t) (hf : ∀ q ∈ locs, free q.base) : W p l e R s m args below meth c H locs cs sl (MQ below Qc args s cs sl free) (F0 m hp ls [.ref x]) := by
  rcases hh with ⟨j, n, d0, hj, d1, hv, d2⟩ | ⟨j, n, d0, hj, d1, hv, d2⟩
  · refine lv_astore_n hexec hb d0 rfl hl (by rw [hml]; exact hj) rfl (fun ls' hl' => ?_)
    refine lv_iconst hexec hb d1 hv ?_
    exact W.iret hexec hb hr hq hf d2 hlocks
  · refine lv_astore hexec hb d0 hl (by rw [hml]; exact hj) rfl (fun ls' hl' => ?_)
    refine lv_iconst hexec hb d1 hv ?_
    exact W.iret hexec hb hr hq hf d2 hlocks
end SG
section SH
variable {γ : Type} {Z : sZo} {M : sMa} {V : sWo} {cc cc' : ByteArray} {nL nL' pc idx n : Nat} {own : String} {y : MethodName} {ret' : Option FieldType} {rm rm' : Room} {lv : List (Nat × Value)} {st av : List Value} {h : sHp} {o' : γ → Option Value} {X : Option (Except Nat γ × sHp)} {F : γ → sHp → Option (Int32 × sHp)} {G : Nat → sHp → Option (Int32 × sHp)} {hs : List (Nat × Nat × Nat × Nat)} {rs : List (Nat × Nat)}
theorem r_catch (O : sOk Z M V cc nL own (some .int) rm) (T : sOkh Z hs M V) {i ci N : Nat} {ks : List sKd} {C : String} {Tt : u_T} (gz1 : Z.2[i]? = some (.inr (ci, ks))) (gz3 : Z.1[ci]? = some (C, Tt, N)) (ho : ∀ (ad : Nat → Nat) (w : γ), ((o' w).toList).map (sV ad) = (o' w).toList) (hM : sMf Z o' y cc' nL' ret' rm' (.ref i :: av) h X) (cw : sCf own idx y cc' nL' ret' rm' rm n) (hst : Cond.instanceMethod y ∈ sTB) (hse : Cond.selects C y y ∈ sTB) (hn : av.length = n) (hw : (st.map fun v => v.category).sum ≤ 8) (d : decode cc pc = .ok (.invokevirtual idx, 3))
    (hrow : sRows own pc hs rs) (hG : ∀ k h1 r, G k h1 = some r → k < 3 ∧ r.2 = h1 ∧ ∃ hp, sPick rs k = some hp ∧ sHnd cc nL hp r.1)
    (k : ∀ v h', sS Z M V (sEb sOi) (pc + 3) lv ((o' v).toList ++ st) h' (F v h')) : sS Z M V (sEb sOi) pc lv (av.reverse ++ .ref i :: st) h (jC X F G) := by
  obtain ⟨p, l, e, R, s, m, args, below, meth, c, cs, sl, cf, sf⟩ := M
  obtain ⟨D, cA, ad⟩ := V
  intro r hX H locs ls hl hP hS
  obtain ⟨c1, c2, c3, c4, c5, c6, c7, c8⟩ := cw
  obtain ⟨o1, o2, o3, o4, o5, o6, o7, o8, o9, o10, ⟨o13, o14⟩, o11, o12⟩ := O
  obtain ⟨t1, t2, t4, t3, ⟨hc0, hs0⟩, t5, t6⟩ := T
  subst o10
  subst hc0; subst hs0
  have hZ : sZs (sAr Z.2 ad) s H := t2.kept hS.2.1
  have hpt : ∀ U : State, U.heap = H → s.WarmedH U.vm → sPt Z (D, cA, ad) (.ref i :: av) h ((Value.ref i :: av).map (sV ad)).toArray U := fun U hU hW => ⟨⟨rfl, sTab_warm hW o5, va_K.moved hW.alike o6, o7, by rw [hU]; exact hP⟩, by rw [hU]; exact hZ.moved hW.alike⟩
  have hcell : ∃ cellB : Cell, H[ad i]? = some cellB ∧ cellB.vm.isStatics = false ∧ s.vm.findClass C = some cellB.cls := by
    obtain ⟨r, h1, cell, q1, q2, q3, q4⟩ := hP i _ (sWd_at gz1)
    obtain ⟨hSl, hfc, kC, hkC, hkind⟩ := o6.1 ci _ gz3
    exact ⟨cell, q1, by rw [q3]; rfl, by rw [q2]; exact hfc⟩
  have hpre : PreV s H C (ad i) (sPt Z (D, cA, ad) (.ref i :: av) h) (av.map (sV ad)) := ⟨sPt_blind Z (D, cA, ad) _ h, hcell, hpt⟩
  have hstk : ((av.reverse ++ .ref i :: st).map (sV ad)) = (av.map (sV ad)).reverse ++ .ref (ad i) :: st.map (sV ad) := by rw [List.map_append, List.map_reverse]; rfl
  have hwt : 2 * (F0 m pc ls ((av.reverse ++ .ref i :: st).map (sV ad))).monitorRoom + ((st.map (sV ad)).map fun v => v.category).sum ≤ 8 := lv_room (by rw [sV_sum]; exact hw)
  have hcode : (Cond.code y cc' nL' ret').before args s = true := sTab_use o5 c3 rfl args
  have hini : (Cond.initialized y.cls).before args s = true := sTab_use o5 c2 rfl args
  have hinst : (Cond.instanceMethod y).before args s = true := sTab_use o5 hst rfl args
  have hsel : (Cond.selects C y y).before args s = true := sTab_use o5 hse rfl args
  have hlink : (Cond.methodLink own idx y).before args s = true := sTab_use o5 c1 rfl args
  have hlen : ∀ sig, parseMethodDescriptor y.desc = some sig → (av.map (sV ad)).length = sig.parameters.length := fun sig hsig => by rw [List.length_map, hn]; exact sDesc c5 sig hsig
  cases hXX : X with
  | none => rw [hXX] at hX; cases hX
  | some q =>
    obtain ⟨q1, h1⟩ := q
    rw [hXX] at hX
    cases q1 with
    | ok v =>
      have hX' : F v h1 = some r := hX
      have key := sRunV (l := l) (e := e) (R := R) (below := below) (meth := meth) (locs := locs) (cs := 0) (sl := 0) (g := F0 m pc ls ((av.reverse ++ .ref i :: st).map (sV ad))) (rest := st.map (sV ad)) o1 o2 o4 (hM.1 l (D, cA, ad) v h1 t1 hXX) hlink hinst hsel hini hcode c4 hlen ⟨c7, c8⟩ hpre rfl hl.1 hstk hwt d ⟨by omega, by omega⟩
      refine sCall key hS (fun H1 locs1 hP1 hS1 => ?_)
      have kk := k v h1 r hX' H1 locs1 ls hl hP1 hS1
      rw [List.map_append] at kk
      rw [ho ad v] at kk
      exact kk
    | error kx =>
      have hX' : G kx h1 = some r := hX
      obtain ⟨hk3, hr2, hp, hpick, hhnd⟩ := hG kx h1 r hX'
      intro T0 hT X0
      obtain ⟨cellB, hcB, hoB, hclB⟩ := hcell
      obtain ⟨mk, methM, hnamed, hmethM, hstM, habM⟩ := Cond.instanceMethod_spec hinst
      obtain ⟨methM', cM, hmethM', -, -, -, -, -, -, hsigM⟩ := Cond.code_spec hnamed hcode
      cases hmethM.symm.trans hmethM'
      obtain ⟨c2', r2, m2, q1, q2, q3, q4, kP, hkP, hkPi⟩ := Cond.selects_spec hsel
      cases hclB.symm.trans q1
      cases (State.methodFound?_of_named hnamed c4).symm.trans q2
      cases hnamed.symm.trans q3
      have hselP : selectMethod e.platform s.vm cellB.cls mk = .method mk := by rw [Launch.admits_selectMethod X0.admits]; exact q4
      obtain ⟨vm₁, X₁, hstep₁⟩ := X0.invokevirtual o1 o4 hlink hnamed hmethM hstM hkP hkPi c4 (a := ad i) (cell := cellB) (by rw [hT]; exact hcB)
        (fun z h => by rw [h] at hoB; cases hoB) hselP hmethM habM hkP hkPi (g := F0 m pc ls ((av.reverse ++ .ref i :: st).map (sV ad))) rfl (argsL := av.map (sV ad)) (rest := st.map (sV ad)) (hlen _ hsigM) hstk (by rw [o2]; exact d)
      have hT1 : (T0.setVm vm₁).heap = H := hT
      have hfl := sFall X₁ (y := y) (g := F0 m pc ls (st.map (sV ad))) (mk := mk) (a := ((Value.ref i :: av).map (sV ad)).toArray) (hM.2 l (D, cA, ad) kx h1 t1 hXX) sQT_sp rfl hl.1 (by rw [o2]; exact d) (lv_room (by rw [sV_sum]; exact hw)) (X₁.named hnamed) (sCodeW hcode _ (List.mem_singleton.mpr rfl) _ _ X₁.warmed) (sIniW hini _ _ X₁.warmed) ⟨c7, c8⟩ ⟨by omega, by omega⟩ (sPt_blind Z (D, cA, ad) _ h _ _ _ _ (hpt _ hT1 X₁.warmed))
      obtain ⟨x, L, t, T', hq, hsm, hLL, e1, e2, X', hsteps⟩ := hfl
      have hS' : va_S (sAr Z.2 ad) s.heap ((T0.setVm vm₁).calling (F0 m pc ls (st.map (sV ad))) mk ((Value.ref i :: av).map (sV ad)).toArray).heap locs := by rw [show ((T0.setVm vm₁).calling (F0 m pc ls (st.map (sV ad))) mk ((Value.ref i :: av).map (sV ad)).toArray).heap = H from hT]; exact hS
      obtain ⟨⟨g1, ce, kc, g2, g3, g4, g5⟩, g6, g7⟩ := sSeen hS' hq
      have hce : s.vm.findClass (sEx kx) = some ce.cls := by
        rw [← X'.warmed.alike.findClass, e2]
        exact g5
      obtain ⟨vm', hW', hgo⟩ := sSearch X'.admits (m := m) (own := own) (args := args) o4 o5 t4 (f := F0 m pc ls (st.map (sV ad))) rfl (a := x) hk3 hce g3 c.exceptionTable.toList rs hp ((T'.setTop (F0 m pc ls (st.map (sV ad)))).pushFrame (.throwing x)) (by rw [t3]; exact hrow) hpick X'.warmed (by show T'.heap[x]? = some ce; rw [e1]; exact g2)
      have X'' := X'.noted hW'
      have hAt : At T' (F0 m pc ls (st.map (sV ad))).method c below := X'.here
      have hlL : ∀ q ∈ locs ++ L, sAr Z.2 ad q.base := fun q hq => (List.mem_append.mp hq).elim (hS.2.2 q) (hLL q)
      have fin9 : W p l e R s m args below meth c T'.heap (locs ++ L) (0 + 1) (0 + 6) (MQ below (sQr Z (D, cA, ad) (some (.int r.1)) h1) args s cf sf (sAr Z.2 ad)) (F0 m hp ls [.ref x]) := by
        refine W.widen (k := cf) (n := sf) (by omega) (by omega) ?_
        exact sHandle o1 o2 o3 hl hhnd o9 o8 (fun tt ht _ => ⟨rfl, by rw [ht, e1]; exact g6, by rw [ht, e1]; exact g7.1, fun q h1 h2 => by rw [ht, e1]; exact g7.2 q h1 h2⟩) hlL
      obtain ⟨t9, s9, q9⟩ := fin9 (T'.setVm vm') rfl X''
      have hr3 : sQ Z (p, l, e, R, s, m, args, below, meth, c, 0, 0, cf, sf) (D, cA, ad) (sEb sOi r).1 (sEb sOi r).2 t9 := by
        obtain ⟨r1, r2'⟩ := r
        have hz : r2' = h1 := hr2
        subst hz
        exact q9
      refine ⟨t9, hstep₁ _ (fun acts => ?_), hr3⟩
      rw [doInvoke_state]
      refine hsteps.trans (sCaught (vm' := vm') hAt (fun Q E dd acts => ?_) s9)
      rw [W.findHandler_eq (meth := meth) (code := c) X'.method' X'.code]
      exact hgo Q E dd acts
end SH
def sPh (Z : sZo) : sWo → List Value → sHp → Array Value → State → Prop
  | (D, cA, ad), av, h, a, U => sPt Z (D, cA, ad) av h a U ∧ sNc U
theorem sPh_blind (Z : sZo) (V : sWo) (av : List Value) (h : sHp) : FrameBlind (sPh Z V av h) := by
  obtain ⟨D, cA, ad⟩ := V
  intro a U g mk q
  exact ⟨sPt_blind Z (D, cA, ad) av h a U g mk q.1, sNc.moved (u := U) (U := U.calling g mk a) (Vm.Alike.refl U.vm) q.2⟩
/-- a method with handlers that returns -/
def sMh (Z : sZo) (y : MethodName) (cc : ByteArray) (nL : Nat) (hs : List (Nat × Nat × Nat × Nat)) (rm : Room) (av : List Value) (h : sHp) (X : Option (Int32 × sHp)) : Prop :=
  ∀ (l : Launch) (V : sWo) (r : Int32 × sHp), l.flags = flags0 → X = some r → Met l y [.codeWith y cc nL (some .int) hs] rm (sPh Z V av h) (sQr Z V (some (.int r.1)) r.2) 1 6 (sAr Z.2 V.2.2)
theorem sMh_of {Z : sZo} {y : MethodName} {cc : ByteArray} {nL : Nat} {hs : List (Nat × Nat × Nat × Nat)} {rm : Room} {av : List Value} {h : sHp} {X : Option (Int32 × sHp)} {own : String} (ho : y.cls = own) (hy : plainName y.cls = true) (hlen : (lg_sl av).length ≤ nL) (hr : 1 ≤ rm.cells ∧ 6 ≤ rm.slots)
    (body : ∀ (M : sMa) (V : sWo), sOk Z M V cc nL own (some .int) rm → sOkh Z hs M V → sS Z M V (sEb sOi) 0 (lv_args 0 av) [] h X) : sMh Z y cc nL hs rm av h X := by
  subst ho
  intro l V r hfl hX
  obtain ⟨D, cA, ad⟩ := V
  refine va_MetW (cc := cc) (maxL := nL) (ret := some .int) (hh := hs) hy rfl ?_
  intro p e s m args below meth c s₁ B hml hv
  obtain ⟨⟨⟨rfl, hT, hK, hA, hP⟩, hZ⟩, hN⟩ := hv
  have hl := lv_entry (av.map (sV ad)) (n := nL) (by rw [sV_len]; exact hlen)
  obtain ⟨m9, meth9, c9, hn9, hm9, hc9, -, -, htab, -, -, -⟩ := Cond.codeWith_spec (atoms_spec (ws := [.codeWith y cc nL (some .int) hs]) B.pre _ List.mem_cons_self)
  cases B.named.symm.trans hn9
  cases B.method.symm.trans hm9
  cases (Stand.of_body B).code.symm.trans hc9
  rw [lg_entry_eq]
  rw [sV_args] at hl
  exact body (p, l, e, rm, s, m, _, below, meth, c, 0, 0, 1, 6) (D, cA, ad) ⟨B.exec, B.bytes, hml, findClass_of_methodNamed B.named, hT, hK, hA, B.notSynchronized, B.returns, rfl, ⟨Nat.zero_le _, Nat.zero_le _⟩, hr.1, hr.2⟩ ⟨hfl, hZ, hN, htab, ⟨rfl, rfl⟩, Nat.le_refl _, Nat.le_refl _⟩ r hX s.heap [] _ (by rw [hml]; exact hl) hP va_S.rf
def oI (v : Int32) : Option Value := some (.int v)
def oV (_ : Unit) : Option Value := none
section SI
variable {Z : sZo} {M : sMa} {V : sWo} {cc cc' : ByteArray} {nL nL' pc idx n : Nat} {own : String} {y : MethodName} {ret' : Option FieldType} {rm rm' : Room} {lv : List (Nat × Value)} {st : List Value} {h : sHp} {G : Nat → sHp → Option (Int32 × sHp)} {hs : List (Nat × Nat × Nat × Nat)} {rs : List (Nat × Nat)}
theorem r_catchi {X : Option (Except Nat Int32 × sHp)} {F : Int32 → sHp → Option (Int32 × sHp)} (O : sOk Z M V cc nL own (some .int) rm) (T : sOkh Z hs M V) (av : List Value) {i ci N : Nat} {ks : List sKd} {C : String} {Tt : u_T} (gz1 : Z.2[i]? = some (.inr (ci, ks))) (gz3 : Z.1[ci]? = some (C, Tt, N)) (hM : sMf Z oI y cc' nL' ret' rm' (.ref i :: av) h X) (cw : sCf own idx y cc' nL' ret' rm' rm n) (hst : Cond.instanceMethod y ∈ sTB) (hse : Cond.selects C y y ∈ sTB) (hn : av.length = n) (hw : (st.map fun v => v.category).sum ≤ 8) (d : decode cc pc = .ok (.invokevirtual idx, 3))
    (hrow : sRows own pc hs rs) (hG : ∀ k h1 r, G k h1 = some r → k < 3 ∧ r.2 = h1 ∧ ∃ hp, sPick rs k = some hp ∧ sHnd cc nL hp r.1) {st0 : List Value} (h0 : av.reverse ++ .ref i :: st = st0)
    (k : ∀ v h', sS Z M V (sEb sOi) (pc + 3) lv (.int v :: st) h' (F v h')) : sS Z M V (sEb sOi) pc lv st0 h (jC X F G) := by
  subst h0
  exact r_catch O T gz1 gz3 (fun _ _ => rfl) hM cw hst hse hn hw d hrow hG k
theorem r_catchv {X : Option (Except Nat Unit × sHp)} {F : Unit → sHp → Option (Int32 × sHp)} (O : sOk Z M V cc nL own (some .int) rm) (T : sOkh Z hs M V) (av : List Value) {i ci N : Nat} {ks : List sKd} {C : String} {Tt : u_T} (gz1 : Z.2[i]? = some (.inr (ci, ks))) (gz3 : Z.1[ci]? = some (C, Tt, N)) (hM : sMf Z oV y cc' nL' ret' rm' (.ref i :: av) h X) (cw : sCf own idx y cc' nL' ret' rm' rm n) (hst : Cond.instanceMethod y ∈ sTB) (hse : Cond.selects C y y ∈ sTB) (hn : av.length = n) (hw : (st.map fun v => v.category).sum ≤ 8) (d : decode cc pc = .ok (.invokevirtual idx, 3))
    (hrow : sRows own pc hs rs) (hG : ∀ k h1 r, G k h1 = some r → k < 3 ∧ r.2 = h1 ∧ ∃ hp, sPick rs k = some hp ∧ sHnd cc nL hp r.1) {st0 : List Value} (h0 : av.reverse ++ .ref i :: st = st0)
    (k : ∀ v h', sS Z M V (sEb sOi) (pc + 3) lv st h' (F v h')) : sS Z M V (sEb sOi) pc lv st0 h (jC X F G) := by
  subst h0
  exact r_catch O T gz1 gz3 (fun _ _ => rfl) hM cw hst hse hn hw d hrow hG k
end SI
