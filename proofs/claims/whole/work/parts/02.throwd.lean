/-- behind a call that may throw -/
def jE {β γ : Type} (X : Option (Except Nat γ × sHp)) (F : γ → sHp → Option (Except Nat β × sHp)) : Option (Except Nat β × sHp) := match X with
  | some (.ok v, h) => F v h
  | some (.error k, h) => some (.error k, h)
  | none => none
/-- what the tables say of a call that may throw -/
def sCf (own : String) (idx : Nat) (y : MethodName) (cc : ByteArray) (nL : Nat) (ret : Option FieldType) (rm' rm : Room) (n : Nat) : Prop := Cond.methodLink own idx y ∈ sTB ∧ Cond.initialized y.cls ∈ sTB ∧ Cond.code y cc nL ret ∈ sTB ∧ (y.cls ≠ "java/lang/invoke/MethodHandle" ∧ y.cls ≠ "java/lang/invoke/VarHandle") ∧ (parseMethodDescriptor y.desc).map (fun d => d.parameters.length) = some n ∧ (rm'.cells ≤ rm.cells ∧ rm'.slots ≤ rm.slots) ∧ rm'.frames + 1 ≤ rm.frames ∧ 8 + (nL + 11) + rm'.locals ≤ rm.locals
theorem sQT_sp {Z : sZo} {V : sWo} {k : Nat} {h' : sHp} {a : Array Value} : ∀ st o t, sQT Z V k h' a st o t → ∃ x L, o = .threw x ∧ st.WarmedH t.vm ∧ st.sameButNew ({ t with vm := st.vm } : State) L 1 6 ∧ ∀ q ∈ L, sAr Z.2 V.2.2 q.base := by
  intro st o t hq
  obtain ⟨D, cA, ad⟩ := V
  obtain ⟨x, h1, -, -, -, h5, L, h6, h7⟩ := hq
  exact ⟨x, L, h1, h5, h6, h7⟩
/-- from the callee's end to the caller's own: what was thrown, seen from the caller's start -/
theorem sSeen {Z : sZo} {D : va_G} {cA : Nat → ClassId} {ad : Nat → Nat} {k : Nat} {h' : sHp} {a : Array Value} {s st t : State} {x : Addr} {locs : List Loc} (hS : va_S (sAr Z.2 ad) s.heap st.heap locs) (hq : sQT Z (D, cA, ad) k h' a st (.threw x) t) : sThrew k x s t ∧ va_P D Z.1 (sWd Z.2 cA ad h') t.heap ∧ va_F (sAr Z.2 ad) s t := by
  obtain ⟨x', h1, ⟨h2, h2'⟩, h3, h4, -, -⟩ := hq
  cases h1
  exact ⟨⟨Nat.le_trans hS.1 h2, h2'⟩, h3, Nat.le_trans hS.1 h4.1, fun q h1 h2 => by rw [h4.2 q (Nat.lt_of_lt_of_le h1 hS.1) h2]; exact hS.2.1 q h1 h2⟩
section SF
variable {β γ ρ : Type} {Z : sZo} {M : sMa} {V : sWo} {cc cc' : ByteArray} {nL nL' pc idx n : Nat} {own : String} {y : MethodName} {ret ret' : Option FieldType} {rm rm' : Room} {lv : List (Nat × Value)} {st av : List Value} {h : sHp} {o : β → Option Value} {o' : γ → Option Value} {X : Option (Except Nat γ × sHp)} {F : γ → sHp → Option (Except Nat β × sHp)}
/-- a static call, out of a method without handlers, of one that may throw -/
theorem r_must (O : sOk Z M V cc nL own ret rm) (T : sOkt Z M V) (ho : ∀ (ad : Nat → Nat) (w : γ), ((o' w).toList).map (sV ad) = (o' w).toList) (hM : sMf Z o' y cc' nL' ret' rm' av h X) (cw : sCf own idx y cc' nL' ret' rm' rm n) (hst : Cond.static y ∈ sTB) (hn : av.length = n) (hw : (st.map fun v => v.category).sum ≤ 8) (d : decode cc pc = .ok (.invokestatic idx, 3))
    (k : ∀ v h', X = some (.ok v, h') → sS Z M V (sEf o) (pc + 3) lv ((o' v).toList ++ st) h' (F v h')) : sS Z M V (sEf o) pc lv (av.reverse ++ st) h (jE X F) := by
  obtain ⟨p, l, e, R, s, m, args, below, meth, c, cs, sl, cf, sf⟩ := M
  obtain ⟨D, cA, ad⟩ := V
  intro r hX H locs ls hl hP hS
  obtain ⟨c1, c2, c3, c4, c5, c6, c7, c8⟩ := cw
  obtain ⟨o1, o2, o3, o4, o5, o6, o7, o8, o9, o10, ⟨o13, o14⟩, o11, o12⟩ := O
  obtain ⟨t1, t2, t3, hc0, hs0⟩ := T
  subst o10
  subst hc0; subst hs0
  have hZ : sZs (sAr Z.2 ad) s H := t2.kept hS.2.1
  have hpt : ∀ U : State, U.heap = H → s.WarmedH U.vm → sPt Z (D, cA, ad) av h (av.map (sV ad)).toArray U := fun U hU hW => ⟨⟨rfl, sTab_warm hW o5, va_K.moved hW.alike o6, o7, by rw [hU]; exact hP⟩, by rw [hU]; exact hZ.moved hW.alike⟩
  have hpre : PreS s H (sPt Z (D, cA, ad) av h) (av.map (sV ad)) := ⟨sPt_blind Z (D, cA, ad) av h, hpt⟩
  have hstk : ((av.reverse ++ st).map (sV ad)) = (av.map (sV ad)).reverse ++ st.map (sV ad) := by rw [List.map_append, List.map_reverse]
  have hwt : 2 * (F0 m pc ls ((av.reverse ++ st).map (sV ad))).monitorRoom + ((st.map (sV ad)).map fun v => v.category).sum ≤ 8 := lv_room (by rw [sV_sum]; exact hw)
  have hcode : (Cond.code y cc' nL' ret').before args s = true := sTab_use o5 c3 rfl args
  have hini : (Cond.initialized y.cls).before args s = true := sTab_use o5 c2 rfl args
  have hstat : (Cond.static y).before args s = true := sTab_use o5 hst rfl args
  have hlink : (Cond.methodLink own idx y).before args s = true := sTab_use o5 c1 rfl args
  have hlen : ∀ sig, parseMethodDescriptor y.desc = some sig → (av.map (sV ad)).length = sig.parameters.length := fun sig hsig => by rw [List.length_map, hn]; exact sDesc c5 sig hsig
  cases hXX : X with
  | none => rw [hXX] at hX; cases hX
  | some q =>
    obtain ⟨q1, h1⟩ := q
    rw [hXX] at hX
    cases q1 with
    | ok v =>
      have hX' : F v h1 = some r := hX
      have key := sRunS (l := l) (e := e) (R := R) (below := below) (meth := meth) (locs := locs) (cs := 0) (sl := 0) (g := F0 m pc ls ((av.reverse ++ st).map (sV ad))) (rest := st.map (sV ad)) o1 o2 o4 (hM.1 l (D, cA, ad) v h1 t1 hXX) hlink hstat hini hcode c4 hlen ⟨c7, c8⟩ hpre rfl hl.1 hstk hwt d ⟨by omega, by omega⟩
      refine sCall key hS (fun H1 locs1 hP1 hS1 => ?_)
      have kk := k v h1 hXX r hX' H1 locs1 ls hl hP1 hS1
      rw [List.map_append] at kk
      rw [ho ad v] at kk
      exact kk
    | error kx =>
      have hX' : some (Except.error kx, h1) = some r := hX
      cases hX'
      intro T0 hT X0
      obtain ⟨mk, hnamed⟩ := Cond.code_named hcode
      obtain ⟨methM, cM, hmethM, -, -, -, -, -, -, hsigM⟩ := Cond.code_spec hnamed hcode
      have hstatic : methM.isStatic = true := Cond.static_spec hnamed hmethM hstat
      obtain ⟨kP, hkP, -⟩ := className_of_methodNamed hnamed
      have hinitP : kP.init = .initialized := Cond.initialized_spec (findClass_of_methodNamed hnamed) hkP hini
      obtain ⟨vm₁, X₁, hstep₁⟩ := X0.invokestatic o1 o4 hlink hnamed hmethM hstatic hkP hinitP c4 (g := F0 m pc ls ((av.reverse ++ st).map (sV ad))) rfl (argsL := av.map (sV ad)) (rest := st.map (sV ad)) (hlen _ hsigM) hstk (by rw [o2]; exact d)
      have hT1 : (T0.setVm vm₁).heap = H := hT
      have hfl := sFall X₁ (y := y) (g := F0 m pc ls (st.map (sV ad))) (mk := mk) (a := (av.map (sV ad)).toArray) (hM.2 l (D, cA, ad) kx h1 t1 hXX) sQT_sp rfl hl.1 (by rw [o2]; exact d) (lv_room (by rw [sV_sum]; exact hw)) (X₁.named hnamed) (sCodeW hcode _ (List.mem_singleton.mpr rfl) _ _ X₁.warmed) (sIniW hini _ _ X₁.warmed) ⟨c7, c8⟩ ⟨by omega, by omega⟩ (sPt_blind Z (D, cA, ad) av h _ _ _ _ (hpt _ hT1 X₁.warmed))
      obtain ⟨x, L, t, T', hq, hsm, hLL, e1, e2, X', hsteps⟩ := hfl
      obtain ⟨f1, f2, f3, f4, f5⟩ := X'.leaveThrown x (g := F0 m pc ls (st.map (sV ad))) rfl rfl rfl (covers_of_empty t3 _) o8
      have hS' : va_S (sAr Z.2 ad) s.heap ((T0.setVm vm₁).calling (F0 m pc ls (st.map (sV ad))) mk (av.map (sV ad)).toArray).heap locs := by rw [show ((T0.setVm vm₁).calling (F0 m pc ls (st.map (sV ad))) mk (av.map (sV ad)).toArray).heap = H from hT]; exact hS
      obtain ⟨⟨g1, ce, kc, g2, g3, g4, g5⟩, g6, g7⟩ := sSeen hS' hq
      refine ⟨T'.setFrames (.throwing x :: below), hstep₁ _ (fun acts => ?_), x, f2, f3, ⟨g1, ce, kc, ?_, g3, ?_, ?_⟩, ?_, ?_, f4, locs ++ L, f5, ?_⟩
      · rw [doInvoke_state]
        exact hsteps.trans f1
      · show T'.heap[x]? = some ce
        rw [e1]; exact g2
      · show T'.vm.classes[ce.cls]? = some kc
        rw [e2]; exact g4
      · show T'.vm.findClass (sEx kx) = some ce.cls
        rw [e2]; exact g5
      · show va_P D Z.1 (sWd Z.2 cA ad h1) T'.heap
        rw [e1]; exact g6
      · exact ⟨by show s.heap.size ≤ T'.heap.size; rw [e1]; exact g7.1, fun q h1 h2 => by show T'.heap[q]? = _; rw [e1]; exact g7.2 q h1 h2⟩
      · intro q hq
        rcases List.mem_append.mp hq with hz | hz
        · exact hS.2.2 q hz
        · exact hLL q hz
theorem r_mustv {k : Nat} {b : Int32} {Y : Option (Except Nat β × sHp)} (O : sOk Z M V cc nL own ret rm) (T : sOkt Z M V) (d : decode cc pc = .ok (.invokestatic idx, 3)) (hM : sMf Z (fun _ : Unit => none) y cc' 1 none rm' [.int b] h (if b = 0 then some (.error k, h) else some (.ok (), h))) (cw : sCf own idx y cc' 1 none rm' rm 1) (hst : Cond.static y ∈ sTB) (hw : (st.map fun v => v.category).sum ≤ 8)
    (kk : ¬ b = 0 → sS Z M V (sEf o) (pc + 3) lv st h Y) : sS Z M V (sEf o) pc lv (.int b :: st) h (if b = 0 then some (.error k, h) else Y) := by
  have key : sS Z M V (sEf o) pc lv (([.int b] : List Value).reverse ++ st) h (jE (if b = 0 then some (.error k, h) else some (.ok (), h)) (fun (_ : Unit) _ => Y)) := by
    refine r_must O T (fun _ _ => rfl) hM cw hst rfl hw d (fun v h' hX => ?_)
    by_cases hb : b = 0
    · rw [if_pos hb] at hX
      cases hX
    · rw [if_neg hb] at hX
      cases hX
      exact kk hb
  intro r hX
  refine key r ?_
  by_cases hb : b = 0
  · rw [if_pos hb] at hX ⊢
    exact hX
  · rw [if_neg hb] at hX ⊢
    exact hX
theorem r_must1 {k : Nat} {b : Int32} {Y : Option (Except Nat β × sHp)} (O : sOk Z M V cc nL own ret rm) (T : sOkt Z M V) (d : decode cc pc = .ok (.invokestatic idx, 3)) (hM : sMf Z (fun _ : Unit => none) y cc' 1 none rm' [.int b] h (if b = 0 then some (.error k, h) else some (.ok (), h))) (cw : sCf own idx y cc' 1 none rm' rm 1) (hst : Cond.static y ∈ sTB) (hw : (st.map fun v => v.category).sum ≤ 8) (hb : ¬ b = 0)
    (kk : sS Z M V (sEf o) (pc + 3) lv st h Y) : sS Z M V (sEf o) pc lv (.int b :: st) h Y := by
  have z := r_mustv (Y := Y) O T d hM cw hst hw (fun _ => kk)
  rw [if_neg hb] at z
  exact z
theorem r_must0 {k : Nat} {b : Int32} (O : sOk Z M V cc nL own ret rm) (T : sOkt Z M V) (d : decode cc pc = .ok (.invokestatic idx, 3)) (hM : sMf Z (fun _ : Unit => none) y cc' 1 none rm' [.int b] h (if b = 0 then some (.error k, h) else some (.ok (), h))) (cw : sCf own idx y cc' 1 none rm' rm 1) (hst : Cond.static y ∈ sTB) (hw : (st.map fun v => v.category).sum ≤ 8) (hb : b = 0) : sS Z M V (sEf o) pc lv (.int b :: st) h (some (.error k, h)) := by
  have z := r_mustv (o := o) (lv := lv) (Y := (none : Option (Except Nat β × sHp))) O T d hM cw hst hw (fun q => absurd hb q)
  rw [if_pos hb] at z
  exact z
end SF
