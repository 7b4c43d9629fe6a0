section ST
variable {p : Program} {l : Launch} {e : Env} {R : Room} {s : State} {m : MethodId} {args : Array Value} {below : List Frame} {meth : Method} {c : Code} {H : Heap} {locs : List Loc} {cs sl : Nat} {Q : State → Prop}
/-- 'throw new X()': four instructions -/
theorem sThrow0 {cc : ByteArray} {own cls : String} {ixn ic pc : Nat} {ls : Array Slot} (hexec : p.tables.exec = Jvm.exec) (hb : c.code = cc) (hfl : l.flags = flags0) (hown : s.vm.findClass own = some m.cls)
    (hclink : (Cond.classLink own ixn cls).before args s = true) (hins : (Cond.instantiable cls 6).before args s = true) (hini : (Cond.initialized cls).before args s = true) (hat : ∀ a ∈ Bundle.ownAtoms0 own ic cls sUp, a.before args s = true) (hcls : Bundle.fit cls = true)
    (hlocks : meth.locks = false) (hnoh : c.exceptionTable.isEmpty = true) (hlocs : ∀ x ∈ locs, ∀ cell, s.heap[x.base]? = some cell → cell.vm.isStatics = false) (hsz : s.heap.size ≤ H.size) (hls : ls.size = c.maxLocals)
    (d0 : decode cc pc = .ok (.new ixn, 3)) (d3 : decode cc (pc + 3) = .ok (.dup, 1)) (d4 : decode cc (pc + 3 + 1) = .ok (.invokespecial ic, 3)) (d7 : decode cc (pc + 3 + 1 + 3) = .ok (.athrow, 1))
    (hcells : cs + 1 ≤ R.cells) (hslots : sl + 6 ≤ R.slots) (hfr : 6 ≤ R.frames) (hlo : 81 ≤ R.locals)
    (kk : ∀ (U : State) (a : Addr) (ce : Cell), U.status = .running → Ended U below (.threw a) → s.WarmedH U.vm → s.sameButNew ({ U with vm := s.vm } : State) locs (cs + 1) (sl + 6) → U.heap[a]? = some ce → Bundle.OwnCell args s cls a .null ce → s.heap.size ≤ a → Q U) :
    W p l e R s m args below meth c H locs cs sl Q (F0 m pc ls []) := by
  refine W.newc hexec hb hown hclink hins hini rfl d0 hcells hslots (fun cC kC hfc hkC hkind hn => ?_)
  refine W.eq (g2 := F0 m (pc + 3) ls [.ref H.size]) rfl ?_
  refine lv_dup hexec hb d3 rfl ?_
  intro T hT X
  have hcellT : T.heap[H.size]? = some (freshCell cC kC) := by
    rw [hT]
    simp [freshCell]
  have hout : ∀ x ∈ c.exceptionTable.toList, covers x (pc + 3 + 1 + 3) = false := covers_of_empty hnoh _
  obtain ⟨U, hsteps, hrun, hend, hW, hsame, ce, hce, K⟩ := X.ctorThrow0 hexec (Launch.traces_off hfl X.admits) (own := own) (cls := cls) (names := sUp) (ic := ic) hown hcls (by decide +kernel) hat hlocs hfc hkC hcellT hsz
    (g := F0 m (pc + 3 + 1) ls [.ref H.size, .ref H.size]) rfl hls rfl rfl (rest := []) rfl (by rw [hb]; exact d4) (by rw [hb]; exact d7) hout (by show 2 + 3 < R.frames; omega) (by show 2 * 0 + 1 + (13 * (2 + 1) + 41) ≤ R.locals; omega) hlocks
  exact ⟨U, hsteps, kk U H.size ce hrun hend hW hsame hce K hsz⟩
end ST
/-- what a body that may throw stands on besides -/
def sOkt (Z : sZo) : sMa → sWo → Prop
  | (_, l, _, _, s, _, _, _, _, c, cs, sl, _, _), (_, _, ad) => l.flags = flags0 ∧ sZs (sAr Z.2 ad) s s.heap ∧ c.exceptionTable.isEmpty = true ∧ cs = 0 ∧ sl = 0
def sPt (Z : sZo) : sWo → List Value → sHp → Array Value → State → Prop
  | (D, cA, ad), av, h, a, U => sPc Z (D, cA, ad) av h a U ∧ sZs (sAr Z.2 ad) U U.heap
def sQT (Z : sZo) : sWo → Nat → sHp → Array Value → State → Outcome → State → Prop
  | (D, cA, ad), k, h', _, st, o, t => ∃ x : Addr, o = .threw x ∧ sThrew k x st t ∧ va_P D Z.1 (sWd Z.2 cA ad h') t.heap ∧ va_F (sAr Z.2 ad) st t ∧ st.WarmedH t.vm ∧ ∃ L : List Loc, st.sameButNew ({ t with vm := st.vm } : State) L 1 6 ∧ ∀ q ∈ L, sAr Z.2 ad q.base
/-- a method that returns or throws, as X says -/
def sMf {β : Type} (Z : sZo) (o : β → Option Value) (y : MethodName) (cc : ByteArray) (nL : Nat) (ret : Option FieldType) (rm : Room) (av : List Value) (h : sHp) (X : Option (Except Nat β × sHp)) : Prop :=
  (∀ (l : Launch) (V : sWo) (v : β) (h' : sHp), l.flags = flags0 → X = some (.ok v, h') → Met l y [.code y cc nL ret] rm (sPt Z V av h) (sQr Z V (o v) h') 0 0 (sAr Z.2 V.2.2)) ∧
  ∀ (l : Launch) (V : sWo) (k : Nat) (h' : sHp), l.flags = flags0 → X = some (.error k, h') → MetFree l y (headSpec [.code y cc nL ret] rm) (sPt Z V av h) (fun _ _ _ _ _ => True) (sQT Z V k h')
def sEf {β : Type} (o : β → Option Value) (r : Except Nat β × sHp) : sOut × sHp := (match r.1 with
  | .ok v => .inl (o v)
  | .error k => .inr k, r.2)
theorem sMf_of {β : Type} {Z : sZo} {o : β → Option Value} {y : MethodName} {cc : ByteArray} {nL : Nat} {ret : Option FieldType} {rm : Room} {av : List Value} {h : sHp} {X : Option (Except Nat β × sHp)} {own : String} (ho : y.cls = own) (hy : plainName y.cls = true) (hlen : (lg_sl av).length ≤ nL)
    (body : ∀ (M : sMa) (V : sWo), sOk Z M V cc nL own ret rm → sOkt Z M V → sS Z M V (sEf o) 0 (lv_args 0 av) [] h X) : sMf Z o y cc nL ret rm av h X := by
  subst ho
  refine ⟨fun l V v h' hfl hX => ?_, fun l V k h' hfl hX => ?_⟩
  · obtain ⟨D, cA, ad⟩ := V
    refine Met.ofW (cc := cc) (maxL := nL) (ret := ret) hy rfl ?_
    intro p e s m args below meth c s₁ B hml hv
    obtain ⟨⟨rfl, hT, hK, hA, hP⟩, hZ⟩ := hv
    have hl := lv_entry (av.map (sV ad)) (n := nL) (by rw [sV_len]; exact hlen)
    have hnoh := B.noHandlers (atoms_spec (ws := [.code y cc nL ret]) B.pre _ List.mem_cons_self)
    rw [lg_entry_eq]
    rw [sV_args] at hl
    exact body (p, l, e, rm, s, m, _, below, meth, c, 0, 0, 0, 0) (D, cA, ad) ⟨B.exec, B.bytes, hml, findClass_of_methodNamed B.named, hT, hK, hA, B.notSynchronized, B.returns, rfl, ⟨Nat.le_refl _, Nat.le_refl _⟩, Nat.zero_le _, Nat.zero_le _⟩ ⟨hfl, hZ, hnoh, rfl, rfl⟩ _ hX s.heap [] _ (by rw [hml]; exact hl) hP va_S.rf
  · obtain ⟨D, cA, ad⟩ := V
    refine MetFree.of_bodyS (code := cc) (maxLocals := nL) (ret := ret) hy ?_ ?_
    · intro args s m h hn
      obtain ⟨meth, c, h1, h2, h3, h4, h5, h6, -, -⟩ := Cond.code_spec hn (atoms_spec (ws := [.code y cc nL ret]) h _ List.mem_cons_self)
      exact ⟨meth, c, h1, h2, h3, h4, h5, h6⟩
    · intro p e s m args below meth c s₁ B hml hv _
      obtain ⟨⟨rfl, hT, hK, hA, hP⟩, hZ⟩ := hv
      have hl := lv_entry (av.map (sV ad)) (n := nL) (by rw [sV_len]; exact hlen)
      have hnoh := B.noHandlers (atoms_spec (ws := [.code y cc nL ret]) B.pre _ List.mem_cons_self)
      have hh0 : s₁.heap = s.heap := by rw [B.state]; rfl
      rw [lg_entry_eq]
      rw [sV_args] at hl
      have key := body (p, l, e, rm, s, m, (av.map (sV ad)).toArray, below, meth, c, 0, 0, 0, 0) (D, cA, ad) ⟨B.exec, B.bytes, hml, findClass_of_methodNamed B.named, hT, hK, hA, B.notSynchronized, B.returns, rfl, ⟨Nat.le_refl _, Nat.le_refl _⟩, Nat.zero_le _, Nat.zero_le _⟩ ⟨hfl, hZ, hnoh, rfl, rfl⟩ _ hX s.heap [] _ (by rw [hml]; exact hl) hP va_S.rf
      obtain ⟨t, a1, x, b1, b2, b3⟩ := key s₁ hh0 (Stand.of_body B)
      exact ⟨t, .threw x, a1, b1, b2, x, rfl, b3⟩
theorem sPt_blind (Z : sZo) (V : sWo) (av : List Value) (h : sHp) : FrameBlind (sPt Z V av h) := by
  obtain ⟨D, cA, ad⟩ := V
  intro a U g mk q
  exact ⟨sPc_blind Z (D, cA, ad) av h a U g mk q.1, sZs.moved (u := U) (U := U.calling g mk a) (Vm.Alike.refl U.vm) q.2⟩
theorem sOld {s U : State} {cells slots : Nat} (h : s.sameButNew ({ U with vm := s.vm } : State) [] cells slots) {q : Nat} (hq : q < s.heap.size) : U.heap[q]? = s.heap[q]? := by
  have hc : s.heap[q]? = some s.heap[q] := Array.getElem?_eq_getElem hq
  rw [hc]
  exact State.sameButNew.old_cell (s' := ({ U with vm := s.vm } : State)) h hc
/-- a method that throws X when its argument is 0, and else returns -/
theorem sMust (Z : sZo) {own : String} {y : MethodName} {cc : ByteArray} {rm : Room} {k ixn ic : Nat} (ho : y.cls = own) (hy : plainName y.cls = true) (w1 : Cond.classLink own ixn (sEx k) ∈ sTB) (w2 : Cond.instantiable (sEx k) 6 ∈ sTB) (w3 : Cond.initialized (sEx k) ∈ sTB) (hat : ∀ a ∈ Bundle.ownAtoms0 own ic (sEx k) sUp, (a ∈ sTB ∧ a.onTables = true) ∨ a ∈ sZl) (hf : Bundle.fit (sEx k) = true)
    (d0 : decode cc 0 = .ok (.iload_n 0, 1)) (d1 : decode cc 1 = .ok (.ifCond .ne 11, 3)) (d4 : decode cc 4 = .ok (.new ixn, 3)) (d7 : decode cc 7 = .ok (.dup, 1)) (d8 : decode cc 8 = .ok (.invokespecial ic, 3)) (d11 : decode cc 11 = .ok (.athrow, 1)) (d12 : decode cc 12 = .ok (.return_, 1)) (hr : 1 ≤ rm.cells ∧ 6 ≤ rm.slots ∧ 6 ≤ rm.frames ∧ 81 ≤ rm.locals) (b : Int32) (h : sHp) :
    sMf Z (fun _ : Unit => none) y cc 1 none rm [.int b] h (if b = 0 then some (.error k, h) else some (.ok (), h)) := by
  subst ho
  refine ⟨fun l V v h' hfl hX => ?_, fun l V k' h' hfl hX => ?_⟩
  · have hb0 : ¬ b = 0 := by
      intro z
      rw [if_pos z] at hX
      cases hX
    rw [if_neg hb0] at hX
    cases hX
    obtain ⟨D, cA, ad⟩ := V
    refine Met.ofW (cc := cc) (maxL := 1) (ret := none) hy rfl ?_
    intro p e s m args below meth c s₁ B hml hv
    obtain ⟨⟨rfl, hT, hK, hA, hP⟩, hZ⟩ := hv
    have hl := lv_entry ([Value.int b].map (sV ad)) (n := 1) (Nat.le_of_ble_eq_true rfl)
    rw [lg_entry_eq]
    generalize (lg_sl ([Value.int b].map (sV ad)) ++ List.replicate (1 - (lg_sl ([Value.int b].map (sV ad))).length) Slot.unset).toArray = ls at hl ⊢
    refine lv_iload_n B.exec B.bytes d0 rfl (lv_at hl 0 rfl) ?_
    refine lv_if_ne B.exec B.bytes d1 (tgt := 12) (by decide) (fun _ => ?_) (fun z => absurd z hb0)
    exact W.vret B.exec B.bytes B.returns (fun t ht _ => ⟨rfl, by rw [ht]; exact hP, va_S.rf.F ht⟩) (fun q hq => by cases hq) d12 B.notSynchronized
  · have hb0 : b = 0 := by
      apply Classical.byContradiction
      intro z
      rw [if_neg z] at hX
      cases hX
    rw [if_pos hb0] at hX
    cases hX
    obtain ⟨D, cA, ad⟩ := V
    refine MetFree.of_bodyS (code := cc) (maxLocals := 1) (ret := none) hy ?_ ?_
    · intro args s m h hn
      obtain ⟨meth, c, h1, h2, h3, h4, h5, h6, -, -⟩ := Cond.code_spec hn (atoms_spec (ws := [.code y cc 1 none]) h _ List.mem_cons_self)
      exact ⟨meth, c, h1, h2, h3, h4, h5, h6⟩
    · intro p e s m args below meth c s₁ B hml hv _
      obtain ⟨⟨rfl, hT, hK, hA, hP⟩, hZ⟩ := hv
      have hl := lv_entry ([Value.int b].map (sV ad)) (n := 1) (Nat.le_of_ble_eq_true rfl)
      have hnoh := B.noHandlers (atoms_spec (ws := [.code y cc 1 none]) B.pre _ List.mem_cons_self)
      have hh0 : s₁.heap = s.heap := by rw [B.state]; rfl
      rw [lg_entry_eq]
      generalize (lg_sl ([Value.int b].map (sV ad)) ++ List.replicate (1 - (lg_sl ([Value.int b].map (sV ad))).length) Slot.unset).toArray = ls at hl ⊢
      have key : W p l e rm s m ([Value.int b].map (sV ad)).toArray below meth c s.heap [] 0 0 (sTq Z below (D, cA, ad) k h s) (F0 m 0 ls []) := by
        refine lv_iload_n B.exec B.bytes d0 rfl (lv_at hl 0 rfl) ?_
        refine lv_if_ne B.exec B.bytes d1 (tgt := 12) (by decide) (fun z => absurd hb0 z) (fun _ => ?_)
        refine sThrow0 (own := y.cls) (cls := sEx k) (ixn := ixn) (ic := ic) B.exec B.bytes hfl (findClass_of_methodNamed B.named) (sTab_use hT w1 rfl _) (sTab_use hT w2 rfl _) (sTab_use hT w3 rfl _) (fun a ha => ?_) hf B.notSynchronized hnoh (fun x hx => by cases hx) (Nat.le_refl _) (hl.1.trans hml.symm) d4 d7 d8 d11 (by omega) (by omega) hr.2.2.1 hr.2.2.2 ?_
        · rcases hat a ha with h1 | h1
          · exact sTab_use hT h1.1 h1.2 _
          · exact hZ.words _ a h1
        · intro U a ce hrun hend hW hsame hce K hsz
          obtain ⟨kc, hkc, -⟩ := Vm.findClass_spec K.cls
          obtain ⟨kc', hkc', -⟩ := hW.alike.2.2 _ _ hkc
          refine ⟨a, hrun, hend, ⟨hsz, ce, kc', hce, by rw [K.vm]; rfl, hkc', by rw [hW.alike.findClass]; exact K.cls⟩, fun i q hq => ?_, ⟨hsame.2.1, fun q hq _ => sOld hsame hq⟩, hW, [], hsame, fun q hq => by cases hq⟩
          exact (hP i q hq).kept (sOld hsame (hP i q hq).lt)
      obtain ⟨t, a1, x, b1, b2, b3⟩ := key s₁ hh0 (Stand.of_body B)
      exact ⟨t, .threw x, a1, b1, b2, x, rfl, b3⟩
