section GE
variable {p : Program} {l : Launch} {e : Env} {R : Room} {s : State} {m : MethodId} {args : Array Value} {below : List Frame} {meth : Method} {c : Code} {Q : State → Prop} {cl : List vw_C} {D : va_G} {cA : Nat → ClassId} {a0 : Nat} {ls : Array Slot} {pc cs sl cs' sl' : Nat} {st : List Value} {g g' : List sGe} {cc : ByteArray} {own : String} {rm : Room}
theorem g_newa1 (O : sOkg cl D cA p R s m meth c ls a0 cc own rm) {t n k : Nat} {x : Int32} (ht : t < 3) (w : Cond.arrayClass (sAty t).2 ∈ sTB) (hx : x.toNatClampNeg = n ∧ ¬ x < 0 ∧ n ≤ 1000) (hw : g.all (sWfE g.length) = true ∧ st.all (sWfV g.length) = true) (hg : g.length = k ∧ 0 < k) (hr : cs' ≤ rm.cells ∧ sl' ≤ rm.slots) (e1 : cs + 1 = cs') (e2 : sl + n = sl') (e3 : g ++ [.inl (t, n)] = g') (d : decode cc pc = .ok (.newarray (sAty t).1, 2)) (kk : sG cl D cA p l e R s m args below meth c ls a0 Q (pc + 2) (.ref k :: st) g' cs' sl') : sG cl D cA p l e R s m args below meth c ls a0 Q pc (.int x :: st) g cs sl := by
  obtain ⟨rfl, hg⟩ := hg
  subst e1 e2 e3
  exact g_newa O ht w hx hw hg hr d kk
theorem g_new1 (O : sOkg cl D cA p R s m meth c ls a0 cc own rm) {idx ci N k : Nat} {C : String} {T : u_T} {fs : List Value} (hc : cl[ci]? = some (C, T, N)) (hu : ∀ w ∈ u_ws C T N, w ∈ sTB ∧ w.onTables = true) (ty : Nat → FieldType) (hty : ∀ k, k < N → parseFieldDescriptor (T k).2.2.1 = some (ty k)) (hfs : ∀ j, j < N → defaultValue (ty j) = vp_V fs j) (hf0 : fs.all (sWfV 0) = true) (w1 : Cond.classLink own idx C ∈ sTB) (w2 : Cond.instantiable C N ∈ sTB) (w3 : Cond.initialized C ∈ sTB) (hw : g.all (sWfE g.length) = true ∧ st.all (sWfV g.length) = true) (hg : g.length = k ∧ 0 < k) (hr : cs' ≤ rm.cells ∧ sl' ≤ rm.slots) (e1 : cs + 1 = cs') (e2 : sl + N = sl') (e3 : g ++ [.inr (ci, fs)] = g') (d : decode cc pc = .ok (.new idx, 3)) (kk : sG cl D cA p l e R s m args below meth c ls a0 Q (pc + 3) (.ref k :: st) g' cs' sl') : sG cl D cA p l e R s m args below meth c ls a0 Q pc st g cs sl := by
  obtain ⟨rfl, hg⟩ := hg
  subst e1 e2 e3
  exact g_new O hc hu ty hty hfs hf0 w1 w2 w3 hw hg hr d kk
def sGh (gc : List sGe) : sGe := gc.headD (.inl (0, 0))
theorem g_call1 (O : sOkg cl D cA p R s m meth c ls a0 cc own rm) {idx i ci : Nat} {fs : List Value} {y : MethodName} {cc' : ByteArray} {rm' : Room} {gc : List sGe} (hgi : g[i]? = some (.inr (ci, fs))) (hf0 : fs.all (sWfV 0) = true) (hM : sI cl y cc' rm' ci fs gc) (hgh : gc = sGh gc :: gc.tail) (hgc : gc.all (sWfE gc.length) = true) (hy1 : y.name = "<init>")
    (w1 : Cond.methodLink own idx y ∈ sTB ∨ ∃ host, Cond.methodLinkNest own idx y host ∈ sTB) (w2 : Cond.initialized y.cls ∈ sTB) (w3 : Cond.code y cc' 1 none ∈ sTB) (w4 : Cond.instanceMethod y ∈ sTB) (hy : y.cls ≠ "java/lang/invoke/MethodHandle" ∧ y.cls ≠ "java/lang/invoke/VarHandle") (hds : (parseMethodDescriptor y.desc).map (fun d => d.parameters.length) = some 0) (hr : rm'.frames + 1 ≤ rm.frames ∧ 8 + (1 + 11) + rm'.locals ≤ rm.locals) (hcs : cs' ≤ rm.cells ∧ sl' ≤ rm.slots) (hw : g.all (sWfE g.length) = true ∧ st.all (sWfV g.length) = true) (hwt : (st.map fun v => v.category).sum ≤ 8) (d : decode cc pc = .ok (.invokespecial idx, 3)) (e1 : cs + rm'.cells = cs') (e2 : sl + rm'.slots = sl') (hg' : g.set i (sRe g.length i (sGh gc)) ++ gc.tail.map (sRe g.length i) = g')
    (k : sG cl D cA p l e R s m args below meth c ls a0 Q (pc + 3) st g' cs' sl') : sG cl D cA p l e R s m args below meth c ls a0 Q pc (.ref i :: st) g cs sl := by
  subst e1 e2
  rw [hgh] at hM hgc
  exact g_call O hgi hf0 hM hgc hy1 w1 w2 w3 w4 hy hds hr hcs hw hwt d hg' k
end GE
