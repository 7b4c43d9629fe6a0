/-! Constructors: a world that grows. A cell is an array (kind, length), all of it 0, or an object (class, its fields); references are numbers of cells. -/
abbrev sGe : Type := (Nat × Nat) ⊕ (Nat × List Value)
def sGc (cA : Nat → ClassId) (ad : Nat → Nat) : sGe → va_E
  | .inl (t, n) => .inl (cA t, n, if t = 2 then .inr (.inl (fun _ => 0)) else .inl (fun _ => 0))
  | .inr (ci, fs) => .inr (ci, fs.map (sV ad))
def sGw (cA : Nat → ClassId) (ad : Nat → Nat) (g : List sGe) : va_W := g.mapIdx (fun i e => (ad i, sGc cA ad e))
def sWfV (n : Nat) : Value → Bool
  | .ref i => decide (i < n)
  | _ => true
def sWfE (n : Nat) : sGe → Bool
  | .inl _ => true
  | .inr (_, fs) => fs.all (sWfV n)
theorem sV_ext {ad ad2 : Nat → Nat} {n : Nat} (h : ∀ i, i < n → ad2 i = ad i) {v : Value} (hv : sWfV n v = true) : sV ad2 v = sV ad v := by
  cases v with
  | ref i => simp only [sWfV, decide_eq_true_eq] at hv; simp only [sV, h i hv]
  | _ => rfl
theorem sVs_ext {ad ad2 : Nat → Nat} {n : Nat} (h : ∀ i, i < n → ad2 i = ad i) {vs : List Value} (hv : vs.all (sWfV n) = true) : vs.map (sV ad2) = vs.map (sV ad) := by
  apply List.map_congr_left
  intro v hm
  exact sV_ext h (List.all_eq_true.mp hv v hm)
theorem sGc_ext {cA : Nat → ClassId} {ad ad2 : Nat → Nat} {n : Nat} (h : ∀ i, i < n → ad2 i = ad i) {e : sGe} (he : sWfE n e = true) : sGc cA ad2 e = sGc cA ad e := by
  rcases e with ⟨t, k⟩ | ⟨ci, fs⟩
  · rfl
  · simp only [sGc]
    rw [sVs_ext h he]
theorem sGw_at {cA : Nat → ClassId} {ad : Nat → Nat} {g : List sGe} {i : Nat} {e : sGe} (h : g[i]? = some e) : (sGw cA ad g)[i]? = some (ad i, sGc cA ad e) := by simp [sGw, List.getElem?_mapIdx, h]
theorem sGw_len {cA : Nat → ClassId} {ad : Nat → Nat} {g : List sGe} : (sGw cA ad g).length = g.length := by simp [sGw]
theorem sGw_inv {cA : Nat → ClassId} {ad : Nat → Nat} {g : List sGe} {i : Nat} {q : Nat × va_E} (h : (sGw cA ad g)[i]? = some q) : ∃ e, g[i]? = some e ∧ q = (ad i, sGc cA ad e) := by
  cases he : g[i]? with
  | none => simp [sGw, List.getElem?_mapIdx, he] at h
  | some e => rw [sGw_at he] at h; exact ⟨e, rfl, (Option.some.inj h).symm⟩
theorem sGw_ext {cA : Nat → ClassId} {ad ad2 : Nat → Nat} {g : List sGe} (h : ∀ i, i < g.length → ad2 i = ad i) (hw : g.all (sWfE g.length) = true) : sGw cA ad2 g = sGw cA ad g := by
  apply List.ext_getElem?
  intro j
  cases he : g[j]? with
  | none => simp [sGw, List.getElem?_mapIdx, he]
  | some e =>
    rw [sGw_at he, sGw_at he, h j (List.getElem?_eq_some_iff.mp he).1, sGc_ext h (List.all_eq_true.mp hw e (List.mem_of_getElem? he))]
theorem sGw_app {cA : Nat → ClassId} {ad : Nat → Nat} {g : List sGe} {q : Nat} {e : sGe} (hw : g.all (sWfE g.length) = true) (he : sWfE g.length e = true) : sGw cA (fun j => if j = g.length then q else ad j) (g ++ [e]) = sGw cA ad g ++ [(q, sGc cA ad e)] := by
  have h0 : ∀ i, i < g.length → (fun j => if j = g.length then q else ad j) i = ad i := fun i hi => by simp [Nat.ne_of_lt hi]
  apply List.ext_getElem?
  intro j
  by_cases hj : j < g.length
  · obtain ⟨x, hx⟩ : ∃ x, g[j]? = some x := ⟨g[j], List.getElem?_eq_getElem hj⟩
    rw [sGw_at (e := x) (by rw [List.getElem?_append_left hj]; exact hx), List.getElem?_append_left (by rw [sGw_len]; exact hj), sGw_at hx, sGc_ext h0 (List.all_eq_true.mp hw x (List.mem_of_getElem? hx)), if_neg (Nat.ne_of_lt hj)]
  · by_cases hj2 : j = g.length
    · subst hj2
      rw [sGw_at (e := e) (by simp), List.getElem?_append_right (by rw [sGw_len]; exact Nat.le_refl _), sGw_len, sGc_ext h0 he]
      simp
    · rw [List.getElem?_eq_none (by rw [sGw_len]; simp; omega), List.getElem?_eq_none (by simp [sGw_len]; omega)]
theorem sGw_set {cA : Nat → ClassId} {ad : Nat → Nat} {g : List sGe} {i : Nat} {e : sGe} : (sGw cA ad g).set i (ad i, sGc cA ad e) = sGw cA ad (g.set i e) := by
  apply List.ext_getElem?
  intro j
  rw [List.getElem?_set]
  by_cases hj : i = j
  · subst hj
    rw [if_pos rfl, sGw_len]
    by_cases hl : i < g.length
    · rw [if_pos hl, sGw_at (e := e) (by simp [hl])]
    · rw [if_neg hl, List.getElem?_eq_none (by rw [sGw_len]; simp; omega)]
  · rw [if_neg hj]
    cases he : g[j]? with
    | none => simp [sGw, List.getElem?_mapIdx, he, hj]
    | some x => rw [sGw_at he, sGw_at (e := x) (by rw [List.getElem?_set_ne hj]; exact he)]
/-- what a constructor may write: its own cell, and new ones -/
def sGA (a0 sz : Nat) : Nat → Prop := fun q => q = a0 ∨ sz ≤ q
def sQg (cl : List vw_C) (D : va_G) (cA : Nat → ClassId) (a0 sz : Nat) (g : List sGe) : Array Value → State → Outcome → State → Prop := fun _ st oc t => oc = .returned none ∧ (∃ ad : Nat → Nat, ad 0 = a0 ∧ va_P D cl (sGw cA ad g) t.heap ∧ va_D (sGA a0 sz) (sGw cA ad g)) ∧ va_F (sGA a0 sz) st t
def sPg (cl : List vw_C) (D : va_G) (cA : Nat → ClassId) (a0 sz ci : Nat) (fs : List Value) : Array Value → State → Prop := va_Pc [.ref a0] (fun U => U.heap.size = sz ∧ sTab U ∧ va_K D cl (sTy cA) U ∧ va_P D cl [(a0, .inr (ci, fs))] U.heap)
/-- a constructor's contract: from an object whose fields are fs to the world g (its first cell is the object) -/
def sI (cl : List vw_C) (y : MethodName) (cc : ByteArray) (rm : Room) (ci : Nat) (fs : List Value) (g : List sGe) : Prop :=
  ∀ (l : Launch) (D : va_G) (cA : Nat → ClassId) (a0 sz : Nat), Met l y [.code y cc 1 none] rm (sPg cl D cA a0 sz ci fs) (sQg cl D cA a0 sz g) rm.cells rm.slots (sGA a0 sz)
theorem sPg_blind (cl : List vw_C) (D : va_G) (cA : Nat → ClassId) (a0 sz ci : Nat) (fs : List Value) : FrameBlind (sPg cl D cA a0 sz ci fs) := by
  intro a U g mk q
  obtain ⟨q1, q2, q3, q4, q5⟩ := q
  exact ⟨q1, q2, sTab_calling g mk a q3, va_K.moved (u := U) (U := U.calling g mk a) (Vm.Alike.refl U.vm) q4, q5⟩
section GC
variable {p : Program} {l : Launch} {e : Env} {R : Room} {s : State} {m : MethodId} {args : Array Value} {below : List Frame} {meth : Method} {c : Code} {Q : State → Prop} {cl : List vw_C} {D : va_G} {cA : Nat → ClassId} {a0 : Nat} {ls : Array Slot} {pc cs sl : Nat} {st : List Value} {g g' : List sGe} {cc : ByteArray} {own : String} {rm : Room}
/-- what a constructor's body stands on -/
def sOkg (cl : List vw_C) (D : va_G) (cA : Nat → ClassId) (p : Program) (R : Room) (s : State) (m : MethodId) (meth : Method) (c : Code) (ls : Array Slot) (a0 : Nat) (cc : ByteArray) (own : String) (rm : Room) : Prop :=
  p.tables.exec = Jvm.exec ∧ c.code = cc ∧ c.maxLocals = 1 ∧ s.vm.findClass own = some m.cls ∧ sTab s ∧ va_K D cl (sTy cA) s ∧ meth.locks = false ∧ meth.sig.returnType = none ∧ meth.name = "<init>" ∧ R = rm ∧ lv_has ls 1 [(0, .ref a0)]
def sG (cl : List vw_C) (D : va_G) (cA : Nat → ClassId) (p : Program) (l : Launch) (e : Env) (R : Room) (s : State) (m : MethodId) (args : Array Value) (below : List Frame) (meth : Method) (c : Code) (ls : Array Slot) (a0 : Nat) (Q : State → Prop) (pc : Nat) (st : List Value) (g : List sGe) (cs sl : Nat) : Prop :=
  ∀ (ad : Nat → Nat) (H : Heap) (locs : List Loc), ad 0 = a0 → va_P D cl (sGw cA ad g) H → va_D (sGA a0 s.heap.size) (sGw cA ad g) → va_S (sGA a0 s.heap.size) s.heap H locs → W p l e R s m args below meth c H locs cs sl Q (F0 m pc ls (st.map (sV ad)))
theorem g_aload (O : sOkg cl D cA p R s m meth c ls a0 cc own rm) (d : decode cc pc = .ok (.aload_n 0, 1)) (k : sG cl D cA p l e R s m args below meth c ls a0 Q (pc + 1) (.ref 0 :: st) g cs sl) : sG cl D cA p l e R s m args below meth c ls a0 Q pc st g cs sl := by
  obtain ⟨o1, o2, o3, o4, o5, o6, o7, o8, o9, o10, o11⟩ := O
  intro ad H locs h0 hP hD hS
  have kk := k ad H locs h0 hP hD hS
  refine lv_aload_n o1 o2 d rfl (lv_at o11 0 rfl) ?_
  rw [← h0]
  exact kk
theorem g_obj (O : sOkg cl D cA p R s m meth c ls a0 cc own rm) {idx : Nat} (w1 : Cond.methodLink own idx Lib.objectInit ∈ sTB) (w2 : Cond.instanceMethod Lib.objectInit ∈ sTB) (w3 : Cond.code Lib.objectInit ⟨#[0xb1]⟩ 1 none ∈ sTB) (d : decode cc pc = .ok (.invokespecial idx, 3)) (hr : 1 ≤ rm.frames ∧ 12 ≤ rm.locals) (k : sG cl D cA p l e R s m args below meth c ls a0 Q (pc + 3) [] g cs sl) : sG cl D cA p l e R s m args below meth c ls a0 Q pc [.ref 0] g cs sl := by
  obtain ⟨o1, o2, o3, o4, o5, o6, o7, o8, o9, o10, o11⟩ := O
  subst o10
  intro ad H locs h0 hP hD hS
  refine W.objInit (rest := []) o1 o2 o4 (sTab_use o5 w1 rfl args) (sTab_use o5 w2 rfl args) (sTab_use o5 w3 rfl args) rfl (by rw [o3]; exact o11.1) rfl d hr.1 (by show 2 * 0 + 0 + 12 ≤ R.locals; omega) ?_
  exact k ad H locs h0 hP hD hS
theorem g_push (O : sOkg cl D cA p R s m meth c ls a0 cc own rm) {x : Int32} {i : Instr} {len : Nat} (d : decode cc pc = .ok (i, len)) (hi : (∃ n : Int, i = .iconst n ∧ len = 1 ∧ Int32.ofInt n = x) ∨ (∃ n : Int, i = .bipush n ∧ len = 2 ∧ (Int8.ofInt n).toInt32 = x) ∨ (∃ n : Int, i = .sipush n ∧ len = 3 ∧ (Int16.ofInt n).toInt32 = x)) (k : sG cl D cA p l e R s m args below meth c ls a0 Q (pc + len) (.int x :: st) g cs sl) : sG cl D cA p l e R s m args below meth c ls a0 Q pc st g cs sl := by
  obtain ⟨o1, o2, o3, o4, o5, o6, o7, o8, o9, o10, o11⟩ := O
  intro ad H locs h0 hP hD hS
  have kk := k ad H locs h0 hP hD hS
  rcases hi with ⟨n, rfl, rfl, h1⟩ | ⟨n, rfl, rfl, h1⟩ | ⟨n, rfl, rfl, h1⟩
  · exact lv_iconst o1 o2 d h1 kk
  · exact lv_bipush o1 o2 d h1 kk
  · exact lv_sipush o1 o2 d h1 kk
theorem g_dup (O : sOkg cl D cA p R s m meth c ls a0 cc own rm) {i : Nat} (d : decode cc pc = .ok (.dup, 1)) (k : sG cl D cA p l e R s m args below meth c ls a0 Q (pc + 1) (.ref i :: .ref i :: st) g cs sl) : sG cl D cA p l e R s m args below meth c ls a0 Q pc (.ref i :: st) g cs sl := by
  obtain ⟨o1, o2, o3, o4, o5, o6, o7, o8, o9, o10, o11⟩ := O
  intro ad H locs h0 hP hD hS
  exact lv_dup o1 o2 d rfl (k ad H locs h0 hP hD hS)
def sAty : Nat → ArrayType × FieldType
  | 0 => (.int, .int)
  | 1 => (.boolean, .boolean)
  | _ => (.long, .long)
theorem g_newa (O : sOkg cl D cA p R s m meth c ls a0 cc own rm) {t n : Nat} {x : Int32} (ht : t < 3) (w : Cond.arrayClass (sAty t).2 ∈ sTB) (hx : x.toNatClampNeg = n ∧ ¬ x < 0 ∧ n ≤ 1000) (hw : g.all (sWfE g.length) = true ∧ st.all (sWfV g.length) = true) (hg : 0 < g.length) (hr : cs + 1 ≤ rm.cells ∧ sl + n ≤ rm.slots) (d : decode cc pc = .ok (.newarray (sAty t).1, 2)) (k : sG cl D cA p l e R s m args below meth c ls a0 Q (pc + 2) (.ref g.length :: st) (g ++ [.inl (t, n)]) (cs + 1) (sl + n)) : sG cl D cA p l e R s m args below meth c ls a0 Q pc (.int x :: st) g cs sl := by
  obtain ⟨o1, o2, o3, o4, o5, o6, o7, o8, o9, o10, o11⟩ := O
  subst o10
  intro ad H locs h0 hP hD hS
  have hA : ∀ q, s.heap.size ≤ q → sGA a0 s.heap.size q := fun q hq => Or.inr hq
  have harr : (Cond.arrayClass (newarray.typeOf (sAty t).1)).before args s = true := by
    have hz : newarray.typeOf (sAty t).1 = (sAty t).2 := by
      match t, ht with
      | 0, _ => rfl
      | 1, _ => rfl
      | 2, _ => rfl
    rw [hz]
    exact word_at (State.WarmedH.refl s) (Or.inr ⟨_, rfl⟩) (o5 _ w)
  refine va_newa (ty := (sAty t).2) (a0 := (n, if t = 2 then .inr (.inl (fun _ => 0)) else .inl (fun _ => 0))) o1 o2 harr ?_ o6 hP hD hS hA (fun cA' => ?_) hx.2.1 hx.1 ?_ hr.1 hr.2 d (fun q cA' H1 hK1 hP1 hD1 hS1 => ?_)
  · match t, ht with
    | 0, _ => rfl
    | 1, _ => rfl
    | 2, _ => rfl
  · match t, ht with
    | 0, _ => rfl
    | 1, _ => rfl
    | 2, _ => rfl
  · have hc : componentBytes (sAty t).2 ≤ 8 := by
      match t, ht with
      | 0, _ => decide
      | 1, _ => decide
      | 2, _ => decide
    exact Nat.le_trans (Nat.mul_le_mul hx.2.2 hc) (by decide)
  · have hcA : cA' = cA t := by
      have h1 := (hK1.2 3 (cA', (sAty t).2) rfl).2
      match t, ht with
      | 0, _ => exact Option.some.inj (Eq.trans (Eq.symm h1) (o6.2 0 (cA 0, .int) rfl).2)
      | 1, _ => exact Option.some.inj (Eq.trans (Eq.symm h1) (o6.2 1 (cA 1, .boolean) rfl).2)
      | 2, _ => exact Option.some.inj (Eq.trans (Eq.symm h1) (o6.2 2 (cA 2, .long) rfl).2)
    subst hcA
    have h2 : ∀ i, i < g.length → (fun j => if j = g.length then q else ad j) i = ad i := fun i hi => by simp [Nat.ne_of_lt hi]
    have kk := k (fun j => if j = g.length then q else ad j) H1 locs (by show (if 0 = g.length then q else ad 0) = a0; rw [if_neg (by omega)]; exact h0) (by rw [sGw_app hw.1 rfl]; exact hP1) (by rw [sGw_app hw.1 rfl]; exact hD1) hS1
    rw [List.map_cons, sVs_ext h2 hw.2] at kk
    simp only [sV, if_true] at kk
    exact kk
theorem g_new (O : sOkg cl D cA p R s m meth c ls a0 cc own rm) {idx ci N : Nat} {C : String} {T : u_T} {fs : List Value} (hc : cl[ci]? = some (C, T, N)) (hu : ∀ w ∈ u_ws C T N, w ∈ sTB ∧ w.onTables = true) (ty : Nat → FieldType) (hty : ∀ k, k < N → parseFieldDescriptor (T k).2.2.1 = some (ty k)) (hfs : ∀ j, j < N → defaultValue (ty j) = vp_V fs j) (hf0 : fs.all (sWfV 0) = true) (w1 : Cond.classLink own idx C ∈ sTB) (w2 : Cond.instantiable C N ∈ sTB) (w3 : Cond.initialized C ∈ sTB) (hw : g.all (sWfE g.length) = true ∧ st.all (sWfV g.length) = true) (hg : 0 < g.length) (hr : cs + 1 ≤ rm.cells ∧ sl + N ≤ rm.slots) (d : decode cc pc = .ok (.new idx, 3)) (k : sG cl D cA p l e R s m args below meth c ls a0 Q (pc + 3) (.ref g.length :: st) (g ++ [.inr (ci, fs)]) (cs + 1) (sl + N)) : sG cl D cA p l e R s m args below meth c ls a0 Q pc st g cs sl := by
  obtain ⟨o1, o2, o3, o4, o5, o6, o7, o8, o9, o10, o11⟩ := O
  subst o10
  intro ad H locs h0 hP hD hS
  have hA : ∀ q, s.heap.size ≤ q → sGA a0 s.heap.size q := fun q hq => Or.inr hq
  have hts : ∀ w ∈ u_ws C T N, w.before args s = true := fun w hw => sTab_use o5 (hu w hw).1 (hu w hw).2 args
  refine va_new (ci := ci) (fs := fs) (C := C) (T := T) (N := N) o1 o2 hts (fun w hw => hw) ty hty o4 (sTab_use o5 w1 rfl args) (sTab_use o5 w2 rfl args) (sTab_use o5 w3 rfl args) o6 hP hD hS hA hc hfs hr.1 hr.2 d (fun q H1 hP1 hD1 hS1 => ?_)
  have h2 : ∀ i, i < g.length → (fun j => if j = g.length then q else ad j) i = ad i := fun i hi => by simp [Nat.ne_of_lt hi]
  have hfn : fs.all (sWfV g.length) = true := by
    rw [List.all_eq_true] at hf0 ⊢
    intro v hv
    have h9 := hf0 v hv
    cases v with
    | ref i => simp [sWfV] at h9
    | _ => rfl
  have hfm : fs.map (sV ad) = fs := by
    have h3 : ∀ v ∈ fs, sV ad v = v := by
      intro v hv
      have h9 := List.all_eq_true.mp hf0 v hv
      cases v with
      | ref i => simp [sWfV] at h9
      | _ => rfl
    exact (List.map_congr_left h3).trans (List.map_id fs)
  have heq : sGw cA (fun j => if j = g.length then q else ad j) (g ++ [.inr (ci, fs)]) = sGw cA ad g ++ [(q, .inr (ci, fs))] := by
    rw [sGw_app (e := .inr (ci, fs)) hw.1 hfn]
    simp only [sGc, hfm]
  have kk := k (fun j => if j = g.length then q else ad j) H1 locs (by show (if 0 = g.length then q else ad 0) = a0; rw [if_neg (by omega)]; exact h0) (by rw [heq]; exact hP1) (by rw [heq]; exact hD1) hS1
  rw [List.map_cons, sVs_ext h2 hw.2] at kk
  simp only [sV, if_true] at kk
  exact kk
/-- a final field, or another, written in a constructor -/
theorem g_put (O : sOkg cl D cA p R s m meth c ls a0 cc own rm) {idx i ci N q : Nat} {C : String} {T : u_T} {fs : List Value} {v : Value} {t : FieldType} (hgi : g[i]? = some (.inr (ci, fs))) (hc : cl[ci]? = some (C, T, N)) (hu : ∀ w ∈ u_ws C T N, w ∈ sTB ∧ w.onTables = true) (ty : Nat → FieldType) (hty : ∀ k, k < N → parseFieldDescriptor (T k).2.2.1 = some (ty k)) (hnm : ∀ a, a < N → ∀ b, b < N → a ≠ b → (T a).2.1 ≠ (T b).2.1) (hq : q < N) (w : Cond.fieldLink own idx C (T q).2.1 (T q).2.2.1 ∈ sTB) (h1 : (T q).1 = C) (hC : C = own) (hd : parseFieldDescriptor (T q).2.2.1 = some t) (hv : ∀ ad : Nat → Nat, narrow t (sV ad v) = sV ad v ∧ fits t (sV ad v) = true) (hl : q < fs.length) (hg' : g.set i (.inr (ci, fs.set q v)) = g') (d : decode cc pc = .ok (.putfield idx, 3)) (k : sG cl D cA p l e R s m args below meth c ls a0 Q (pc + 3) st g' cs sl) : sG cl D cA p l e R s m args below meth c ls a0 Q pc (v :: .ref i :: st) g cs sl := by
  obtain ⟨o1, o2, o3, o4, o5, o6, o7, o8, o9, o10, o11⟩ := O
  subst hg'
  intro ad H locs h0 hP hD hS
  have hts : ∀ w ∈ u_ws C T N, w.before args s = true := fun w hw => sTab_use o5 (hu w hw).1 (hu w hw).2 args
  have hset : (sGw cA ad g).set i (ad i, .inr (ci, (fs.map (sV ad)).set q (sV ad v))) = sGw cA ad (g.set i (.inr (ci, fs.set q v))) := by
    rw [← sGw_set]
    simp only [sGc, List.map_set]
  by_cases hf : (T q).2.2.2 = true
  · refine va_putF (C := C) (T := T) (N := N) (ref := C) (v := sV ad v) o1 o2 hts (fun w hw => hw) ty hty hnm o4 o6 hP hD hS i (sGw_at hgi) hc q hq (sTab_use o5 w rfl args) (fun y hy => by rw [h1] at hy; exact hy) hf o9 (by rw [h1]; exact hC) hd (hv ad).1 (hv ad).2 (by rw [List.length_map]; exact hl) d (fun H1 locs1 hP1 hD1 hS1 => ?_)
    exact k ad H1 locs1 h0 (by rw [← hset]; exact hP1) (by rw [← hset]; exact hD1) hS1
  · refine va_put (C := C) (T := T) (N := N) (ref := C) (v := sV ad v) o1 o2 hts (fun w hw => hw) ty hty hnm o4 o6 hP hD hS i (sGw_at hgi) hc q hq (sTab_use o5 w rfl args) (fun y hy => by rw [h1] at hy; exact hy) (by simpa using hf) hd (hv ad).1 (hv ad).2 (by rw [List.length_map]; exact hl) d (fun H1 locs1 hP1 hD1 hS1 => ?_)
    exact k ad H1 locs1 h0 (by rw [← hset]; exact hP1) (by rw [← hset]; exact hD1) hS1
theorem g_get (O : sOkg cl D cA p R s m meth c ls a0 cc own rm) {idx i ci N q : Nat} {C : String} {T : u_T} {fs : List Value} {v : Value} (hgi : g[i]? = some (.inr (ci, fs))) (hc : cl[ci]? = some (C, T, N)) (hu : ∀ w ∈ u_ws C T N, w ∈ sTB ∧ w.onTables = true) (hq : q < N) (w : Cond.fieldLink own idx C (T q).2.1 (T q).2.2.1 ∈ sTB) (h1 : (T q).1 = C) (hv : fs[q]? = some v) (d : decode cc pc = .ok (.getfield idx, 3)) (k : sG cl D cA p l e R s m args below meth c ls a0 Q (pc + 3) (v :: st) g cs sl) : sG cl D cA p l e R s m args below meth c ls a0 Q pc (.ref i :: st) g cs sl := by
  obtain ⟨o1, o2, o3, o4, o5, o6, o7, o8, o9, o10, o11⟩ := O
  intro ad H locs h0 hP hD hS
  have hts : ∀ w ∈ u_ws C T N, w.before args s = true := fun w hw => sTab_use o5 (hu w hw).1 (hu w hw).2 args
  exact va_get (C := C) (T := T) (N := N) (ref := C) o1 o2 hts (fun w hw => hw) o4 o6 hP i (sGw_at hgi) hc q hq (sTab_use o5 w rfl args) (fun y hy => by rw [h1] at hy; exact hy) (by rw [List.getElem?_map, hv]; rfl) d (k ad H locs h0 hP hD hS)
theorem g_vret {gf : List sGe} (O : sOkg cl D cA p R s m meth c ls a0 cc own rm) (hr : cs ≤ rm.cells ∧ sl ≤ rm.slots) (d : decode cc pc = .ok (.return_, 1)) : sG cl D cA p l e R s m args below meth c ls a0 (MQ below (sQg cl D cA a0 s.heap.size gf) args s rm.cells rm.slots (sGA a0 s.heap.size)) pc [] gf cs sl := by
  obtain ⟨o1, o2, o3, o4, o5, o6, o7, o8, o9, o10, o11⟩ := O
  intro ad H locs h0 hP hD hS
  exact W.widen hr.1 hr.2 (W.vret o1 o2 o8 (fun t ht _ => ⟨rfl, ⟨ad, h0, by rw [ht]; exact hP, hD⟩, hS.F ht⟩) hS.2.2 d o7)
end GC
theorem sI_of {cl : List vw_C} {y : MethodName} {cc : ByteArray} {rm : Room} {ci : Nat} {fs : List Value} {gf : List sGe} {own : String} (ho : y.cls = own) (hn : y.name = "<init>") (hy : plainName y.cls = true) (hf0 : fs.all (sWfV 0) = true)
    (body : ∀ (p : Program) (l : Launch) (e : Env) (R : Room) (s : State) (m : MethodId) (args : Array Value) (below : List Frame) (meth : Method) (c : Code) (ls : Array Slot) (D : va_G) (cA : Nat → ClassId) (a0 : Nat), sOkg cl D cA p R s m meth c ls a0 cc own rm → sG cl D cA p l e R s m args below meth c ls a0 (MQ below (sQg cl D cA a0 s.heap.size gf) args s rm.cells rm.slots (sGA a0 s.heap.size)) 0 [] [.inr (ci, fs)] 0 0) : sI cl y cc rm ci fs gf := by
  subst ho
  intro l D cA a0 sz
  refine Met.ofW (cc := cc) (maxL := 1) (ret := none) hy rfl ?_
  intro p e s m args below meth c s₁ B hml hv
  obtain ⟨rfl, hsz, hT, hK, hP⟩ := hv
  subst hsz
  have hl := lv_entry ([Value.ref a0]) (n := 1) (Nat.le_of_ble_eq_true rfl)
  rw [lg_entry_eq]
  have hin : meth.name = "<init>" := by rw [(name_of_methodNamed B.named B.method).1]; exact hn
  have hfm : fs.map (sV (fun _ => a0)) = fs := by
    have h3 : ∀ v ∈ fs, sV (fun _ => a0) v = v := by
      intro v hv
      have h9 := List.all_eq_true.mp hf0 v hv
      cases v with
      | ref i => simp [sWfV] at h9
      | _ => rfl
    exact (List.map_congr_left h3).trans (List.map_id fs)
  have heq : sGw cA (fun _ => a0) [.inr (ci, fs)] = [(a0, .inr (ci, fs))] := by
    show [(a0, sGc cA (fun _ => a0) (.inr (ci, fs)))] = _
    simp only [sGc, hfm]
  have hD : va_D (sGA a0 s.heap.size) [(a0, .inr (ci, fs))] := by
    refine ⟨fun i j p q hp hq _ => ?_, fun k q hq => ?_⟩
    · have h1 : i < 1 := (List.getElem?_eq_some_iff.mp hp).1
      have h2 : j < 1 := (List.getElem?_eq_some_iff.mp hq).1
      omega
    · have h1 : k < 1 := (List.getElem?_eq_some_iff.mp hq).1
      have h2 : k = 0 := by omega
      subst h2
      cases hq
      exact Or.inl rfl
  exact body p l e rm s m _ below meth c _ D cA a0 ⟨B.exec, B.bytes, hml, findClass_of_methodNamed B.named, hT, hK, B.notSynchronized, B.returns, hin, rfl, hl⟩ (fun _ => a0) s.heap [] rfl (by rw [heq]; exact hP) (by rw [heq]; exact hD) va_S.rf
