/-! Throwing and catching over the fixed world. -/
/-- a static field of Throwable that holds a reference or null, in a cell that is none of A's -/
def sZ1 (nm ds : String) (A : Nat → Prop) (U : State) (H : Heap) : Prop := ∃ (a : Nat) (cell : Cell), H[a]? = some cell ∧ ¬ A a ∧ ∀ (U' : State) (args : Array Value), U'.heap[a]? = some cell → U.vm.Alike U'.vm → (Cond.laysStatic "java/lang/Throwable" nm ds).before args U' = true ∧ (Cond.isRef (.static "java/lang/Throwable" nm ds)).before args U' = true
theorem sZ1.kept {nm ds : String} {A : Nat → Prop} {U : State} {H H1 : Heap} (h : sZ1 nm ds A U H) (hq : ∀ q : Nat, q < H.size → ¬ A q → H1[q]? = H[q]?) : sZ1 nm ds A U H1 := by
  obtain ⟨a, cell, h1, h2, h3⟩ := h
  exact ⟨a, cell, by rw [hq a (Array.getElem?_eq_some_iff.mp h1).1 h2]; exact h1, h2, h3⟩
theorem sZ1.moved {nm ds : String} {A : Nat → Prop} {u U : State} {H : Heap} (hvm : u.vm.Alike U.vm) (h : sZ1 nm ds A u H) : sZ1 nm ds A U H := by
  obtain ⟨a, cell, h1, h2, h3⟩ := h
  exact ⟨a, cell, h1, h2, fun U' args hU hal => h3 U' args hU (hvm.trans hal)⟩
theorem sZ1.of {nm ds : String} {args : Array Value} {s : State} {A : Nat → Prop} (hl : (Cond.laysStatic "java/lang/Throwable" nm ds).before args s = true) (hr : (Cond.isRef (.static "java/lang/Throwable" nm ds)).before args s = true) (hA : ∀ a : Nat, a < s.heap.size → ¬ A a) : sZ1 nm ds A s s.heap := by
  obtain ⟨c, k, i, f, a, cell, hc, hi, hst, ha, hcell, hs, hcls, hlt, hty⟩ := Cond.laysStatic_spec hl
  obtain ⟨u, hu⟩ := Cond.staticRefV hi hst ha hcell hs hr
  refine ⟨a, cell, hcell, hA a (Array.getElem?_eq_some_iff.mp hcell).1, fun U' args' hU hal => ?_⟩
  obtain ⟨k', hi', hek⟩ := State.fieldFound?_setVm hal hi
  have hi2 : U'.fieldFound? "java/lang/Throwable" nm ds = some (c, k', i, f) := hi'
  have ha' : k'.statics = some a := by rw [hek]; exact ha
  refine ⟨Cond.laysStatic_of (s := U') (by rw [hal.findClass]; exact hc) hi2 hst ha' hU hs hcls hlt (by rw [hek]; exact hty), ?_⟩
  have he : (Term.static "java/lang/Throwable" nm ds).eval args' U' none [] U' = cell.slots[f.slot]? := by
    simp [Term.eval, State.fieldNamed?, hi2, hst, ha', hU, hs]
  obtain ⟨uv, huv⟩ := u
  simp only [Cond.before, Cond.holds, Cond.value]
  rw [he, hu]
  cases uv with
  | null => rfl
  | ref x => rfl
  | _ => cases huv
def sZs (A : Nat → Prop) (U : State) (H : Heap) : Prop := sZ1 "UNASSIGNED_STACK" "[Ljava/lang/StackTraceElement;" A U H ∧ sZ1 "SUPPRESSED_SENTINEL" "Ljava/util/List;" A U H
theorem sZs.kept {A : Nat → Prop} {U : State} {H H1 : Heap} (h : sZs A U H) (hq : ∀ q : Nat, q < H.size → ¬ A q → H1[q]? = H[q]?) : sZs A U H1 := ⟨h.1.kept hq, h.2.kept hq⟩
theorem sZs.moved {A : Nat → Prop} {u U : State} {H : Heap} (hvm : u.vm.Alike U.vm) (h : sZs A u H) : sZs A U H := ⟨h.1.moved hvm, h.2.moved hvm⟩
/-- the four words of Throwable's statics -/
def sZl : List Cond := [.laysStatic "java/lang/Throwable" "UNASSIGNED_STACK" "[Ljava/lang/StackTraceElement;", .isRef (.static "java/lang/Throwable" "UNASSIGNED_STACK" "[Ljava/lang/StackTraceElement;"), .laysStatic "java/lang/Throwable" "SUPPRESSED_SENTINEL" "Ljava/util/List;", .isRef (.static "java/lang/Throwable" "SUPPRESSED_SENTINEL" "Ljava/util/List;")]
theorem sZs.words {A : Nat → Prop} {s : State} (h : sZs A s s.heap) (args : Array Value) : ∀ w ∈ sZl, w.before args s = true := by
  obtain ⟨⟨a1, c1, p1, -, p3⟩, ⟨a2, c2, q1, -, q3⟩⟩ := h
  have h1 := p3 s args p1 (Vm.Alike.refl s.vm)
  have h2 := q3 s args q1 (Vm.Alike.refl s.vm)
  intro w hw
  simp only [sZl, List.mem_cons, List.not_mem_nil, or_false] at hw
  rcases hw with rfl | rfl | rfl | rfl
  · exact h1.1
  · exact h1.2
  · exact h2.1
  · exact h2.2
abbrev sUp : List String := ["java/lang/RuntimeException", "java/lang/Exception"]
set_option maxRecDepth 100000 in
theorem sOwn_0 : ∀ a ∈ Bundle.ownAtoms0 "StoryStates" 298 "java/lang/IndexOutOfBoundsException" sUp, (a ∈ sTB ∧ a.onTables = true) ∨ a ∈ sZl := by decide +kernel
set_option maxRecDepth 100000 in
theorem sOwn_1 : ∀ a ∈ Bundle.ownAtoms0 "StoryStates" 301 "java/lang/IllegalArgumentException" sUp, (a ∈ sTB ∧ a.onTables = true) ∨ a ∈ sZl := by decide +kernel
set_option maxRecDepth 100000 in
theorem sOwn_2 : ∀ a ∈ Bundle.ownAtoms0 "StoryStates" 304 "java/lang/IllegalStateException" sUp, (a ∈ sTB ∧ a.onTables = true) ∨ a ∈ sZl := by decide +kernel
