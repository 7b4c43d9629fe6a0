/-! Core: a walk over a fixed world. A heap is two functions (ints and longs) by the number of a cell and of a slot; references are numbers of cells; 'sS' says that from here the machine ends as the pure value X says. -/
abbrev sHp : Type := (Nat → Nat → Int32) × (Nat → Nat → Int64)
/-- what a field holds: an int (or a boolean), a long, or always the same cell -/
abbrev sKd : Type := Option (Option Nat)
abbrev sLy : Type := List ((Nat × Nat) ⊕ (Nat × List sKd))
/-- what is fixed of a world: its classes and its cells -/
abbrev sZo : Type := List vw_C × sLy
abbrev sWo : Type := va_G × (Nat → ClassId) × (Nat → Nat)
abbrev sMa : Type := Program × Launch × Env × Room × State × MethodId × Array Value × List Frame × Method × Code × Nat × Nat × Nat × Nat
def sV (ad : Nat → Nat) : Value → Value
  | .ref i => .ref (ad i)
  | v => v
theorem sV_cat (ad : Nat → Nat) (v : Value) : (sV ad v).category = v.category := by cases v <;> rfl
def sFd (ad : Nat → Nat) (h : sHp) (i k : Nat) : sKd → Value
  | none => .int (h.1 i k)
  | some none => .long (h.2 i k)
  | some (some j) => .ref (ad j)
def sCl (cA : Nat → ClassId) (ad : Nat → Nat) (h : sHp) (i : Nat) : (Nat × Nat) ⊕ (Nat × List sKd) → va_E
  | .inl (t, n) => .inl (cA t, n, if t = 2 then .inr (.inl (h.2 i)) else .inl (h.1 i))
  | .inr (ci, ks) => .inr (ci, ks.mapIdx (sFd ad h i))
def sWd (ly : sLy) (cA : Nat → ClassId) (ad : Nat → Nat) (h : sHp) : va_W := ly.mapIdx (fun i e => (ad i, sCl cA ad h i e))
def pI (h : sHp) (i k : Nat) (x : Int32) : sHp := (fun j => if j = i then upd (h.1 i) k x else h.1 j, h.2)
def pL (h : sHp) (i k : Nat) (x : Int64) : sHp := (h.1, fun j => if j = i then vp_updL (h.2 i) k x else h.2 j)
def sAr (ly : sLy) (ad : Nat → Nat) : Nat → Prop := fun q => ∃ i, i < ly.length ∧ q = ad i
abbrev sTy (cA : Nat → ClassId) : List (ClassId × FieldType) := [(cA 0, .int), (cA 1, .boolean), (cA 2, .long)]
def sLv (ad : Nat → Nat) (lv : List (Nat × Value)) : List (Nat × Value) := lv.map (fun q => (q.1, sV ad q.2))
theorem sFd_same {ad : Nat → Nat} {h h' : sHp} {i : Nat} (h1 : h'.1 i = h.1 i) (h2 : h'.2 i = h.2 i) : sFd ad h' i = sFd ad h i := by
  funext k d
  rcases d with _ | _ | j <;> simp [sFd, h1, h2]
theorem sCl_same {cA : Nat → ClassId} {ad : Nat → Nat} {h h' : sHp} {i : Nat} (h1 : h'.1 i = h.1 i) (h2 : h'.2 i = h.2 i) (e : (Nat × Nat) ⊕ (Nat × List sKd)) : sCl cA ad h' i e = sCl cA ad h i e := by
  rcases e with ⟨t, n⟩ | ⟨ci, ks⟩
  · simp [sCl, h1, h2]
  · simp [sCl, sFd_same h1 h2]
theorem sWd_at {ly : sLy} {cA : Nat → ClassId} {ad : Nat → Nat} {h : sHp} {i : Nat} {e : (Nat × Nat) ⊕ (Nat × List sKd)} (he : ly[i]? = some e) : (sWd ly cA ad h)[i]? = some (ad i, sCl cA ad h i e) := by
  simp [sWd, List.getElem?_mapIdx, he]
theorem sWd_len {ly : sLy} {cA : Nat → ClassId} {ad : Nat → Nat} {h : sHp} : (sWd ly cA ad h).length = ly.length := by
  simp [sWd]
theorem sWd_set {ly : sLy} {cA : Nat → ClassId} {ad : Nat → Nat} {h h' : sHp} {i : Nat} {e : (Nat × Nat) ⊕ (Nat × List sKd)} {x : va_E} (he : ly[i]? = some e) (hx : sCl cA ad h' i e = x) (ho : ∀ j, j ≠ i → h'.1 j = h.1 j ∧ h'.2 j = h.2 j) : (sWd ly cA ad h).set i (ad i, x) = sWd ly cA ad h' := by
  apply List.ext_getElem?
  intro j
  rw [List.getElem?_set]
  by_cases hj : i = j
  · subst hj
    have hlt : i < (sWd ly cA ad h).length := by
      rw [sWd_len]
      exact (List.getElem?_eq_some_iff.mp he).1
    rw [if_pos rfl, if_pos hlt, sWd_at he, hx]
  · rw [if_neg hj]
    cases hq : ly[j]? with
    | none => simp [sWd, List.getElem?_mapIdx, hq]
    | some e2 =>
      rw [sWd_at hq, sWd_at hq, sCl_same (ho j (fun z => hj z.symm)).1 (ho j (fun z => hj z.symm)).2]
theorem sWd_addr {ly : sLy} {cA : Nat → ClassId} {ad : Nat → Nat} {h : sHp} {i : Nat} {q : Nat × va_E} (hq : (sWd ly cA ad h)[i]? = some q) : i < ly.length ∧ q.1 = ad i := by
  cases he : ly[i]? with
  | none => simp [sWd, List.getElem?_mapIdx, he] at hq
  | some e =>
    rw [sWd_at he] at hq
    cases hq
    exact ⟨(List.getElem?_eq_some_iff.mp he).1, rfl⟩
/-- the addresses are apart -/
def sApart (ly : sLy) (ad : Nat → Nat) : Prop := ∀ i j, i < ly.length → j < ly.length → ad i = ad j → i = j
theorem sD_of {ly : sLy} {cA : Nat → ClassId} {ad : Nat → Nat} (ha : sApart ly ad) (h : sHp) : va_D (sAr ly ad) (sWd ly cA ad h) := by
  refine ⟨fun i j p q hp hq e => ?_, fun k q hq => ?_⟩
  · obtain ⟨a1, a2⟩ := sWd_addr hp
    obtain ⟨b1, b2⟩ := sWd_addr hq
    exact ha i j a1 b1 (by rw [← a2, ← b2]; exact e)
  · obtain ⟨a1, a2⟩ := sWd_addr hq
    exact ⟨k, a1, a2⟩
/-- the words of the tables, at a state -/
def sTab (U : State) : Prop := ∀ w ∈ sTB, va_Nw w U
theorem sTab_warm {s U : State} (hW : s.WarmedH U.vm) (h : sTab s) : sTab U := by
  intro w hw
  have ok := List.all_eq_true.mp sTB_ok w hw
  have h0 := h w hw
  unfold sOkw at ok
  split at ok
  · exact word_at hW (Or.inr ⟨_, rfl⟩) h0
  · exact va_Nw.warmF hW h0
  · exact va_Nw.warmM hW h0
  · exact va_tabs rfl (rfl : (s.setVm U.vm).vm = U.vm) (Cond.before_warmed (args := #[]) hW _ trivial h0)
  · exact va_tabs rfl (rfl : (s.setVm U.vm).vm = U.vm) (Cond.before_warmed (args := #[]) hW _ trivial h0)
  · exact word_at hW (Or.inl ok) h0
theorem sTab_calling {U : State} (g : JFrame) (mk : MethodId) (a : Array Value) (h : sTab U) : sTab (U.calling g mk a) := sTab_warm (s := U) (U := U.calling g mk a) (State.WarmedH.refl U) h
theorem sTab_use {U : State} (h : sTab U) {w : Cond} (hw : w ∈ sTB) (ht : w.onTables = true) (A : Array Value) : w.before A U = true := va_Nw.use ht (h w hw)
/-- what a body stands on -/
def sOk (Z : sZo) : sMa → sWo → ByteArray → Nat → String → Option FieldType → Room → Prop
  | (p, _, _, R, s, m, _, _, meth, c, cs, sl, cf, sf), (D, cA, ad), cc, nL, own, ret, rm => p.tables.exec = Jvm.exec ∧ c.code = cc ∧ c.maxLocals = nL ∧ s.vm.findClass own = some m.cls ∧ sTab s ∧ va_K D Z.1 (sTy cA) s ∧ sApart Z.2 ad ∧ meth.locks = false ∧ meth.sig.returnType = ret ∧ R = rm ∧ (cs ≤ cf ∧ sl ≤ sf) ∧ cf ≤ R.cells ∧ sf ≤ R.slots
/-- how a method ends: it returned, or it threw an exception of a class -/
abbrev sOut : Type := Option Value ⊕ Nat
def sQr (Z : sZo) : sWo → Option Value → sHp → Array Value → State → Outcome → State → Prop
  | (D, cA, ad), o, h', _, st, oc, t => oc = .returned o ∧ va_P D Z.1 (sWd Z.2 cA ad h') t.heap ∧ va_F (sAr Z.2 ad) st t
def sEx : Nat → String
  | 0 => "java/lang/IndexOutOfBoundsException"
  | 1 => "java/lang/IllegalArgumentException"
  | _ => "java/lang/IllegalStateException"
/-- a new exception of the class, at x -/
def sThrew (k : Nat) (x : Addr) (s t : State) : Prop := s.heap.size ≤ x ∧ ∃ (ce : Cell) (kc : Class), t.heap[x]? = some ce ∧ ce.vm.isStatics = false ∧ t.vm.classes[ce.cls]? = some kc ∧ t.vm.findClass (sEx k) = some ce.cls
def sTq (Z : sZo) (below : List Frame) : sWo → Nat → sHp → State → State → Prop
  | (D, cA, ad), k, h', s, t => ∃ x : Addr, t.status = .running ∧ Ended t below (.threw x) ∧ sThrew k x s t ∧ va_P D Z.1 (sWd Z.2 cA ad h') t.heap ∧ va_F (sAr Z.2 ad) s t ∧ s.WarmedH t.vm ∧ ∃ L : List Loc, s.sameButNew ({ t with vm := s.vm } : State) L 1 6 ∧ ∀ q ∈ L, sAr Z.2 ad q.base
def sQ (Z : sZo) : sMa → sWo → sOut → sHp → State → Prop
  | (_, _, _, _, s, _, args, below, _, _, _, _, cf, sf), (D, cA, ad), .inl o, h' => MQ below (sQr Z (D, cA, ad) o h') args s cf sf (sAr Z.2 ad)
  | (_, _, _, _, s, _, _, below, _, _, _, _, _, _), (D, cA, ad), .inr k, h' => sTq Z below (D, cA, ad) k h' s
def sA (Z : sZo) : sMa → sWo → (State → Prop) → Nat → List (Nat × Value) → List Value → sHp → Prop
  | (p, l, e, R, s, m, args, below, meth, c, cs, sl, _, _), (D, cA, ad), Q, pc, lv, st, h => ∀ (H : Heap) (locs : List Loc) (ls : Array Slot), lv_has ls c.maxLocals (sLv ad lv) → va_P D Z.1 (sWd Z.2 cA ad h) H → va_S (sAr Z.2 ad) s.heap H locs → W p l e R s m args below meth c H locs cs sl Q (F0 m pc ls (st.map (sV ad)))
def sS {ρ : Type} (Z : sZo) (M : sMa) (V : sWo) (fin : ρ → sOut × sHp) (pc : Nat) (lv : List (Nat × Value)) (st : List Value) (h : sHp) (X : Option ρ) : Prop := ∀ r, X = some r → sA Z M V (sQ Z M V (fin r).1 (fin r).2) pc lv st h
/-- a step that must be within an array -/
def sIn (j : Int32) (n : Nat) : Bool := decide (0 ≤ j.toInt ∧ j.toInt < (n : Int))
def sGd {β : Type} (b : Bool) (A : Option β) : Option β := if b = true then A else none
/-- a loop, by a number of rounds that is large enough -/
def sFx {S R : Type} (F : (S → Option R) → S → Option R) : Nat → S → Option R
  | 0, _ => none
  | n + 1, s => F (sFx F n) s
theorem sIn_iff {j : Int32} {n : Nat} : sIn j n = true ↔ vp_in j n := by
  rw [vp_in_iff]
  simp [sIn]
theorem sGd_t {β : Type} {b : Bool} {A : Option β} (h : b = true) : sGd b A = A := by simp [sGd, h]
theorem sGd_some {β : Type} {b : Bool} {A : Option β} {r : β} (h : sGd b A = some r) : b = true ∧ A = some r := by
  unfold sGd at h
  split at h
  · exact ⟨by assumption, h⟩
  · cases h
theorem sB_of {β ρ : Type} {X : Option β} {F : β → Option ρ} {r : ρ} (hr : X.bind F = some r) : ∃ v, X = some v ∧ F v = some r := by
  cases hX : X with
  | none => rw [hX] at hr; cases hr
  | some q => rw [hX] at hr; exact ⟨q, rfl, hr⟩
def jLushr (x : Int64) (y : Int32) : Int64 := (x.toUInt64 >>> (y.toInt64.toUInt64 &&& Int64.toUInt64 63)).toInt64
def jLshl (x : Int64) (y : Int32) : Int64 := x <<< (y.toInt64 &&& 63)
def jIshl (x y : Int32) : Int32 := x <<< (y &&& 31)
def jIshr (x y : Int32) : Int32 := x >>> (y &&& 31)
def jRem (x y : Int32) : Int32 := x - x / y * y
abbrev ix (j : Int32) : Nat := j.toNatClampNeg
theorem sV_sum (ad : Nat → Nat) (st : List Value) : ((st.map (sV ad)).map fun v => v.category).sum = (st.map fun v => v.category).sum := by
  rw [List.map_map]
  congr 1
  apply List.map_congr_left
  intro a _
  exact sV_cat ad a
section SR
variable {ρ : Type} {Z : sZo} {M : sMa} {V : sWo} {fin : ρ → sOut × sHp} {cc : ByteArray} {nL pc : Nat} {own : String} {ret : Option FieldType} {rm : Room} {lv lv' : List (Nat × Value)} {st : List Value} {h : sHp} {X A B : Option ρ}
theorem r_iconst (O : sOk Z M V cc nL own ret rm) {n : Int} {x : Int32} (d : decode cc pc = .ok (.iconst n, 1)) (hv : Int32.ofInt n = x) (k : sS Z M V fin (pc + 1) lv (.int x :: st) h X) : sS Z M V fin pc lv (st) h X := by
  obtain ⟨p, l, e, R, s, m, args, below, meth, c, cs, sl, cf, sf⟩ := M
  obtain ⟨D, cA, ad⟩ := V
  intro r hX H locs ls hl hP hS
  exact lv_iconst O.1 O.2.1 d hv (k r hX H locs ls hl hP hS)
theorem r_bipush (O : sOk Z M V cc nL own ret rm) {n : Int} {x : Int32} (d : decode cc pc = .ok (.bipush n, 2)) (hv : (Int8.ofInt n).toInt32 = x) (k : sS Z M V fin (pc + 2) lv (.int x :: st) h X) : sS Z M V fin pc lv (st) h X := by
  obtain ⟨p, l, e, R, s, m, args, below, meth, c, cs, sl, cf, sf⟩ := M
  obtain ⟨D, cA, ad⟩ := V
  intro r hX H locs ls hl hP hS
  exact lv_bipush O.1 O.2.1 d hv (k r hX H locs ls hl hP hS)
theorem r_sipush (O : sOk Z M V cc nL own ret rm) {n : Int} {x : Int32} (d : decode cc pc = .ok (.sipush n, 3)) (hv : (Int16.ofInt n).toInt32 = x) (k : sS Z M V fin (pc + 3) lv (.int x :: st) h X) : sS Z M V fin pc lv (st) h X := by
  obtain ⟨p, l, e, R, s, m, args, below, meth, c, cs, sl, cf, sf⟩ := M
  obtain ⟨D, cA, ad⟩ := V
  intro r hX H locs ls hl hP hS
  exact lv_sipush O.1 O.2.1 d hv (k r hX H locs ls hl hP hS)
theorem r_lconst (O : sOk Z M V cc nL own ret rm) {n : Fin 2} {x : Int64} (d : decode cc pc = .ok (.lconst n, 1)) (hv : Int64.ofNat (n : Nat) = x) (k : sS Z M V fin (pc + 1) lv (.long x :: st) h X) : sS Z M V fin pc lv (st) h X := by
  obtain ⟨p, l, e, R, s, m, args, below, meth, c, cs, sl, cf, sf⟩ := M
  obtain ⟨D, cA, ad⟩ := V
  intro r hX H locs ls hl hP hS
  exact lv_lconst O.1 O.2.1 d hv (k r hX H locs ls hl hP hS)
theorem r_iload_n (O : sOk Z M V cc nL own ret rm) {j : Fin 4} {x : Int32} (d : decode cc pc = .ok (.iload_n j, 1)) (i : Nat) (hk : lv[i]? = some ((j : Nat), .int x)) (k : sS Z M V fin (pc + 1) lv (.int x :: st) h X) : sS Z M V fin pc lv (st) h X := by
  obtain ⟨p, l, e, R, s, m, args, below, meth, c, cs, sl, cf, sf⟩ := M
  obtain ⟨D, cA, ad⟩ := V
  intro r hX H locs ls hl hP hS
  exact lv_iload_n O.1 O.2.1 d rfl (lv_at hl i (by rw [sLv, List.getElem?_map, hk]; rfl)) (k r hX H locs ls hl hP hS)
theorem r_iload (O : sOk Z M V cc nL own ret rm) {j : Nat} {x : Int32} (d : decode cc pc = .ok (.iload j, 2)) (i : Nat) (hk : lv[i]? = some (j, .int x)) (k : sS Z M V fin (pc + 2) lv (.int x :: st) h X) : sS Z M V fin pc lv (st) h X := by
  obtain ⟨p, l, e, R, s, m, args, below, meth, c, cs, sl, cf, sf⟩ := M
  obtain ⟨D, cA, ad⟩ := V
  intro r hX H locs ls hl hP hS
  exact lv_iload O.1 O.2.1 d (lv_at hl i (by rw [sLv, List.getElem?_map, hk]; rfl)) (k r hX H locs ls hl hP hS)
theorem r_lload_n (O : sOk Z M V cc nL own ret rm) {j : Fin 4} {x : Int64} (d : decode cc pc = .ok (.lload_n j, 1)) (i : Nat) (hk : lv[i]? = some ((j : Nat), .long x)) (k : sS Z M V fin (pc + 1) lv (.long x :: st) h X) : sS Z M V fin pc lv (st) h X := by
  obtain ⟨p, l, e, R, s, m, args, below, meth, c, cs, sl, cf, sf⟩ := M
  obtain ⟨D, cA, ad⟩ := V
  intro r hX H locs ls hl hP hS
  exact lv_lload_n O.1 O.2.1 d rfl (lv_at hl i (by rw [sLv, List.getElem?_map, hk]; rfl)) (k r hX H locs ls hl hP hS)
theorem r_lload (O : sOk Z M V cc nL own ret rm) {j : Nat} {x : Int64} (d : decode cc pc = .ok (.lload j, 2)) (i : Nat) (hk : lv[i]? = some (j, .long x)) (k : sS Z M V fin (pc + 2) lv (.long x :: st) h X) : sS Z M V fin pc lv (st) h X := by
  obtain ⟨p, l, e, R, s, m, args, below, meth, c, cs, sl, cf, sf⟩ := M
  obtain ⟨D, cA, ad⟩ := V
  intro r hX H locs ls hl hP hS
  exact lv_lload O.1 O.2.1 d (lv_at hl i (by rw [sLv, List.getElem?_map, hk]; rfl)) (k r hX H locs ls hl hP hS)
theorem r_aload_n (O : sOk Z M V cc nL own ret rm) {j : Fin 4} {x : Nat} (d : decode cc pc = .ok (.aload_n j, 1)) (i : Nat) (hk : lv[i]? = some ((j : Nat), .ref x)) (k : sS Z M V fin (pc + 1) lv (.ref x :: st) h X) : sS Z M V fin pc lv (st) h X := by
  obtain ⟨p, l, e, R, s, m, args, below, meth, c, cs, sl, cf, sf⟩ := M
  obtain ⟨D, cA, ad⟩ := V
  intro r hX H locs ls hl hP hS
  exact lv_aload_n O.1 O.2.1 d rfl (lv_at hl i (by rw [sLv, List.getElem?_map, hk]; rfl)) (k r hX H locs ls hl hP hS)
theorem r_aload (O : sOk Z M V cc nL own ret rm) {j : Nat} {x : Nat} (d : decode cc pc = .ok (.aload j, 2)) (i : Nat) (hk : lv[i]? = some (j, .ref x)) (k : sS Z M V fin (pc + 2) lv (.ref x :: st) h X) : sS Z M V fin pc lv (st) h X := by
  obtain ⟨p, l, e, R, s, m, args, below, meth, c, cs, sl, cf, sf⟩ := M
  obtain ⟨D, cA, ad⟩ := V
  intro r hX H locs ls hl hP hS
  exact lv_aload O.1 O.2.1 d (lv_at hl i (by rw [sLv, List.getElem?_map, hk]; rfl)) (k r hX H locs ls hl hP hS)
theorem sLv_f1 {ad : Nat → Nat} {lv : List (Nat × Value)} {i : Nat} : (sLv ad lv).filter (fun q => !(q.1 == i) && !(q.1 + 1 == i && q.2.category == 2)) = sLv ad (lv.filter (fun q => !(q.1 == i) && !(q.1 + 1 == i && q.2.category == 2))) := by
  simp only [sLv, List.filter_map, Function.comp_def, sV_cat]
theorem sLv_f2 {ad : Nat → Nat} {lv : List (Nat × Value)} {i : Nat} : (sLv ad lv).filter (fun q => !(q.1 == i) && (!(q.1 == i + 1) && !(q.1 + 1 == i && q.2.category == 2))) = sLv ad (lv.filter (fun q => !(q.1 == i) && (!(q.1 == i + 1) && !(q.1 + 1 == i && q.2.category == 2)))) := by
  simp only [sLv, List.filter_map, Function.comp_def, sV_cat]
theorem r_istore_n (O : sOk Z M V cc nL own ret rm) {j : Fin 4} {i : Nat} {x : Int32} (d : decode cc pc = .ok (.istore_n j, 1)) (hj : (j : Nat) = i) (hn : i < nL) (hf : (i, Value.int x) :: lv.filter (fun q => !(q.1 == i) && !(q.1 + 1 == i && q.2.category == 2)) = lv') (k : sS Z M V fin (pc + 1) lv' st h X) : sS Z M V fin pc lv (.int x :: st) h X := by
  obtain ⟨p, l, e, R, s, m, args, below, meth, c, cs, sl, cf, sf⟩ := M
  obtain ⟨D, cA, ad⟩ := V
  intro r hX H locs ls hl hP hS
  subst hf
  have hml : c.maxLocals = nL := O.2.2.1
  exact lv_istore_n (x := x) O.1 O.2.1 d hj hl (by rw [hml]; exact hn) (by first | (rw [sLv_f1]; rfl) | rw [sLv_f1]) (fun ls' hl' => k r hX H locs ls' hl' hP hS)
theorem r_istore (O : sOk Z M V cc nL own ret rm) {i : Nat} {x : Int32} (d : decode cc pc = .ok (.istore i, 2)) (hn : i < nL) (hf : (i, Value.int x) :: lv.filter (fun q => !(q.1 == i) && !(q.1 + 1 == i && q.2.category == 2)) = lv') (k : sS Z M V fin (pc + 2) lv' st h X) : sS Z M V fin pc lv (.int x :: st) h X := by
  obtain ⟨p, l, e, R, s, m, args, below, meth, c, cs, sl, cf, sf⟩ := M
  obtain ⟨D, cA, ad⟩ := V
  intro r hX H locs ls hl hP hS
  subst hf
  have hml : c.maxLocals = nL := O.2.2.1
  exact lv_istore (x := x) O.1 O.2.1 d hl (by rw [hml]; exact hn) (by first | (rw [sLv_f1]; rfl) | rw [sLv_f1]) (fun ls' hl' => k r hX H locs ls' hl' hP hS)
theorem r_lstore_n (O : sOk Z M V cc nL own ret rm) {j : Fin 4} {i : Nat} {x : Int64} (d : decode cc pc = .ok (.lstore_n j, 1)) (hj : (j : Nat) = i) (hn : i + 1 < nL) (hf : (i, Value.long x) :: lv.filter (fun q => !(q.1 == i) && (!(q.1 == i + 1) && !(q.1 + 1 == i && q.2.category == 2))) = lv') (k : sS Z M V fin (pc + 1) lv' st h X) : sS Z M V fin pc lv (.long x :: st) h X := by
  obtain ⟨p, l, e, R, s, m, args, below, meth, c, cs, sl, cf, sf⟩ := M
  obtain ⟨D, cA, ad⟩ := V
  intro r hX H locs ls hl hP hS
  subst hf
  have hml : c.maxLocals = nL := O.2.2.1
  exact lv_lstore_n (x := x) O.1 O.2.1 d hj hl (by rw [hml]; exact hn) (by first | (rw [sLv_f2]; rfl) | rw [sLv_f2]) (fun ls' hl' => k r hX H locs ls' hl' hP hS)
theorem r_lstore (O : sOk Z M V cc nL own ret rm) {i : Nat} {x : Int64} (d : decode cc pc = .ok (.lstore i, 2)) (hn : i + 1 < nL) (hf : (i, Value.long x) :: lv.filter (fun q => !(q.1 == i) && (!(q.1 == i + 1) && !(q.1 + 1 == i && q.2.category == 2))) = lv') (k : sS Z M V fin (pc + 2) lv' st h X) : sS Z M V fin pc lv (.long x :: st) h X := by
  obtain ⟨p, l, e, R, s, m, args, below, meth, c, cs, sl, cf, sf⟩ := M
  obtain ⟨D, cA, ad⟩ := V
  intro r hX H locs ls hl hP hS
  subst hf
  have hml : c.maxLocals = nL := O.2.2.1
  exact lv_lstore (x := x) O.1 O.2.1 d hl (by rw [hml]; exact hn) (by first | (rw [sLv_f2]; rfl) | rw [sLv_f2]) (fun ls' hl' => k r hX H locs ls' hl' hP hS)
theorem r_astore_n (O : sOk Z M V cc nL own ret rm) {j : Fin 4} {i : Nat} {x : Nat} (d : decode cc pc = .ok (.astore_n j, 1)) (hj : (j : Nat) = i) (hn : i < nL) (hf : (i, Value.ref x) :: lv.filter (fun q => !(q.1 == i) && !(q.1 + 1 == i && q.2.category == 2)) = lv') (k : sS Z M V fin (pc + 1) lv' st h X) : sS Z M V fin pc lv (.ref x :: st) h X := by
  obtain ⟨p, l, e, R, s, m, args, below, meth, c, cs, sl, cf, sf⟩ := M
  obtain ⟨D, cA, ad⟩ := V
  intro r hX H locs ls hl hP hS
  subst hf
  have hml : c.maxLocals = nL := O.2.2.1
  exact lv_astore_n (x := ad x) O.1 O.2.1 d hj hl (by rw [hml]; exact hn) (by first | (rw [sLv_f1]; rfl) | rw [sLv_f1]) (fun ls' hl' => k r hX H locs ls' hl' hP hS)
theorem r_astore (O : sOk Z M V cc nL own ret rm) {i : Nat} {x : Nat} (d : decode cc pc = .ok (.astore i, 2)) (hn : i < nL) (hf : (i, Value.ref x) :: lv.filter (fun q => !(q.1 == i) && !(q.1 + 1 == i && q.2.category == 2)) = lv') (k : sS Z M V fin (pc + 2) lv' st h X) : sS Z M V fin pc lv (.ref x :: st) h X := by
  obtain ⟨p, l, e, R, s, m, args, below, meth, c, cs, sl, cf, sf⟩ := M
  obtain ⟨D, cA, ad⟩ := V
  intro r hX H locs ls hl hP hS
  subst hf
  have hml : c.maxLocals = nL := O.2.2.1
  exact lv_astore (x := ad x) O.1 O.2.1 d hl (by rw [hml]; exact hn) (by first | (rw [sLv_f1]; rfl) | rw [sLv_f1]) (fun ls' hl' => k r hX H locs ls' hl' hP hS)
theorem r_iinc (O : sOk Z M V cc nL own ret rm) {i : Nat} {n : Int} {x y : Int32} (d : decode cc pc = .ok (.iinc i n, 3)) (q : Nat) (hk : lv[q]? = some (i, .int x)) (hv : x + Int32.ofInt n = y) (hn : i < nL) (hf : (i, Value.int y) :: lv.filter (fun q => !(q.1 == i) && !(q.1 + 1 == i && q.2.category == 2)) = lv') (k : sS Z M V fin (pc + 3) lv' st h X) : sS Z M V fin pc lv st h X := by
  obtain ⟨p, l, e, R, s, m, args, below, meth, c, cs, sl, cf, sf⟩ := M
  obtain ⟨D, cA, ad⟩ := V
  intro r hX H locs ls hl hP hS
  subst hf
  have hml : c.maxLocals = nL := O.2.2.1
  exact lv_iinc (k := q) O.1 O.2.1 d hl (by rw [sLv, List.getElem?_map, hk]; rfl) hv (by rw [hml]; exact hn) (by rw [sLv_f1]; rfl) (fun ls' hl' => k r hX H locs ls' hl' hP hS)
theorem sLv_pick {ad : Nat → Nat} {lv : List (Nat × Value)} {ks : List Nat} : lv_pick (sLv ad lv) ks = sLv ad (lv_pick lv ks) := by
  unfold lv_pick sLv
  induction ks with
  | nil => rfl
  | cons a t ih =>
    rw [List.filterMap_cons, List.filterMap_cons, List.getElem?_map]
    cases lv[a]? with
    | none => exact ih
    | some q => simp only [Option.map_some, List.map_cons]; rw [ih]
/-- fewer listed locals, in another order -/
theorem r_lv (ks : List Nat) (hs : lv_pick lv ks = lv') (k : sS Z M V fin pc lv' st h X) : sS Z M V fin pc lv st h X := by
  obtain ⟨p, l, e, R, s, m, args, below, meth, c, cs, sl, cf, sf⟩ := M
  obtain ⟨D, cA, ad⟩ := V
  intro r hX H locs ls hl hP hS
  refine k r hX H locs ls (lv_sub hl ks ?_) hP hS
  subst hs
  exact sLv_pick
/-- another way to write the same state -/
theorem r_eq {pc' : Nat} {st' : List Value} {h' : sHp} (e1 : pc = pc') (e2 : lv = lv') (e3 : st = st') (e4 : h = h') (k : sS Z M V fin pc' lv' st' h' X) : sS Z M V fin pc lv st h X := by
  subst e1; subst e2; subst e3; subst e4; exact k
theorem r_iadd (O : sOk Z M V cc nL own ret rm) {x y : Int32} (d : decode cc pc = .ok (.iadd, 1))  (k : sS Z M V fin (pc + 1) lv (.int (x + y) :: st) h X) : sS Z M V fin pc lv (.int y :: .int x :: st) h X := by
  obtain ⟨p, l, e, R, s, m, args, below, meth, c, cs, sl, cf, sf⟩ := M
  obtain ⟨D, cA, ad⟩ := V
  intro r hX H locs ls hl hP hS
  exact lv_iadd O.1 O.2.1 d (k r hX H locs ls hl hP hS)
theorem r_isub (O : sOk Z M V cc nL own ret rm) {x y : Int32} (d : decode cc pc = .ok (.isub, 1))  (k : sS Z M V fin (pc + 1) lv (.int (x - y) :: st) h X) : sS Z M V fin pc lv (.int y :: .int x :: st) h X := by
  obtain ⟨p, l, e, R, s, m, args, below, meth, c, cs, sl, cf, sf⟩ := M
  obtain ⟨D, cA, ad⟩ := V
  intro r hX H locs ls hl hP hS
  exact lv_isub O.1 O.2.1 d (k r hX H locs ls hl hP hS)
theorem r_imul (O : sOk Z M V cc nL own ret rm) {x y : Int32} (d : decode cc pc = .ok (.imul, 1))  (k : sS Z M V fin (pc + 1) lv (.int (x * y) :: st) h X) : sS Z M V fin pc lv (.int y :: .int x :: st) h X := by
  obtain ⟨p, l, e, R, s, m, args, below, meth, c, cs, sl, cf, sf⟩ := M
  obtain ⟨D, cA, ad⟩ := V
  intro r hX H locs ls hl hP hS
  exact lv_imul O.1 O.2.1 d (k r hX H locs ls hl hP hS)
theorem r_iand (O : sOk Z M V cc nL own ret rm) {x y : Int32} (d : decode cc pc = .ok (.iand, 1))  (k : sS Z M V fin (pc + 1) lv (.int (x &&& y) :: st) h X) : sS Z M V fin pc lv (.int y :: .int x :: st) h X := by
  obtain ⟨p, l, e, R, s, m, args, below, meth, c, cs, sl, cf, sf⟩ := M
  obtain ⟨D, cA, ad⟩ := V
  intro r hX H locs ls hl hP hS
  exact lv_iand O.1 O.2.1 d (k r hX H locs ls hl hP hS)
theorem r_ior (O : sOk Z M V cc nL own ret rm) {x y : Int32} (d : decode cc pc = .ok (.ior, 1))  (k : sS Z M V fin (pc + 1) lv (.int (x ||| y) :: st) h X) : sS Z M V fin pc lv (.int y :: .int x :: st) h X := by
  obtain ⟨p, l, e, R, s, m, args, below, meth, c, cs, sl, cf, sf⟩ := M
  obtain ⟨D, cA, ad⟩ := V
  intro r hX H locs ls hl hP hS
  exact lv_ior O.1 O.2.1 d (k r hX H locs ls hl hP hS)
theorem r_ixor (O : sOk Z M V cc nL own ret rm) {x y : Int32} (d : decode cc pc = .ok (.ixor, 1))  (k : sS Z M V fin (pc + 1) lv (.int (x ^^^ y) :: st) h X) : sS Z M V fin pc lv (.int y :: .int x :: st) h X := by
  obtain ⟨p, l, e, R, s, m, args, below, meth, c, cs, sl, cf, sf⟩ := M
  obtain ⟨D, cA, ad⟩ := V
  intro r hX H locs ls hl hP hS
  exact lv_ixor O.1 O.2.1 d (k r hX H locs ls hl hP hS)
theorem r_ladd (O : sOk Z M V cc nL own ret rm) {x y : Int64} (d : decode cc pc = .ok (.ladd, 1))  (k : sS Z M V fin (pc + 1) lv (.long (x + y) :: st) h X) : sS Z M V fin pc lv (.long y :: .long x :: st) h X := by
  obtain ⟨p, l, e, R, s, m, args, below, meth, c, cs, sl, cf, sf⟩ := M
  obtain ⟨D, cA, ad⟩ := V
  intro r hX H locs ls hl hP hS
  exact lv_ladd O.1 O.2.1 d (k r hX H locs ls hl hP hS)
theorem r_lsub (O : sOk Z M V cc nL own ret rm) {x y : Int64} (d : decode cc pc = .ok (.lsub, 1))  (k : sS Z M V fin (pc + 1) lv (.long (x - y) :: st) h X) : sS Z M V fin pc lv (.long y :: .long x :: st) h X := by
  obtain ⟨p, l, e, R, s, m, args, below, meth, c, cs, sl, cf, sf⟩ := M
  obtain ⟨D, cA, ad⟩ := V
  intro r hX H locs ls hl hP hS
  exact lv_lsub O.1 O.2.1 d (k r hX H locs ls hl hP hS)
theorem r_lmul (O : sOk Z M V cc nL own ret rm) {x y : Int64} (d : decode cc pc = .ok (.lmul, 1))  (k : sS Z M V fin (pc + 1) lv (.long (x * y) :: st) h X) : sS Z M V fin pc lv (.long y :: .long x :: st) h X := by
  obtain ⟨p, l, e, R, s, m, args, below, meth, c, cs, sl, cf, sf⟩ := M
  obtain ⟨D, cA, ad⟩ := V
  intro r hX H locs ls hl hP hS
  exact lv_lmul O.1 O.2.1 d (k r hX H locs ls hl hP hS)
theorem r_land (O : sOk Z M V cc nL own ret rm) {x y : Int64} (d : decode cc pc = .ok (.land, 1))  (k : sS Z M V fin (pc + 1) lv (.long (x &&& y) :: st) h X) : sS Z M V fin pc lv (.long y :: .long x :: st) h X := by
  obtain ⟨p, l, e, R, s, m, args, below, meth, c, cs, sl, cf, sf⟩ := M
  obtain ⟨D, cA, ad⟩ := V
  intro r hX H locs ls hl hP hS
  exact lv_land O.1 O.2.1 d (k r hX H locs ls hl hP hS)
theorem r_lor (O : sOk Z M V cc nL own ret rm) {x y : Int64} (d : decode cc pc = .ok (.lor, 1))  (k : sS Z M V fin (pc + 1) lv (.long (x ||| y) :: st) h X) : sS Z M V fin pc lv (.long y :: .long x :: st) h X := by
  obtain ⟨p, l, e, R, s, m, args, below, meth, c, cs, sl, cf, sf⟩ := M
  obtain ⟨D, cA, ad⟩ := V
  intro r hX H locs ls hl hP hS
  exact lv_lor O.1 O.2.1 d (k r hX H locs ls hl hP hS)
theorem r_lxor (O : sOk Z M V cc nL own ret rm) {x y : Int64} (d : decode cc pc = .ok (.lxor, 1))  (k : sS Z M V fin (pc + 1) lv (.long (x ^^^ y) :: st) h X) : sS Z M V fin pc lv (.long y :: .long x :: st) h X := by
  obtain ⟨p, l, e, R, s, m, args, below, meth, c, cs, sl, cf, sf⟩ := M
  obtain ⟨D, cA, ad⟩ := V
  intro r hX H locs ls hl hP hS
  exact lv_lxor O.1 O.2.1 d (k r hX H locs ls hl hP hS)
theorem r_idiv (O : sOk Z M V cc nL own ret rm) {x y : Int32} (d : decode cc pc = .ok (.idiv, 1)) (hne : ¬ y = 0) (k : sS Z M V fin (pc + 1) lv (.int (x / y) :: st) h X) : sS Z M V fin pc lv (.int y :: .int x :: st) h X := by
  obtain ⟨p, l, e, R, s, m, args, below, meth, c, cs, sl, cf, sf⟩ := M
  obtain ⟨D, cA, ad⟩ := V
  intro r hX H locs ls hl hP hS
  exact lv_idiv O.1 O.2.1 d hne (k r hX H locs ls hl hP hS)
theorem r_irem (O : sOk Z M V cc nL own ret rm) {x y : Int32} (d : decode cc pc = .ok (.irem, 1)) (hne : ¬ y = 0) (k : sS Z M V fin (pc + 1) lv (.int (jRem x y) :: st) h X) : sS Z M V fin pc lv (.int y :: .int x :: st) h X := by
  obtain ⟨p, l, e, R, s, m, args, below, meth, c, cs, sl, cf, sf⟩ := M
  obtain ⟨D, cA, ad⟩ := V
  intro r hX H locs ls hl hP hS
  exact lv_irem O.1 O.2.1 d hne (k r hX H locs ls hl hP hS)
theorem r_ineg (O : sOk Z M V cc nL own ret rm) {x : Int32} (d : decode cc pc = .ok (.ineg, 1))  (k : sS Z M V fin (pc + 1) lv (.int (-x) :: st) h X) : sS Z M V fin pc lv (.int x :: st) h X := by
  obtain ⟨p, l, e, R, s, m, args, below, meth, c, cs, sl, cf, sf⟩ := M
  obtain ⟨D, cA, ad⟩ := V
  intro r hX H locs ls hl hP hS
  exact lv_ineg O.1 O.2.1 d (k r hX H locs ls hl hP hS)
theorem r_lneg (O : sOk Z M V cc nL own ret rm) {x : Int64} (d : decode cc pc = .ok (.lneg, 1))  (k : sS Z M V fin (pc + 1) lv (.long (-x) :: st) h X) : sS Z M V fin pc lv (.long x :: st) h X := by
  obtain ⟨p, l, e, R, s, m, args, below, meth, c, cs, sl, cf, sf⟩ := M
  obtain ⟨D, cA, ad⟩ := V
  intro r hX H locs ls hl hP hS
  exact lv_lneg O.1 O.2.1 d (k r hX H locs ls hl hP hS)
theorem r_ishl (O : sOk Z M V cc nL own ret rm) {x y : Int32} (d : decode cc pc = .ok (.ishl, 1))  (k : sS Z M V fin (pc + 1) lv (.int (jIshl x y) :: st) h X) : sS Z M V fin pc lv (.int y :: .int x :: st) h X := by
  obtain ⟨p, l, e, R, s, m, args, below, meth, c, cs, sl, cf, sf⟩ := M
  obtain ⟨D, cA, ad⟩ := V
  intro r hX H locs ls hl hP hS
  exact lv_ishl O.1 O.2.1 d (k r hX H locs ls hl hP hS)
theorem r_ishr (O : sOk Z M V cc nL own ret rm) {x y : Int32} (d : decode cc pc = .ok (.ishr, 1))  (k : sS Z M V fin (pc + 1) lv (.int (jIshr x y) :: st) h X) : sS Z M V fin pc lv (.int y :: .int x :: st) h X := by
  obtain ⟨p, l, e, R, s, m, args, below, meth, c, cs, sl, cf, sf⟩ := M
  obtain ⟨D, cA, ad⟩ := V
  intro r hX H locs ls hl hP hS
  exact lv_ishr O.1 O.2.1 d (k r hX H locs ls hl hP hS)
theorem r_i2l (O : sOk Z M V cc nL own ret rm) {x : Int32} (d : decode cc pc = .ok (.i2l, 1))  (k : sS Z M V fin (pc + 1) lv (.long x.toInt64 :: st) h X) : sS Z M V fin pc lv (.int x :: st) h X := by
  obtain ⟨p, l, e, R, s, m, args, below, meth, c, cs, sl, cf, sf⟩ := M
  obtain ⟨D, cA, ad⟩ := V
  intro r hX H locs ls hl hP hS
  exact lv_i2l O.1 O.2.1 d rfl (k r hX H locs ls hl hP hS)
theorem r_l2i (O : sOk Z M V cc nL own ret rm) {x : Int64} (d : decode cc pc = .ok (.l2i, 1))  (k : sS Z M V fin (pc + 1) lv (.int x.toInt32 :: st) h X) : sS Z M V fin pc lv (.long x :: st) h X := by
  obtain ⟨p, l, e, R, s, m, args, below, meth, c, cs, sl, cf, sf⟩ := M
  obtain ⟨D, cA, ad⟩ := V
  intro r hX H locs ls hl hP hS
  exact lv_l2i O.1 O.2.1 d rfl (k r hX H locs ls hl hP hS)
theorem r_lushr (O : sOk Z M V cc nL own ret rm) {x : Int64} {y : Int32} (d : decode cc pc = .ok (.lushr, 1))  (k : sS Z M V fin (pc + 1) lv (.long (jLushr x y) :: st) h X) : sS Z M V fin pc lv (.int y :: .long x :: st) h X := by
  obtain ⟨p, l, e, R, s, m, args, below, meth, c, cs, sl, cf, sf⟩ := M
  obtain ⟨D, cA, ad⟩ := V
  intro r hX H locs ls hl hP hS
  exact lv_lushr O.1 O.2.1 d rfl (k r hX H locs ls hl hP hS)
theorem r_lshl (O : sOk Z M V cc nL own ret rm) {x : Int64} {y : Int32} (d : decode cc pc = .ok (.lshl, 1))  (k : sS Z M V fin (pc + 1) lv (.long (jLshl x y) :: st) h X) : sS Z M V fin pc lv (.int y :: .long x :: st) h X := by
  obtain ⟨p, l, e, R, s, m, args, below, meth, c, cs, sl, cf, sf⟩ := M
  obtain ⟨D, cA, ad⟩ := V
  intro r hX H locs ls hl hP hS
  exact lv_lshl O.1 O.2.1 d rfl (k r hX H locs ls hl hP hS)
theorem r_lcmp (O : sOk Z M V cc nL own ret rm) {x y : Int64} (d : decode cc pc = .ok (.lcmp, 1))  (k : sS Z M V fin (pc + 1) lv (.int (lg_cmp x y) :: st) h X) : sS Z M V fin pc lv (.long y :: .long x :: st) h X := by
  obtain ⟨p, l, e, R, s, m, args, below, meth, c, cs, sl, cf, sf⟩ := M
  obtain ⟨D, cA, ad⟩ := V
  intro r hX H locs ls hl hP hS
  exact W.lcmp O.1 O.2.1 d (k r hX H locs ls hl hP hS)
theorem r_dup (O : sOk Z M V cc nL own ret rm) {a : Value} (d : decode cc pc = .ok (.dup, 1)) (ha : a.category = 1) (k : sS Z M V fin (pc + 1) lv (a :: a :: st) h X) : sS Z M V fin pc lv (a :: st) h X := by
  obtain ⟨p, l, e, R, s, m, args, below, meth, c, cs, sl, cf, sf⟩ := M
  obtain ⟨D, cA, ad⟩ := V
  intro r hX H locs ls hl hP hS
  exact lv_dup O.1 O.2.1 d (by rw [sV_cat]; exact ha) (k r hX H locs ls hl hP hS)
theorem r_pop (O : sOk Z M V cc nL own ret rm) {a : Value} (d : decode cc pc = .ok (.pop, 1)) (ha : a.category = 1) (k : sS Z M V fin (pc + 1) lv (st) h X) : sS Z M V fin pc lv (a :: st) h X := by
  obtain ⟨p, l, e, R, s, m, args, below, meth, c, cs, sl, cf, sf⟩ := M
  obtain ⟨D, cA, ad⟩ := V
  intro r hX H locs ls hl hP hS
  exact lv_pop O.1 O.2.1 d (by rw [sV_cat]; exact ha) (k r hX H locs ls hl hP hS)
theorem r_dup_x1 (O : sOk Z M V cc nL own ret rm) {a b : Value} (d : decode cc pc = .ok (.dup_x1, 1)) (ha : a.category = 1) (hb : b.category = 1) (k : sS Z M V fin (pc + 1) lv (a :: b :: a :: st) h X) : sS Z M V fin pc lv (a :: b :: st) h X := by
  obtain ⟨p, l, e, R, s, m, args, below, meth, c, cs, sl, cf, sf⟩ := M
  obtain ⟨D, cA, ad⟩ := V
  intro r hX H locs ls hl hP hS
  exact lv_dup_x1 O.1 O.2.1 d (by rw [sV_cat]; exact ha) (by rw [sV_cat]; exact hb) (k r hX H locs ls hl hP hS)
theorem r_dup_x2 (O : sOk Z M V cc nL own ret rm) {a b g : Value} (d : decode cc pc = .ok (.dup_x2, 1)) (ha : a.category = 1) (hb : b.category = 1) (hg : g.category = 1) (k : sS Z M V fin (pc + 1) lv (a :: b :: g :: a :: st) h X) : sS Z M V fin pc lv (a :: b :: g :: st) h X := by
  obtain ⟨p, l, e, R, s, m, args, below, meth, c, cs, sl, cf, sf⟩ := M
  obtain ⟨D, cA, ad⟩ := V
  intro r hX H locs ls hl hP hS
  exact lv_dup_x2 O.1 O.2.1 d (by rw [sV_cat]; exact ha) (by rw [sV_cat]; exact hb) (by rw [sV_cat]; exact hg) (k r hX H locs ls hl hP hS)
theorem r_dup2_11 (O : sOk Z M V cc nL own ret rm) {a b : Value} (d : decode cc pc = .ok (.dup2, 1)) (ha : a.category = 1) (hb : b.category = 1) (k : sS Z M V fin (pc + 1) lv (a :: b :: a :: b :: st) h X) : sS Z M V fin pc lv (a :: b :: st) h X := by
  obtain ⟨p, l, e, R, s, m, args, below, meth, c, cs, sl, cf, sf⟩ := M
  obtain ⟨D, cA, ad⟩ := V
  intro r hX H locs ls hl hP hS
  exact lv_dup2_11 O.1 O.2.1 d (by rw [sV_cat]; exact ha) (by rw [sV_cat]; exact hb) (k r hX H locs ls hl hP hS)
theorem r_icmp_eq (O : sOk Z M V cc nL own ret rm) {x y : Int32} {off : Int} {tgt : Nat} (d : decode cc pc = .ok (.if_icmp .eq off, 3)) (ht : (pc : Int) + off = (tgt : Int)) (kt : x = y → sS Z M V fin tgt lv st h A) (kf : ¬ x = y → sS Z M V fin (pc + 3) lv st h B) : sS Z M V fin pc lv (.int y :: .int x :: st) h (if x = y then A else B) := by
  obtain ⟨p, l, e, R, s, m, args, below, meth, c, cs, sl, cf, sf⟩ := M
  obtain ⟨D, cA, ad⟩ := V
  intro r hX H locs ls hl hP hS
  exact lv_icmp_eq O.1 O.2.1 d ht (fun q => kt q r (by rw [if_pos q] at hX; exact hX) H locs ls hl hP hS) (fun q => kf q r (by rw [if_neg q] at hX; exact hX) H locs ls hl hP hS)
theorem r_icmp_eq_t (O : sOk Z M V cc nL own ret rm) {x y : Int32} {off : Int} {tgt : Nat} (d : decode cc pc = .ok (.if_icmp .eq off, 3)) (ht : (pc : Int) + off = (tgt : Int)) (q : x = y) (kt : sS Z M V fin tgt lv st h X) : sS Z M V fin pc lv (.int y :: .int x :: st) h X := by
  obtain ⟨p, l, e, R, s, m, args, below, meth, c, cs, sl, cf, sf⟩ := M
  obtain ⟨D, cA, ad⟩ := V
  intro r hX H locs ls hl hP hS
  exact lv_icmp_eq O.1 O.2.1 d ht (fun _ => kt r hX H locs ls hl hP hS) (fun q2 => absurd q q2)
theorem r_icmp_eq_f (O : sOk Z M V cc nL own ret rm) {x y : Int32} {off : Int} {tgt : Nat} (d : decode cc pc = .ok (.if_icmp .eq off, 3)) (ht : (pc : Int) + off = (tgt : Int)) (q : ¬ x = y) (kf : sS Z M V fin (pc + 3) lv st h X) : sS Z M V fin pc lv (.int y :: .int x :: st) h X := by
  obtain ⟨p, l, e, R, s, m, args, below, meth, c, cs, sl, cf, sf⟩ := M
  obtain ⟨D, cA, ad⟩ := V
  intro r hX H locs ls hl hP hS
  exact lv_icmp_eq O.1 O.2.1 d ht (fun q2 => absurd q2 q) (fun _ => kf r hX H locs ls hl hP hS)
theorem r_if_eq (O : sOk Z M V cc nL own ret rm) {x : Int32} {off : Int} {tgt : Nat} (d : decode cc pc = .ok (.ifCond .eq off, 3)) (ht : (pc : Int) + off = (tgt : Int)) (kt : x = 0 → sS Z M V fin tgt lv st h A) (kf : ¬ x = 0 → sS Z M V fin (pc + 3) lv st h B) : sS Z M V fin pc lv (.int x :: st) h (if x = 0 then A else B) := by
  obtain ⟨p, l, e, R, s, m, args, below, meth, c, cs, sl, cf, sf⟩ := M
  obtain ⟨D, cA, ad⟩ := V
  intro r hX H locs ls hl hP hS
  exact lv_if_eq O.1 O.2.1 d ht (fun q => kt q r (by rw [if_pos q] at hX; exact hX) H locs ls hl hP hS) (fun q => kf q r (by rw [if_neg q] at hX; exact hX) H locs ls hl hP hS)
theorem r_if_eq_t (O : sOk Z M V cc nL own ret rm) {x : Int32} {off : Int} {tgt : Nat} (d : decode cc pc = .ok (.ifCond .eq off, 3)) (ht : (pc : Int) + off = (tgt : Int)) (q : x = 0) (kt : sS Z M V fin tgt lv st h X) : sS Z M V fin pc lv (.int x :: st) h X := by
  obtain ⟨p, l, e, R, s, m, args, below, meth, c, cs, sl, cf, sf⟩ := M
  obtain ⟨D, cA, ad⟩ := V
  intro r hX H locs ls hl hP hS
  exact lv_if_eq O.1 O.2.1 d ht (fun _ => kt r hX H locs ls hl hP hS) (fun q2 => absurd q q2)
theorem r_if_eq_f (O : sOk Z M V cc nL own ret rm) {x : Int32} {off : Int} {tgt : Nat} (d : decode cc pc = .ok (.ifCond .eq off, 3)) (ht : (pc : Int) + off = (tgt : Int)) (q : ¬ x = 0) (kf : sS Z M V fin (pc + 3) lv st h X) : sS Z M V fin pc lv (.int x :: st) h X := by
  obtain ⟨p, l, e, R, s, m, args, below, meth, c, cs, sl, cf, sf⟩ := M
  obtain ⟨D, cA, ad⟩ := V
  intro r hX H locs ls hl hP hS
  exact lv_if_eq O.1 O.2.1 d ht (fun q2 => absurd q2 q) (fun _ => kf r hX H locs ls hl hP hS)
theorem r_icmp_ne (O : sOk Z M V cc nL own ret rm) {x y : Int32} {off : Int} {tgt : Nat} (d : decode cc pc = .ok (.if_icmp .ne off, 3)) (ht : (pc : Int) + off = (tgt : Int)) (kt : ¬ x = y → sS Z M V fin tgt lv st h A) (kf : x = y → sS Z M V fin (pc + 3) lv st h B) : sS Z M V fin pc lv (.int y :: .int x :: st) h (if x = y then B else A) := by
  obtain ⟨p, l, e, R, s, m, args, below, meth, c, cs, sl, cf, sf⟩ := M
  obtain ⟨D, cA, ad⟩ := V
  intro r hX H locs ls hl hP hS
  exact lv_icmp_ne O.1 O.2.1 d ht (fun q => kt q r (by rw [if_neg q] at hX; exact hX) H locs ls hl hP hS) (fun q => kf q r (by rw [if_pos q] at hX; exact hX) H locs ls hl hP hS)
theorem r_icmp_ne_t (O : sOk Z M V cc nL own ret rm) {x y : Int32} {off : Int} {tgt : Nat} (d : decode cc pc = .ok (.if_icmp .ne off, 3)) (ht : (pc : Int) + off = (tgt : Int)) (q : ¬ x = y) (kt : sS Z M V fin tgt lv st h X) : sS Z M V fin pc lv (.int y :: .int x :: st) h X := by
  obtain ⟨p, l, e, R, s, m, args, below, meth, c, cs, sl, cf, sf⟩ := M
  obtain ⟨D, cA, ad⟩ := V
  intro r hX H locs ls hl hP hS
  exact lv_icmp_ne O.1 O.2.1 d ht (fun _ => kt r hX H locs ls hl hP hS) (fun q2 => absurd q2 q)
theorem r_icmp_ne_f (O : sOk Z M V cc nL own ret rm) {x y : Int32} {off : Int} {tgt : Nat} (d : decode cc pc = .ok (.if_icmp .ne off, 3)) (ht : (pc : Int) + off = (tgt : Int)) (q : x = y) (kf : sS Z M V fin (pc + 3) lv st h X) : sS Z M V fin pc lv (.int y :: .int x :: st) h X := by
  obtain ⟨p, l, e, R, s, m, args, below, meth, c, cs, sl, cf, sf⟩ := M
  obtain ⟨D, cA, ad⟩ := V
  intro r hX H locs ls hl hP hS
  exact lv_icmp_ne O.1 O.2.1 d ht (fun q2 => absurd q q2) (fun _ => kf r hX H locs ls hl hP hS)
theorem r_if_ne (O : sOk Z M V cc nL own ret rm) {x : Int32} {off : Int} {tgt : Nat} (d : decode cc pc = .ok (.ifCond .ne off, 3)) (ht : (pc : Int) + off = (tgt : Int)) (kt : ¬ x = 0 → sS Z M V fin tgt lv st h A) (kf : x = 0 → sS Z M V fin (pc + 3) lv st h B) : sS Z M V fin pc lv (.int x :: st) h (if x = 0 then B else A) := by
  obtain ⟨p, l, e, R, s, m, args, below, meth, c, cs, sl, cf, sf⟩ := M
  obtain ⟨D, cA, ad⟩ := V
  intro r hX H locs ls hl hP hS
  exact lv_if_ne O.1 O.2.1 d ht (fun q => kt q r (by rw [if_neg q] at hX; exact hX) H locs ls hl hP hS) (fun q => kf q r (by rw [if_pos q] at hX; exact hX) H locs ls hl hP hS)
theorem r_if_ne_t (O : sOk Z M V cc nL own ret rm) {x : Int32} {off : Int} {tgt : Nat} (d : decode cc pc = .ok (.ifCond .ne off, 3)) (ht : (pc : Int) + off = (tgt : Int)) (q : ¬ x = 0) (kt : sS Z M V fin tgt lv st h X) : sS Z M V fin pc lv (.int x :: st) h X := by
  obtain ⟨p, l, e, R, s, m, args, below, meth, c, cs, sl, cf, sf⟩ := M
  obtain ⟨D, cA, ad⟩ := V
  intro r hX H locs ls hl hP hS
  exact lv_if_ne O.1 O.2.1 d ht (fun _ => kt r hX H locs ls hl hP hS) (fun q2 => absurd q2 q)
theorem r_if_ne_f (O : sOk Z M V cc nL own ret rm) {x : Int32} {off : Int} {tgt : Nat} (d : decode cc pc = .ok (.ifCond .ne off, 3)) (ht : (pc : Int) + off = (tgt : Int)) (q : x = 0) (kf : sS Z M V fin (pc + 3) lv st h X) : sS Z M V fin pc lv (.int x :: st) h X := by
  obtain ⟨p, l, e, R, s, m, args, below, meth, c, cs, sl, cf, sf⟩ := M
  obtain ⟨D, cA, ad⟩ := V
  intro r hX H locs ls hl hP hS
  exact lv_if_ne O.1 O.2.1 d ht (fun q2 => absurd q q2) (fun _ => kf r hX H locs ls hl hP hS)
theorem r_icmp_lt (O : sOk Z M V cc nL own ret rm) {x y : Int32} {off : Int} {tgt : Nat} (d : decode cc pc = .ok (.if_icmp .lt off, 3)) (ht : (pc : Int) + off = (tgt : Int)) (kt : x < y → sS Z M V fin tgt lv st h A) (kf : ¬ x < y → sS Z M V fin (pc + 3) lv st h B) : sS Z M V fin pc lv (.int y :: .int x :: st) h (if x < y then A else B) := by
  obtain ⟨p, l, e, R, s, m, args, below, meth, c, cs, sl, cf, sf⟩ := M
  obtain ⟨D, cA, ad⟩ := V
  intro r hX H locs ls hl hP hS
  exact lv_icmp_lt O.1 O.2.1 d ht (fun q => kt q r (by rw [if_pos q] at hX; exact hX) H locs ls hl hP hS) (fun q => kf q r (by rw [if_neg q] at hX; exact hX) H locs ls hl hP hS)
theorem r_icmp_lt_t (O : sOk Z M V cc nL own ret rm) {x y : Int32} {off : Int} {tgt : Nat} (d : decode cc pc = .ok (.if_icmp .lt off, 3)) (ht : (pc : Int) + off = (tgt : Int)) (q : x < y) (kt : sS Z M V fin tgt lv st h X) : sS Z M V fin pc lv (.int y :: .int x :: st) h X := by
  obtain ⟨p, l, e, R, s, m, args, below, meth, c, cs, sl, cf, sf⟩ := M
  obtain ⟨D, cA, ad⟩ := V
  intro r hX H locs ls hl hP hS
  exact lv_icmp_lt O.1 O.2.1 d ht (fun _ => kt r hX H locs ls hl hP hS) (fun q2 => absurd q q2)
theorem r_icmp_lt_f (O : sOk Z M V cc nL own ret rm) {x y : Int32} {off : Int} {tgt : Nat} (d : decode cc pc = .ok (.if_icmp .lt off, 3)) (ht : (pc : Int) + off = (tgt : Int)) (q : ¬ x < y) (kf : sS Z M V fin (pc + 3) lv st h X) : sS Z M V fin pc lv (.int y :: .int x :: st) h X := by
  obtain ⟨p, l, e, R, s, m, args, below, meth, c, cs, sl, cf, sf⟩ := M
  obtain ⟨D, cA, ad⟩ := V
  intro r hX H locs ls hl hP hS
  exact lv_icmp_lt O.1 O.2.1 d ht (fun q2 => absurd q2 q) (fun _ => kf r hX H locs ls hl hP hS)
theorem r_if_lt (O : sOk Z M V cc nL own ret rm) {x : Int32} {off : Int} {tgt : Nat} (d : decode cc pc = .ok (.ifCond .lt off, 3)) (ht : (pc : Int) + off = (tgt : Int)) (kt : x < 0 → sS Z M V fin tgt lv st h A) (kf : ¬ x < 0 → sS Z M V fin (pc + 3) lv st h B) : sS Z M V fin pc lv (.int x :: st) h (if x < 0 then A else B) := by
  obtain ⟨p, l, e, R, s, m, args, below, meth, c, cs, sl, cf, sf⟩ := M
  obtain ⟨D, cA, ad⟩ := V
  intro r hX H locs ls hl hP hS
  exact lv_if_lt O.1 O.2.1 d ht (fun q => kt q r (by rw [if_pos q] at hX; exact hX) H locs ls hl hP hS) (fun q => kf q r (by rw [if_neg q] at hX; exact hX) H locs ls hl hP hS)
theorem r_if_lt_t (O : sOk Z M V cc nL own ret rm) {x : Int32} {off : Int} {tgt : Nat} (d : decode cc pc = .ok (.ifCond .lt off, 3)) (ht : (pc : Int) + off = (tgt : Int)) (q : x < 0) (kt : sS Z M V fin tgt lv st h X) : sS Z M V fin pc lv (.int x :: st) h X := by
  obtain ⟨p, l, e, R, s, m, args, below, meth, c, cs, sl, cf, sf⟩ := M
  obtain ⟨D, cA, ad⟩ := V
  intro r hX H locs ls hl hP hS
  exact lv_if_lt O.1 O.2.1 d ht (fun _ => kt r hX H locs ls hl hP hS) (fun q2 => absurd q q2)
theorem r_if_lt_f (O : sOk Z M V cc nL own ret rm) {x : Int32} {off : Int} {tgt : Nat} (d : decode cc pc = .ok (.ifCond .lt off, 3)) (ht : (pc : Int) + off = (tgt : Int)) (q : ¬ x < 0) (kf : sS Z M V fin (pc + 3) lv st h X) : sS Z M V fin pc lv (.int x :: st) h X := by
  obtain ⟨p, l, e, R, s, m, args, below, meth, c, cs, sl, cf, sf⟩ := M
  obtain ⟨D, cA, ad⟩ := V
  intro r hX H locs ls hl hP hS
  exact lv_if_lt O.1 O.2.1 d ht (fun q2 => absurd q2 q) (fun _ => kf r hX H locs ls hl hP hS)
theorem r_icmp_ge (O : sOk Z M V cc nL own ret rm) {x y : Int32} {off : Int} {tgt : Nat} (d : decode cc pc = .ok (.if_icmp .ge off, 3)) (ht : (pc : Int) + off = (tgt : Int)) (kt : y ≤ x → sS Z M V fin tgt lv st h A) (kf : ¬ y ≤ x → sS Z M V fin (pc + 3) lv st h B) : sS Z M V fin pc lv (.int y :: .int x :: st) h (if y ≤ x then A else B) := by
  obtain ⟨p, l, e, R, s, m, args, below, meth, c, cs, sl, cf, sf⟩ := M
  obtain ⟨D, cA, ad⟩ := V
  intro r hX H locs ls hl hP hS
  exact lv_icmp_ge O.1 O.2.1 d ht (fun q => kt q r (by rw [if_pos q] at hX; exact hX) H locs ls hl hP hS) (fun q => kf q r (by rw [if_neg q] at hX; exact hX) H locs ls hl hP hS)
theorem r_icmp_ge_t (O : sOk Z M V cc nL own ret rm) {x y : Int32} {off : Int} {tgt : Nat} (d : decode cc pc = .ok (.if_icmp .ge off, 3)) (ht : (pc : Int) + off = (tgt : Int)) (q : y ≤ x) (kt : sS Z M V fin tgt lv st h X) : sS Z M V fin pc lv (.int y :: .int x :: st) h X := by
  obtain ⟨p, l, e, R, s, m, args, below, meth, c, cs, sl, cf, sf⟩ := M
  obtain ⟨D, cA, ad⟩ := V
  intro r hX H locs ls hl hP hS
  exact lv_icmp_ge O.1 O.2.1 d ht (fun _ => kt r hX H locs ls hl hP hS) (fun q2 => absurd q q2)
theorem r_icmp_ge_f (O : sOk Z M V cc nL own ret rm) {x y : Int32} {off : Int} {tgt : Nat} (d : decode cc pc = .ok (.if_icmp .ge off, 3)) (ht : (pc : Int) + off = (tgt : Int)) (q : ¬ y ≤ x) (kf : sS Z M V fin (pc + 3) lv st h X) : sS Z M V fin pc lv (.int y :: .int x :: st) h X := by
  obtain ⟨p, l, e, R, s, m, args, below, meth, c, cs, sl, cf, sf⟩ := M
  obtain ⟨D, cA, ad⟩ := V
  intro r hX H locs ls hl hP hS
  exact lv_icmp_ge O.1 O.2.1 d ht (fun q2 => absurd q2 q) (fun _ => kf r hX H locs ls hl hP hS)
theorem r_if_ge (O : sOk Z M V cc nL own ret rm) {x : Int32} {off : Int} {tgt : Nat} (d : decode cc pc = .ok (.ifCond .ge off, 3)) (ht : (pc : Int) + off = (tgt : Int)) (kt : 0 ≤ x → sS Z M V fin tgt lv st h A) (kf : ¬ 0 ≤ x → sS Z M V fin (pc + 3) lv st h B) : sS Z M V fin pc lv (.int x :: st) h (if 0 ≤ x then A else B) := by
  obtain ⟨p, l, e, R, s, m, args, below, meth, c, cs, sl, cf, sf⟩ := M
  obtain ⟨D, cA, ad⟩ := V
  intro r hX H locs ls hl hP hS
  exact lv_if_ge O.1 O.2.1 d ht (fun q => kt q r (by rw [if_pos q] at hX; exact hX) H locs ls hl hP hS) (fun q => kf q r (by rw [if_neg q] at hX; exact hX) H locs ls hl hP hS)
theorem r_if_ge_t (O : sOk Z M V cc nL own ret rm) {x : Int32} {off : Int} {tgt : Nat} (d : decode cc pc = .ok (.ifCond .ge off, 3)) (ht : (pc : Int) + off = (tgt : Int)) (q : 0 ≤ x) (kt : sS Z M V fin tgt lv st h X) : sS Z M V fin pc lv (.int x :: st) h X := by
  obtain ⟨p, l, e, R, s, m, args, below, meth, c, cs, sl, cf, sf⟩ := M
  obtain ⟨D, cA, ad⟩ := V
  intro r hX H locs ls hl hP hS
  exact lv_if_ge O.1 O.2.1 d ht (fun _ => kt r hX H locs ls hl hP hS) (fun q2 => absurd q q2)
theorem r_if_ge_f (O : sOk Z M V cc nL own ret rm) {x : Int32} {off : Int} {tgt : Nat} (d : decode cc pc = .ok (.ifCond .ge off, 3)) (ht : (pc : Int) + off = (tgt : Int)) (q : ¬ 0 ≤ x) (kf : sS Z M V fin (pc + 3) lv st h X) : sS Z M V fin pc lv (.int x :: st) h X := by
  obtain ⟨p, l, e, R, s, m, args, below, meth, c, cs, sl, cf, sf⟩ := M
  obtain ⟨D, cA, ad⟩ := V
  intro r hX H locs ls hl hP hS
  exact lv_if_ge O.1 O.2.1 d ht (fun q2 => absurd q2 q) (fun _ => kf r hX H locs ls hl hP hS)
theorem r_icmp_gt (O : sOk Z M V cc nL own ret rm) {x y : Int32} {off : Int} {tgt : Nat} (d : decode cc pc = .ok (.if_icmp .gt off, 3)) (ht : (pc : Int) + off = (tgt : Int)) (kt : y < x → sS Z M V fin tgt lv st h A) (kf : ¬ y < x → sS Z M V fin (pc + 3) lv st h B) : sS Z M V fin pc lv (.int y :: .int x :: st) h (if y < x then A else B) := by
  obtain ⟨p, l, e, R, s, m, args, below, meth, c, cs, sl, cf, sf⟩ := M
  obtain ⟨D, cA, ad⟩ := V
  intro r hX H locs ls hl hP hS
  exact lv_icmp_gt O.1 O.2.1 d ht (fun q => kt q r (by rw [if_pos q] at hX; exact hX) H locs ls hl hP hS) (fun q => kf q r (by rw [if_neg q] at hX; exact hX) H locs ls hl hP hS)
theorem r_icmp_gt_t (O : sOk Z M V cc nL own ret rm) {x y : Int32} {off : Int} {tgt : Nat} (d : decode cc pc = .ok (.if_icmp .gt off, 3)) (ht : (pc : Int) + off = (tgt : Int)) (q : y < x) (kt : sS Z M V fin tgt lv st h X) : sS Z M V fin pc lv (.int y :: .int x :: st) h X := by
  obtain ⟨p, l, e, R, s, m, args, below, meth, c, cs, sl, cf, sf⟩ := M
  obtain ⟨D, cA, ad⟩ := V
  intro r hX H locs ls hl hP hS
  exact lv_icmp_gt O.1 O.2.1 d ht (fun _ => kt r hX H locs ls hl hP hS) (fun q2 => absurd q q2)
theorem r_icmp_gt_f (O : sOk Z M V cc nL own ret rm) {x y : Int32} {off : Int} {tgt : Nat} (d : decode cc pc = .ok (.if_icmp .gt off, 3)) (ht : (pc : Int) + off = (tgt : Int)) (q : ¬ y < x) (kf : sS Z M V fin (pc + 3) lv st h X) : sS Z M V fin pc lv (.int y :: .int x :: st) h X := by
  obtain ⟨p, l, e, R, s, m, args, below, meth, c, cs, sl, cf, sf⟩ := M
  obtain ⟨D, cA, ad⟩ := V
  intro r hX H locs ls hl hP hS
  exact lv_icmp_gt O.1 O.2.1 d ht (fun q2 => absurd q2 q) (fun _ => kf r hX H locs ls hl hP hS)
theorem r_if_gt (O : sOk Z M V cc nL own ret rm) {x : Int32} {off : Int} {tgt : Nat} (d : decode cc pc = .ok (.ifCond .gt off, 3)) (ht : (pc : Int) + off = (tgt : Int)) (kt : 0 < x → sS Z M V fin tgt lv st h A) (kf : ¬ 0 < x → sS Z M V fin (pc + 3) lv st h B) : sS Z M V fin pc lv (.int x :: st) h (if 0 < x then A else B) := by
  obtain ⟨p, l, e, R, s, m, args, below, meth, c, cs, sl, cf, sf⟩ := M
  obtain ⟨D, cA, ad⟩ := V
  intro r hX H locs ls hl hP hS
  exact lv_if_gt O.1 O.2.1 d ht (fun q => kt q r (by rw [if_pos q] at hX; exact hX) H locs ls hl hP hS) (fun q => kf q r (by rw [if_neg q] at hX; exact hX) H locs ls hl hP hS)
theorem r_if_gt_t (O : sOk Z M V cc nL own ret rm) {x : Int32} {off : Int} {tgt : Nat} (d : decode cc pc = .ok (.ifCond .gt off, 3)) (ht : (pc : Int) + off = (tgt : Int)) (q : 0 < x) (kt : sS Z M V fin tgt lv st h X) : sS Z M V fin pc lv (.int x :: st) h X := by
  obtain ⟨p, l, e, R, s, m, args, below, meth, c, cs, sl, cf, sf⟩ := M
  obtain ⟨D, cA, ad⟩ := V
  intro r hX H locs ls hl hP hS
  exact lv_if_gt O.1 O.2.1 d ht (fun _ => kt r hX H locs ls hl hP hS) (fun q2 => absurd q q2)
theorem r_if_gt_f (O : sOk Z M V cc nL own ret rm) {x : Int32} {off : Int} {tgt : Nat} (d : decode cc pc = .ok (.ifCond .gt off, 3)) (ht : (pc : Int) + off = (tgt : Int)) (q : ¬ 0 < x) (kf : sS Z M V fin (pc + 3) lv st h X) : sS Z M V fin pc lv (.int x :: st) h X := by
  obtain ⟨p, l, e, R, s, m, args, below, meth, c, cs, sl, cf, sf⟩ := M
  obtain ⟨D, cA, ad⟩ := V
  intro r hX H locs ls hl hP hS
  exact lv_if_gt O.1 O.2.1 d ht (fun q2 => absurd q2 q) (fun _ => kf r hX H locs ls hl hP hS)
theorem r_icmp_le (O : sOk Z M V cc nL own ret rm) {x y : Int32} {off : Int} {tgt : Nat} (d : decode cc pc = .ok (.if_icmp .le off, 3)) (ht : (pc : Int) + off = (tgt : Int)) (kt : x ≤ y → sS Z M V fin tgt lv st h A) (kf : ¬ x ≤ y → sS Z M V fin (pc + 3) lv st h B) : sS Z M V fin pc lv (.int y :: .int x :: st) h (if x ≤ y then A else B) := by
  obtain ⟨p, l, e, R, s, m, args, below, meth, c, cs, sl, cf, sf⟩ := M
  obtain ⟨D, cA, ad⟩ := V
  intro r hX H locs ls hl hP hS
  exact lv_icmp_le O.1 O.2.1 d ht (fun q => kt q r (by rw [if_pos q] at hX; exact hX) H locs ls hl hP hS) (fun q => kf q r (by rw [if_neg q] at hX; exact hX) H locs ls hl hP hS)
theorem r_icmp_le_t (O : sOk Z M V cc nL own ret rm) {x y : Int32} {off : Int} {tgt : Nat} (d : decode cc pc = .ok (.if_icmp .le off, 3)) (ht : (pc : Int) + off = (tgt : Int)) (q : x ≤ y) (kt : sS Z M V fin tgt lv st h X) : sS Z M V fin pc lv (.int y :: .int x :: st) h X := by
  obtain ⟨p, l, e, R, s, m, args, below, meth, c, cs, sl, cf, sf⟩ := M
  obtain ⟨D, cA, ad⟩ := V
  intro r hX H locs ls hl hP hS
  exact lv_icmp_le O.1 O.2.1 d ht (fun _ => kt r hX H locs ls hl hP hS) (fun q2 => absurd q q2)
theorem r_icmp_le_f (O : sOk Z M V cc nL own ret rm) {x y : Int32} {off : Int} {tgt : Nat} (d : decode cc pc = .ok (.if_icmp .le off, 3)) (ht : (pc : Int) + off = (tgt : Int)) (q : ¬ x ≤ y) (kf : sS Z M V fin (pc + 3) lv st h X) : sS Z M V fin pc lv (.int y :: .int x :: st) h X := by
  obtain ⟨p, l, e, R, s, m, args, below, meth, c, cs, sl, cf, sf⟩ := M
  obtain ⟨D, cA, ad⟩ := V
  intro r hX H locs ls hl hP hS
  exact lv_icmp_le O.1 O.2.1 d ht (fun q2 => absurd q2 q) (fun _ => kf r hX H locs ls hl hP hS)
theorem r_if_le (O : sOk Z M V cc nL own ret rm) {x : Int32} {off : Int} {tgt : Nat} (d : decode cc pc = .ok (.ifCond .le off, 3)) (ht : (pc : Int) + off = (tgt : Int)) (kt : x ≤ 0 → sS Z M V fin tgt lv st h A) (kf : ¬ x ≤ 0 → sS Z M V fin (pc + 3) lv st h B) : sS Z M V fin pc lv (.int x :: st) h (if x ≤ 0 then A else B) := by
  obtain ⟨p, l, e, R, s, m, args, below, meth, c, cs, sl, cf, sf⟩ := M
  obtain ⟨D, cA, ad⟩ := V
  intro r hX H locs ls hl hP hS
  exact lv_if_le O.1 O.2.1 d ht (fun q => kt q r (by rw [if_pos q] at hX; exact hX) H locs ls hl hP hS) (fun q => kf q r (by rw [if_neg q] at hX; exact hX) H locs ls hl hP hS)
theorem r_if_le_t (O : sOk Z M V cc nL own ret rm) {x : Int32} {off : Int} {tgt : Nat} (d : decode cc pc = .ok (.ifCond .le off, 3)) (ht : (pc : Int) + off = (tgt : Int)) (q : x ≤ 0) (kt : sS Z M V fin tgt lv st h X) : sS Z M V fin pc lv (.int x :: st) h X := by
  obtain ⟨p, l, e, R, s, m, args, below, meth, c, cs, sl, cf, sf⟩ := M
  obtain ⟨D, cA, ad⟩ := V
  intro r hX H locs ls hl hP hS
  exact lv_if_le O.1 O.2.1 d ht (fun _ => kt r hX H locs ls hl hP hS) (fun q2 => absurd q q2)
theorem r_if_le_f (O : sOk Z M V cc nL own ret rm) {x : Int32} {off : Int} {tgt : Nat} (d : decode cc pc = .ok (.ifCond .le off, 3)) (ht : (pc : Int) + off = (tgt : Int)) (q : ¬ x ≤ 0) (kf : sS Z M V fin (pc + 3) lv st h X) : sS Z M V fin pc lv (.int x :: st) h X := by
  obtain ⟨p, l, e, R, s, m, args, below, meth, c, cs, sl, cf, sf⟩ := M
  obtain ⟨D, cA, ad⟩ := V
  intro r hX H locs ls hl hP hS
  exact lv_if_le O.1 O.2.1 d ht (fun q2 => absurd q2 q) (fun _ => kf r hX H locs ls hl hP hS)
theorem r_goto (O : sOk Z M V cc nL own ret rm) {off : Int} {tgt : Nat} (d : decode cc pc = .ok (.goto off, 3)) (ht : (pc : Int) + off = (tgt : Int)) (k : sS Z M V fin tgt lv st h X) : sS Z M V fin pc lv st h X := by
  obtain ⟨p, l, e, R, s, m, args, below, meth, c, cs, sl, cf, sf⟩ := M
  obtain ⟨D, cA, ad⟩ := V
  intro r hX H locs ls hl hP hS
  exact lv_goto O.1 O.2.1 d ht (k r hX H locs ls hl hP hS)
theorem r_tin (O : sOk Z M V cc nL own ret rm) {dflt lo hi : Int} {offs : Array Int} {len : Nat} {x : Int32} {off : Int} {tgt : Nat} (d : decode cc pc = .ok (.tableswitch dflt lo hi offs, len)) (h1 : ¬ x.toInt < lo) (h2 : ¬ hi < x.toInt) (ho : offs[(x.toInt - lo).toNat]? = some off) (ht : (pc : Int) + off = (tgt : Int)) (k : sS Z M V fin tgt lv st h X) : sS Z M V fin pc lv (.int x :: st) h X := by
  obtain ⟨p, l, e, R, s, m, args, below, meth, c, cs, sl, cf, sf⟩ := M
  obtain ⟨D, cA, ad⟩ := V
  intro r hX H locs ls hl hP hS
  exact lv_tableIn O.1 O.2.1 d h1 h2 ho ht (k r hX H locs ls hl hP hS)
theorem r_tout (O : sOk Z M V cc nL own ret rm) {dflt lo hi : Int} {offs : Array Int} {len : Nat} {x : Int32} {tgt : Nat} (d : decode cc pc = .ok (.tableswitch dflt lo hi offs, len)) (h1 : x.toInt < lo ∨ hi < x.toInt) (ht : (pc : Int) + dflt = (tgt : Int)) (k : sS Z M V fin tgt lv st h X) : sS Z M V fin pc lv (.int x :: st) h X := by
  obtain ⟨p, l, e, R, s, m, args, below, meth, c, cs, sl, cf, sf⟩ := M
  obtain ⟨D, cA, ad⟩ := V
  intro r hX H locs ls hl hP hS
  exact lv_tableOut O.1 O.2.1 d h1 ht (k r hX H locs ls hl hP hS)
theorem r_look (O : sOk Z M V cc nL own ret rm) {dflt : Int} {ps : Array (Int × Int)} {len : Nat} {x : Int32} {off : Int} {tgt : Nat} (d : decode cc pc = .ok (.lookupswitch dflt ps, len)) (hp : (ps.toList.zip (ps.toList.drop 1)).all (fun (a, next) => a.1 < next.1) = true) (ho : Op.lookupswitch.offset ps.toList dflt x.toInt = off) (ht : (pc : Int) + off = (tgt : Int)) (k : sS Z M V fin tgt lv st h X) : sS Z M V fin pc lv (.int x :: st) h X := by
  obtain ⟨p, l, e, R, s, m, args, below, meth, c, cs, sl, cf, sf⟩ := M
  obtain ⟨D, cA, ad⟩ := V
  intro r hX H locs ls hl hP hS
  exact lv_lookup O.1 O.2.1 d hp ho ht (k r hX H locs ls hl hP hS)
/-- a fork of the value alone -/
theorem r_ite {c : Prop} [Decidable c] (kt : c → sS Z M V fin pc lv st h A) (kf : ¬ c → sS Z M V fin pc lv st h B) : sS Z M V fin pc lv st h (if c then A else B) := by
  intro r hX
  by_cases q : c
  · rw [if_pos q] at hX; exact kt q r hX
  · rw [if_neg q] at hX; exact kf q r hX
theorem r_gd {b : Bool} (k : b = true → sS Z M V fin pc lv st h X) : sS Z M V fin pc lv st h (sGd b X) := by
  intro r hX
  obtain ⟨q1, q2⟩ := sGd_some hX
  exact k q1 r q2
theorem r_none : sS Z M V fin pc lv st h (none : Option ρ) := by
  intro r hX
  cases hX
/-- a loop -/
theorem r_fx {S : Type} (lf : S → List (Nat × Value)) (hf : S → sHp) (F : (S → Option ρ) → S → Option ρ) (k : ∀ rec : S → Option ρ, (∀ q, sS Z M V fin pc (lf q) st (hf q) (rec q)) → ∀ q, sS Z M V fin pc (lf q) st (hf q) (F rec q)) (n : Nat) : ∀ q, sS Z M V fin pc (lf q) st (hf q) (sFx F n q) := by
  induction n with
  | zero => intro q r hX; cases hX
  | succ n ih => intro q; exact k _ ih q
theorem sCl_a {cA : Nat → ClassId} {ad : Nat → Nat} {h : sHp} {i t n : Nat} (ht : ¬ t = 2) : sCl cA ad h i (.inl (t, n)) = .inl (cA t, n, .inl (h.1 i)) := by simp [sCl, ht]
theorem sCl_l {cA : Nat → ClassId} {ad : Nat → Nat} {h : sHp} {i n : Nat} : sCl cA ad h i (.inl (2, n)) = .inl (cA 2, n, .inr (.inl (h.2 i))) := by simp [sCl]
theorem pI_at (h : sHp) (i k : Nat) (x : Int32) : (pI h i k x).1 i = upd (h.1 i) k x := by simp [pI]
theorem pL_at (h : sHp) (i k : Nat) (x : Int64) : (pL h i k x).2 i = vp_updL (h.2 i) k x := by simp [pL]
theorem pI_off (h : sHp) (i k : Nat) (x : Int32) (j : Nat) (hj : j ≠ i) : (pI h i k x).1 j = h.1 j ∧ (pI h i k x).2 j = h.2 j := by simp [pI, hj]
theorem pL_off (h : sHp) (i k : Nat) (x : Int64) (j : Nat) (hj : j ≠ i) : (pL h i k x).1 j = h.1 j ∧ (pL h i k x).2 j = h.2 j := by simp [pL, hj]
theorem r_iald (O : sOk Z M V cc nL own ret rm) {i n : Nat} {j : Int32} {x : Int32} (hly : Z.2[i]? = some (.inl (0, n))) (d : decode cc pc = .ok (.iaload, 1)) (hx : h.1 i j.toNatClampNeg = x) (k : sS Z M V fin (pc + 1) lv (.int x :: st) h X) : sS Z M V fin pc lv (.int j :: .ref i :: st) h (sGd (sIn j n) X) := by
  obtain ⟨p, l, e, R, s, m, args, below, meth, c, cs, sl, cf, sf⟩ := M
  obtain ⟨D, cA, ad⟩ := V
  intro r hX H locs ls hl hP hS
  obtain ⟨q1, q2⟩ := sGd_some hX
  subst hx
  exact va_iald O.1 O.2.1 O.2.2.2.2.2.1 hP i 0 ((sWd_at hly).trans (by rw [sCl_a (by decide)])) rfl (sIn_iff.mp q1) d (k r q2 H locs ls hl hP hS)
theorem r_iald_c (O : sOk Z M V cc nL own ret rm) {i n : Nat} {j : Int32} {x : Int32} (hly : Z.2[i]? = some (.inl (0, n))) (hin : vp_in j n) (d : decode cc pc = .ok (.iaload, 1)) (hx : h.1 i j.toNatClampNeg = x) (k : sS Z M V fin (pc + 1) lv (.int x :: st) h X) : sS Z M V fin pc lv (.int j :: .ref i :: st) h X := by
  obtain ⟨p, l, e, R, s, m, args, below, meth, c, cs, sl, cf, sf⟩ := M
  obtain ⟨D, cA, ad⟩ := V
  intro r hX H locs ls hl hP hS
  subst hx
  exact va_iald O.1 O.2.1 O.2.2.2.2.2.1 hP i 0 ((sWd_at hly).trans (by rw [sCl_a (by decide)])) rfl hin d (k r hX H locs ls hl hP hS)
theorem r_zald (O : sOk Z M V cc nL own ret rm) {i n : Nat} {j : Int32} {x : Int32} (hly : Z.2[i]? = some (.inl (1, n))) (d : decode cc pc = .ok (.baload, 1)) (hx : h.1 i j.toNatClampNeg = x) (k : sS Z M V fin (pc + 1) lv (.int x :: st) h X) : sS Z M V fin pc lv (.int j :: .ref i :: st) h (sGd (sIn j n) X) := by
  obtain ⟨p, l, e, R, s, m, args, below, meth, c, cs, sl, cf, sf⟩ := M
  obtain ⟨D, cA, ad⟩ := V
  intro r hX H locs ls hl hP hS
  obtain ⟨q1, q2⟩ := sGd_some hX
  subst hx
  exact va_zald O.1 O.2.1 O.2.2.2.2.2.1 hP i 1 ((sWd_at hly).trans (by rw [sCl_a (by decide)])) rfl (sIn_iff.mp q1) d (k r q2 H locs ls hl hP hS)
theorem r_zald_c (O : sOk Z M V cc nL own ret rm) {i n : Nat} {j : Int32} {x : Int32} (hly : Z.2[i]? = some (.inl (1, n))) (hin : vp_in j n) (d : decode cc pc = .ok (.baload, 1)) (hx : h.1 i j.toNatClampNeg = x) (k : sS Z M V fin (pc + 1) lv (.int x :: st) h X) : sS Z M V fin pc lv (.int j :: .ref i :: st) h X := by
  obtain ⟨p, l, e, R, s, m, args, below, meth, c, cs, sl, cf, sf⟩ := M
  obtain ⟨D, cA, ad⟩ := V
  intro r hX H locs ls hl hP hS
  subst hx
  exact va_zald O.1 O.2.1 O.2.2.2.2.2.1 hP i 1 ((sWd_at hly).trans (by rw [sCl_a (by decide)])) rfl hin d (k r hX H locs ls hl hP hS)
theorem r_lald (O : sOk Z M V cc nL own ret rm) {i n : Nat} {j : Int32} {x : Int64} (hly : Z.2[i]? = some (.inl (2, n))) (d : decode cc pc = .ok (.laload, 1)) (hx : h.2 i j.toNatClampNeg = x) (k : sS Z M V fin (pc + 1) lv (.long x :: st) h X) : sS Z M V fin pc lv (.int j :: .ref i :: st) h (sGd (sIn j n) X) := by
  obtain ⟨p, l, e, R, s, m, args, below, meth, c, cs, sl, cf, sf⟩ := M
  obtain ⟨D, cA, ad⟩ := V
  intro r hX H locs ls hl hP hS
  obtain ⟨q1, q2⟩ := sGd_some hX
  subst hx
  exact va_lald O.1 O.2.1 O.2.2.2.2.2.1 hP i 2 ((sWd_at hly).trans (by rw [sCl_l])) rfl (sIn_iff.mp q1) d (k r q2 H locs ls hl hP hS)
theorem r_iast (O : sOk Z M V cc nL own ret rm) {i n : Nat} {j x : Int32} (hly : Z.2[i]? = some (.inl (0, n))) (d : decode cc pc = .ok (.iastore, 1)) (k : sS Z M V fin (pc + 1) lv st (pI h i j.toNatClampNeg x) X) : sS Z M V fin pc lv (.int x :: .int j :: .ref i :: st) h (sGd (sIn j n) X) := by
  obtain ⟨p, l, e, R, s, m, args, below, meth, c, cs, sl, cf, sf⟩ := M
  obtain ⟨D, cA, ad⟩ := V
  intro r hX H locs ls hl hP hS
  obtain ⟨q1, q2⟩ := sGd_some hX
  refine va_iast O.1 O.2.1 O.2.2.2.2.2.1 hP (sD_of O.2.2.2.2.2.2.1 h) hS i 0 ((sWd_at hly).trans (by rw [sCl_a (by decide)])) rfl (sIn_iff.mp q1) d (fun H1 locs1 hP1 _ hS1 => k r q2 H1 locs1 ls hl ?_ hS1)
  rw [sWd_set hly (by rw [sCl_a (by decide), pI_at]) (pI_off h i _ x)] at hP1
  exact hP1
theorem r_zast (O : sOk Z M V cc nL own ret rm) {i n : Nat} {j x y : Int32} (hly : Z.2[i]? = some (.inl (1, n))) (d : decode cc pc = .ok (.bastore, 1)) (hx : vp_nar .boolean x = y) (k : sS Z M V fin (pc + 1) lv st (pI h i j.toNatClampNeg y) X) : sS Z M V fin pc lv (.int x :: .int j :: .ref i :: st) h (sGd (sIn j n) X) := by
  obtain ⟨p, l, e, R, s, m, args, below, meth, c, cs, sl, cf, sf⟩ := M
  obtain ⟨D, cA, ad⟩ := V
  intro r hX H locs ls hl hP hS
  obtain ⟨q1, q2⟩ := sGd_some hX
  subst hx
  refine va_zast O.1 O.2.1 O.2.2.2.2.2.1 hP (sD_of O.2.2.2.2.2.2.1 h) hS i 1 ((sWd_at hly).trans (by rw [sCl_a (by decide)])) rfl (sIn_iff.mp q1) d (fun H1 locs1 hP1 _ hS1 => k r q2 H1 locs1 ls hl ?_ hS1)
  rw [sWd_set hly (by rw [sCl_a (by decide), pI_at]) (pI_off h i _ _)] at hP1
  exact hP1
theorem r_last (O : sOk Z M V cc nL own ret rm) {i n : Nat} {j : Int32} {x : Int64} (hly : Z.2[i]? = some (.inl (2, n))) (d : decode cc pc = .ok (.lastore, 1)) (k : sS Z M V fin (pc + 1) lv st (pL h i j.toNatClampNeg x) X) : sS Z M V fin pc lv (.long x :: .int j :: .ref i :: st) h (sGd (sIn j n) X) := by
  obtain ⟨p, l, e, R, s, m, args, below, meth, c, cs, sl, cf, sf⟩ := M
  obtain ⟨D, cA, ad⟩ := V
  intro r hX H locs ls hl hP hS
  obtain ⟨q1, q2⟩ := sGd_some hX
  refine va_last O.1 O.2.1 O.2.2.2.2.2.1 hP (sD_of O.2.2.2.2.2.2.1 h) hS i 2 ((sWd_at hly).trans (by rw [sCl_l])) rfl (sIn_iff.mp q1) d (fun H1 locs1 hP1 _ hS1 => k r q2 H1 locs1 ls hl ?_ hS1)
  rw [sWd_set hly (by rw [sCl_l, pL_at]) (pL_off h i _ x)] at hP1
  exact hP1
theorem r_lald_c (O : sOk Z M V cc nL own ret rm) {i n : Nat} {j : Int32} {x : Int64} (hly : Z.2[i]? = some (.inl (2, n))) (hin : vp_in j n) (d : decode cc pc = .ok (.laload, 1)) (hx : h.2 i j.toNatClampNeg = x) (k : sS Z M V fin (pc + 1) lv (.long x :: st) h X) : sS Z M V fin pc lv (.int j :: .ref i :: st) h X := by
  obtain ⟨p, l, e, R, s, m, args, below, meth, c, cs, sl, cf, sf⟩ := M
  obtain ⟨D, cA, ad⟩ := V
  intro r hX H locs ls hl hP hS
  subst hx
  exact va_lald O.1 O.2.1 O.2.2.2.2.2.1 hP i 2 ((sWd_at hly).trans (by rw [sCl_l])) rfl hin d (k r hX H locs ls hl hP hS)
theorem r_iast_c (O : sOk Z M V cc nL own ret rm) {i n : Nat} {j x : Int32} (hly : Z.2[i]? = some (.inl (0, n))) (hin : vp_in j n) (d : decode cc pc = .ok (.iastore, 1)) (k : sS Z M V fin (pc + 1) lv st (pI h i j.toNatClampNeg x) X) : sS Z M V fin pc lv (.int x :: .int j :: .ref i :: st) h X := by
  obtain ⟨p, l, e, R, s, m, args, below, meth, c, cs, sl, cf, sf⟩ := M
  obtain ⟨D, cA, ad⟩ := V
  intro r hX H locs ls hl hP hS
  refine va_iast O.1 O.2.1 O.2.2.2.2.2.1 hP (sD_of O.2.2.2.2.2.2.1 h) hS i 0 ((sWd_at hly).trans (by rw [sCl_a (by decide)])) rfl hin d (fun H1 locs1 hP1 _ hS1 => k r hX H1 locs1 ls hl ?_ hS1)
  rw [sWd_set hly (by rw [sCl_a (by decide), pI_at]) (pI_off h i _ x)] at hP1
  exact hP1
theorem r_zast_c (O : sOk Z M V cc nL own ret rm) {i n : Nat} {j x y : Int32} (hly : Z.2[i]? = some (.inl (1, n))) (hin : vp_in j n) (d : decode cc pc = .ok (.bastore, 1)) (hx : vp_nar .boolean x = y) (k : sS Z M V fin (pc + 1) lv st (pI h i j.toNatClampNeg y) X) : sS Z M V fin pc lv (.int x :: .int j :: .ref i :: st) h X := by
  obtain ⟨p, l, e, R, s, m, args, below, meth, c, cs, sl, cf, sf⟩ := M
  obtain ⟨D, cA, ad⟩ := V
  intro r hX H locs ls hl hP hS
  subst hx
  refine va_zast O.1 O.2.1 O.2.2.2.2.2.1 hP (sD_of O.2.2.2.2.2.2.1 h) hS i 1 ((sWd_at hly).trans (by rw [sCl_a (by decide)])) rfl hin d (fun H1 locs1 hP1 _ hS1 => k r hX H1 locs1 ls hl ?_ hS1)
  rw [sWd_set hly (by rw [sCl_a (by decide), pI_at]) (pI_off h i _ _)] at hP1
  exact hP1
theorem r_last_c (O : sOk Z M V cc nL own ret rm) {i n : Nat} {j : Int32} {x : Int64} (hly : Z.2[i]? = some (.inl (2, n))) (hin : vp_in j n) (d : decode cc pc = .ok (.lastore, 1)) (k : sS Z M V fin (pc + 1) lv st (pL h i j.toNatClampNeg x) X) : sS Z M V fin pc lv (.long x :: .int j :: .ref i :: st) h X := by
  obtain ⟨p, l, e, R, s, m, args, below, meth, c, cs, sl, cf, sf⟩ := M
  obtain ⟨D, cA, ad⟩ := V
  intro r hX H locs ls hl hP hS
  refine va_last O.1 O.2.1 O.2.2.2.2.2.1 hP (sD_of O.2.2.2.2.2.2.1 h) hS i 2 ((sWd_at hly).trans (by rw [sCl_l])) rfl hin d (fun H1 locs1 hP1 _ hS1 => k r hX H1 locs1 ls hl ?_ hS1)
  rw [sWd_set hly (by rw [sCl_l, pL_at]) (pL_off h i _ x)] at hP1
  exact hP1
/-- System.arraycopy between two arrays of ints -/
def pC (h : sHp) (i0 i1 : Nat) (sp dp k : Int32) : sHp := (fun j => if j = i1 then va_cpy (h.1 i0) (h.1 i1) (ix sp) (ix dp) (ix k) else h.1 j, h.2)
def sCp (sp dp k : Int32) (n0 n1 : Nat) : Bool := decide (¬ sp < 0 ∧ ¬ dp < 0 ∧ ¬ k < 0 ∧ ix sp + ix k ≤ n0 ∧ ix dp + ix k ≤ n1)
theorem pC_at (h : sHp) (i0 i1 : Nat) (sp dp k : Int32) : (pC h i0 i1 sp dp k).1 i1 = va_cpy (h.1 i0) (h.1 i1) (ix sp) (ix dp) (ix k) := by simp [pC]
theorem pC_off (h : sHp) (i0 i1 : Nat) (sp dp k : Int32) (j : Nat) (hj : j ≠ i1) : (pC h i0 i1 sp dp k).1 j = h.1 j ∧ (pC h i0 i1 sp dp k).2 j = h.2 j := by simp [pC, hj]
theorem r_copy (O : sOk Z M V cc nL own ret rm) {idx i0 i1 n0 n1 : Nat} {sp dp q : Int32} (hly0 : Z.2[i0]? = some (.inl (0, n0))) (hly1 : Z.2[i1]? = some (.inl (0, n1))) (d : decode cc pc = .ok (.invokestatic idx, 3)) (w1 : Cond.methodLink own idx arraycopyName ∈ sTB) (w2 : Cond.native arraycopyName ∈ sTB) (w3 : Cond.static arraycopyName ∈ sTB) (w4 : Cond.initialized "java/lang/System" ∈ sTB) (hf : 1 ≤ rm.frames) (hlo : (st.map fun v => v.category).sum + (nativeFrameWords "java/lang/System" "arraycopy" 5 + 11) ≤ rm.locals) (k : sS Z M V fin (pc + 3) lv st (pC h i0 i1 sp dp q) X) : sS Z M V fin pc lv (.int q :: .int dp :: .ref i1 :: .int sp :: .ref i0 :: st) h (sGd (sCp sp dp q n0 n1) X) := by
  obtain ⟨p, l, e, R, s, m, args, below, meth, c, cs, sl, cf, sf⟩ := M
  obtain ⟨D, cA, ad⟩ := V
  intro r hX H locs ls hl hP hS
  obtain ⟨q1, q2⟩ := sGd_some hX
  obtain ⟨b1, b2, b3, b4, b5⟩ := of_decide_eq_true q1
  obtain ⟨o1, o2, o3, o4, o5, o6, o7, o8, o9, o10, ⟨o13, o14⟩, o11, o12⟩ := O
  subst o10
  refine va_copyi (ty := .int) o1 o2 hl.1.symm o4 (sTab_use o5 w1 rfl args) (sTab_use o5 w2 rfl args) (sTab_use o5 w3 rfl args) (sTab_use o5 w4 rfl args) o6 hP (sD_of o7 h) hS i0 i1 0 0 ((sWd_at hly0).trans (by rw [sCl_a (by decide)])) ((sWd_at hly1).trans (by rw [sCl_a (by decide)])) rfl rfl rfl b1 b2 b3 b4 b5 (fun _ _ => rfl) hf (by rw [sV_sum]; exact hlo) d (fun H1 locs1 hP1 _ hS1 => k r q2 H1 locs1 ls hl ?_ hS1)
  rw [sWd_set hly1 (by rw [sCl_a (by decide), pC_at]) (pC_off h i0 i1 sp dp q)] at hP1
  exact hP1
theorem nz_0 : vp_nar .boolean 0 = 0 := by decide
theorem nz_1 : vp_nar .boolean 1 = 1 := by decide
def jMmax (x y : Int32) : Int32 := if x < y then y else x
def jMmin (x y : Int32) : Int32 := if y < x then y else x
theorem r_ldc2 (O : sOk Z M V cc nL own ret rm) {idx : Nat} {x : Int64} (d : decode cc pc = .ok (.ldc2_w idx, 3)) (w : Cond.constantLong own idx x ∈ sTB) (k : sS Z M V fin (pc + 3) lv (.long x :: st) h X) : sS Z M V fin pc lv st h X := by
  obtain ⟨p, l, e, R, s, m, args, below, meth, c, cs, sl, cf, sf⟩ := M
  obtain ⟨D, cA, ad⟩ := V
  intro r hX H locs ls hl hP hS
  exact lv_ldc2 O.1 O.2.1 O.2.2.2.1 (sTab_use O.2.2.2.2.1 w rfl args) d (k r hX H locs ls hl hP hS)
theorem r_mmax (O : sOk Z M V cc nL own ret rm) {idx : Nat} {x y : Int32} (d : decode cc pc = .ok (.invokestatic idx, 3)) (w1 : Cond.methodLink own idx Lib.Math.max.name ∈ sTB) (w2 : Cond.static Lib.Math.max.name ∈ sTB) (w3 : Cond.initialized "java/lang/Math" ∈ sTB) (w4 : Cond.code Lib.Math.max.name Lib.Math.max.code 2 (some .int) ∈ sTB) (hf : 1 ≤ rm.frames) (hlo : (st.map fun v => v.category).sum + 13 ≤ rm.locals) (k : sS Z M V fin (pc + 3) lv (.int (jMmax x y) :: st) h X) : sS Z M V fin pc lv (.int y :: .int x :: st) h X := by
  obtain ⟨p, l, e, R, s, m, args, below, meth, c, cs, sl, cf, sf⟩ := M
  obtain ⟨D, cA, ad⟩ := V
  intro r hX H locs ls hl hP hS
  obtain ⟨o1, o2, o3, o4, o5, o6, o7, o8, o9, o10, ⟨o13, o14⟩, o11, o12⟩ := O
  subst o10
  exact va_mmax o1 o2 hl.1.symm o4 (sTab_use o5 w1 rfl args) (sTab_use o5 w2 rfl args) (sTab_use o5 w3 rfl args) (sTab_use o5 w4 rfl args) hf (by rw [sV_sum]; exact hlo) (Nat.le_trans o13 o11) (Nat.le_trans o14 o12) d (k r hX H locs ls hl hP hS)
theorem r_mmin (O : sOk Z M V cc nL own ret rm) {idx : Nat} {x y : Int32} (d : decode cc pc = .ok (.invokestatic idx, 3)) (w1 : Cond.methodLink own idx Lib.Math.min.name ∈ sTB) (w2 : Cond.static Lib.Math.min.name ∈ sTB) (w3 : Cond.initialized "java/lang/Math" ∈ sTB) (w4 : Cond.code Lib.Math.min.name Lib.Math.min.code 2 (some .int) ∈ sTB) (hf : 1 ≤ rm.frames) (hlo : (st.map fun v => v.category).sum + 13 ≤ rm.locals) (k : sS Z M V fin (pc + 3) lv (.int (jMmin x y) :: st) h X) : sS Z M V fin pc lv (.int y :: .int x :: st) h X := by
  obtain ⟨p, l, e, R, s, m, args, below, meth, c, cs, sl, cf, sf⟩ := M
  obtain ⟨D, cA, ad⟩ := V
  intro r hX H locs ls hl hP hS
  obtain ⟨o1, o2, o3, o4, o5, o6, o7, o8, o9, o10, ⟨o13, o14⟩, o11, o12⟩ := O
  subst o10
  exact va_mmin o1 o2 hl.1.symm o4 (sTab_use o5 w1 rfl args) (sTab_use o5 w2 rfl args) (sTab_use o5 w3 rfl args) (sTab_use o5 w4 rfl args) hf (by rw [sV_sum]; exact hlo) (Nat.le_trans o13 o11) (Nat.le_trans o14 o12) d (k r hX H locs ls hl hP hS)
theorem r_alen (O : sOk Z M V cc nL own ret rm) {i t n : Nat} {x : Int32} (hly : Z.2[i]? = some (.inl (t, n))) (ht : t < 3) (hx : Int32.ofNat n = x) (d : decode cc pc = .ok (.arraylength, 1)) (k : sS Z M V fin (pc + 1) lv (.int x :: st) h X) : sS Z M V fin pc lv (.ref i :: st) h X := by
  obtain ⟨p, l, e, R, s, m, args, below, meth, c, cs, sl, cf, sf⟩ := M
  obtain ⟨D, cA, ad⟩ := V
  intro r hX H locs ls hl hP hS
  have h3 : ∃ ty, (sTy cA)[t]? = some (cA t, ty) := by
    match t, ht with
    | 0, _ => exact ⟨_, rfl⟩
    | 1, _ => exact ⟨_, rfl⟩
    | 2, _ => exact ⟨_, rfl⟩
  obtain ⟨ty, hty⟩ := h3
  exact va_alen O.1 O.2.1 O.2.2.2.2.2.1 hP i t (sWd_at hly) hty hx d (k r hX H locs ls hl hP hS)
/-- a field of a cell, as an instruction of a class names it -/
def sGf (Z : sZo) (own : String) (idx i k : Nat) (kd : sKd) : Prop := ∃ (ci N : Nat) (ks : List sKd) (C : String) (T : u_T), Z.2[i]? = some (.inr (ci, ks)) ∧ ks[k]? = some kd ∧ Z.1[ci]? = some (C, T, N) ∧ k < N ∧ (Cond.fieldLink own idx C (T k).2.1 (T k).2.2.1 ∈ sTB ∨ ∃ host, Cond.fieldLinkNest own idx C (T k).2.1 (T k).2.2.1 host ∈ sTB) ∧ (T k).1 = C ∧ ∀ w ∈ u_ws C T N, w ∈ sTB ∧ w.onTables = true
def sPf (Z : sZo) (own : String) (idx i k : Nat) (kd : sKd) (ty : FieldType) : Prop := ∃ (ci N : Nat) (ks : List sKd) (C : String) (T : u_T) (ty0 : Nat → FieldType), Z.2[i]? = some (.inr (ci, ks)) ∧ ks[k]? = some kd ∧ Z.1[ci]? = some (C, T, N) ∧ k < N ∧ (Cond.fieldLink own idx C (T k).2.1 (T k).2.2.1 ∈ sTB ∨ ∃ host, Cond.fieldLinkNest own idx C (T k).2.1 (T k).2.2.1 host ∈ sTB) ∧ (T k).1 = C ∧ (∀ w ∈ u_ws C T N, w ∈ sTB ∧ w.onTables = true) ∧ (∀ k, k < N → parseFieldDescriptor (T k).2.2.1 = some (ty0 k)) ∧ (∀ a, a < N → ∀ b, b < N → a ≠ b → (T a).2.1 ≠ (T b).2.1) ∧ (T k).2.2.2 = false ∧ parseFieldDescriptor (T k).2.2.1 = some ty
theorem r_getI (O : sOk Z M V cc nL own ret rm) {idx i q : Nat} {x : Int32} (g : sGf Z own idx i q none) (d : decode cc pc = .ok (.getfield idx, 3)) (hx : h.1 i q = x) (k : sS Z M V fin (pc + 3) lv (.int x :: st) h X) : sS Z M V fin pc lv (.ref i :: st) h X := by
  obtain ⟨p, l, e, R, s, m, args, below, meth, c, cs, sl, cf, sf⟩ := M
  obtain ⟨D, cA, ad⟩ := V
  intro r hX H locs ls hl hP hS
  obtain ⟨ci, N, ks, C, T, g1, g2, g3, g4, g5, g6, g7⟩ := g
  subst hx
  have hts : ∀ w ∈ u_ws C T N, w.before args s = true := fun w hw => sTab_use O.2.2.2.2.1 (g7 w hw).1 (g7 w hw).2 args
  rcases g5 with g5 | ⟨host, g5⟩
  · exact va_get (C := C) (T := T) (N := N) (ref := C) O.1 O.2.1 hts (fun w hw => hw) O.2.2.2.1 O.2.2.2.2.2.1 hP i (sWd_at g1) g3 q g4 (sTab_use O.2.2.2.2.1 g5 rfl args) (fun y hy => by rw [g6] at hy; exact hy) (by rw [List.getElem?_mapIdx, g2]; rfl) d (k r hX H locs ls hl hP hS)
  · exact va_getN (C := C) (T := T) (N := N) (ref := C) (host := host) O.1 O.2.1 hts (fun w hw => hw) O.2.2.2.1 O.2.2.2.2.2.1 hP i (sWd_at g1) g3 q g4 (sTab_use O.2.2.2.2.1 g5 rfl args) (fun y hy => by rw [g6] at hy; exact hy) (by rw [List.getElem?_mapIdx, g2]; rfl) d (k r hX H locs ls hl hP hS)
theorem r_getL (O : sOk Z M V cc nL own ret rm) {idx i q : Nat} {x : Int64} (g : sGf Z own idx i q (some none)) (d : decode cc pc = .ok (.getfield idx, 3)) (hx : h.2 i q = x) (k : sS Z M V fin (pc + 3) lv (.long x :: st) h X) : sS Z M V fin pc lv (.ref i :: st) h X := by
  obtain ⟨p, l, e, R, s, m, args, below, meth, c, cs, sl, cf, sf⟩ := M
  obtain ⟨D, cA, ad⟩ := V
  intro r hX H locs ls hl hP hS
  obtain ⟨ci, N, ks, C, T, g1, g2, g3, g4, g5, g6, g7⟩ := g
  subst hx
  have hts : ∀ w ∈ u_ws C T N, w.before args s = true := fun w hw => sTab_use O.2.2.2.2.1 (g7 w hw).1 (g7 w hw).2 args
  rcases g5 with g5 | ⟨host, g5⟩
  · exact va_get (C := C) (T := T) (N := N) (ref := C) O.1 O.2.1 hts (fun w hw => hw) O.2.2.2.1 O.2.2.2.2.2.1 hP i (sWd_at g1) g3 q g4 (sTab_use O.2.2.2.2.1 g5 rfl args) (fun y hy => by rw [g6] at hy; exact hy) (by rw [List.getElem?_mapIdx, g2]; rfl) d (k r hX H locs ls hl hP hS)
  · exact va_getN (C := C) (T := T) (N := N) (ref := C) (host := host) O.1 O.2.1 hts (fun w hw => hw) O.2.2.2.1 O.2.2.2.2.2.1 hP i (sWd_at g1) g3 q g4 (sTab_use O.2.2.2.2.1 g5 rfl args) (fun y hy => by rw [g6] at hy; exact hy) (by rw [List.getElem?_mapIdx, g2]; rfl) d (k r hX H locs ls hl hP hS)
theorem r_getR (O : sOk Z M V cc nL own ret rm) {idx i q : Nat} {x : Nat} (g : sGf Z own idx i q (some (some x))) (d : decode cc pc = .ok (.getfield idx, 3)) (k : sS Z M V fin (pc + 3) lv (.ref x :: st) h X) : sS Z M V fin pc lv (.ref i :: st) h X := by
  obtain ⟨p, l, e, R, s, m, args, below, meth, c, cs, sl, cf, sf⟩ := M
  obtain ⟨D, cA, ad⟩ := V
  intro r hX H locs ls hl hP hS
  obtain ⟨ci, N, ks, C, T, g1, g2, g3, g4, g5, g6, g7⟩ := g
  skip
  have hts : ∀ w ∈ u_ws C T N, w.before args s = true := fun w hw => sTab_use O.2.2.2.2.1 (g7 w hw).1 (g7 w hw).2 args
  rcases g5 with g5 | ⟨host, g5⟩
  · exact va_get (C := C) (T := T) (N := N) (ref := C) O.1 O.2.1 hts (fun w hw => hw) O.2.2.2.1 O.2.2.2.2.2.1 hP i (sWd_at g1) g3 q g4 (sTab_use O.2.2.2.2.1 g5 rfl args) (fun y hy => by rw [g6] at hy; exact hy) (by rw [List.getElem?_mapIdx, g2]; rfl) d (k r hX H locs ls hl hP hS)
  · exact va_getN (C := C) (T := T) (N := N) (ref := C) (host := host) O.1 O.2.1 hts (fun w hw => hw) O.2.2.2.1 O.2.2.2.2.2.1 hP i (sWd_at g1) g3 q g4 (sTab_use O.2.2.2.2.1 g5 rfl args) (fun y hy => by rw [g6] at hy; exact hy) (by rw [List.getElem?_mapIdx, g2]; rfl) d (k r hX H locs ls hl hP hS)
theorem sFs_setI {ad : Nat → Nat} {h : sHp} {i q : Nat} {ks : List sKd} {x : Int32} (hk : ks[q]? = some none) : (ks.mapIdx (sFd ad h i)).set q (.int x) = ks.mapIdx (sFd ad (pI h i q x) i) := by
  apply List.ext_getElem?
  intro j
  rw [List.getElem?_set]
  by_cases hj : q = j
  · subst hj
    rw [if_pos rfl, if_pos (by rw [List.length_mapIdx]; exact (List.getElem?_eq_some_iff.mp hk).1), List.getElem?_mapIdx, hk]
    simp [sFd, pI, upd]
  · rw [if_neg hj, List.getElem?_mapIdx, List.getElem?_mapIdx]
    cases ks[j]? with
    | none => rfl
    | some d =>
      have hj' : ¬ j = q := fun z => hj z.symm
      rcases d with _ | _ | z <;> simp [sFd, pI, upd, hj']
theorem sFs_setL {ad : Nat → Nat} {h : sHp} {i q : Nat} {ks : List sKd} {x : Int64} (hk : ks[q]? = some (some none)) : (ks.mapIdx (sFd ad h i)).set q (.long x) = ks.mapIdx (sFd ad (pL h i q x) i) := by
  apply List.ext_getElem?
  intro j
  rw [List.getElem?_set]
  by_cases hj : q = j
  · subst hj
    rw [if_pos rfl, if_pos (by rw [List.length_mapIdx]; exact (List.getElem?_eq_some_iff.mp hk).1), List.getElem?_mapIdx, hk]
    simp [sFd, pL, vp_updL]
  · rw [if_neg hj, List.getElem?_mapIdx, List.getElem?_mapIdx]
    cases ks[j]? with
    | none => rfl
    | some d =>
      have hj' : ¬ j = q := fun z => hj z.symm
      rcases d with _ | _ | z <;> simp [sFd, pL, vp_updL, hj']
theorem r_putI (O : sOk Z M V cc nL own ret rm) {idx i q : Nat} {x : Int32} (g : sPf Z own idx i q none .int) (d : decode cc pc = .ok (.putfield idx, 3)) (k : sS Z M V fin (pc + 3) lv st (pI h i q x) X) : sS Z M V fin pc lv (.int x :: .ref i :: st) h X := by
  obtain ⟨p, l, e, R, s, m, args, below, meth, c, cs, sl, cf, sf⟩ := M
  obtain ⟨D, cA, ad⟩ := V
  intro r hX H locs ls hl hP hS
  obtain ⟨ci, N, ks, C, T, ty0, g1, g2, g3, g4, g5, g6, g7, g8, g9, g10, g11⟩ := g
  have hts : ∀ w ∈ u_ws C T N, w.before args s = true := fun w hw => sTab_use O.2.2.2.2.1 (g7 w hw).1 (g7 w hw).2 args
  rcases g5 with g5 | ⟨host, g5⟩
  · exact va_put (C := C) (T := T) (N := N) (ref := C) O.1 O.2.1 hts (fun w hw => hw) ty0 g8 g9 O.2.2.2.1 O.2.2.2.2.2.1 hP (sD_of O.2.2.2.2.2.2.1 h) hS i (sWd_at g1) g3 q g4 (sTab_use O.2.2.2.2.1 g5 rfl args) (fun y hy => by rw [g6] at hy; exact hy) g10 (ty := .int) g11 (vp_nar_int x) rfl (by rw [List.length_mapIdx]; exact (List.getElem?_eq_some_iff.mp g2).1) d (fun H1 locs1 hP1 _ hS1 => k r hX H1 locs1 ls hl (by rw [sWd_set (h' := pI h i q x) g1 (by show _ = Sum.inr (ci, (List.mapIdx (sFd ad h i) ks).set q (.int x)); rw [sFs_setI g2]; rfl) (pI_off h i q x)] at hP1; exact hP1) hS1)
  · exact va_putN (C := C) (T := T) (N := N) (ref := C) (host := host) O.1 O.2.1 hts (fun w hw => hw) ty0 g8 g9 O.2.2.2.1 O.2.2.2.2.2.1 hP (sD_of O.2.2.2.2.2.2.1 h) hS i (sWd_at g1) g3 q g4 (sTab_use O.2.2.2.2.1 g5 rfl args) (fun y hy => by rw [g6] at hy; exact hy) g10 (ty := .int) g11 (vp_nar_int x) rfl (by rw [List.length_mapIdx]; exact (List.getElem?_eq_some_iff.mp g2).1) d (fun H1 locs1 hP1 _ hS1 => k r hX H1 locs1 ls hl (by rw [sWd_set (h' := pI h i q x) g1 (by show _ = Sum.inr (ci, (List.mapIdx (sFd ad h i) ks).set q (.int x)); rw [sFs_setI g2]; rfl) (pI_off h i q x)] at hP1; exact hP1) hS1)
theorem r_putZ (O : sOk Z M V cc nL own ret rm) {idx i q : Nat} {x : Int32} (g : sPf Z own idx i q none .boolean) (d : decode cc pc = .ok (.putfield idx, 3)) (hn : narrow .boolean (.int x) = .int x) (hf : fits .boolean (.int x) = true) (k : sS Z M V fin (pc + 3) lv st (pI h i q x) X) : sS Z M V fin pc lv (.int x :: .ref i :: st) h X := by
  obtain ⟨p, l, e, R, s, m, args, below, meth, c, cs, sl, cf, sf⟩ := M
  obtain ⟨D, cA, ad⟩ := V
  intro r hX H locs ls hl hP hS
  obtain ⟨ci, N, ks, C, T, ty0, g1, g2, g3, g4, g5, g6, g7, g8, g9, g10, g11⟩ := g
  have hts : ∀ w ∈ u_ws C T N, w.before args s = true := fun w hw => sTab_use O.2.2.2.2.1 (g7 w hw).1 (g7 w hw).2 args
  rcases g5 with g5 | ⟨host, g5⟩
  · exact va_put (C := C) (T := T) (N := N) (ref := C) O.1 O.2.1 hts (fun w hw => hw) ty0 g8 g9 O.2.2.2.1 O.2.2.2.2.2.1 hP (sD_of O.2.2.2.2.2.2.1 h) hS i (sWd_at g1) g3 q g4 (sTab_use O.2.2.2.2.1 g5 rfl args) (fun y hy => by rw [g6] at hy; exact hy) g10 (ty := .boolean) g11 hn hf (by rw [List.length_mapIdx]; exact (List.getElem?_eq_some_iff.mp g2).1) d (fun H1 locs1 hP1 _ hS1 => k r hX H1 locs1 ls hl (by rw [sWd_set (h' := pI h i q x) g1 (by show _ = Sum.inr (ci, (List.mapIdx (sFd ad h i) ks).set q (.int x)); rw [sFs_setI g2]; rfl) (pI_off h i q x)] at hP1; exact hP1) hS1)
  · exact va_putN (C := C) (T := T) (N := N) (ref := C) (host := host) O.1 O.2.1 hts (fun w hw => hw) ty0 g8 g9 O.2.2.2.1 O.2.2.2.2.2.1 hP (sD_of O.2.2.2.2.2.2.1 h) hS i (sWd_at g1) g3 q g4 (sTab_use O.2.2.2.2.1 g5 rfl args) (fun y hy => by rw [g6] at hy; exact hy) g10 (ty := .boolean) g11 hn hf (by rw [List.length_mapIdx]; exact (List.getElem?_eq_some_iff.mp g2).1) d (fun H1 locs1 hP1 _ hS1 => k r hX H1 locs1 ls hl (by rw [sWd_set (h' := pI h i q x) g1 (by show _ = Sum.inr (ci, (List.mapIdx (sFd ad h i) ks).set q (.int x)); rw [sFs_setI g2]; rfl) (pI_off h i q x)] at hP1; exact hP1) hS1)
theorem r_putL (O : sOk Z M V cc nL own ret rm) {idx i q : Nat} {x : Int64} (g : sPf Z own idx i q (some none) .long) (d : decode cc pc = .ok (.putfield idx, 3)) (k : sS Z M V fin (pc + 3) lv st (pL h i q x) X) : sS Z M V fin pc lv (.long x :: .ref i :: st) h X := by
  obtain ⟨p, l, e, R, s, m, args, below, meth, c, cs, sl, cf, sf⟩ := M
  obtain ⟨D, cA, ad⟩ := V
  intro r hX H locs ls hl hP hS
  obtain ⟨ci, N, ks, C, T, ty0, g1, g2, g3, g4, g5, g6, g7, g8, g9, g10, g11⟩ := g
  have hts : ∀ w ∈ u_ws C T N, w.before args s = true := fun w hw => sTab_use O.2.2.2.2.1 (g7 w hw).1 (g7 w hw).2 args
  rcases g5 with g5 | ⟨host, g5⟩
  · exact va_put (C := C) (T := T) (N := N) (ref := C) O.1 O.2.1 hts (fun w hw => hw) ty0 g8 g9 O.2.2.2.1 O.2.2.2.2.2.1 hP (sD_of O.2.2.2.2.2.2.1 h) hS i (sWd_at g1) g3 q g4 (sTab_use O.2.2.2.2.1 g5 rfl args) (fun y hy => by rw [g6] at hy; exact hy) g10 (ty := .long) g11 rfl rfl (by rw [List.length_mapIdx]; exact (List.getElem?_eq_some_iff.mp g2).1) d (fun H1 locs1 hP1 _ hS1 => k r hX H1 locs1 ls hl (by rw [sWd_set (h' := pL h i q x) g1 (by show _ = Sum.inr (ci, (List.mapIdx (sFd ad h i) ks).set q (.long x)); rw [sFs_setL g2]; rfl) (pL_off h i q x)] at hP1; exact hP1) hS1)
  · exact va_putN (C := C) (T := T) (N := N) (ref := C) (host := host) O.1 O.2.1 hts (fun w hw => hw) ty0 g8 g9 O.2.2.2.1 O.2.2.2.2.2.1 hP (sD_of O.2.2.2.2.2.2.1 h) hS i (sWd_at g1) g3 q g4 (sTab_use O.2.2.2.2.1 g5 rfl args) (fun y hy => by rw [g6] at hy; exact hy) g10 (ty := .long) g11 rfl rfl (by rw [List.length_mapIdx]; exact (List.getElem?_eq_some_iff.mp g2).1) d (fun H1 locs1 hP1 _ hS1 => k r hX H1 locs1 ls hl (by rw [sWd_set (h' := pL h i q x) g1 (by show _ = Sum.inr (ci, (List.mapIdx (sFd ad h i) ks).set q (.long x)); rw [sFs_setL g2]; rfl) (pL_off h i q x)] at hP1; exact hP1) hS1)
theorem r_iret (O : sOk Z M V cc nL own (some .int) rm) {x : Int32} {a : ρ} (he : fin a = (.inl (some (.int x)), h)) (d : decode cc pc = .ok (.ireturn, 1)) : sS Z M V fin pc lv [.int x] h (some a) := by
  obtain ⟨p, l, e, R, s, m, args, below, meth, c, cs, sl, cf, sf⟩ := M
  obtain ⟨D, cA, ad⟩ := V
  intro r hX H locs ls hl hP hS
  cases hX
  rw [he]
  exact W.widen O.2.2.2.2.2.2.2.2.2.2.1.1 O.2.2.2.2.2.2.2.2.2.2.1.2 (W.iret O.1 O.2.1 O.2.2.2.2.2.2.2.2.1 (fun t ht _ => ⟨rfl, by rw [ht]; exact hP, hS.F ht⟩) hS.2.2 d O.2.2.2.2.2.2.2.1)
theorem r_zret (O : sOk Z M V cc nL own (some .boolean) rm) {x : Int32} {a : ρ} (he : fin a = (.inl (some (.int x)), h)) (d : decode cc pc = .ok (.ireturn, 1)) (hn : narrow .boolean (.int x) = .int x) : sS Z M V fin pc lv [.int x] h (some a) := by
  obtain ⟨p, l, e, R, s, m, args, below, meth, c, cs, sl, cf, sf⟩ := M
  obtain ⟨D, cA, ad⟩ := V
  intro r hX H locs ls hl hP hS
  cases hX
  rw [he]
  exact W.widen O.2.2.2.2.2.2.2.2.2.2.1.1 O.2.2.2.2.2.2.2.2.2.2.1.2 (W.zret O.1 O.2.1 O.2.2.2.2.2.2.2.2.1 hn (fun t ht _ => ⟨rfl, by rw [ht]; exact hP, hS.F ht⟩) hS.2.2 d O.2.2.2.2.2.2.2.1)
theorem r_lret (O : sOk Z M V cc nL own (some .long) rm) {x : Int64} {a : ρ} (he : fin a = (.inl (some (.long x)), h)) (d : decode cc pc = .ok (.lreturn, 1)) : sS Z M V fin pc lv [.long x] h (some a) := by
  obtain ⟨p, l, e, R, s, m, args, below, meth, c, cs, sl, cf, sf⟩ := M
  obtain ⟨D, cA, ad⟩ := V
  intro r hX H locs ls hl hP hS
  cases hX
  rw [he]
  exact W.widen O.2.2.2.2.2.2.2.2.2.2.1.1 O.2.2.2.2.2.2.2.2.2.2.1.2 (W.lret O.1 O.2.1 O.2.2.2.2.2.2.2.2.1 (fun t ht _ => ⟨rfl, by rw [ht]; exact hP, hS.F ht⟩) hS.2.2 d O.2.2.2.2.2.2.2.1)
def jB (x : Int32) : Bool := decide (x = 0 ∨ x = 1)
theorem nb_0 : narrow .boolean (.int 0) = .int 0 := by decide
theorem nb_1 : narrow .boolean (.int 1) = .int 1 := by decide
theorem r_zretg (O : sOk Z M V cc nL own (some .boolean) rm) {x : Int32} {a : ρ} (he : fin a = (.inl (some (.int x)), h)) (d : decode cc pc = .ok (.ireturn, 1)) : sS Z M V fin pc lv [.int x] h (sGd (jB x) (some a)) := by
  refine r_gd (fun q => r_zret O he d ?_)
  rcases of_decide_eq_true q with q | q <;> subst q
  · exact nb_0
  · exact nb_1
theorem r_vret (O : sOk Z M V cc nL own none rm) {a : ρ} (he : fin a = (.inl none, h)) (d : decode cc pc = .ok (.return_, 1)) : sS Z M V fin pc lv [] h (some a) := by
  obtain ⟨p, l, e, R, s, m, args, below, meth, c, cs, sl, cf, sf⟩ := M
  obtain ⟨D, cA, ad⟩ := V
  intro r hX H locs ls hl hP hS
  cases hX
  rw [he]
  exact W.widen O.2.2.2.2.2.2.2.2.2.2.1.1 O.2.2.2.2.2.2.2.2.2.2.1.2 (W.vret O.1 O.2.1 O.2.2.2.2.2.2.2.2.1 (fun t ht _ => ⟨rfl, by rw [ht]; exact hP, hS.F ht⟩) hS.2.2 d O.2.2.2.2.2.2.2.1)
end SR
def sPc (Z : sZo) : sWo → List Value → sHp → Array Value → State → Prop
  | (D, cA, ad), av, h => va_Pc (av.map (sV ad)) (fun U => sTab U ∧ va_K D Z.1 (sTy cA) U ∧ sApart Z.2 ad ∧ va_P D Z.1 (sWd Z.2 cA ad h) U.heap)
/-- a method, at these arguments and this heap, ends as X says -/
def sM {ρ : Type} (Z : sZo) (fin : ρ → Option Value × sHp) (y : MethodName) (cc : ByteArray) (nL : Nat) (ret : Option FieldType) (rm : Room) (av : List Value) (h : sHp) (X : Option ρ) : Prop :=
  ∀ (l : Launch) (V : sWo) (r : ρ), X = some r → Met l y [.code y cc nL ret] rm (sPc Z V av h) (sQr Z V (fin r).1 (fin r).2) 0 0 (sAr Z.2 V.2.2)
def sEb {ρ : Type} (fin : ρ → Option Value × sHp) (r : ρ) : sOut × sHp := (.inl (fin r).1, (fin r).2)
theorem sV_len (ad : Nat → Nat) (av : List Value) : (lg_sl (av.map (sV ad))).length = (lg_sl av).length := by
  induction av with
  | nil => rfl
  | cons a t ih =>
    simp only [lg_sl, List.map_cons, List.flatMap_cons, List.length_append] at ih ⊢
    rw [ih, sV_cat]
    split <;> rfl
theorem sV_args (ad : Nat → Nat) (av : List Value) : ∀ i, lv_args i (av.map (sV ad)) = sLv ad (lv_args i av) := by
  induction av with
  | nil => intro i; rfl
  | cons a t ih =>
    intro i
    simp only [List.map_cons, lv_args, sLv, List.map_cons, sV_cat]
    rw [ih]
    rfl
theorem sM_of {ρ : Type} {Z : sZo} {fin : ρ → Option Value × sHp} {y : MethodName} {cc : ByteArray} {nL : Nat} {ret : Option FieldType} {rm : Room} {av : List Value} {h : sHp} {X : Option ρ} {own : String} (ho : y.cls = own) (hy : plainName y.cls = true) (hlen : (lg_sl av).length ≤ nL)
    (body : ∀ (M : sMa) (V : sWo), sOk Z M V cc nL own ret rm → sS Z M V (sEb fin) 0 (lv_args 0 av) [] h X) : sM Z fin y cc nL ret rm av h X := by
  intro l V r hX
  subst ho
  obtain ⟨D, cA, ad⟩ := V
  refine Met.ofW (cc := cc) (maxL := nL) (ret := ret) hy rfl ?_
  intro p e s m args below meth c s₁ B hml hv
  obtain ⟨rfl, hT, hK, hA, hP⟩ := hv
  have hl := lv_entry (av.map (sV ad)) (n := nL) (by rw [sV_len]; exact hlen)
  rw [lg_entry_eq]
  rw [sV_args] at hl
  exact body (p, l, e, rm, s, m, _, below, meth, c, 0, 0, 0, 0) (D, cA, ad) ⟨B.exec, B.bytes, hml, findClass_of_methodNamed B.named, hT, hK, hA, B.notSynchronized, B.returns, rfl, ⟨Nat.le_refl _, Nat.le_refl _⟩, Nat.zero_le _, Nat.zero_le _⟩ r hX s.heap [] _ (by rw [hml]; exact hl) hP va_S.rf
theorem sPc_blind (Z : sZo) (V : sWo) (av : List Value) (h : sHp) : FrameBlind (sPc Z V av h) := by
  obtain ⟨D, cA, ad⟩ := V
  intro a U g mk q
  obtain ⟨q1, q2, q3, q4, q5⟩ := q
  exact ⟨q1, sTab_calling g mk a q2, va_K.moved (u := U) (U := U.calling g mk a) (Vm.Alike.refl U.vm) q3, q4, q5⟩
theorem sCodeW {s : State} {y : MethodName} {cc : ByteArray} {nL : Nat} {ret : Option FieldType} {args : Array Value} (h : (Cond.code y cc nL ret).before args s = true) : ∀ w ∈ [Cond.code y cc nL ret], ∀ (a' : Array Value) (U : State), s.WarmedH U.vm → w.before a' U = true := by
  intro w hw a' U hW
  rw [List.mem_singleton.mp hw]
  exact word_at hW (Or.inl (by first | rfl | simp [Cond.onTables, Cond.keeps, Cond.steady])) h
section SC
variable {p : Program} {l : Launch} {e : Env} {R : Room} {s : State} {m : MethodId} {args : Array Value} {below : List Frame} {meth : Method} {c : Code} {H : Heap} {locs : List Loc} {cs sl : Nat} {Q : State → Prop}
theorem sCall {Z : sZo} {D : va_G} {cA : Nat → ClassId} {ad : Nat → Nat} {o : Option Value} {h' : sHp} {a : Array Value} {pc : Nat} {ls : Array Slot} {st0 rest : List Value} (hr : va_Run p l e R s m args below meth c H locs cs sl 0 0 (F0 m pc ls st0) rest (sQr Z (D, cA, ad) o h' a) (sAr Z.2 ad)) (hS : va_S (sAr Z.2 ad) s.heap H locs)
    (kk : ∀ (H1 : Heap) (locs1 : List Loc), va_P D Z.1 (sWd Z.2 cA ad h') H1 → va_S (sAr Z.2 ad) s.heap H1 locs1 → W p l e R s m args below meth c H1 locs1 cs sl Q (F0 m (pc + 3) ls (o.toList ++ rest))) : W p l e R s m args below meth c H locs cs sl Q (F0 m pc ls st0) := by
  intro T hT X
  obtain ⟨v, st₀, t, T', L, h0, X', hL, e1, e2, ⟨hv, hp, hz, hk⟩, st⟩ := hr T hT X
  cases hv
  rw [h0] at hz hk
  obtain ⟨t2, a1, b1⟩ := kk T'.heap (locs ++ L) (by rw [e1]; exact hp)
    ⟨Nat.le_trans hS.1 (by rw [e1]; exact hz), fun q h1 h2 => by rw [e1, hk q (Nat.lt_of_lt_of_le h1 hS.1) h2]; exact hS.2.1 q h1 h2, fun q hq => by
      rcases List.mem_append.mp hq with h | h
      · exact hS.2.2 q h
      · exact hL q h⟩ T' rfl X'
  exact ⟨t2, st t2 a1, b1⟩
end SC
/-- what the tables say of a call -/
def sCw (own : String) (idx : Nat) (y : MethodName) (cc : ByteArray) (nL : Nat) (ret : Option FieldType) (rm' rm : Room) (n : Nat) : Prop := (Cond.methodLink own idx y ∈ sTB ∨ ∃ host, Cond.methodLinkNest own idx y host ∈ sTB) ∧ Cond.initialized y.cls ∈ sTB ∧ Cond.code y cc nL ret ∈ sTB ∧ (y.cls ≠ "java/lang/invoke/MethodHandle" ∧ y.cls ≠ "java/lang/invoke/VarHandle") ∧ (parseMethodDescriptor y.desc).map (fun d => d.parameters.length) = some n ∧ (rm'.cells = 0 ∧ rm'.slots = 0) ∧ rm'.frames + 1 ≤ rm.frames ∧ 8 + (nL + 11) + rm'.locals ≤ rm.locals
theorem sDesc {y : MethodName} {n : Nat} (h : (parseMethodDescriptor y.desc).map (fun d => d.parameters.length) = some n) : ∀ sig, parseMethodDescriptor y.desc = some sig → n = sig.parameters.length := by
  intro sig hs
  rw [hs] at h
  exact (Option.some.inj h).symm
section SK
variable {ρ β : Type} {Z : sZo} {M : sMa} {V : sWo} {fin : ρ → sOut × sHp} {cc cc' : ByteArray} {nL nL' pc idx n : Nat} {own : String} {y : MethodName} {ret ret' : Option FieldType} {rm rm' : Room} {lv : List (Nat × Value)} {st av : List Value} {h : sHp} {o : β → Option Value × sHp} {X : Option β} {F : β → Option ρ}
theorem r_callS (O : sOk Z M V cc nL own ret rm) (ho : ∀ (ad : Nat → Nat) (w : β), ((o w).1.toList).map (sV ad) = (o w).1.toList) (hM : sM Z o y cc' nL' ret' rm' av h X) (cw : sCw own idx y cc' nL' ret' rm' rm n) (hst : Cond.static y ∈ sTB) (hn : av.length = n) (hw : (st.map fun v => v.category).sum ≤ 8) (d : decode cc pc = .ok (.invokestatic idx, 3)) (k : ∀ v, sS Z M V fin (pc + 3) lv ((o v).1.toList ++ st) (o v).2 (F v)) : sS Z M V fin pc lv (av.reverse ++ st) h (X.bind F) := by
  obtain ⟨p, l, e, R, s, m, args, below, meth, c, cs, sl, cf, sf⟩ := M
  obtain ⟨D, cA, ad⟩ := V
  intro r hX H locs ls hl hP hS
  obtain ⟨w, hX2, hF⟩ := sB_of hX
  obtain ⟨c1, c2, c3, c4, c5, c6, c7, c8⟩ := cw
  obtain ⟨o1, o2, o3, o4, o5, o6, o7, o8, o9, o10, ⟨o13, o14⟩, o11, o12⟩ := O
  subst o10
  have hm := hM l (D, cA, ad) w hX2
  have hpre : PreS s H (sPc Z (D, cA, ad) av h) (av.map (sV ad)) := ⟨sPc_blind Z (D, cA, ad) av h, fun U hU hW => ⟨rfl, sTab_warm hW o5, va_K.moved hW.alike o6, o7, by rw [hU]; exact hP⟩⟩
  have hstk : ((av.reverse ++ st).map (sV ad)) = (av.map (sV ad)).reverse ++ st.map (sV ad) := by rw [List.map_append, List.map_reverse]
  have hwt : 2 * (F0 m pc ls ((av.reverse ++ st).map (sV ad))).monitorRoom + ((st.map (sV ad)).map fun v => v.category).sum ≤ 8 := lv_room (by rw [sV_sum]; exact hw)
  have hcode : (Cond.code y cc' nL' ret').before args s = true := sTab_use o5 c3 rfl args
  have hini : (Cond.initialized y.cls).before args s = true := sTab_use o5 c2 rfl args
  have hstat : (Cond.static y).before args s = true := sTab_use o5 hst rfl args
  have key : va_Run p l e R s m args below meth c H locs cs sl 0 0 (F0 m pc ls ((av.reverse ++ st).map (sV ad))) (st.map (sV ad)) (sQr Z (D, cA, ad) (o w).1 (o w).2 (av.map (sV ad)).toArray) (sAr Z.2 ad) := by
    rcases c1 with c1 | ⟨host, c1⟩
    · exact va_runS (n := n) (bytes := cc') (maxL := nL') (ret := ret') ⟨o1, o2, o3, o4, (fun w (hw : w ∈ ([] : List Cond)) => by cases hw)⟩ hm ⟨⟨c6.1, c6.2, c7, c8, sCodeW hcode, List.mem_singleton.mpr rfl, hcode, hini, c4, sDesc c5, sTab_use o5 c1 rfl args⟩, hstat⟩ hpre rfl (by rw [List.length_map]; exact hn) (hl.1.trans o3) hstk hwt d ⟨Nat.le_trans o13 o11, Nat.le_trans o14 o12⟩
    · exact va_runSN (n := n) (bytes := cc') (maxL := nL') (ret := ret') (host := host) ⟨o1, o2, o3, o4, (fun w (hw : w ∈ ([] : List Cond)) => by cases hw)⟩ hm ⟨⟨⟨c6.1, c6.2, c7, c8, sCodeW hcode, List.mem_singleton.mpr rfl⟩, hcode, hini, c4, sDesc c5, sTab_use o5 c1 rfl args⟩, hstat, trivial⟩ hpre rfl (by rw [List.length_map]; exact hn) (hl.1.trans o3) hstk hwt d ⟨Nat.le_trans o13 o11, Nat.le_trans o14 o12⟩
  refine sCall key hS (fun H1 locs1 hP1 hS1 => ?_)
  have kk := k w r hF H1 locs1 ls hl hP1 hS1
  rw [List.map_append] at kk
  rw [ho ad w] at kk
  exact kk
theorem r_callV (O : sOk Z M V cc nL own ret rm) {i ci N : Nat} {ks : List sKd} {C : String} {T : u_T} (g1 : Z.2[i]? = some (.inr (ci, ks))) (g3 : Z.1[ci]? = some (C, T, N)) (ho : ∀ (ad : Nat → Nat) (w : β), ((o w).1.toList).map (sV ad) = (o w).1.toList) (hM : sM Z o y cc' nL' ret' rm' (.ref i :: av) h X) (cw : sCw own idx y cc' nL' ret' rm' rm n) (hst : Cond.instanceMethod y ∈ sTB) (hse : Cond.selects C y y ∈ sTB) (hn : av.length = n) (hw : (st.map fun v => v.category).sum ≤ 8) (d : decode cc pc = .ok (.invokevirtual idx, 3)) (k : ∀ v, sS Z M V fin (pc + 3) lv ((o v).1.toList ++ st) (o v).2 (F v)) : sS Z M V fin pc lv (av.reverse ++ .ref i :: st) h (X.bind F) := by
  obtain ⟨p, l, e, R, s, m, args, below, meth, c, cs, sl, cf, sf⟩ := M
  obtain ⟨D, cA, ad⟩ := V
  intro r hX H locs ls hl hP hS
  obtain ⟨w, hX2, hF⟩ := sB_of hX
  obtain ⟨c1, c2, c3, c4, c5, c6, c7, c8⟩ := cw
  obtain ⟨o1, o2, o3, o4, o5, o6, o7, o8, o9, o10, ⟨o13, o14⟩, o11, o12⟩ := O
  subst o10
  have hm := hM l (D, cA, ad) w hX2
  have hcell : ∃ cellB : Cell, H[ad i]? = some cellB ∧ cellB.vm.isStatics = false ∧ s.vm.findClass C = some cellB.cls := by
    obtain ⟨r, h1, cell, q1, q2, q3, q4⟩ := hP i _ (sWd_at g1)
    obtain ⟨hSl, hfc, kC, hkC, hkind⟩ := o6.1 ci _ g3
    exact ⟨cell, q1, by rw [q3]; rfl, by rw [q2]; exact hfc⟩
  have hpre : PreV s H C (ad i) (sPc Z (D, cA, ad) (.ref i :: av) h) (av.map (sV ad)) := ⟨sPc_blind Z (D, cA, ad) _ h, hcell, fun U hU hW => ⟨rfl, sTab_warm hW o5, va_K.moved hW.alike o6, o7, by rw [hU]; exact hP⟩⟩
  have hstk : ((av.reverse ++ .ref i :: st).map (sV ad)) = (av.map (sV ad)).reverse ++ .ref (ad i) :: st.map (sV ad) := by rw [List.map_append, List.map_reverse]; rfl
  have hwt : 2 * (F0 m pc ls ((av.reverse ++ .ref i :: st).map (sV ad))).monitorRoom + ((st.map (sV ad)).map fun v => v.category).sum ≤ 8 := lv_room (by rw [sV_sum]; exact hw)
  have hcode : (Cond.code y cc' nL' ret').before args s = true := sTab_use o5 c3 rfl args
  have hini : (Cond.initialized y.cls).before args s = true := sTab_use o5 c2 rfl args
  have hinst : (Cond.instanceMethod y).before args s = true := sTab_use o5 hst rfl args
  have hsel : (Cond.selects C y y).before args s = true := sTab_use o5 hse rfl args
  have key : va_Run p l e R s m args below meth c H locs cs sl 0 0 (F0 m pc ls ((av.reverse ++ .ref i :: st).map (sV ad))) (st.map (sV ad)) (sQr Z (D, cA, ad) (o w).1 (o w).2 (Value.ref (ad i) :: av.map (sV ad)).toArray) (sAr Z.2 ad) := by
    rcases c1 with c1 | ⟨host, c1⟩
    · exact va_runV (n := n) (C := C) (bytes := cc') (maxL := nL') (ret := ret') ⟨o1, o2, o3, o4, (fun w (hw : w ∈ ([] : List Cond)) => by cases hw)⟩ hm ⟨⟨c6.1, c6.2, c7, c8, sCodeW hcode, List.mem_singleton.mpr rfl, hcode, hini, c4, sDesc c5, sTab_use o5 c1 rfl args⟩, hinst, hsel⟩ hpre rfl (by rw [List.length_map]; exact hn) (hl.1.trans o3) hstk hwt d ⟨Nat.le_trans o13 o11, Nat.le_trans o14 o12⟩
    · exact va_runVN (n := n) (C := C) (bytes := cc') (maxL := nL') (ret := ret') (host := host) ⟨o1, o2, o3, o4, (fun w (hw : w ∈ ([] : List Cond)) => by cases hw)⟩ hm ⟨⟨⟨c6.1, c6.2, c7, c8, sCodeW hcode, List.mem_singleton.mpr rfl⟩, hcode, hini, c4, sDesc c5, sTab_use o5 c1 rfl args⟩, hinst, hsel⟩ hpre rfl (by rw [List.length_map]; exact hn) (hl.1.trans o3) hstk hwt d ⟨Nat.le_trans o13 o11, Nat.le_trans o14 o12⟩
  refine sCall key hS (fun H1 locs1 hP1 hS1 => ?_)
  have kk := k w r hF H1 locs1 ls hl hP1 hS1
  rw [List.map_append] at kk
  rw [ho ad w] at kk
  exact kk

/-- what a call leaves: an int, a long, nothing; a heap, or the heap as it was -/
def sOi (r : Int32 × sHp) : Option Value × sHp := (some (.int r.1), r.2)
def sOl (r : Int64 × sHp) : Option Value × sHp := (some (.long r.1), r.2)
def sOv (r : sHp) : Option Value × sHp := (none, r)
def sPi (h : sHp) (r : Int32) : Option Value × sHp := (some (.int r), h)
def sPl (h : sHp) (r : Int64) : Option Value × sHp := (some (.long r), h)
theorem r_callSi {X : Option (Int32 × sHp)} {F : Int32 × sHp → Option ρ} (O : sOk Z M V cc nL own ret rm) (av : List Value) (hM : sM Z sOi y cc' nL' ret' rm' av h X) (cw : sCw own idx y cc' nL' ret' rm' rm n) (hst : Cond.static y ∈ sTB) (hn : av.length = n) (hw : (st.map fun v => v.category).sum ≤ 8) (d : decode cc pc = .ok (.invokestatic idx, 3)) {st0 : List Value} (h0 : av.reverse ++ st = st0) (k : ∀ v, sS Z M V fin (pc + 3) lv (.int v.1 :: st) v.2 (F v)) : sS Z M V fin pc lv st0 h (X.bind F) := by
  subst h0
  exact r_callS O (fun _ _ => rfl) hM cw hst hn hw d k
theorem r_callVi {X : Option (Int32 × sHp)} {F : Int32 × sHp → Option ρ} (O : sOk Z M V cc nL own ret rm) (av : List Value) {i ci N : Nat} {ks : List sKd} {C : String} {T : u_T} (g1 : Z.2[i]? = some (.inr (ci, ks))) (g3 : Z.1[ci]? = some (C, T, N)) (hM : sM Z sOi y cc' nL' ret' rm' (.ref i :: av) h X) (cw : sCw own idx y cc' nL' ret' rm' rm n) (hst : Cond.instanceMethod y ∈ sTB) (hse : Cond.selects C y y ∈ sTB) (hn : av.length = n) (hw : (st.map fun v => v.category).sum ≤ 8) (d : decode cc pc = .ok (.invokevirtual idx, 3)) {st0 : List Value} (h0 : av.reverse ++ .ref i :: st = st0) (k : ∀ v, sS Z M V fin (pc + 3) lv (.int v.1 :: st) v.2 (F v)) : sS Z M V fin pc lv st0 h (X.bind F) := by
  subst h0
  exact r_callV O g1 g3 (fun _ _ => rfl) hM cw hst hse hn hw d k
theorem r_callSl {X : Option (Int64 × sHp)} {F : Int64 × sHp → Option ρ} (O : sOk Z M V cc nL own ret rm) (av : List Value) (hM : sM Z sOl y cc' nL' ret' rm' av h X) (cw : sCw own idx y cc' nL' ret' rm' rm n) (hst : Cond.static y ∈ sTB) (hn : av.length = n) (hw : (st.map fun v => v.category).sum ≤ 8) (d : decode cc pc = .ok (.invokestatic idx, 3)) {st0 : List Value} (h0 : av.reverse ++ st = st0) (k : ∀ v, sS Z M V fin (pc + 3) lv (.long v.1 :: st) v.2 (F v)) : sS Z M V fin pc lv st0 h (X.bind F) := by
  subst h0
  exact r_callS O (fun _ _ => rfl) hM cw hst hn hw d k
theorem r_callVl {X : Option (Int64 × sHp)} {F : Int64 × sHp → Option ρ} (O : sOk Z M V cc nL own ret rm) (av : List Value) {i ci N : Nat} {ks : List sKd} {C : String} {T : u_T} (g1 : Z.2[i]? = some (.inr (ci, ks))) (g3 : Z.1[ci]? = some (C, T, N)) (hM : sM Z sOl y cc' nL' ret' rm' (.ref i :: av) h X) (cw : sCw own idx y cc' nL' ret' rm' rm n) (hst : Cond.instanceMethod y ∈ sTB) (hse : Cond.selects C y y ∈ sTB) (hn : av.length = n) (hw : (st.map fun v => v.category).sum ≤ 8) (d : decode cc pc = .ok (.invokevirtual idx, 3)) {st0 : List Value} (h0 : av.reverse ++ .ref i :: st = st0) (k : ∀ v, sS Z M V fin (pc + 3) lv (.long v.1 :: st) v.2 (F v)) : sS Z M V fin pc lv st0 h (X.bind F) := by
  subst h0
  exact r_callV O g1 g3 (fun _ _ => rfl) hM cw hst hse hn hw d k
theorem r_callSv {X : Option (sHp)} {F : sHp → Option ρ} (O : sOk Z M V cc nL own ret rm) (av : List Value) (hM : sM Z sOv y cc' nL' ret' rm' av h X) (cw : sCw own idx y cc' nL' ret' rm' rm n) (hst : Cond.static y ∈ sTB) (hn : av.length = n) (hw : (st.map fun v => v.category).sum ≤ 8) (d : decode cc pc = .ok (.invokestatic idx, 3)) {st0 : List Value} (h0 : av.reverse ++ st = st0) (k : ∀ v, sS Z M V fin (pc + 3) lv (st) v (F v)) : sS Z M V fin pc lv st0 h (X.bind F) := by
  subst h0
  exact r_callS O (fun _ _ => rfl) hM cw hst hn hw d k
theorem r_callVv {X : Option (sHp)} {F : sHp → Option ρ} (O : sOk Z M V cc nL own ret rm) (av : List Value) {i ci N : Nat} {ks : List sKd} {C : String} {T : u_T} (g1 : Z.2[i]? = some (.inr (ci, ks))) (g3 : Z.1[ci]? = some (C, T, N)) (hM : sM Z sOv y cc' nL' ret' rm' (.ref i :: av) h X) (cw : sCw own idx y cc' nL' ret' rm' rm n) (hst : Cond.instanceMethod y ∈ sTB) (hse : Cond.selects C y y ∈ sTB) (hn : av.length = n) (hw : (st.map fun v => v.category).sum ≤ 8) (d : decode cc pc = .ok (.invokevirtual idx, 3)) {st0 : List Value} (h0 : av.reverse ++ .ref i :: st = st0) (k : ∀ v, sS Z M V fin (pc + 3) lv (st) v (F v)) : sS Z M V fin pc lv st0 h (X.bind F) := by
  subst h0
  exact r_callV O g1 g3 (fun _ _ => rfl) hM cw hst hse hn hw d k
theorem r_callSip {X : Option (Int32)} {F : Int32 → Option ρ} (O : sOk Z M V cc nL own ret rm) (av : List Value) (hM : sM Z (sPi h) y cc' nL' ret' rm' av h X) (cw : sCw own idx y cc' nL' ret' rm' rm n) (hst : Cond.static y ∈ sTB) (hn : av.length = n) (hw : (st.map fun v => v.category).sum ≤ 8) (d : decode cc pc = .ok (.invokestatic idx, 3)) {st0 : List Value} (h0 : av.reverse ++ st = st0) (k : ∀ v, sS Z M V fin (pc + 3) lv (.int v :: st) h (F v)) : sS Z M V fin pc lv st0 h (X.bind F) := by
  subst h0
  exact r_callS O (fun _ _ => rfl) hM cw hst hn hw d k
theorem r_callVip {X : Option (Int32)} {F : Int32 → Option ρ} (O : sOk Z M V cc nL own ret rm) (av : List Value) {i ci N : Nat} {ks : List sKd} {C : String} {T : u_T} (g1 : Z.2[i]? = some (.inr (ci, ks))) (g3 : Z.1[ci]? = some (C, T, N)) (hM : sM Z (sPi h) y cc' nL' ret' rm' (.ref i :: av) h X) (cw : sCw own idx y cc' nL' ret' rm' rm n) (hst : Cond.instanceMethod y ∈ sTB) (hse : Cond.selects C y y ∈ sTB) (hn : av.length = n) (hw : (st.map fun v => v.category).sum ≤ 8) (d : decode cc pc = .ok (.invokevirtual idx, 3)) {st0 : List Value} (h0 : av.reverse ++ .ref i :: st = st0) (k : ∀ v, sS Z M V fin (pc + 3) lv (.int v :: st) h (F v)) : sS Z M V fin pc lv st0 h (X.bind F) := by
  subst h0
  exact r_callV O g1 g3 (fun _ _ => rfl) hM cw hst hse hn hw d k
theorem r_callSlp {X : Option (Int64)} {F : Int64 → Option ρ} (O : sOk Z M V cc nL own ret rm) (av : List Value) (hM : sM Z (sPl h) y cc' nL' ret' rm' av h X) (cw : sCw own idx y cc' nL' ret' rm' rm n) (hst : Cond.static y ∈ sTB) (hn : av.length = n) (hw : (st.map fun v => v.category).sum ≤ 8) (d : decode cc pc = .ok (.invokestatic idx, 3)) {st0 : List Value} (h0 : av.reverse ++ st = st0) (k : ∀ v, sS Z M V fin (pc + 3) lv (.long v :: st) h (F v)) : sS Z M V fin pc lv st0 h (X.bind F) := by
  subst h0
  exact r_callS O (fun _ _ => rfl) hM cw hst hn hw d k
theorem r_callVlp {X : Option (Int64)} {F : Int64 → Option ρ} (O : sOk Z M V cc nL own ret rm) (av : List Value) {i ci N : Nat} {ks : List sKd} {C : String} {T : u_T} (g1 : Z.2[i]? = some (.inr (ci, ks))) (g3 : Z.1[ci]? = some (C, T, N)) (hM : sM Z (sPl h) y cc' nL' ret' rm' (.ref i :: av) h X) (cw : sCw own idx y cc' nL' ret' rm' rm n) (hst : Cond.instanceMethod y ∈ sTB) (hse : Cond.selects C y y ∈ sTB) (hn : av.length = n) (hw : (st.map fun v => v.category).sum ≤ 8) (d : decode cc pc = .ok (.invokevirtual idx, 3)) {st0 : List Value} (h0 : av.reverse ++ .ref i :: st = st0) (k : ∀ v, sS Z M V fin (pc + 3) lv (.long v :: st) h (F v)) : sS Z M V fin pc lv st0 h (X.bind F) := by
  subst h0
  exact r_callV O g1 g3 (fun _ _ => rfl) hM cw hst hse hn hw d k
end SK
