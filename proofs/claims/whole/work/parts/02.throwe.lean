/-- a row of a table of handlers whose class may not have been looked up so far -/
theorem sGo_cold {E : CtlPost} {e : Env} {d : Bool} {acts : List Action} {s : State} {f : JFrame} {a : Addr} {Q : Handler → Pre} {x : ExceptionTableEntry} {t : List ExceptionTableEntry} {c : ClassId} {vm' : Vm} (hx : covers x f.pc = true) (h0 : x.catchType ≠ 0)
    (hg : (Jvm.resolveClass f.method.cls x.catchType).Gives e.toSetting s.vm (.ok c) vm') (hr : vm'.classReady f.method.cls x.catchType c) (hsz : vm'.classes.size ≤ s.vm.classes.size) :
    wp (findHandler.go f a (x :: t)) Q E e d acts s ↔ wp (findHandler.go f a (x :: t)) Q E e d acts (s.setVm vm') := by
  simp only [covers] at hx
  obtain ⟨ha, ht⟩ := hg.op (op := VmOp.resolveClass f.method.cls x.catchType) rfl
  obtain ⟨k, hkd, hres⟩ := hr
  simp [findHandler.go, hx, h0, ha, ht, hsz, resolveClass_memo e hkd hres, VmOp.dirties, VmOp.acts]
  exact Iff.rfl
/-- the three exceptions are none of each other's -/
def sNc (U : State) : Prop := (∀ i, i < 3 → ∀ ci, U.vm.findClass (sEx i) = some ci → U.vm.assignable ci ci = true) ∧ ∀ i j, i < 3 → j < 3 → i ≠ j → ∀ ci cj, U.vm.findClass (sEx i) = some ci → U.vm.findClass (sEx j) = some cj → U.vm.assignable ci cj = false
theorem sNc.moved {u U : State} (hvm : u.vm.Alike U.vm) (h : sNc u) : sNc U := by
  refine ⟨fun i hi ci h1 => ?_, fun i j hi hj hij ci cj h1 h2 => ?_⟩
  · rw [hvm.findClass] at h1
    rw [hvm.assignable]
    exact h.1 i hi ci h1
  · rw [hvm.findClass] at h1 h2
    rw [hvm.assignable]
    exact h.2 i j hi hj hij ci cj h1 h2
/-- which handler an exception of class k comes to, among rows that name classes by the numbers -/
def sPick : List (Nat × Nat) → Nat → Option Nat
  | [], _ => none
  | (hp, j) :: t, k => if j = k then some hp else sPick t k
/-- the rows of a table, each over the pc, each naming one of the three classes: (handler's pc, number) -/
def sRows (own : String) (pc : Nat) : List (Nat × Nat × Nat × Nat) → List (Nat × Nat) → Prop
  | [], [] => True
  | (a, b, hp, ct) :: t, (hp', j) :: r => (a ≤ pc ∧ pc < b) ∧ hp = hp' ∧ ct ≠ 0 ∧ j < 3 ∧ Cond.classLink own ct (sEx j) ∈ sTB ∧ sRows own pc t r
  | _, _ => False
theorem sSearch {e : Env} {l : Launch} (hadm : l.admits e) {s : State} {m : MethodId} {own : String} {args : Array Value} (hown : s.vm.findClass own = some m.cls) (hT : sTab s) (hN : sNc s) {f : JFrame} (hf : f.method = m) {a : Addr} {k : Nat} (hk : k < 3) {cell : Cell} (hcl : s.vm.findClass (sEx k) = some cell.cls) (hvm : cell.vm.isStatics = false) :
    ∀ (es : List ExceptionTableEntry) (rs : List (Nat × Nat)) (hp : Nat) (S : State), sRows own f.pc (es.map (fun h => (h.startPc, h.endPc, h.handlerPc, h.catchType))) rs → sPick rs k = some hp → s.WarmedH S.vm → S.heap[a]? = some cell →
      ∃ vm' : Vm, s.WarmedH vm' ∧ ∀ (Q : Handler → Pre) (E : CtlPost) (d : Bool) (acts : List Action), wp (findHandler.go f a es) Q E e d acts S ↔ Q (.found hp) d acts (S.setVm vm') := by
  intro es
  induction es with
  | nil =>
    intro rs hp S hrs hpk
    cases rs with
    | nil => cases hpk
    | cons r rs => exact absurd hrs (fun z => z)
  | cons x t ih =>
    intro rs hp S hrs hpk hW hcell
    cases rs with
    | nil => exact absurd hrs (fun z => z)
    | cons r rs =>
      obtain ⟨hp', j⟩ := r
      obtain ⟨hcov, hhp, h0, hj, hlk, hrest⟩ := hrs
      have hpl : e.platform.magicAccessors = ({} : Platform).magicAccessors := by rw [hadm.platform]
      obtain ⟨cN, hfN, hlinks⟩ := Cond.classLink_spec hown (sTab_use hT hlk rfl args) e.platform hpl
      obtain ⟨hg₁, hwarm₁, hready₁⟩ := State.classEntry (e := e) hW hlinks
      have hsz : (S.vm.noted m.cls x.catchType (.cls cN)).classes.size ≤ S.vm.classes.size := by rw [Vm.size_noted]; exact Nat.le_refl _
      generalize S.vm.noted m.cls x.catchType (.cls cN) = vm₁ at hg₁ hwarm₁ hready₁ hsz
      have hx : covers x f.pc = true := by simp [covers, hcov.1, hcov.2]
      subst hf
      have hal := hwarm₁.alike
      obtain ⟨kc, hkc, -⟩ := Vm.findClass_spec hcl
      obtain ⟨kN, hkN, -⟩ := Vm.findClass_spec hfN
      obtain ⟨kc', hkc', -⟩ := hal.2.2 _ _ hkc
      obtain ⟨kN', hkN', -⟩ := hal.2.2 _ _ hkN
      have hobj : ∀ z, cell.vm ≠ .statics z := fun z hz => by rw [hz] at hvm; cases hvm
      have step : ∀ (Q : Handler → Pre) (E : CtlPost) (d : Bool) (acts : List Action), wp (findHandler.go f a (x :: t)) Q E e d acts S ↔ if vm₁.assignable cell.cls cN = true then Q (.found x.handlerPc) d acts (S.setVm vm₁) else wp (findHandler.go f a t) Q E e d acts (S.setVm vm₁) := by
        intro Q E d acts
        rw [sGo_cold hx h0 hg₁ hready₁ hsz]
        exact W.findHandler_go_class (s := S.setVm vm₁) hx h0 hready₁ hcell hobj ⟨kc', hkc'⟩ ⟨kN', hkN'⟩
      by_cases hjk : j = k
      · subst hjk
        have hpk' : hp = hp' := by
          simp only [sPick, if_pos] at hpk
          exact (Option.some.inj hpk).symm
        subst hpk'
        cases hfN.symm.trans hcl
        refine ⟨vm₁, hwarm₁, fun Q E d acts => ?_⟩
        rw [step, if_pos (by rw [hal.assignable]; exact hN.1 j hj _ hcl)]
        have hhp : x.handlerPc = hp := hhp
        rw [hhp]
      · have hpk' : sPick rs k = some hp := by
          simp only [sPick, if_neg hjk] at hpk
          exact hpk
        obtain ⟨vm', hW', hgo⟩ := ih rs hp (S.setVm vm₁) hrest hpk' hwarm₁ hcell
        refine ⟨vm', hW', fun Q E d acts => ?_⟩
        rw [step, if_neg (by rw [hal.assignable, hN.2 k j hk hj (fun z => hjk z.symm) _ _ hcl hfN]; decide), hgo]
        rfl
/-- a handler is found, and the tables are warmer then -/
theorem sCatchStep {e : Env} {s : State} {a : Addr} {f : JFrame} {r : List Frame} {pc : Nat} {vm' : Vm} (hfind : ∀ (Q : Handler → Pre) (E : CtlPost) (d : Bool) (acts : List Action), wp (findHandler f a) Q E e d acts s ↔ Q (.found pc) d acts (s.setVm vm')) :
    (stepThrowing e s a (.java f :: r)).Is ((s.setVm vm').setFrames (.java { f with pc := pc, stack := [.ref a] } :: r)) [] := by
  simp only [stepThrowing, searchFrame, vmDo]
  generalize hr : Sem.go _ e false [] s = res
  obtain ⟨as, rfl, ha⟩ := Sem.eq_ok_of hr (a := Handler.found pc) (s' := s.setVm vm') (acts' := []) (by simp [hfind _ _ _ _])
  exact ⟨rfl, ha⟩
theorem sCaught {tb : Tables} {e : Env} {s target : State} {g : JFrame} {c : Code} {below : List Frame} {a : Addr} {vm' : Vm} (h : At s g.method c below) {pc : Nat} (hfind : ∀ (Q : Handler → Pre) (E : CtlPost) (d : Bool) (acts : List Action), wp (findHandler g a) Q E e d acts ((s.setTop g).pushFrame (.throwing a)) ↔ Q (.found pc) d acts (((s.setTop g).pushFrame (.throwing a)).setVm vm'))
    (hrest : Steps tb e below ((s.setVm vm').setTop { g with pc := pc, stack := [.ref a] }) target) : Steps tb e below ((s.setTop g).pushFrame (.throwing a)) target := by
  obtain ⟨hgo, hw⟩ := h.throwing a
  refine Steps.head hgo hw ?_
  rw [stepThread_throwing (frames_entered h.top _), (sCatchStep (s := (s.setTop g).pushFrame (.throwing a)) hfind).1]
  obtain ⟨g₀, hg⟩ := Option.isSome_iff_exists.mp h.top
  obtain ⟨r, hr⟩ := State.topJava?_eq_some.mp hg
  have hr' : (s.setVm vm').frames = .java g₀ :: r := hr
  rw [State.setTop_of_frames _ hr'] at hrest
  rw [State.pushFrame, State.setTop_of_frames _ hr]
  have e1 : ∀ F : List Frame, (((s.setFrames (.java g :: r)).setFrames F).setVm vm') = ((s.setVm vm').setFrames (.java g :: r)).setFrames F := fun _ => rfl
  rw [e1, State.setFrames_setFrames, State.setFrames_setFrames, hr]
  exact hrest
