/-! A constructor that ends with a call of its own method; the grown world as a world with a heap. -/
def sKv : Value → sKd
  | .int _ => none
  | .long _ => some none
  | .ref j => some (some j)
  | _ => none
def sZv : Value → Bool
  | .int x => decide (x = 0)
  | .long x => decide (x = 0)
  | .ref _ => true
  | _ => false
def sGly : sGe → (Nat × Nat) ⊕ (Nat × List sKd)
  | .inl x => .inl x
  | .inr (ci, fs) => .inr (ci, fs.map sKv)
def sGz : sGe → Bool
  | .inl _ => true
  | .inr (_, fs) => fs.all sZv
def h00 : sHp := (fun _ _ => 0, fun _ _ => 0)
theorem sFd_zero {ad : Nat → Nat} {i k : Nat} {v : Value} (hv : sZv v = true) : sFd ad h00 i k (sKv v) = sV ad v := by
  cases v with
  | int x => simp only [sZv, decide_eq_true_eq] at hv; subst hv; rfl
  | long x => simp only [sZv, decide_eq_true_eq] at hv; subst hv; rfl
  | ref j => rfl
  | _ => cases hv
theorem sGc_cl {cA : Nat → ClassId} {ad : Nat → Nat} {i : Nat} {e : sGe} (he : sGz e = true) : sGc cA ad e = sCl cA ad h00 i (sGly e) := by
  rcases e with ⟨t, n⟩ | ⟨ci, fs⟩
  · rfl
  · simp only [sGc, sGly, sCl]
    congr 2
    apply List.ext_getElem?
    intro k
    rw [List.getElem?_map, List.getElem?_mapIdx, List.getElem?_map]
    cases hk : fs[k]? with
    | none => rfl
    | some v => exact congrArg some (sFd_zero (List.all_eq_true.mp he v (List.mem_of_getElem? hk))).symm
theorem sGw_wd {cA : Nat → ClassId} {ad : Nat → Nat} {g : List sGe} {ly : sLy} (hz : g.all sGz = true) (hl : g.map sGly = ly) : sGw cA ad g = sWd ly cA ad h00 := by
  subst hl
  apply List.ext_getElem?
  intro k
  cases hk : g[k]? with
  | none => simp [sGw, sWd, List.getElem?_mapIdx, hk]
  | some e => rw [sGw_at hk, sWd_at (e := sGly e) (by rw [List.getElem?_map, hk]; rfl), sGc_cl (List.all_eq_true.mp hz e (List.mem_of_getElem? hk))]
def sQw (Z : sZo) (D : va_G) (cA : Nat → ClassId) (a0 sz : Nat) (h1 : sHp) : Array Value → State → Outcome → State → Prop := fun _ st oc t => oc = .returned none ∧ (∃ ad : Nat → Nat, ad 0 = a0 ∧ va_P D Z.1 (sWd Z.2 cA ad h1) t.heap ∧ va_D (sGA a0 sz) (sWd Z.2 cA ad h1)) ∧ va_F (sGA a0 sz) st t
def sIw (Z : sZo) (y : MethodName) (cc : ByteArray) (rm : Room) (ci : Nat) (fs : List Value) (h1 : sHp) : Prop :=
  ∀ (l : Launch) (D : va_G) (cA : Nat → ClassId) (a0 sz : Nat), Met l y [.code y cc 1 none] rm (sPg Z.1 D cA a0 sz ci fs) (sQw Z D cA a0 sz h1) rm.cells rm.slots (sGA a0 sz)
theorem sIw_of {Z : sZo} {y : MethodName} {cc : ByteArray} {rm : Room} {ci : Nat} {fs : List Value} {h1 : sHp} {own : String} (ho : y.cls = own) (hn : y.name = "<init>") (hy : plainName y.cls = true) (hf0 : fs.all (sWfV 0) = true)
    (body : ∀ (p : Program) (l : Launch) (e : Env) (R : Room) (s : State) (m : MethodId) (args : Array Value) (below : List Frame) (meth : Method) (c : Code) (ls : Array Slot) (D : va_G) (cA : Nat → ClassId) (a0 : Nat), sOkg Z.1 D cA p R s m meth c ls a0 cc own rm → sG Z.1 D cA p l e R s m args below meth c ls a0 (MQ below (sQw Z D cA a0 s.heap.size h1) args s rm.cells rm.slots (sGA a0 s.heap.size)) 0 [] [.inr (ci, fs)] 0 0) : sIw Z y cc rm ci fs h1 := by
  subst ho
  intro l D cA a0 sz
  refine Met.ofW (cc := cc) (maxL := 1) (ret := none) hy rfl ?_
  intro p e s m args below meth c s₁ B hml hv
  obtain ⟨rfl, hsz, hT, hK, hP⟩ := hv
  subst hsz
  have hl := lv_entry ([Value.ref a0]) (n := 1) (Nat.le_of_ble_eq_true rfl)
  rw [lg_entry_eq]
  have hin : meth.name = "<init>" := by rw [(name_of_methodNamed B.named B.method).1]; exact hn
  have hfm : fs.map (sV (fun _ => a0)) = fs := by
    have h3 : ∀ v ∈ fs, sV (fun _ => a0) v = v := by
      intro v hv
      have h9 := List.all_eq_true.mp hf0 v hv
      cases v with
      | ref i => simp [sWfV] at h9
      | _ => rfl
    exact (List.map_congr_left h3).trans (List.map_id fs)
  have heq : sGw cA (fun _ => a0) [.inr (ci, fs)] = [(a0, .inr (ci, fs))] := by
    show [(a0, sGc cA (fun _ => a0) (.inr (ci, fs)))] = _
    simp only [sGc, hfm]
  have hD : va_D (sGA a0 s.heap.size) [(a0, .inr (ci, fs))] := by
    refine ⟨fun i j p q hp hq _ => ?_, fun k q hq => ?_⟩
    · have h1 : i < 1 := (List.getElem?_eq_some_iff.mp hp).1
      have h2 : j < 1 := (List.getElem?_eq_some_iff.mp hq).1
      omega
    · have h1 : k < 1 := (List.getElem?_eq_some_iff.mp hq).1
      have h2 : k = 0 := by omega
      subst h2
      cases hq
      exact Or.inl rfl
  exact body p l e rm s m _ below meth c _ D cA a0 ⟨B.exec, B.bytes, hml, findClass_of_methodNamed B.named, hT, hK, B.notSynchronized, B.returns, hin, rfl, hl⟩ (fun _ => a0) s.heap [] rfl (by rw [heq]; exact hP) (by rw [heq]; exact hD) va_S.rf
section GF
variable {p : Program} {l : Launch} {e : Env} {R : Room} {s : State} {m : MethodId} {args : Array Value} {below : List Frame} {meth : Method} {c : Code} {Z : sZo} {D : va_G} {cA : Nat → ClassId} {a0 : Nat} {ls : Array Slot} {pc cs sl : Nat} {g : List sGe} {cc : ByteArray} {own : String} {rm : Room}
theorem g_fin (O : sOkg Z.1 D cA p R s m meth c ls a0 cc own rm) {idx : Nat} {y : MethodName} {cc' : ByteArray} {rm' : Room} {h1 : sHp} {X : Option sHp} {ci N : Nat} {ks : List sKd} {C : String} {T : u_T} (hz : g.all sGz = true) (hgl : g.map sGly = Z.2) (hM : sM Z sOv y cc' 1 none rm' [.ref 0] h00 X) (hX : X = some h1) (cw : sCw own idx y cc' 1 none rm' rm 0) (hst : Cond.instanceMethod y ∈ sTB) (hse : Cond.selects C y y ∈ sTB) (g1 : Z.2[0]? = some (.inr (ci, ks))) (g3 : Z.1[ci]? = some (C, T, N)) (hr : cs ≤ rm.cells ∧ sl ≤ rm.slots) (d : decode cc pc = .ok (.invokevirtual idx, 3)) (d2 : decode cc (pc + 3) = .ok (.return_, 1)) :
    sG Z.1 D cA p l e R s m args below meth c ls a0 (MQ below (sQw Z D cA a0 s.heap.size h1) args s rm.cells rm.slots (sGA a0 s.heap.size)) pc [.ref 0] g cs sl := by
  obtain ⟨o1, o2, o3, o4, o5, o6, o7, o8, o9, o10, o11⟩ := O
  subst o10
  obtain ⟨c1, c2, c3, c4, c5, c6, c7, c8⟩ := cw
  intro ad H locs h0 hP hD hS
  rw [sGw_wd hz hgl] at hP hD
  have hap : sApart Z.2 ad := fun i j hi hj he => hD.1 i j _ _ (sWd_at (List.getElem?_eq_getElem hi)) (sWd_at (List.getElem?_eq_getElem hj)) he
  have hm := hM l (D, cA, ad) h1 hX
  have hcell : ∃ cellB : Cell, H[ad 0]? = some cellB ∧ cellB.vm.isStatics = false ∧ s.vm.findClass C = some cellB.cls := by
    obtain ⟨r, h1, cell, q1, q2, q3, q4⟩ := hP 0 _ (sWd_at g1)
    obtain ⟨hSl, hfc, kC, hkC, hkind⟩ := o6.1 ci _ g3
    exact ⟨cell, q1, by rw [q3]; rfl, by rw [q2]; exact hfc⟩
  have hpre : PreV s H C (ad 0) (sPc Z (D, cA, ad) [.ref 0] h00) [] := ⟨sPc_blind Z (D, cA, ad) _ h00, hcell, fun U hU hW => ⟨rfl, sTab_warm hW o5, va_K.moved hW.alike o6, hap, by rw [hU]; exact hP⟩⟩
  have hcode : (Cond.code y cc' 1 none).before args s = true := sTab_use o5 c3 rfl args
  have hini : (Cond.initialized y.cls).before args s = true := sTab_use o5 c2 rfl args
  have hinst : (Cond.instanceMethod y).before args s = true := sTab_use o5 hst rfl args
  have hsel : (Cond.selects C y y).before args s = true := sTab_use o5 hse rfl args
  have hwt : 2 * (F0 m pc ls ([Value.ref 0].map (sV ad))).monitorRoom + (([] : List Value).map fun v => v.category).sum ≤ 8 := lv_room (by decide)
  have key : va_Run p l e R s m args below meth c H locs cs sl 0 0 (F0 m pc ls ([Value.ref 0].map (sV ad))) [] (sQr Z (D, cA, ad) none h1 (Value.ref (ad 0) :: []).toArray) (sAr Z.2 ad) := by
    rcases c1 with c1 | ⟨host, c1⟩
    · exact va_runV (n := 0) (C := C) (bytes := cc') (maxL := 1) (ret := none) ⟨o1, o2, o3, o4, (fun w (hw : w ∈ ([] : List Cond)) => by cases hw)⟩ hm ⟨⟨c6.1, c6.2, c7, c8, sCodeW hcode, List.mem_singleton.mpr rfl, hcode, hini, c4, sDesc c5, sTab_use o5 c1 rfl args⟩, hinst, hsel⟩ hpre rfl rfl o11.1 rfl hwt d hr
    · exact va_runVN (n := 0) (C := C) (bytes := cc') (maxL := 1) (ret := none) (host := host) ⟨o1, o2, o3, o4, (fun w (hw : w ∈ ([] : List Cond)) => by cases hw)⟩ hm ⟨⟨⟨c6.1, c6.2, c7, c8, sCodeW hcode, List.mem_singleton.mpr rfl⟩, hcode, hini, c4, sDesc c5, sTab_use o5 c1 rfl args⟩, hinst, hsel⟩ hpre rfl rfl o11.1 rfl hwt d hr
  have hsub : ∀ q, sAr Z.2 ad q → sGA a0 s.heap.size q := by
    rintro q ⟨i, hi, rfl⟩
    exact hD.2 i _ (sWd_at (List.getElem?_eq_getElem hi))
  intro Tt hT Xx
  obtain ⟨v, st₀, t, T', L, h9, X', hL, e1, e2, ⟨hv, hp, hz2, hk⟩, stp⟩ := key Tt hT Xx
  cases hv
  rw [h9] at hz2 hk
  have hS2 : va_S (sGA a0 s.heap.size) s.heap T'.heap (locs ++ L) := by
    refine ⟨by rw [e1]; exact Nat.le_trans hS.1 hz2, fun q h1 h2 => ?_, fun q hq => ?_⟩
    · rw [e1, hk q (Nat.lt_of_lt_of_le h1 hS.1) (fun z => h2 (hsub q z))]
      exact hS.2.1 q h1 h2
    · rcases List.mem_append.mp hq with h | h
      · exact hS.2.2 q h
      · exact hsub _ (hL q h)
  have hD2 : va_D (sGA a0 s.heap.size) (sWd Z.2 cA ad h1) := by
    refine ⟨(sD_of hap h1).1, fun k q hq => hsub _ ((sD_of (cA := cA) hap h1).2 k q hq)⟩
  have hP2 : va_P D Z.1 (sWd Z.2 cA ad h1) T'.heap := by rw [e1]; exact hp
  have kk : W p l e R s m args below meth c T'.heap (locs ++ L) cs sl (MQ below (sQw Z D cA a0 s.heap.size h1) args s R.cells R.slots (sGA a0 s.heap.size)) (F0 m (pc + 3) ls []) := W.widen hr.1 hr.2 (W.vret o1 o2 o8 (fun t ht _ => ⟨rfl, ⟨ad, h0, by rw [ht]; exact hP2, hD2⟩, hS2.F ht⟩) hS2.2.2 d2 o7)
  obtain ⟨t2, a1, b1⟩ := kk T' rfl X'
  exact ⟨t2, stp t2 a1, b1⟩
end GF
