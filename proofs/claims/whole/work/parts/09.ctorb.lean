/-- the callee's numbers of cells as the caller's: its own object is i, what it made comes behind -/
def sRv (n i : Nat) : Value → Value
  | .ref j => .ref (if j = 0 then i else n + j - 1)
  | v => v
def sRe (n i : Nat) : sGe → sGe
  | .inl x => .inl x
  | .inr (ci, fs) => .inr (ci, fs.map (sRv n i))
section GD
variable {p : Program} {l : Launch} {e : Env} {R : Room} {s : State} {m : MethodId} {args : Array Value} {below : List Frame} {meth : Method} {c : Code} {Q : State → Prop} {cl : List vw_C} {D : va_G} {cA : Nat → ClassId} {a0 : Nat} {ls : Array Slot} {pc cs sl : Nat} {st : List Value} {g g' : List sGe} {cc : ByteArray} {own : String} {rm : Room}
theorem sRv_ok {ad adc ad2 : Nat → Nat} {n i K : Nat} (h1 : ad2 i = adc 0) (h2 : ∀ k, 1 ≤ k → k < K → ad2 (n + k - 1) = adc k) {v : Value} (hv : sWfV K v = true) : sV ad2 (sRv n i v) = sV adc v := by
  cases v with
  | ref j =>
    simp only [sWfV, decide_eq_true_eq] at hv
    by_cases hj : j = 0
    · subst hj
      simp [sRv, sV, h1]
    · simp only [sRv, sV, if_neg hj]
      rw [h2 j (Nat.pos_of_ne_zero hj) hv]
  | _ => rfl
theorem sRe_ok {ad adc ad2 : Nat → Nat} {n i K : Nat} (h1 : ad2 i = adc 0) (h2 : ∀ k, 1 ≤ k → k < K → ad2 (n + k - 1) = adc k) {x : sGe} (hx : sWfE K x = true) : sGc cA ad2 (sRe n i x) = sGc cA adc x := by
  rcases x with ⟨t, k⟩ | ⟨ci, fs⟩
  · rfl
  · simp only [sRe, sGc, List.map_map]
    congr 2
    apply List.map_congr_left
    intro v hv
    exact sRv_ok (ad := ad) h1 h2 (List.all_eq_true.mp hx v hv)
theorem g_call (O : sOkg cl D cA p R s m meth c ls a0 cc own rm) {idx i ci : Nat} {fs : List Value} {y : MethodName} {cc' : ByteArray} {rm' : Room} {e0 : sGe} {gr : List sGe} (hgi : g[i]? = some (.inr (ci, fs))) (hf0 : fs.all (sWfV 0) = true) (hM : sI cl y cc' rm' ci fs (e0 :: gr)) (hgc : (e0 :: gr).all (sWfE (e0 :: gr).length) = true) (hy1 : y.name = "<init>")
    (w1 : Cond.methodLink own idx y ∈ sTB ∨ ∃ host, Cond.methodLinkNest own idx y host ∈ sTB) (w2 : Cond.initialized y.cls ∈ sTB) (w3 : Cond.code y cc' 1 none ∈ sTB) (w4 : Cond.instanceMethod y ∈ sTB) (hy : y.cls ≠ "java/lang/invoke/MethodHandle" ∧ y.cls ≠ "java/lang/invoke/VarHandle") (hds : (parseMethodDescriptor y.desc).map (fun d => d.parameters.length) = some 0) (hr : rm'.frames + 1 ≤ rm.frames ∧ 8 + (1 + 11) + rm'.locals ≤ rm.locals) (hcs : cs + rm'.cells ≤ rm.cells ∧ sl + rm'.slots ≤ rm.slots) (hw : g.all (sWfE g.length) = true ∧ st.all (sWfV g.length) = true) (hwt : (st.map fun v => v.category).sum ≤ 8) (d : decode cc pc = .ok (.invokespecial idx, 3)) (hg' : g.set i (sRe g.length i e0) ++ gr.map (sRe g.length i) = g')
    (k : sG cl D cA p l e R s m args below meth c ls a0 Q (pc + 3) st g' (cs + rm'.cells) (sl + rm'.slots)) : sG cl D cA p l e R s m args below meth c ls a0 Q pc (.ref i :: st) g cs sl := by
  obtain ⟨o1, o2, o3, o4, o5, o6, o7, o8, o9, o10, o11⟩ := O
  subst o10
  subst hg'
  intro ad H locs h0 hP hD hS
  have hi : i < g.length := (List.getElem?_eq_some_iff.mp hgi).1
  have hfm : fs.map (sV ad) = fs := by
    have h3 : ∀ v ∈ fs, sV ad v = v := by
      intro v hv
      have h9 := List.all_eq_true.mp hf0 v hv
      cases v with
      | ref i => simp [sWfV] at h9
      | _ => rfl
    exact (List.map_congr_left h3).trans (List.map_id fs)
  have hPi : va_at D cl (ad i, .inr (ci, fs)) H := by
    have h9 := hP i _ (sGw_at hgi)
    simp only [sGc, hfm] at h9
    exact h9
  have hpre : PreS s H (sPg cl D cA (ad i) H.size ci fs) (.ref (ad i) :: []) := ⟨sPg_blind cl D cA (ad i) H.size ci fs, fun U hU hW => ⟨rfl, by rw [hU], sTab_warm hW o5, va_K.moved hW.alike o6, fun k q hq => by
    have h1 : k < 1 := (List.getElem?_eq_some_iff.mp hq).1
    have h2 : k = 0 := by omega
    subst h2
    cases hq
    rw [hU]
    exact hPi⟩⟩
  have hcode : (Cond.code y cc' 1 none).before args s = true := sTab_use o5 w3 rfl args
  have hini : (Cond.initialized y.cls).before args s = true := sTab_use o5 w2 rfl args
  have hinst : (Cond.instanceMethod y).before args s = true := sTab_use o5 w4 rfl args
  have hwt2 : 2 * (F0 m pc ls ((Value.ref i :: st).map (sV ad))).monitorRoom + ((st.map (sV ad)).map fun v => v.category).sum ≤ 8 := lv_room (by rw [sV_sum]; exact hwt)
  have key : va_Run p l e R s m args below meth c H locs cs sl rm'.cells rm'.slots (F0 m pc ls ((Value.ref i :: st).map (sV ad))) (st.map (sV ad)) (sQg cl D cA (ad i) H.size (e0 :: gr) (Value.ref (ad i) :: []).toArray) (sGA (ad i) H.size) := by
    rcases w1 with w1 | ⟨host, w1⟩
    · exact va_runI (n := 0) (nL := 1) (As := []) (bytes := cc') (maxL := 1) ⟨o1, o2, o3, o4, (fun w (hw : w ∈ ([] : List Cond)) => by cases hw)⟩ (hM l D cA (ad i) H.size) ⟨⟨rfl, rfl, hr.1, hr.2, sCodeW hcode, List.mem_singleton.mpr rfl, hcode, hini, hy, sDesc hds, sTab_use o5 w1 rfl args⟩, hy1, hinst⟩ hpre rfl rfl o11.1 rfl hwt2 d hcs
    · exact va_runIN (n := 0) (nL := 1) (As := []) (bytes := cc') (maxL := 1) (host := host) ⟨o1, o2, o3, o4, (fun w (hw : w ∈ ([] : List Cond)) => by cases hw)⟩ (hM l D cA (ad i) H.size) ⟨⟨⟨rfl, rfl, hr.1, hr.2, sCodeW hcode, List.mem_singleton.mpr rfl⟩, hcode, hini, hy, sDesc hds, sTab_use o5 w1 rfl args⟩, hy1, hinst⟩ hpre rfl rfl o11.1 rfl hwt2 d hcs
  intro T hT X
  obtain ⟨v, st₀, t, T', L, z0, X', hL, e1, e2, ⟨hv, ⟨adc, hadc, hPc, hDc⟩, hz, hk⟩, stp⟩ := key T hT X
  cases hv
  rw [z0] at hz hk
  obtain ⟨ad2, had2⟩ : ∃ f : Nat → Nat, f = (fun j => if j < g.length then ad j else adc (j - g.length + 1)) := ⟨_, rfl⟩
  have hi2 : ∀ j, j < g.length → ad2 j = ad j := fun j hj => by rw [had2]; simp [hj]
  have hadr : ad2 i = adc 0 := by rw [hi2 i hi]; exact hadc.symm
  have hadn : ∀ q, 1 ≤ q → q < (e0 :: gr).length → ad2 (g.length + q - 1) = adc q := fun q h1 h2 => by
    have h3 : ¬ g.length + q - 1 < g.length := by omega
    rw [had2]
    simp only [if_neg h3]
    congr 1
    omega
  have hnew : ∀ q, 1 ≤ q → q < (e0 :: gr).length → H.size ≤ adc q := fun q h1 h2 => by
    obtain ⟨x, hx⟩ : ∃ x, (e0 :: gr)[q]? = some x := ⟨(e0 :: gr)[q], List.getElem?_eq_getElem h2⟩
    rcases hDc.2 q _ (sGw_at hx) with h3 | h3
    · have h4 := hDc.1 q 0 _ _ (sGw_at hx) (sGw_at (cA := cA) (ad := adc) (g := e0 :: gr) (i := 0) rfl) (by show adc q = adc 0; rw [hadc]; exact h3)
      omega
    · exact h3
  have hlen : (g.set i (sRe g.length i e0) ++ gr.map (sRe g.length i)).length = g.length + gr.length := by simp
  -- what stands at a place of the new world
  have hat : ∀ (j : Nat) (x : sGe), (g.set i (sRe g.length i e0) ++ gr.map (sRe g.length i))[j]? = some x → (j = i ∧ x = sRe g.length i e0) ∨ (j < g.length ∧ j ≠ i ∧ g[j]? = some x) ∨ (g.length ≤ j ∧ ∃ y, gr[j - g.length]? = some y ∧ x = sRe g.length i y) := by
    intro j x hx
    by_cases hj : j < g.length
    · rw [List.getElem?_append_left (by simpa using hj)] at hx
      by_cases hji : i = j
      · subst hji
        rw [List.getElem?_set_self hj] at hx
        exact Or.inl ⟨rfl, (Option.some.inj hx).symm⟩
      · rw [List.getElem?_set_ne hji] at hx
        exact Or.inr (Or.inl ⟨hj, fun z => hji z.symm, hx⟩)
    · rw [List.getElem?_append_right (by simpa using Nat.le_of_not_lt hj), List.length_set, List.getElem?_map] at hx
      cases hy : gr[j - g.length]? with
      | none => rw [hy] at hx; cases hx
      | some z => rw [hy] at hx; exact Or.inr (Or.inr ⟨Nat.le_of_not_lt hj, z, rfl, (Option.some.inj hx).symm⟩)
  have hP2 : va_P D cl (sGw cA ad2 (g.set i (sRe g.length i e0) ++ gr.map (sRe g.length i))) T'.heap := by
    intro j q hq
    obtain ⟨x, hx, rfl⟩ := sGw_inv hq
    rw [e1]
    rcases hat j x hx with ⟨rfl, rfl⟩ | ⟨hj, hji, hx2⟩ | ⟨hj, y', hy', rfl⟩
    · rw [sRe_ok (ad := ad) hadr hadn (List.all_eq_true.mp hgc e0 List.mem_cons_self), hadr]
      exact hPc 0 _ (sGw_at rfl)
    · rw [hi2 j hj, sGc_ext hi2 (List.all_eq_true.mp hw.1 x (List.mem_of_getElem? hx2))]
      have h5 := hP j _ (sGw_at hx2)
      refine h5.kept (hk _ h5.lt (fun h6 => ?_))
      rcases h6 with h6 | h6
      · exact hji (hD.1 j i _ _ (sGw_at hx2) (sGw_at hgi) h6)
      · exact absurd h5.lt (Nat.not_lt.mpr h6)
    · have h7 : (e0 :: gr)[j - g.length + 1]? = some y' := by rw [List.getElem?_cons_succ]; exact hy'
      have h8 := (List.getElem?_eq_some_iff.mp h7).1
      have h9 := hadn (j - g.length + 1) (by omega) h8
      rw [show g.length + (j - g.length + 1) - 1 = j by omega] at h9
      rw [sRe_ok (ad := ad) hadr hadn (List.all_eq_true.mp hgc y' (List.mem_of_getElem? h7)), h9]
      exact hPc _ _ (sGw_at h7)
  have hadj : ∀ (j : Nat) (x : sGe), (g.set i (sRe g.length i e0) ++ gr.map (sRe g.length i))[j]? = some x → (j < g.length ∧ ad2 j = ad j ∧ ad j < H.size) ∨ (g.length ≤ j ∧ j - g.length + 1 < (e0 :: gr).length ∧ ad2 j = adc (j - g.length + 1) ∧ H.size ≤ adc (j - g.length + 1)) := by
    intro j x hx
    rcases hat j x hx with ⟨rfl, rfl⟩ | ⟨hj, hji, hx2⟩ | ⟨hj, y', hy', rfl⟩
    · exact Or.inl ⟨hi, hi2 _ hi, (hP _ _ (sGw_at hgi)).lt⟩
    · exact Or.inl ⟨hj, hi2 j hj, (hP j _ (sGw_at hx2)).lt⟩
    · have h8 : j - g.length + 1 < (e0 :: gr).length := by
        have := (List.getElem?_eq_some_iff.mp hy').1
        simp; omega
      exact Or.inr ⟨hj, h8, by rw [had2]; simp [Nat.not_lt.mpr hj], hnew _ (by omega) h8⟩
  have hD2 : va_D (sGA a0 s.heap.size) (sGw cA ad2 (g.set i (sRe g.length i e0) ++ gr.map (sRe g.length i))) := by
    refine ⟨fun i1 j1 p1 q1 hp1 hq1 he => ?_, fun j q hq => ?_⟩
    · obtain ⟨x, hx, rfl⟩ := sGw_inv hp1
      obtain ⟨x', hx', rfl⟩ := sGw_inv hq1
      have he : ad2 i1 = ad2 j1 := he
      rcases hadj i1 x hx with ⟨a1, a2, a3⟩ | ⟨a1, a4, a2, a3⟩ <;> rcases hadj j1 x' hx' with ⟨b1, b2, b3⟩ | ⟨b1, b4, b2, b3⟩
      · rw [a2, b2] at he
        obtain ⟨y1, hy1'⟩ : ∃ y, g[i1]? = some y := ⟨g[i1], List.getElem?_eq_getElem a1⟩
        obtain ⟨y2, hy2'⟩ : ∃ y, g[j1]? = some y := ⟨g[j1], List.getElem?_eq_getElem b1⟩
        exact hD.1 i1 j1 _ _ (sGw_at hy1') (sGw_at hy2') he
      · rw [a2, b2] at he
        omega
      · rw [a2, b2] at he
        omega
      · rw [a2, b2] at he
        obtain ⟨y1, hy1'⟩ : ∃ y, (e0 :: gr)[i1 - g.length + 1]? = some y := ⟨_, List.getElem?_eq_getElem a4⟩
        obtain ⟨y2, hy2'⟩ : ∃ y, (e0 :: gr)[j1 - g.length + 1]? = some y := ⟨_, List.getElem?_eq_getElem b4⟩
        have h5 := hDc.1 _ _ _ _ (sGw_at hy1') (sGw_at hy2') he
        omega
    · obtain ⟨x, hx, rfl⟩ := sGw_inv hq
      rcases hadj j x hx with ⟨a1, a2, a3⟩ | ⟨a1, a4, a2, a3⟩
      · show sGA a0 s.heap.size (ad2 j)
        rw [a2]
        obtain ⟨y1, hy1'⟩ : ∃ y, g[j]? = some y := ⟨g[j], List.getElem?_eq_getElem a1⟩
        exact hD.2 j _ (sGw_at hy1')
      · show sGA a0 s.heap.size (ad2 j)
        rw [a2]
        exact Or.inr (Nat.le_trans hS.1 a3)
  have hS2 : va_S (sGA a0 s.heap.size) s.heap T'.heap (locs ++ L) := by
    have hAi : ∀ q, sGA (ad i) H.size q → sGA a0 s.heap.size q := fun q hq => by
      rcases hq with rfl | hq
      · exact hD.2 i _ (sGw_at hgi)
      · exact Or.inr (Nat.le_trans hS.1 hq)
    refine ⟨by rw [e1]; exact Nat.le_trans hS.1 hz, fun q h1 h2 => ?_, fun q hq => ?_⟩
    · rw [e1, hk q (Nat.lt_of_lt_of_le h1 hS.1) (fun z => h2 (hAi q z))]
      exact hS.2.1 q h1 h2
    · rcases List.mem_append.mp hq with h | h
      · exact hS.2.2 q h
      · exact hAi _ (hL q h)
  have h00 : ad2 0 = a0 := by rw [hi2 0 (by omega)]; exact h0
  obtain ⟨t2, a1, b1⟩ := k _ T'.heap (locs ++ L) h00 hP2 hD2 hS2 T' rfl X'
  rw [sVs_ext hi2 hw.2] at a1
  exact ⟨t2, stp t2 a1, b1⟩
end GD
