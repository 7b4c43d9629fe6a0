/-! A contract over a world holds over a world that has it within. -/
theorem sMono {l : Launch} {y : MethodName} {ws : List Cond} {rm : Room} {P P' : Array Value → State → Prop} {Q Q' : Array Value → State → Outcome → State → Prop} {mc ms : Nat} {A A' : Addr → Prop} (hM : Met l y ws rm P Q mc ms A) (hP : ∀ a U, P' a U → P a U) (hQ : ∀ a U o t, P' a U → Q a U o t → Q' a U o t) (hA : ∀ q, A q → A' q) : Met l y ws rm P' Q' mc ms A' := by
  intro p e ha hc hk s m args below hf hS hp hK
  obtain ⟨n, o, h1, h2, h3, ⟨h4, L, h5, h6⟩⟩ := hM p e ha hc hk s m args below hf hS (hP _ _ hp) trivial
  exact ⟨n, o, h1, h2, h3, hQ _ _ _ _ hp h4, L, h5, fun q hq => hA _ (h6 q hq)⟩
def shK (di : Nat) : sKd → sKd
  | some (some j) => some (some (j + di))
  | d => d
def shE (dc di : Nat) : (Nat × Nat) ⊕ (Nat × List sKd) → (Nat × Nat) ⊕ (Nat × List sKd)
  | .inl x => .inl x
  | .inr (ci, ks) => .inr (ci + dc, ks.map (shK di))
def shV (di : Nat) : Value → Value
  | .ref j => .ref (j + di)
  | v => v
def shD (dc : Nat) (D : va_G) : va_G := (fun c => D.1 (c + dc), fun c => D.2 (c + dc))
def shA (di : Nat) (ad : Nat → Nat) : Nat → Nat := fun i => ad (i + di)
def sbH (di : Nat) (h : sHp) : sHp := (fun i => h.1 (i + di), fun i => h.2 (i + di))
def jnH (di N : Nat) (h h' : sHp) : sHp := (fun i => if di ≤ i ∧ i < di + N then h'.1 (i - di) else h.1 i, fun i => if di ≤ i ∧ i < di + N then h'.2 (i - di) else h.2 i)
def sSub (Z1 Z : sZo) (dc di : Nat) : Prop := (∀ c, c < Z1.1.length → Z.1[c + dc]? = Z1.1[c]?) ∧ (∀ i e, Z1.2[i]? = some e → Z.2[i + di]? = some (shE dc di e)) ∧ ∀ (i ci : Nat) (ks : List sKd), Z1.2[i]? = some (Sum.inr (ci, ks)) → ci < Z1.1.length
theorem jnH_self (di N : Nat) (h : sHp) : jnH di N h (sbH di h) = h := by
  obtain ⟨h1, h2⟩ := h
  simp only [jnH, sbH]
  congr 1
  · funext i
    split
    · rename_i q; rw [Nat.sub_add_cancel q.1]
    · rfl
  · funext i
    split
    · rename_i q; rw [Nat.sub_add_cancel q.1]
    · rfl
theorem jnH_in {di N k : Nat} {h h' : sHp} (hk : k < N) : (jnH di N h h').1 (k + di) = h'.1 k ∧ (jnH di N h h').2 (k + di) = h'.2 k := by
  have h1 : di ≤ k + di ∧ k + di < di + N := ⟨Nat.le_add_left _ _, by omega⟩
  simp only [jnH, if_pos h1, Nat.add_sub_cancel, and_self]
theorem jnH_out {di N i : Nat} {h h' : sHp} (hi : ¬ (di ≤ i ∧ i < di + N)) : (jnH di N h h').1 i = h.1 i ∧ (jnH di N h h').2 i = h.2 i := by
  simp only [jnH, if_neg hi, and_self]
section LF
variable {Z1 Z : sZo} {dc di : Nat} {D : va_G} {cA : Nat → ClassId} {ad : Nat → Nat}
theorem sV_sh (v : Value) : sV ad (shV di v) = sV (shA di ad) v := by cases v <;> rfl
theorem sAt_sh (hS : sSub Z1 Z dc di) {k : Nat} {e : (Nat × Nat) ⊕ (Nat × List sKd)} {h1 h2 : sHp} {H : Heap} (he : Z1.2[k]? = some e) (e1 : h2.1 (k + di) = h1.1 k) (e2 : h2.2 (k + di) = h1.2 k) : va_at D Z.1 (ad (k + di), sCl cA ad h2 (k + di) (shE dc di e)) H ↔ va_at (shD dc D) Z1.1 (ad (k + di), sCl cA (shA di ad) h1 k e) H := by
  rcases e with ⟨t, n⟩ | ⟨ci, ks⟩
  · have hq : sCl cA ad h2 (k + di) (shE dc di (.inl (t, n))) = sCl cA (shA di ad) h1 k (.inl (t, n)) := by
      simp only [shE, sCl, e1, e2]
    rw [hq]
    exact Iff.rfl
  · have hf : (ks.map (shK di)).mapIdx (sFd ad h2 (k + di)) = ks.mapIdx (sFd (shA di ad) h1 k) := by
      apply List.ext_getElem?
      intro j
      rw [List.getElem?_mapIdx, List.getElem?_map, List.getElem?_mapIdx]
      cases ks[j]? with
      | none => rfl
      | some d =>
        rcases d with _ | _ | j'
        · show some (Value.int (h2.1 (k + di) j)) = some (Value.int (h1.1 k j)); rw [e1]
        · show some (Value.long (h2.2 (k + di) j)) = some (Value.long (h1.2 k j)); rw [e2]
        · rfl
    have hc := hS.1 ci (hS.2.2 k ci ks he)
    show (∃ r : vw_C, Z.1[ci + dc]? = some r ∧ t_OB (ad (k + di)) (D.1 (ci + dc)) r.2.2 (D.2 (ci + dc)) H (vp_V ((ks.map (shK di)).mapIdx (sFd ad h2 (k + di))))) ↔ (∃ r : vw_C, Z1.1[ci]? = some r ∧ t_OB (ad (k + di)) (D.1 (ci + dc)) r.2.2 (D.2 (ci + dc)) H (vp_V (ks.mapIdx (sFd (shA di ad) h1 k))))
    rw [hc, hf]
theorem sP_down (hS : sSub Z1 Z dc di) {h : sHp} {H : Heap} (hP : va_P D Z.1 (sWd Z.2 cA ad h) H) : va_P (shD dc D) Z1.1 (sWd Z1.2 cA (shA di ad) (sbH di h)) H := by
  intro k q hq
  cases he : Z1.2[k]? with
  | none => simp [sWd, List.getElem?_mapIdx, he] at hq
  | some e =>
    rw [sWd_at he] at hq
    cases hq
    exact (sAt_sh hS he rfl rfl).mp (hP _ _ (sWd_at (hS.2.1 k e he)))
theorem sAp_down (hS : sSub Z1 Z dc di) (hA : sApart Z.2 ad) : sApart Z1.2 (shA di ad) := by
  intro i j hi hj he
  have h1 := (List.getElem?_eq_some_iff.mp (hS.2.1 i _ (List.getElem?_eq_getElem hi))).1
  have h2 := (List.getElem?_eq_some_iff.mp (hS.2.1 j _ (List.getElem?_eq_getElem hj))).1
  have := hA _ _ h1 h2 he
  omega
theorem sAr_up (hS : sSub Z1 Z dc di) : ∀ q, sAr Z1.2 (shA di ad) q → sAr Z.2 ad q := by
  rintro q ⟨i, hi, rfl⟩
  exact ⟨i + di, (List.getElem?_eq_some_iff.mp (hS.2.1 i _ (List.getElem?_eq_getElem hi))).1, rfl⟩
theorem sK_down (hS : sSub Z1 Z dc di) {U : State} (hK : va_K D Z.1 (sTy cA) U) : va_K (shD dc D) Z1.1 (sTy cA) U := by
  refine ⟨fun c q hq => ?_, hK.2⟩
  have hc := (List.getElem?_eq_some_iff.mp hq).1
  exact hK.1 (c + dc) q (by rw [hS.1 c hc]; exact hq)
theorem sP_up (hS : sSub Z1 Z dc di) (hA : sApart Z.2 ad) {h h' : sHp} {H H1 : Heap} (hP : va_P D Z.1 (sWd Z.2 cA ad h) H) (hP1 : va_P (shD dc D) Z1.1 (sWd Z1.2 cA (shA di ad) h') H1) (hk : ∀ q : Nat, q < H.size → ¬ sAr Z1.2 (shA di ad) q → H1[q]? = H[q]?) : va_P D Z.1 (sWd Z.2 cA ad (jnH di Z1.2.length h h')) H1 := by
  intro i q hq
  cases he : Z.2[i]? with
  | none => simp [sWd, List.getElem?_mapIdx, he] at hq
  | some e =>
    rw [sWd_at he] at hq
    cases hq
    by_cases hi : di ≤ i ∧ i < di + Z1.2.length
    · obtain ⟨k, rfl⟩ : ∃ k, i = k + di := ⟨i - di, by omega⟩
      have hkl : k < Z1.2.length := by omega
      have he1 := List.getElem?_eq_getElem hkl
      have he2 := hS.2.1 k _ he1
      rw [he] at he2
      cases he2
      exact (sAt_sh hS he1 (jnH_in hkl).1 (jnH_in hkl).2).mpr (hP1 k _ (sWd_at he1))
    · rw [sCl_same (jnH_out hi).1 (jnH_out hi).2]
      have h5 := hP i _ (sWd_at he)
      refine h5.kept (hk _ h5.lt ?_)
      rintro ⟨j, hj, hjj⟩
      have h6 := (List.getElem?_eq_some_iff.mp (hS.2.1 j _ (List.getElem?_eq_getElem hj))).1
      have h7 := hA i (j + di) (List.getElem?_eq_some_iff.mp he).1 h6 hjj
      exact hi ⟨by omega, by omega⟩
theorem sPc_down (hS : sSub Z1 Z dc di) {av : List Value} {h : sHp} {a : Array Value} {U : State} (hp : sPc Z (D, cA, ad) (av.map (shV di)) h a U) : sPc Z1 (shD dc D, cA, shA di ad) av (sbH di h) a U := by
  obtain ⟨h1, h2, h3, h4, h5⟩ := hp
  refine ⟨?_, h2, sK_down hS h3, sAp_down hS h4, sP_down hS h5⟩
  rw [h1, List.map_map]
  congr 1
  apply List.map_congr_left
  intro v _
  exact sV_sh v
theorem sQr_up (hS : sSub Z1 Z dc di) {av : List Value} {h h' : sHp} {o : Option Value} {a : Array Value} {U t : State} {oc : Outcome} (hp : sPc Z (D, cA, ad) (av.map (shV di)) h a U) (hq : sQr Z1 (shD dc D, cA, shA di ad) o h' a U oc t) : sQr Z (D, cA, ad) o (jnH di Z1.2.length h h') a U oc t := by
  obtain ⟨q1, q2, q3⟩ := hq
  obtain ⟨h1, h2, h3, h4, h5⟩ := hp
  exact ⟨q1, sP_up hS h4 h5 q2 q3.2, q3.1, fun q hq hn => q3.2 q hq (fun z => hn (sAr_up hS q z))⟩
end LF
theorem sLift {ρ : Type} {Z1 Z : sZo} {dc di : Nat} (hS : sSub Z1 Z dc di) {fin fin2 : ρ → Option Value × sHp} {y : MethodName} {cc : ByteArray} {nL : Nat} {ret : Option FieldType} {rm : Room} {av : List Value} {h : sHp} {X : Option ρ} (hM : sM Z1 fin y cc nL ret rm av (sbH di h) X) (hf : ∀ r, fin2 r = ((fin r).1, jnH di Z1.2.length h (fin r).2)) : sM Z fin2 y cc nL ret rm (av.map (shV di)) h X := by
  intro l V r hX
  obtain ⟨D, cA, ad⟩ := V
  rw [hf r]
  exact sMono (hM l (shD dc D, cA, shA di ad) r hX) (fun a U hp => sPc_down hS hp) (fun a U o t hp hq => sQr_up hS hp hq) (sAr_up hS)
theorem sMap {ρ β : Type} {Z : sZo} {fin : ρ → Option Value × sHp} {fin2 : β → Option Value × sHp} {y : MethodName} {cc : ByteArray} {nL : Nat} {ret : Option FieldType} {rm : Room} {av : List Value} {h : sHp} {X : Option ρ} (f : ρ → β) (hf : ∀ r, fin2 (f r) = fin r) (hM : sM Z fin y cc nL ret rm av h X) : sM Z fin2 y cc nL ret rm av h (X.map f) := by
  intro l V b hX
  cases hx : X with
  | none => rw [hx] at hX; cases hX
  | some r =>
    rw [hx] at hX
    cases hX
    rw [hf r]
    exact hM l V r hx
section LI
variable {Z1 Z : sZo} {dc di : Nat} {y : MethodName} {cc : ByteArray} {nL : Nat} {ret : Option FieldType} {rm : Room} {av : List Value} {h : sHp}
theorem sLi (hS : sSub Z1 Z dc di) {X : Option (Int32 × sHp)} (hM : sM Z1 sOi y cc nL ret rm av (sbH di h) X) : sM Z sOi y cc nL ret rm (av.map (shV di)) h (X.map fun r => (r.1, jnH di Z1.2.length h r.2)) :=
  sMap (fin := fun r : Int32 × sHp => ((sOi r).1, jnH di Z1.2.length h (sOi r).2)) _ (fun _ => rfl) (sLift hS hM (fun _ => rfl))
theorem sLv' (hS : sSub Z1 Z dc di) {X : Option sHp} (hM : sM Z1 sOv y cc nL ret rm av (sbH di h) X) : sM Z sOv y cc nL ret rm (av.map (shV di)) h (X.map fun r => jnH di Z1.2.length h r) :=
  sMap (fin := fun r : sHp => ((sOv r).1, jnH di Z1.2.length h (sOv r).2)) _ (fun _ => rfl) (sLift hS hM (fun _ => rfl))
theorem sLip (hS : sSub Z1 Z dc di) {X : Option Int32} (hM : sM Z1 (sPi (sbH di h)) y cc nL ret rm av (sbH di h) X) : sM Z (sPi h) y cc nL ret rm (av.map (shV di)) h X :=
  sLift hS hM (fun r => by show (some (Value.int r), h) = (some (Value.int r), jnH di Z1.2.length h (sbH di h)); rw [jnH_self])
theorem sZ1.sub {nm ds : String} {A A' : Nat → Prop} {U : State} {H : Heap} (h : sZ1 nm ds A U H) (hA : ∀ q, A' q → A q) : sZ1 nm ds A' U H := by
  obtain ⟨a, cell, h1, h2, h3⟩ := h
  exact ⟨a, cell, h1, fun z => h2 (hA _ z), h3⟩
theorem sLh (hS : sSub Z1 Z dc di) {hs : List (Nat × Nat × Nat × Nat)} {X : Option (Int32 × sHp)} (hM : sMh Z1 y cc nL hs rm av (sbH di h) X) : sMh Z y cc nL hs rm (av.map (shV di)) h (X.map fun r => (r.1, jnH di Z1.2.length h r.2)) := by
  intro l V b hfl hX
  obtain ⟨D, cA, ad⟩ := V
  cases hx : X with
  | none => rw [hx] at hX; cases hX
  | some r =>
    rw [hx] at hX
    cases hX
    refine sMono (hM l (shD dc D, cA, shA di ad) r hfl hx) (fun a U hp => ?_) (fun a U o t hp hq => sQr_up hS hp.1.1 hq) (sAr_up hS)
    obtain ⟨⟨hp1, hp2⟩, hp3⟩ := hp
    exact ⟨⟨sPc_down hS hp1, hp2.1.sub (sAr_up hS), hp2.2.sub (sAr_up hS)⟩, hp3⟩
end LI
