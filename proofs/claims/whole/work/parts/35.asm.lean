/-! The world at the law's loop: the class's cells in the layout's order, the law's out, the reference's cells. -/
def rnK (f : Nat → Nat) : sKd → sKd
  | some (some j) => some (some (f j))
  | d => d
def rnE (f : Nat → Nat) : (Nat × Nat) ⊕ (Nat × List sKd) → (Nat × Nat) ⊕ (Nat × List sKd)
  | .inl x => .inl x
  | .inr (ci, ks) => .inr (ci, ks.map (rnK f))
def rfK (n : Nat) : sKd → Bool
  | some (some j) => decide (j < n)
  | _ => true
def rfE (n : Nat) : (Nat × Nat) ⊕ (Nat × List sKd) → Bool
  | .inl _ => true
  | .inr (_, ks) => ks.all (rfK n)
theorem sCl_rn {cA : Nat → ClassId} {ad ad1 f : Nat → Nat} {h h' : sHp} {i i' n : Nat} {e : (Nat × Nat) ⊕ (Nat × List sKd)} (he : rfE n e = true) (hf : ∀ j, j < n → ad j = ad1 (f j)) (h1 : h.1 i = h'.1 i') (h2 : h.2 i = h'.2 i') : sCl cA ad1 h' i' (rnE f e) = sCl cA ad h i e := by
  rcases e with ⟨t, k⟩ | ⟨ci, ks⟩
  · simp only [rnE, sCl, h1, h2]
  · simp only [rnE, sCl]
    congr 2
    apply List.ext_getElem?
    intro k
    rw [List.getElem?_mapIdx, List.getElem?_map, List.getElem?_mapIdx]
    cases hk : ks[k]? with
    | none => rfl
    | some d =>
      have hd := List.all_eq_true.mp he d (List.mem_of_getElem? hk)
      rcases d with _ | _ | j
      · show some (Value.int (h'.1 i' k)) = some (Value.int (h.1 i k)); rw [h1]
      · show some (Value.long (h'.2 i' k)) = some (Value.long (h.2 i k)); rw [h2]
      · simp only [rfK, decide_eq_true_eq] at hd
        show some (Value.ref (ad1 (f j))) = some (Value.ref (ad j))
        rw [hf j hd]
theorem rnE_id (e : (Nat × Nat) ⊕ (Nat × List sKd)) : rnE (fun j => j) e = e := by
  rcases e with x | ⟨ci, ks⟩
  · rfl
  · have : rnK (fun j => j) = id := by
      funext d
      rcases d with _ | _ | j <;> rfl
    simp only [rnE, this, List.map_id]
def pS : List Nat := [0, 1, 2, 10, 16, 21, 31, 39, 40, 30, 3, 4, 5, 6, 7, 8, 9, 26, 27, 28, 29, 11, 12, 13, 14, 15, 17, 18, 19, 20, 22, 23, 24, 25, 32, 33, 34, 35, 36, 37, 38]
def pF (i : Nat) : Nat := pS.getD i 0
theorem pS_in : ∀ i, i < 41 → pF i < 41 := by decide +kernel
theorem pS_inj : ∀ i, i < 41 → ∀ j, j < 41 → pF i = pF j → i = j := by decide +kernel
theorem pS_at : ∀ i, i < 41 → (g_S_init_13[pF i]?).map sGly = (Zc.2[i]?).map (rnE pF)
  | 0, _ => rfl
  | 1, _ => rfl
  | 2, _ => rfl
  | 3, _ => rfl
  | 4, _ => rfl
  | 5, _ => rfl
  | 6, _ => rfl
  | 7, _ => rfl
  | 8, _ => rfl
  | 9, _ => rfl
  | 10, _ => rfl
  | 11, _ => rfl
  | 12, _ => rfl
  | 13, _ => rfl
  | 14, _ => rfl
  | 15, _ => rfl
  | 16, _ => rfl
  | 17, _ => rfl
  | 18, _ => rfl
  | 19, _ => rfl
  | 20, _ => rfl
  | 21, _ => rfl
  | 22, _ => rfl
  | 23, _ => rfl
  | 24, _ => rfl
  | 25, _ => rfl
  | 26, _ => rfl
  | 27, _ => rfl
  | 28, _ => rfl
  | 29, _ => rfl
  | 30, _ => rfl
  | 31, _ => rfl
  | 32, _ => rfl
  | 33, _ => rfl
  | 34, _ => rfl
  | 35, _ => rfl
  | 36, _ => rfl
  | 37, _ => rfl
  | 38, _ => rfl
  | 39, _ => rfl
  | 40, _ => rfl
  | n + 41, h => absurd h (by omega)
theorem gS_zero : g_S_init_13.all sGz = true := by decide +kernel
theorem zc_rf : Zc.2.all (rfE 41) = true := by decide +kernel
theorem zm_rf : Zm.2.all (rfE 42) = true := by decide +kernel
def adL (ad1 ad2 : Nat → Nat) (qO b : Nat) : Nat → Nat := fun i => if i < 41 then ad1 (pF i) else if i = 41 then qO else if i < 84 then ad2 (i - 42) else b
def hIn (h1 : sHp) : sHp := jnM h00 h1
theorem hIn_lo (h1 : sHp) {i : Nat} (hi : i < 42) : (hIn h1).1 i = (fun _ => 0) ∧ (hIn h1).2 i = (fun _ => 0) := by
  have := jnH_out (di := 42) (N := Zm.2.length) (i := i) (h := h00) (h' := h1) (by omega)
  exact ⟨this.1, this.2⟩
theorem zl_len : Zc.2.length = 42 ∧ Zm.2.length = 42 := ⟨rfl, rfl⟩
theorem sAsm {D : va_G} {cA : Nat → ClassId} {ad1 ad2 : Nat → Nat} {qO b : Nat} {H : Heap} {h1 : sHp} (hP1 : va_P D ZL.1 (sGw cA ad1 g_S_init_13) H) (hP2 : va_P (shD 6 D) Zm.1 (sWd Zm.2 cA ad2 h1) H) (hO : va_at D ZL.1 (qO, .inl (cA 2, 1, .inr (.inl (fun _ => 0)))) H) : va_P D ZL.1 (sWd ZL.2 cA (adL ad1 ad2 qO b) (hIn h1)) H := by
  intro i q hq
  obtain ⟨hi, -⟩ := sWd_addr hq
  rw [zl_n] at hi
  by_cases h41 : i < 41
  · obtain ⟨e, he⟩ : ∃ e, Zc.2[i]? = some e := ⟨Zc.2[i]'(by rw [zl_len.1]; omega), List.getElem?_eq_getElem _⟩
    have heL : ZL.2[i]? = some e := by
      show (Zc.2 ++ Zm.2.map (shE 6 42))[i]? = some e
      rw [List.getElem?_append_left (List.getElem?_eq_some_iff.mp he).1]
      exact he
    rw [sWd_at heL] at hq
    cases hq
    have hat := pS_at i h41
    rw [he] at hat
    obtain ⟨g, hg⟩ : ∃ g, g_S_init_13[pF i]? = some g := by
      cases hx : g_S_init_13[pF i]? with
      | none => rw [hx] at hat; cases hat
      | some g => exact ⟨g, rfl⟩
    rw [hg] at hat
    have hge : sGly g = rnE pF e := Option.some.inj hat
    have hw := hP1 (pF i) _ (sGw_at hg)
    rw [sGc_cl (i := i) (List.all_eq_true.mp gS_zero g (List.mem_of_getElem? hg)), hge, sCl_rn (ad := adL ad1 ad2 qO b) (h := hIn h1) (i := i) (n := 41) (List.all_eq_true.mp zc_rf e (List.mem_of_getElem? he)) (fun j hj => by simp [adL, hj]) (hIn_lo h1 (by omega)).1 (hIn_lo h1 (by omega)).2] at hw
    have had : adL ad1 ad2 qO b i = ad1 (pF i) := by simp [adL, h41]
    rw [had]
    exact hw
  · by_cases h42 : i = 41
    · subst h42
      rw [sWd_at zl_o] at hq
      cases hq
      rw [sCl_l, (hIn_lo h1 (by omega)).2]
      exact hO
    · obtain ⟨k, rfl⟩ : ∃ k, i = k + 42 := ⟨i - 42, by omega⟩
      have hk : k < Zm.2.length := by rw [zl_len.2]; omega
      have he := List.getElem?_eq_getElem hk
      have heL := zl_m.2.1 k _ he
      rw [sWd_at heL] at hq
      cases hq
      have hjn := jnH_in (di := 42) (N := Zm.2.length) (h := h00) (h' := h1) hk
      refine (sAt_sh zl_m he hjn.1 hjn.2).mpr ?_
      have hw := hP2 k _ (sWd_at he)
      have had : adL ad1 ad2 qO b (k + 42) = ad2 k := by
        have : k + 42 < 84 := hi
        simp [adL, this]
        omega
      have hx := sCl_rn (cA := cA) (ad := shA 42 (adL ad1 ad2 qO b)) (ad1 := ad2) (f := fun j => j) (h := h1) (h' := h1) (i := k) (i' := k) (n := 42) (List.all_eq_true.mp zm_rf _ (List.mem_of_getElem? he)) (fun j hj => by
        show adL ad1 ad2 qO b (j + 42) = ad2 j
        have : j + 42 < 84 := by omega
        simp [adL, this]
        omega) rfl rfl
      rw [rnE_id] at hx
      rw [had, ← hx]
      exact hw
theorem sApL {ad1 ad2 : Nat → Nat} {qO b : Nat} (d1 : ∀ i j, i < 41 → j < 41 → ad1 i = ad1 j → i = j) (d2 : ∀ i j, i < 42 → j < 42 → ad2 i = ad2 j → i = j) (x12 : ∀ i j, i < 41 → j < 42 → ad1 i ≠ ad2 j) (o1 : ∀ i, i < 41 → ad1 i ≠ qO) (o2 : ∀ j, j < 42 → ad2 j ≠ qO) : sApart ZL.2 (adL ad1 ad2 qO b) := by
  intro i j hi hj he
  rw [zl_n] at hi hj
  simp only [adL] at he
  split at he
  · rename_i a1
    split at he
    · rename_i b1
      exact pS_inj i a1 j b1 (d1 _ _ (pS_in i a1) (pS_in j b1) he)
    · split at he
      · exact absurd he (o1 _ (pS_in i a1))
      · exact absurd he (x12 _ _ (pS_in i a1) (by omega))
  · split at he
    · split at he
      · rename_i b1
        exact absurd he.symm (o1 _ (pS_in j b1))
      · split at he
        · omega
        · exact absurd he.symm (o2 _ (by omega))
    · split at he
      · rename_i b1
        exact absurd he.symm (x12 _ _ (pS_in j b1) (by omega))
      · split at he
        · exact absurd he (o2 _ (by omega))
        · have := d2 _ _ (by omega) (by omega) he
          omega
theorem adL_old {ad1 ad2 : Nat → Nat} {qO b z : Nat} (l1 : ∀ i, i < 41 → z ≤ ad1 i) (l2 : ∀ j, j < 42 → z ≤ ad2 j) (lo : z ≤ qO) : ∀ q, sAr ZL.2 (adL ad1 ad2 qO b) q → z ≤ q := by
  rintro q ⟨i, hi, rfl⟩
  rw [zl_n] at hi
  simp only [adL]
  split
  · rename_i a1; exact l1 _ (pS_in i a1)
  · split
    · exact lo
    · exact l2 _ (by omega)
