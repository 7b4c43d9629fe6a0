def ZL : sZo := (Zc.1 ++ Zm.1, Zc.2 ++ Zm.2.map (shE 6 42))
def jnC (h h' : sHp) : sHp := jnH 0 Zc.2.length h h'
def jnM (h h' : sHp) : sHp := jnH 42 Zm.2.length h h'
theorem zl_n : ZL.2.length = 84 := rfl
theorem zl_o : ZL.2[41]? = some (.inl (2, 1)) := rfl
theorem zl_so : ZL.2[0]? = some (.inr (0, [some (some 1), some (some 2), some (some 6), some (some 7), some (some 8), none, none])) := rfl
theorem zl_sc : ZL.1[0]? = some ("StoryStates", T_c0, 7) := rfl
theorem zl_ro : ZL.2[42]? = some (.inr (6, [none, none, some (some 43), some (some 44), none, some (some 45), some (some 46), none, some (some 47), some (some 48), none, some (some 49), none, some (some 50), some (some 51), some (some 52), some (some 53), some (some 54), some (some 55), some (some 56), some (some 57), some (some 58), some (some 59), some (some 60), some (some 61), some (some 62), none, some (some 63), some (some 64), none, some (some 65), some (some 66), none, some (some 67), some (some 68), some (some 69), some (some 70), some (some 71), none, none, some (some 72), none, none, none, none, some (some 73), some (some 74), none, some (some 75), none, none, none, some (some 76), some (some 77), some (some 78), some (some 79), some (some 80), some (some 81), some (some 82), some (some 83)])) := rfl
theorem zl_rc : ZL.1[6]? = some ("StoryStatesModel", T_m0, 60) := rfl
theorem shK_zero : shK 0 = id := by
  funext d
  rcases d with _ | _ | j <;> rfl
theorem shE_zero (e : (Nat × Nat) ⊕ (Nat × List sKd)) : shE 0 0 e = e := by
  rcases e with x | ⟨ci, ks⟩
  · rfl
  · simp only [shE, shK_zero, List.map_id, Nat.add_zero]
def sCiB (n : Nat) : (Nat × Nat) ⊕ (Nat × List sKd) → Bool
  | .inl _ => true
  | .inr (ci, _) => decide (ci < n)
theorem sCi {Z : sZo} (h : Z.2.all (sCiB Z.1.length) = true) : ∀ (i ci : Nat) (ks : List sKd), Z.2[i]? = some (Sum.inr (ci, ks)) → ci < Z.1.length := by
  intro i ci ks he
  have := List.all_eq_true.mp h _ (List.mem_of_getElem? he)
  simpa [sCiB] using this
theorem zl_c : sSub Zc ZL 0 0 := by
  refine ⟨fun c hc => List.getElem?_append_left hc, fun i e he => ?_, sCi (by decide +kernel)⟩
  rw [shE_zero]
  show (Zc.2 ++ _)[i]? = some e
  rw [List.getElem?_append_left (List.getElem?_eq_some_iff.mp he).1]
  exact he
theorem zl_m : sSub Zm ZL 6 42 := by
  refine ⟨fun c hc => ?_, fun i e he => ?_, sCi (by decide +kernel)⟩
  · show (Zc.1 ++ Zm.1)[c + 6]? = Zm.1[c]?
    have h6 : Zc.1.length = 6 := rfl
    rw [List.getElem?_append_right (by omega), h6, Nat.add_sub_cancel]
  · show (Zc.2 ++ Zm.2.map (shE 6 42))[i + 42]? = some (shE 6 42 e)
    have h42 : Zc.2.length = 42 := rfl
    rw [List.getElem?_append_right (by omega), h42, Nat.add_sub_cancel, List.getElem?_map, he]
    rfl
