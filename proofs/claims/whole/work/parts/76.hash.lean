/-! The class's table of states. -/
theorem lg_0 (x y : Int64) : lg_cmp x y = 0 ↔ x = y := by
  unfold lg_cmp
  by_cases h1 : x > y
  · rw [if_pos h1]
    refine ⟨fun z => absurd z (by decide), fun z => ?_⟩
    subst z
    exact absurd (Int64.lt_iff_toInt_lt.mp h1) (by omega)
  · rw [if_neg h1]
    by_cases h2 : x = y
    · rw [if_pos h2]; exact ⟨fun _ => h2, fun _ => rfl⟩
    · rw [if_neg h2]; exact ⟨fun z => absurd z (by decide), fun z => absurd z h2⟩
theorem lB_big (s : Int64) {k : Nat} (hk : 64 ≤ k) : lB s k = false := by
  unfold lB
  exact BitVec.getLsbD_of_ge _ _ hk
theorem hsh_eq (s : Int64) : Int64.toInt32 (jLushr (s * (-7046029254386353131)) 55) = o (bD (s * (-7046029254386353131)) 55 9) := by
  generalize s * (-7046029254386353131) = x
  apply iB_ext
  intro k hk
  rw [lB_toInt32, show (55 : Int32) = Int32.ofNat 55 from rfl, lB_ushr x 55 k (by omega)]
  show _ = iB (Int32.ofNat (bD x 55 9)) k
  rw [iB_ofNat, bD_bit]
  by_cases h9 : k < 9
  · simp [hk, h9]
  · simp [hk, h9, lB_big x (show 64 ≤ 55 + k by omega)]
theorem hsh_o (s : Int64) : Int64.toInt32 (jLushr (s * (-7046029254386353131)) 55) = o (hsh s) ∧ hsh s < 512 := by
  have hb : bD (s * (-7046029254386353131)) 55 9 < 512 := bD_lt _ 55 9
  have : hsh s = bD (s * (-7046029254386353131)) 55 9 := by unfold hsh; rw [hsh_eq, ix_o (by omega)]
  rw [this]
  exact ⟨hsh_eq s, hb⟩
theorem least {P : Nat → Prop} : ∀ N, (∃ e, e < N ∧ P e) → ∃ e, e < N ∧ P e ∧ ∀ e', e' < e → ¬ P e' := by
  intro N
  induction N with
  | zero => intro ⟨e, h, _⟩; omega
  | succ N ih =>
    intro ⟨e, h1, h2⟩
    by_cases hq : ∃ e, e < N ∧ P e
    · obtain ⟨e, a, b⟩ := ih hq
      exact ⟨e, by omega, b⟩
    · have : e = N := by
        by_cases z : e = N
        · exact z
        · exact absurd ⟨e, by omega, h2⟩ hq
      subst this
      exact ⟨e, by omega, h2, fun e' h z => hq ⟨e', h, z⟩⟩
theorem next512 : ∀ x, x < 512 → (o x + 1) &&& 511 = o ((x + 1) % 512) := by decide +kernel
theorem zc_pos {f : Nat → Int32} : ∀ m, 0 < zc f m → ∃ q, q < m ∧ f q = 0 := by
  intro m
  induction m with
  | zero => intro h; exact absurd h (by show ¬ 0 < 0; omega)
  | succ m ih =>
    intro h
    have h : 0 < zc f m + if f m = 0 then 1 else 0 := h
    by_cases hq : f m = 0
    · exact ⟨m, by omega, hq⟩
    · rw [if_neg hq] at h
      obtain ⟨q, a, b⟩ := ih h
      exact ⟨q, by omega, b⟩
theorem zc_upd {f f' : Nat → Int32} {q : Nat} (h0 : f q = 0) (h1 : f' q ≠ 0) (he : ∀ j, j ≠ q → f' j = f j) : ∀ m, zc f m = zc f' m + if q < m then 1 else 0 := by
  intro m
  induction m with
  | zero => rfl
  | succ m ih =>
    show zc f m + (if f m = 0 then 1 else 0) = zc f' m + (if f' m = 0 then 1 else 0) + _
    rw [ih]
    by_cases hq : m = q
    · subst hq
      rw [if_pos h0, if_neg h1, if_neg (by omega), if_pos (by omega)]
    · rw [he m hq]
      generalize (if f m = 0 then 1 else 0) = c
      by_cases hl : q < m
      · rw [if_pos hl, if_pos (by omega)]; omega
      · rw [if_neg hl, if_neg (by omega)]; omega
theorem zc_all {f : Nat → Int32} : ∀ m, (∀ q, q < m → f q = 0) → zc f m = m := by
  intro m
  induction m with
  | zero => intro _; rfl
  | succ m ih =>
    intro h
    show zc f m + (if f m = 0 then 1 else 0) = _
    rw [ih (fun q hq => h q (by omega)), if_pos (h m (by omega))]
section HA
variable {h g : sHp} {n : Nat}
theorem slotL {f : Nat} (s : Int64) (f160 : f ≤ 160) {b e0 : Nat} (he0 : e0 < 512) (hs : h.1 38 ((b + e0) % 512) = 0 ∨ ∃ x, x < f ∧ h.1 38 ((b + e0) % 512) = o (x + 1) ∧ h.2 35 x = s) (hno : ∀ e, e < e0 → ∃ x, x < f ∧ h.1 38 ((b + e) % 512) = o (x + 1) ∧ h.2 35 x ≠ s) : ∀ d e M, e + d = e0 → d < M → sFx (F_A_slotOf_13 n s h) M (o ((b + e) % 512), o e) = some (o ((b + e0) % 512)) := by
  intro d
  induction d with
  | zero =>
    intro e M hi hM
    obtain ⟨M, rfl⟩ : ∃ m, M = m + 1 := ⟨M - 1, by omega⟩
    obtain rfl : e = e0 := by omega
    have hq : (b + e) % 512 < 512 := Nat.mod_lt _ (by omega)
    rw [sFx_s]; unfold F_A_slotOf_13; dsimp only
    rw [if_neg (fun z => by have := (o_le (by omega : 512 < 2147483648) (by omega)).mp z; omega), sIn_o 512 (by omega), decide_eq_true hq, sGd_true, ix_o (by omega)]
    rcases hs with hs | ⟨x, x1, x2, x3⟩
    · rw [if_pos hs]
    · have nz : ¬ o (x + 1) = (0 : Int32) := fun z => by have := (o_inj (by omega) (by omega : 0 < 2147483648)).mp z; omega
      have e1 : o (x + 1) - 1 = o x := o_sub (b := 1) (by omega)
      rw [x2, if_neg nz, sGd_true, e1, sIn_o 160 (by omega), decide_eq_true (by omega), sGd_true, ix_o (by omega), if_pos ((lg_0 _ _).mpr x3)]
  | succ d ih =>
    intro e M hi hM
    obtain ⟨M, rfl⟩ : ∃ m, M = m + 1 := ⟨M - 1, by omega⟩
    have hr := ih (e + 1) M (by omega) (by omega)
    have hq : (b + e) % 512 < 512 := Nat.mod_lt _ (by omega)
    obtain ⟨x, x1, x2, x3⟩ := hno e (by omega)
    rw [sFx_s]
    generalize sFx (F_A_slotOf_13 n s h) M = X at hr ⊢
    have nz : ¬ o (x + 1) = (0 : Int32) := fun z => by have := (o_inj (by omega) (by omega : 0 < 2147483648)).mp z; omega
    have e1 : o (x + 1) - 1 = o x := o_sub (b := 1) (by omega)
    unfold F_A_slotOf_13; dsimp only
    rw [if_neg (fun z => by have := (o_le (by omega : 512 < 2147483648) (by omega)).mp z; omega), sIn_o 512 (by omega), decide_eq_true hq, sGd_true, ix_o (by omega), x2, if_neg nz, sGd_true, e1, sIn_o 160 (by omega), decide_eq_true (by omega), sGd_true, ix_o (by omega), if_neg (fun z => x3 ((lg_0 _ _).mp z)), next512 _ hq, show o e + 1 = o (e + 1) from o_add e 1]
    have : ((b + e) % 512 + 1) % 512 = (b + (e + 1)) % 512 := by omega
    rw [this]
    exact hr
/-- the slot of a state: it has it, or it is the free one where it belongs -/
theorem slot_spec {f : Nat} (s : Int64) (hn : 600 ≤ n) (f160 : f ≤ 160) (tb : ∀ q, q < 512 → ∃ x, x ≤ f ∧ h.1 38 q = o x) (ti : ∀ i, i < f → ∃ e, e < 512 ∧ h.1 38 ((hsh (h.2 35 i) + e) % 512) = o (i + 1) ∧ ∀ e', e' < e → h.1 38 ((hsh (h.2 35 i) + e') % 512) ≠ 0) (tz : zc (h.1 38) 512 + f = 512) :
    ∃ e0, e0 < 512 ∧ J_A_slotOf n s h = some (o ((hsh s + e0) % 512)) ∧ (∀ e, e < e0 → h.1 38 ((hsh s + e) % 512) ≠ 0) ∧ ((h.1 38 ((hsh s + e0) % 512) = 0 ∧ ∀ i, i < f → h.2 35 i ≠ s) ∨ ∃ i, i < f ∧ h.1 38 ((hsh s + e0) % 512) = o (i + 1) ∧ h.2 35 i = s) := by
  obtain ⟨h1, h2⟩ := hsh_o s
  obtain ⟨q0, q1, q2⟩ := zc_pos (f := h.1 38) 512 (by omega)
  have hex : ∃ e, e < 512 ∧ (h.1 38 ((hsh s + e) % 512) = 0 ∨ ∃ x, x < f ∧ h.1 38 ((hsh s + e) % 512) = o (x + 1) ∧ h.2 35 x = s) := by
    refine ⟨(q0 + 512 - hsh s) % 512, Nat.mod_lt _ (by omega), Or.inl ?_⟩
    have : (hsh s + (q0 + 512 - hsh s) % 512) % 512 = q0 := by omega
    rw [this]; exact q2
  obtain ⟨e0, a1, a2, a3⟩ := least 512 hex
  have hno : ∀ e, e < e0 → ∃ x, x < f ∧ h.1 38 ((hsh s + e) % 512) = o (x + 1) ∧ h.2 35 x ≠ s := fun e he => by
    have := a3 e he
    obtain ⟨x, x1, x2⟩ := tb ((hsh s + e) % 512) (Nat.mod_lt _ (by omega))
    have hx : x ≠ 0 := fun z => this (Or.inl (by rw [x2, z]; rfl))
    obtain ⟨y, rfl⟩ : ∃ y, x = y + 1 := ⟨x - 1, by omega⟩
    exact ⟨y, by omega, x2, fun z => this (Or.inr ⟨y, by omega, x2, z⟩)⟩
  have nz : ∀ e, e < e0 → h.1 38 ((hsh s + e) % 512) ≠ 0 := fun e he => by
    obtain ⟨x, x1, x2, -⟩ := hno e he
    rw [x2]
    exact fun z => by have := (o_inj (by omega) (by omega : 0 < 2147483648)).mp z; omega
  refine ⟨e0, a1, ?_, nz, ?_⟩
  · unfold J_A_slotOf
    have := slotL (n := n) s f160 a1 a2 hno e0 0 n (by omega) (by omega)
    rw [h1]
    rw [show (hsh s + 0) % 512 = hsh s by omega] at this
    exact this
  · rcases a2 with a2 | ⟨x, x1, x2, x3⟩
    · refine Or.inl ⟨a2, fun i hi hq => ?_⟩
      obtain ⟨e, e1, e2, e3⟩ := ti i hi
      rw [hq] at e2 e3
      by_cases c : e < e0
      · exact a3 e c (Or.inr ⟨i, hi, e2, hq⟩)
      · by_cases c2 : e = e0
        · rw [c2, a2] at e2
          have := (o_inj (a := 0) (by omega) (by omega : i + 1 < 2147483648)).mp e2
          omega
        · exact e3 e0 (by omega) a2
    · exact Or.inr ⟨x, x1, x2, x3⟩
/-- a state is put into the class's atlas -/
theorem E_appL {f : Nat} (s : Int64) (x3 x4 x5 : Int32) {q : Nat} (hq : q < 512) (hx : x3 = o q) (hf : f < 160) : ∀ d i M (h : sHp), i + d = 3 → d < M → h.1 6 10 = o f → ∃ h', sFx (F_A_append_35 n s x3 x4 x5) M (o i, h) = some h' ∧ (∀ j m, h'.1 j m = if j = 38 ∧ m = q then o (f + 1) else if j = 6 ∧ m = 10 then o (f + 1) else h.1 j m) ∧ ∀ j m, h'.2 j m = if j = 39 ∧ 3 * f + i ≤ m ∧ m < 3 * f + 3 then 0 else h.2 j m := by
  intro d
  induction d with
  | zero =>
    intro i M h hi hM h10
    obtain ⟨M, rfl⟩ : ∃ m, M = m + 1 := ⟨M - 1, by omega⟩
    obtain rfl : i = 3 := by omega
    refine ⟨pI (pI h 6 10 (o f + 1)) 38 q (o f + 1), ?_, fun j m => ?_, fun j m => by rw [if_neg (by omega)]; rfl⟩
    · rw [sFx_s]; unfold F_A_append_35; dsimp only
      rw [if_pos (by decide : (3 : Int32) ≤ o 3), hx, sIn_o 512 (by omega), decide_eq_true hq, sGd_true, h10, ix_o (by omega)]
    · rw [pI_i, pI_i, show o f + 1 = o (f + 1) from o_add f 1]
  | succ d ih =>
    intro i M h hi hM h10
    obtain ⟨M, rfl⟩ : ∃ m, M = m + 1 := ⟨M - 1, by omega⟩
    obtain ⟨h', e1, e2, e3⟩ := ih (i + 1) M (pL h 39 (3 * f + i) 0) (by omega) (by omega) h10
    refine ⟨h', ?_, e2, fun j m => ?_⟩
    · rw [sFx_s]
      generalize sFx (F_A_append_35 n s x3 x4 x5) M = X at e1 ⊢
      unfold F_A_append_35; dsimp only
      have h5 : ¬ (3 : Int32) ≤ o i := fun z => by have := (o_le (by omega : 3 < 2147483648) (by omega)).mp z; omega
      rw [if_neg h5, h10, q3c, sIn_o 480 (by omega), decide_eq_true (by omega), sGd_true, ix_o (by omega), show o i + 1 = o (i + 1) from o_add i 1]
      exact e1
    · rw [e3 j m, pL_i]
      by_cases hq2 : j = 39 ∧ m = 3 * f + i
      · rw [if_neg (by omega), if_pos hq2, if_pos (by omega)]
      · by_cases hq3 : j = 39 ∧ 3 * f + (i + 1) ≤ m ∧ m < 3 * f + 3
        · rw [if_pos hq3, if_pos (by omega)]
        · rw [if_neg hq3, if_neg hq2, if_neg (by omega)]
theorem E_append {f : Nat} (hn : 8 ≤ n) (s : Int64) (x4 x5 : Int32) {q : Nat} (hq : q < 512) (hf : f < 160) (h10 : h.1 6 10 = o f) : ∃ h', J_A_append n s (o q) x4 x5 h = some h' ∧ (∀ j m, h'.1 j m = if j = 38 ∧ m = q then o (f + 1) else if j = 6 ∧ m = 10 then o (f + 1) else if j = 36 ∧ m = f then x4 else if j = 37 ∧ m = f then x5 else h.1 j m) ∧ ∀ j m, h'.2 j m = if j = 39 ∧ 3 * f ≤ m ∧ m < 3 * f + 3 then 0 else if j = 35 ∧ m = f then s else h.2 j m := by
  have k10 : (pI (pI (pL h 35 f s) 36 f x4) 37 f x5).1 6 10 = o f := by rw [pI_i, if_neg (by omega), pI_i, if_neg (by omega)]; exact h10
  obtain ⟨h', e1, e2, e3⟩ := E_appL (n := n) s (o q) x4 x5 hq rfl hf 3 0 n _ (by omega) (by omega) k10
  refine ⟨h', ?_, fun j m => ?_, fun j m => ?_⟩
  · unfold J_A_append
    rw [h10, sIn_o 160 (by omega), decide_eq_true hf, ix_o (by omega)]
    simp only [sGd_true]
    exact e1
  · rw [e2 j m, pI_i, pI_i]
    by_cases a1 : j = 38 ∧ m = q
    · rw [if_pos a1, if_pos a1]
    rw [if_neg a1, if_neg a1]
    by_cases a2 : j = 6 ∧ m = 10
    · rw [if_pos a2, if_pos a2]
    rw [if_neg a2, if_neg a2]
    by_cases a3 : j = 36 ∧ m = f
    · rw [if_neg (by omega), if_pos a3, if_pos a3]
    · rw [if_neg a3, if_neg a3]; rfl
  · rw [e3 j m]
    by_cases a1 : j = 39 ∧ 3 * f ≤ m ∧ m < 3 * f + 3
    · rw [if_pos (by omega), if_pos a1]
    · rw [if_neg (by omega), if_neg a1]
      exact pL_i h 35 f s j m
end HA
