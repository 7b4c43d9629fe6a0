/-! From where a good ending can come: the class's search. -/
def exb (P : Nat → Bool) : Nat → Bool
  | 0 => false
  | m + 1 => exb P m || P m
theorem exb_iff {P : Nat → Bool} : ∀ m, exb P m = true ↔ ∃ j, j < m ∧ P j = true := by
  intro m
  induction m with
  | zero => exact ⟨fun z => absurd z (by show ¬ false = true; decide), fun ⟨j, h, _⟩ => absurd h (by omega)⟩
  | succ m ih =>
    show (exb P m || P m) = true ↔ _
    rw [Bool.or_eq_true, ih]
    constructor
    · rintro (⟨j, a, b⟩ | a)
      · exact ⟨j, by omega, b⟩
      · exact ⟨m, by omega, a⟩
    · rintro ⟨j, a, b⟩
      by_cases z : j = m
      · subst z; exact Or.inr b
      · exact Or.inl ⟨j, by omega, b⟩
def upb (p : Nat → Bool) (k : Nat) : Nat → Bool := fun i => p i || decide (i = k)
/-- whether a state becomes hopeful -/
def nwb (W : Nat → Bool) (L : Nat → Nat → Bool) (f : Nat) (p : Nat → Bool) (k : Nat) : Bool := !p k && (W k || exb (fun j => L k j && p j) f)
def pas (W : Nat → Bool) (L : Nat → Nat → Bool) (f : Nat) : Nat → (Nat → Bool) → Bool → (Nat → Bool) × Bool
  | 0, p, c => (p, c)
  | k + 1, p, c => if nwb W L f p k then pas W L f k (upb p k) true else pas W L f k p c
def hcn (p : Nat → Bool) : Nat → Nat
  | 0 => 0
  | m + 1 => hcn p m + if p m then 1 else 0
theorem hcn_le (p : Nat → Bool) : ∀ m, hcn p m ≤ m := by
  intro m
  induction m with
  | zero => exact Nat.le_refl _
  | succ m ih => show hcn p m + _ ≤ _; split <;> omega
theorem hcn_mono {p p' : Nat → Bool} (h : ∀ i, p i = true → p' i = true) : ∀ m, hcn p m ≤ hcn p' m := by
  intro m
  induction m with
  | zero => exact Nat.le_refl _
  | succ m ih =>
    show hcn p m + (if p m then 1 else 0) ≤ hcn p' m + (if p' m then 1 else 0)
    by_cases c : p m = true
    · rw [if_pos c, if_pos (h m c)]; omega
    · rw [if_neg c]; omega
theorem hcn_lt {p p' : Nat → Bool} (h : ∀ i, p i = true → p' i = true) {k : Nat} (h1 : p k = false) (h2 : p' k = true) : ∀ m, k < m → hcn p m < hcn p' m := by
  intro m
  induction m with
  | zero => intro z; omega
  | succ m ih =>
    intro hk
    show hcn p m + (if p m then 1 else 0) < hcn p' m + (if p' m then 1 else 0)
    by_cases e : k = m
    · subst e
      have := hcn_mono h k
      rw [h1, h2]; simp; omega
    · have := ih (by omega)
      by_cases c : p m = true
      · rw [if_pos c, if_pos (h m c)]; omega
      · rw [if_neg c]; omega
section PS
variable {W : Nat → Bool} {L : Nat → Nat → Bool} {f : Nat}
theorem pas_mono : ∀ k (p : Nat → Bool) c i, p i = true → (pas W L f k p c).1 i = true := by
  intro k
  induction k with
  | zero => intro p c i h; exact h
  | succ k ih =>
    intro p c i h
    unfold pas
    split
    · exact ih _ _ i (by unfold upb; rw [h]; rfl)
    · exact ih _ _ i h
theorem pas_c : ∀ k (p : Nat → Bool), (pas W L f k p true).2 = true := by
  intro k
  induction k with
  | zero => intro p; rfl
  | succ k ih => intro p; unfold pas; split <;> exact ih _
theorem pas_no : ∀ k (p : Nat → Bool), (pas W L f k p false).2 = false → (pas W L f k p false).1 = p ∧ ∀ i, i < k → nwb W L f p i = false := by
  intro k
  induction k with
  | zero => intro p _; exact ⟨rfl, fun i hi => absurd hi (by omega)⟩
  | succ k ih =>
    intro p h
    unfold pas at h ⊢
    cases c : nwb W L f p k with
    | true => rw [c, if_pos rfl, pas_c] at h; exact absurd h (by decide)
    | false =>
      rw [c, if_neg (by decide)] at h
      rw [if_neg (by decide)]
      obtain ⟨a, b⟩ := ih p h
      refine ⟨a, fun i hi => ?_⟩
      by_cases z : i = k
      · rw [z]; exact c
      · exact b i (by omega)
theorem pas_yes : ∀ k (p : Nat → Bool), (pas W L f k p false).2 = true → ∃ i, i < k ∧ p i = false ∧ (pas W L f k p false).1 i = true := by
  intro k
  induction k with
  | zero => intro p h; exact absurd h (by show ¬ false = true; decide)
  | succ k ih =>
    intro p h
    unfold pas at h ⊢
    cases c : nwb W L f p k with
    | true =>
      rw [if_pos rfl]
      refine ⟨k, by omega, ?_, pas_mono k _ _ k (by unfold upb; simp)⟩
      unfold nwb at c
      cases hp : p k with
      | false => rfl
      | true => rw [hp] at c; exact absurd c (by simp)
    | false =>
      rw [c, if_neg (by decide)] at h
      rw [if_neg (by decide)]
      obtain ⟨i, a, b⟩ := ih p h
      exact ⟨i, by omega, b⟩
theorem pas_sound : ∀ k (p : Nat → Bool) c, k ≤ f → (∀ i, p i = true → Hp f L W i) → ∀ i, (pas W L f k p c).1 i = true → Hp f L W i := by
  intro k
  induction k with
  | zero => intro p c _ h; exact h
  | succ k ih =>
    intro p c hk h
    unfold pas
    split
    · rename_i hb
      refine ih _ _ (by omega) (fun i hi => ?_)
      unfold upb at hi
      rw [Bool.or_eq_true] at hi
      rcases hi with hi | hi
      · exact h i hi
      · rw [decide_eq_true_eq] at hi
        subst hi
        unfold nwb at hb
        rw [Bool.and_eq_true, Bool.or_eq_true] at hb
        rcases hb.2 with z | z
        · exact Hp.won (by omega) z
        · obtain ⟨j, j1, j2⟩ := (exb_iff f).mp z
          rw [Bool.and_eq_true] at j2
          exact Hp.step (by omega) j1 j2.1 (h j j2.2)
    · exact ih _ _ (by omega) h
/-- nothing more to come: all that can be hopeful is -/
theorem closed_all {p : Nat → Bool} (h : ∀ i, i < f → nwb W L f p i = false) {i : Nat} (hi : Hp f L W i) : p i = true := by
  refine hi (fun i => p i = true) (fun i hi hw => ?_) (fun i j hi hj hl hp => ?_)
  · have := h i hi
    unfold nwb at this
    cases hp : p i with
    | true => rfl
    | false => rw [hp, hw] at this; exact absurd this (by simp)
  · have := h i hi
    unfold nwb at this
    cases hq : p i with
    | true => rfl
    | false =>
      have e : exb (fun j => L i j && p j) f = true := (exb_iff f).mpr ⟨j, hj, by rw [hl, hp]; rfl⟩
      rw [hq, e] at this
      exact absurd this (by simp)
end PS
theorem Hp_lt {f : Nat} {L : Nat → Nat → Bool} {W : Nat → Bool} {i : Nat} (h : Hp f L W i) : i < f := h (fun i => i < f) (fun i h _ => h) (fun i j h _ _ _ => h)
theorem and1 (s : Int64) {j : Nat} (hj : j < 64) : lg_cmp ((jLushr s (o j)) &&& 1) 0 = 0 ↔ lB s j = false := by
  rw [lg_0]
  have b0 : lB ((jLushr s (o j)) &&& 1) 0 = lB s j := by
    rw [lB_and]
    show (lB (jLushr s (Int32.ofNat j)) 0 && lB 1 0) = _
    rw [lB_ushr s j 0 hj, lB_one 0 (by omega), Nat.add_zero]; simp
  constructor
  · intro z
    rw [← b0, z]
    have : lB 0 0 = false := by decide +kernel
    exact this
  · intro z
    apply lB_ext
    intro k hk
    have z0 : ∀ k, k < 64 → lB 0 k = false := by decide +kernel
    rw [z0 k hk]
    by_cases hk0 : k = 0
    · rw [hk0, b0]; exact z
    · rw [lB_and, lB_one k hk]; simp [hk0]
theorem andw (x y : Int64) : lg_cmp (x &&& y) 0 = 0 ↔ ∀ k, k < 64 → (lB x k && lB y k) = false := by
  rw [lg_0]
  have z0 : ∀ k, k < 64 → lB 0 k = false := by decide +kernel
  constructor
  · intro z k hk
    rw [← lB_and, z]; exact z0 k hk
  · intro z
    apply lB_ext
    intro k hk
    rw [lB_and, z0 k hk]; exact z k hk
section HO
variable {n : Nat} {h : sHp}
theorem A_hopeful {k : Nat} (hk : k < 192) : J_A_isHopeful n (o k) h = some (oB (hpf h k)) := by
  unfold J_A_isHopeful hpf
  rw [show (64 : Int32) = o 64 from rfl, o_div (by omega) (by omega), jRem_o (by omega) (by omega), sIn_o 3 (by omega), decide_eq_true (by omega), sGd_true, ix_o (by omega)]
  cases c : lB (h.2 40 (k / 64)) (k % 64) with
  | true => rw [if_neg (fun z => by rw [and1 _ (by omega), c] at z; exact absurd z (by decide))]; rfl
  | false => rw [if_pos ((and1 _ (by omega)).mpr c)]; rfl
theorem A_leadL {i : Nat} (hi : i < 160) : ∀ d q M, q + d = 3 → d < M → ∃ b : Bool, sFx (F_A_leadsToHope_2 n (o i) h) M (o q) = some (oB b) ∧ (b = true ↔ ∃ j, 64 * q ≤ j ∧ j < 192 ∧ (ld h i j && hpf h j) = true) := by
  intro d
  induction d with
  | zero =>
    intro q M hq hM
    obtain ⟨M, rfl⟩ : ∃ m, M = m + 1 := ⟨M - 1, by omega⟩
    obtain rfl : q = 3 := by omega
    exact ⟨false, rfl, fun z => absurd z (by decide), fun ⟨j, a, b, _⟩ => absurd a (by omega)⟩
  | succ d ih =>
    intro q M hq hM
    obtain ⟨M, rfl⟩ : ∃ m, M = m + 1 := ⟨M - 1, by omega⟩
    obtain ⟨b, e1, e2⟩ := ih (q + 1) M (by omega) (by omega)
    have hb : ∀ j, j / 64 = q → (ld h i j && hpf h j) = (lB (h.2 39 (3 * i + q)) (j % 64) && lB (h.2 40 q) (j % 64)) := fun j hj => by unfold ld hpf; rw [hj]
    rw [sFx_s]
    generalize sFx (F_A_leadsToHope_2 n (o i) h) M = X at e1 ⊢
    have l3 : ¬ (3 : Int32) ≤ o q := fun z => by have := (o_le (by omega : 3 < 2147483648) (by omega)).mp z; omega
    unfold F_A_leadsToHope_2
    rw [if_neg l3, q3c, sIn_o 480 (by omega), decide_eq_true (by omega), sGd_true, sIn_o 3 (by omega), decide_eq_true (by omega), sGd_true, ix_o (by omega), ix_o (by omega), show o q + 1 = o (q + 1) from o_add q 1]
    by_cases c : lg_cmp (h.2 39 (3 * i + q) &&& h.2 40 q) 0 = 0
    · rw [if_pos c]
      have c' := (andw _ _).mp c
      refine ⟨b, e1, e2.trans ⟨fun ⟨j, j1, j2, j3⟩ => ⟨j, by omega, j2, j3⟩, fun ⟨j, j1, j2, j3⟩ => ?_⟩⟩
      by_cases hj : j / 64 = q
      · rw [hb j hj, c' (j % 64) (by omega)] at j3; exact absurd j3 (by decide)
      · exact ⟨j, by omega, j2, j3⟩
    · rw [if_neg c]
      refine ⟨true, rfl, fun _ => ?_, fun _ => rfl⟩
      refine Classical.byContradiction fun z => c ((andw _ _).mpr (fun k hk => ?_))
      cases e : (lB (h.2 39 (3 * i + q)) k && lB (h.2 40 q) k) with
      | false => rfl
      | true =>
        refine absurd ⟨64 * q + k, by omega, by omega, ?_⟩ z
        rw [hb (64 * q + k) (by omega), show (64 * q + k) % 64 = k by omega]; exact e
theorem A_leads {i f : Nat} {p : Nat → Bool} (hn : 8 ≤ n) (hi : i < 160) (hf : f ≤ 160) (hp : ∀ j, j < 192 → hpf h j = p j) (hl : ∀ j, p j = true → j < f) : J_A_leadsToHope n (o i) h = some (oB (exb (fun j => ld h i j && p j) f)) := by
  obtain ⟨b, e1, e2⟩ := A_leadL (n := n) (h := h) hi 3 0 n (by omega) (by omega)
  have : b = exb (fun j => ld h i j && p j) f := by
    rw [Bool.eq_iff_iff, e2, exb_iff]
    constructor
    · rintro ⟨j, j1, j2, j3⟩
      rw [hp j j2] at j3
      have := hl j ((Bool.and_eq_true _ _).mp j3).2
      exact ⟨j, this, j3⟩
    · rintro ⟨j, j1, j2⟩
      exact ⟨j, by omega, by omega, by rw [hp j (by omega)]; exact j2⟩
  rw [← this]
  exact e1
theorem A_addH {k : Nat} (hk : k < 192) : ∃ h', J_A_addTo_1 n 0 (o k) h = some h' ∧ h'.1 = h.1 ∧ (∀ j m, j ≠ 40 → h'.2 j m = h.2 j m) ∧ ∀ j, j < 192 → hpf h' j = (hpf h j || decide (j = k)) := by
  have e1 : (0 : Int32) + o k / 64 = o (k / 64) := by
    rw [show (64 : Int32) = o 64 from rfl, o_div (by omega) (by omega)]
    show o 0 + o (k / 64) = _
    rw [o_add, Nat.zero_add]
  have e2 : jRem (o k) 64 = o (k % 64) := jRem_o (by omega) (by omega : 64 < 2147483648)
  refine ⟨pL h 40 (k / 64) (h.2 40 (k / 64) ||| jLshl 1 (o (k % 64))), ?_, rfl, fun j m z => by rw [pL_i, if_neg (by omega)], fun j hj => ?_⟩
  · unfold J_A_addTo_1
    rw [e1, e2, sIn_o 3 (by omega), decide_eq_true (by omega), sGd_true, sGd_true, ix_o (by omega)]
  · unfold hpf
    rw [pL_i]
    by_cases hq : j / 64 = k / 64
    · rw [if_pos ⟨rfl, hq⟩, lB_or, lB_bit (by omega) (by omega), hq]
      congr 1
      exact decide_eq_decide.mpr ⟨fun z => by omega, fun z => by omega⟩
    · rw [if_neg (fun z => hq z.2), decide_eq_false (fun z => hq (by rw [z])), Bool.or_false]
theorem fillH : ∀ d i M h, i + d = 3 → d < M → ∃ h', sFx (F_U_fillL_6 n 0 3) M (o i, h) = some h' ∧ h'.1 = h.1 ∧ ∀ j m, h'.2 j m = if j = 40 ∧ i ≤ m ∧ m < 3 then 0 else h.2 j m := by
  intro d
  induction d with
  | zero =>
    intro i M h hi hM
    obtain ⟨M, rfl⟩ : ∃ m, M = m + 1 := ⟨M - 1, by omega⟩
    obtain rfl : i = 3 := by omega
    exact ⟨h, rfl, rfl, fun j m => by rw [if_neg (by omega)]⟩
  | succ d ih =>
    intro i M h hi hM
    obtain ⟨M, rfl⟩ : ∃ m, M = m + 1 := ⟨M - 1, by omega⟩
    obtain ⟨h', e1, e2, e3⟩ := ih (i + 1) M (pL h 40 i 0) (by omega) (by omega)
    refine ⟨h', ?_, e2, fun j m => ?_⟩
    · rw [sFx_s]
      generalize sFx (F_U_fillL_6 n 0 3) M = X at e1 ⊢
      unfold F_U_fillL_6; dsimp only
      rw [if_neg (fun z => by have := (o_le (by omega : 3 < 2147483648) (by omega)).mp z; omega), sIn_o 3 (by omega), decide_eq_true (by omega), sGd_true, ix_o (by omega), show o i + 1 = o (i + 1) from o_add i 1]
      exact e1
    · rw [e3 j m, pL_i]
      by_cases q1 : j = 40 ∧ i + 1 ≤ m ∧ m < 3
      · rw [if_pos q1, if_pos (by omega)]
      · rw [if_neg q1]
        by_cases q2 : j = 40 ∧ m = i
        · rw [if_pos q2, if_pos (by omega)]
        · rw [if_neg q2, if_neg (by omega)]
end HO
