/-! All commands in their order, both sides. -/
def fld (B : Nat → sHp → Option sHp) : Nat → Nat → sHp → Option sHp
  | 0, _, h => some h
  | d + 1, j, h => (B j h).bind (fld B d (j + 1))
theorem fld_add (B : Nat → sHp → Option sHp) : ∀ x y j h, fld B (x + y) j h = (fld B x j h).bind (fld B y (j + x)) := by
  intro x
  induction x with
  | zero => intro y j h; rw [Nat.zero_add]; rfl
  | succ x ih =>
    intro y j h
    rw [show x + 1 + y = (x + y) + 1 by omega]
    show (B j h).bind (fld B (x + y) (j + 1)) = ((B j h).bind (fld B x (j + 1))).bind (fld B y (j + (x + 1)))
    rw [Option.bind_assoc]
    congr 1
    funext h'
    rw [ih y (j + 1) h', show j + 1 + x = j + (x + 1) by omega]
theorem av_6 : ∀ b, b < 8 → ((6 : Int32) ≤ av b ↔ b = 7) := by decide +kernel
/-- what the class does with the j-th -/
def bC (n : Nat) (j : Nat) (h : sHp) : Option sHp := if 163 ≤ (h.1 6 1) then some h else ((J_W_hasCommand n (o (jv j)) (av (ja j)) (av (jb j)) h).bind fun v46 => if v46 = 0 then some h else ((J_D_of n (o (jv j)) (av (ja j)) (av (jb j)) h).bind fun v64 => sGd (sIn (h.1 6 1) 163) (some (pI (pI h 34 (ix (h.1 6 1)) v64) 6 1 ((h.1 6 1) + 1)))))
/-- what the reference does with it -/
def bM (n : Nat) (j : Nat) (g : sHp) : Option sHp := if (g.1 0 51) = 0 then ((J_M_isCommand n (o (jv j)) (av (ja j)) (av (jb j)) g).bind fun v35 => if v35 = 0 then some g else J_M_tryOne n (o (jv j)) (av (ja j)) (av (jb j)) g) else some g
section LP
variable {n : Nat}
theorem listI (r7 r15 : Int32 × sHp → Option sHp) {v a : Nat} (ha : a < 7) : ∀ c b M h, b + c = 7 → c < M → sFx (F_A_listCommands_24 n r7 r15 (o v) (av a)) M (av b, h) = (fld (bC n) c (49 * v + 7 * a + b) h).bind fun h' => r15 (av (a + 1), h') := by
  intro c
  induction c with
  | zero =>
    intro b M h hb hM
    obtain ⟨M, rfl⟩ : ∃ m, M = m + 1 := ⟨M - 1, by omega⟩
    obtain rfl : b = 7 := by omega
    rw [sFx_s]; unfold F_A_listCommands_24; dsimp only
    rw [if_pos ((av_6 7 (by omega)).mpr rfl), av_next]; rfl
  | succ c ih =>
    intro b M h hb hM
    obtain ⟨M, rfl⟩ : ∃ m, M = m + 1 := ⟨M - 1, by omega⟩
    obtain ⟨d1, d2, d3⟩ := j_dec (v := v) (a := a) (b := b) ha (by omega)
    rw [sFx_s]
    have e : ∀ h, sFx (F_A_listCommands_24 n r7 r15 (o v) (av a)) M (av (b + 1), h) = (fld (bC n) c (49 * v + 7 * a + b + 1) h).bind fun h' => r15 (av (a + 1), h') := fun h => ih (b + 1) M h (by omega) (by omega)
    generalize sFx (F_A_listCommands_24 n r7 r15 (o v) (av a)) M = X at e ⊢
    show _ = ((bC n (49 * v + 7 * a + b) h).bind (fld (bC n) c (49 * v + 7 * a + b + 1))).bind _
    generalize fld (bC n) c (49 * v + 7 * a + b + 1) = Fd at e ⊢
    unfold F_A_listCommands_24 bC; dsimp only
    rw [if_neg (fun z => by have := (av_6 b (by omega)).mp z; omega), av_next, d1, d2, d3]
    by_cases h1 : 163 ≤ h.1 6 1
    · rw [if_pos h1, if_pos h1, e, Option.bind_some]
    · rw [if_neg h1, if_neg h1]
      cases J_W_hasCommand n (o v) (av a) (av b) h with
      | none => rfl
      | some x =>
        rw [Option.bind_some, Option.bind_some]
        by_cases h2 : x = 0
        · rw [if_pos h2, if_pos h2, e, Option.bind_some]
        · rw [if_neg h2, if_neg h2]
          cases J_D_of n (o v) (av a) (av b) h with
          | none => rfl
          | some y =>
            rw [Option.bind_some, Option.bind_some]
            cases sIn (h.1 6 1) 163 with
            | false => rfl
            | true => rw [sGd_true, sGd_true, e, Option.bind_some]
theorem listA (r7 : Int32 × sHp → Option sHp) (hn : 10 ≤ n) {v : Nat} : ∀ c a M h, a + c = 7 → c < M → sFx (F_A_listCommands_15 n r7 (o v)) M (av a, h) = (fld (bC n) (7 * c) (49 * v + 7 * a) h).bind fun h' => r7 (o (v + 1), h') := by
  intro c
  induction c with
  | zero =>
    intro a M h hb hM
    obtain ⟨M, rfl⟩ : ∃ m, M = m + 1 := ⟨M - 1, by omega⟩
    obtain rfl : a = 7 := by omega
    rw [sFx_s]; unfold F_A_listCommands_15; dsimp only
    rw [if_pos ((av_6 7 (by omega)).mpr rfl), show o v + 1 = o (v + 1) from o_add v 1]; rfl
  | succ c ih =>
    intro a M h hb hM
    obtain ⟨M, rfl⟩ : ∃ m, M = m + 1 := ⟨M - 1, by omega⟩
    rw [sFx_s]
    have e : ∀ h, sFx (F_A_listCommands_15 n r7 (o v)) M (av (a + 1), h) = (fld (bC n) (7 * c) (49 * v + 7 * a + 7) h).bind fun h' => r7 (o (v + 1), h') := fun h => by
      rw [ih (a + 1) M h (by omega) (by omega), show 49 * v + 7 * (a + 1) = 49 * v + 7 * a + 7 by omega]
    generalize sFx (F_A_listCommands_15 n r7 (o v)) M = X at e ⊢
    unfold F_A_listCommands_15; dsimp only
    rw [if_neg (fun z => by have := (av_6 a (by omega)).mp z; omega), ← av0, listI r7 X (v := v) (show a < 7 by omega) 7 0 n h (by omega) (by omega), show 7 * (c + 1) = 7 + 7 * c by omega, fld_add, Option.bind_assoc, Nat.add_zero]
    congr 1
    funext h'
    exact e h'
theorem listV (hn : 10 ≤ n) : ∀ c v M h, v + c = 9 → c < M → sFx (F_A_listCommands_7 n) M (o v, h) = fld (bC n) (49 * c) (49 * v) h := by
  intro c
  induction c with
  | zero =>
    intro v M h hb hM
    obtain ⟨M, rfl⟩ : ∃ m, M = m + 1 := ⟨M - 1, by omega⟩
    obtain rfl : v = 9 := by omega
    rfl
  | succ c ih =>
    intro v M h hb hM
    obtain ⟨M, rfl⟩ : ∃ m, M = m + 1 := ⟨M - 1, by omega⟩
    rw [sFx_s]
    have e : ∀ h, sFx (F_A_listCommands_7 n) M (o (v + 1), h) = fld (bC n) (49 * c) (49 * v + 49) h := fun h => by
      rw [ih (v + 1) M h (by omega) (by omega), show 49 * (v + 1) = 49 * v + 49 by omega]
    generalize sFx (F_A_listCommands_7 n) M = X at e ⊢
    unfold F_A_listCommands_7; dsimp only
    rw [if_neg (fun z => by have := (o_lt (by omega : 8 < 2147483648) (by omega)).mp z; omega), ← av0, listA X hn (v := v) 7 0 n h (by omega) (by omega), show 49 * (c + 1) = 7 * 7 + 49 * c by omega, fld_add, Nat.mul_zero, Nat.add_zero]
    congr 1
    funext h'
    exact e h'
theorem tryI (r7 r15 : Int32 × sHp → Option sHp) {v a : Nat} (ha : a < 7) : ∀ c b M h, b + c = 7 → c < M → sFx (F_M_tryAll_18 n r7 r15 (o v) (av a)) M (av b, h) = (fld (bM n) c (49 * v + 7 * a + b) h).bind fun h' => r15 (av (a + 1), h') := by
  intro c
  induction c with
  | zero =>
    intro b M h hb hM
    obtain ⟨M, rfl⟩ : ∃ m, M = m + 1 := ⟨M - 1, by omega⟩
    obtain rfl : b = 7 := by omega
    rw [sFx_s]; unfold F_M_tryAll_18; dsimp only
    rw [if_pos ((av_6 7 (by omega)).mpr rfl), av_next]; rfl
  | succ c ih =>
    intro b M h hb hM
    obtain ⟨M, rfl⟩ : ∃ m, M = m + 1 := ⟨M - 1, by omega⟩
    obtain ⟨d1, d2, d3⟩ := j_dec (v := v) (a := a) (b := b) ha (by omega)
    rw [sFx_s]
    have e : ∀ h, sFx (F_M_tryAll_18 n r7 r15 (o v) (av a)) M (av (b + 1), h) = (fld (bM n) c (49 * v + 7 * a + b + 1) h).bind fun h' => r15 (av (a + 1), h') := fun h => ih (b + 1) M h (by omega) (by omega)
    generalize sFx (F_M_tryAll_18 n r7 r15 (o v) (av a)) M = X at e ⊢
    show _ = ((bM n (49 * v + 7 * a + b) h).bind (fld (bM n) c (49 * v + 7 * a + b + 1))).bind _
    generalize fld (bM n) c (49 * v + 7 * a + b + 1) = Fd at e ⊢
    unfold F_M_tryAll_18 bM; dsimp only
    rw [if_neg (fun z => by have := (av_6 b (by omega)).mp z; omega), av_next, d1, d2, d3]
    by_cases h1 : h.1 0 51 = 0
    · rw [if_pos h1, if_pos h1]
      cases J_M_isCommand n (o v) (av a) (av b) h with
      | none => rfl
      | some x =>
        rw [Option.bind_some, Option.bind_some]
        by_cases h2 : x = 0
        · rw [if_pos h2, if_pos h2, e, Option.bind_some]
        · rw [if_neg h2, if_neg h2]
          cases J_M_tryOne n (o v) (av a) (av b) h with
          | none => rfl
          | some y => rw [Option.bind_some, Option.bind_some, e]
    · rw [if_neg h1, if_neg h1, e, Option.bind_some]
theorem tryA (r7 : Int32 × sHp → Option sHp) (hn : 10 ≤ n) {v : Nat} : ∀ c a M h, a + c = 7 → c < M → sFx (F_M_tryAll_10 n r7 (o v)) M (av a, h) = (fld (bM n) (7 * c) (49 * v + 7 * a) h).bind fun h' => r7 (o (v + 1), h') := by
  intro c
  induction c with
  | zero =>
    intro a M h hb hM
    obtain ⟨M, rfl⟩ : ∃ m, M = m + 1 := ⟨M - 1, by omega⟩
    obtain rfl : a = 7 := by omega
    rw [sFx_s]; unfold F_M_tryAll_10; dsimp only
    rw [if_pos ((av_6 7 (by omega)).mpr rfl), show o v + 1 = o (v + 1) from o_add v 1]; rfl
  | succ c ih =>
    intro a M h hb hM
    obtain ⟨M, rfl⟩ : ∃ m, M = m + 1 := ⟨M - 1, by omega⟩
    rw [sFx_s]
    have e : ∀ h, sFx (F_M_tryAll_10 n r7 (o v)) M (av (a + 1), h) = (fld (bM n) (7 * c) (49 * v + 7 * a + 7) h).bind fun h' => r7 (o (v + 1), h') := fun h => by
      rw [ih (a + 1) M h (by omega) (by omega), show 49 * v + 7 * (a + 1) = 49 * v + 7 * a + 7 by omega]
    generalize sFx (F_M_tryAll_10 n r7 (o v)) M = X at e ⊢
    unfold F_M_tryAll_10; dsimp only
    rw [if_neg (fun z => by have := (av_6 a (by omega)).mp z; omega), ← av0, tryI r7 X (v := v) (show a < 7 by omega) 7 0 n h (by omega) (by omega), show 7 * (c + 1) = 7 + 7 * c by omega, fld_add, Option.bind_assoc, Nat.add_zero]
    congr 1
    funext h'
    exact e h'
theorem tryV (hn : 10 ≤ n) : ∀ c v M h, v + c = 9 → c < M → sFx (F_M_tryAll_2 n) M (o v, h) = fld (bM n) (49 * c) (49 * v) h := by
  intro c
  induction c with
  | zero =>
    intro v M h hb hM
    obtain ⟨M, rfl⟩ : ∃ m, M = m + 1 := ⟨M - 1, by omega⟩
    obtain rfl : v = 9 := by omega
    rfl
  | succ c ih =>
    intro v M h hb hM
    obtain ⟨M, rfl⟩ : ∃ m, M = m + 1 := ⟨M - 1, by omega⟩
    rw [sFx_s]
    have e : ∀ h, sFx (F_M_tryAll_2 n) M (o (v + 1), h) = fld (bM n) (49 * c) (49 * v + 49) h := fun h => by
      rw [ih (v + 1) M h (by omega) (by omega), show 49 * (v + 1) = 49 * v + 49 by omega]
    generalize sFx (F_M_tryAll_2 n) M = X at e ⊢
    unfold F_M_tryAll_2; dsimp only
    rw [if_neg (fun z => by have := (o_le (by omega : 9 < 2147483648) (by omega)).mp z; omega), ← av0, tryA X hn (v := v) 7 0 n h (by omega) (by omega), show 49 * (c + 1) = 7 * 7 + 49 * c by omega, fld_add, Nat.mul_zero, Nat.add_zero]
    congr 1
    funext h'
    exact e h'
theorem M_tryAll (hn : 10 ≤ n) (g : sHp) : J_M_tryAll n g = fld (bM n) 441 0 g := tryV hn 9 0 n g (by omega) (by omega)
theorem A_list (hn : 10 ≤ n) (h : sHp) : J_A_listCommands n h = fld (bC n) 441 0 (pI h 6 1 0) := listV hn 9 0 n _ (by omega) (by omega)
end LP
