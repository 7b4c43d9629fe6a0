/-! The class finds all hopeful states. -/
theorem om1' {k : Nat} : o (k + 1) + (-1) = o k := by rw [om1 (by omega)]; rfl
theorem os1 (k : Nat) : o k - 1 = o k + (-1) := Int32.sub_eq_add_neg _ _
theorem pas_lt {W : Nat → Bool} {L : Nat → Nat → Bool} {f : Nat} : ∀ k (p : Nat → Bool) c, k ≤ f → (∀ i, p i = true → i < f) → ∀ i, (pas W L f k p c).1 i = true → i < f := by
  intro k
  induction k with
  | zero => intro p c _ h; exact h
  | succ k ih =>
    intro p c hk h
    unfold pas
    split
    · refine ih _ _ (by omega) (fun i hi => ?_)
      unfold upb at hi
      rw [Bool.or_eq_true, decide_eq_true_eq] at hi
      rcases hi with hi | hi
      · exact h i hi
      · omega
    · exact ih _ _ (by omega) h
section HC
variable {n : Nat} {w : Wp} {hw h0 g : sHp} {f : Nat}
theorem A_won {h : sHp} (hW : Wr w h g) (hK : Kc hw h) {k : Nat} (hk : k < 160) (hS : St w.mo (h.2 35 k)) : J_A_isWon n (o k) h = some (oB (wn hw (h.2 35 k))) := by
  have hE := hW.a.e4
  have hV := hS.2.2.2.2
  unfold J_A_isWon wn
  rw [sIn_o 160 (by omega), decide_eq_true hk, sGd_true, ix_o (by omega), b_ending, Option.bind_some, W_ending hW, Option.bind_some]
  generalize h.2 35 k = s at *
  by_cases h0 : dg s 20 = 0
  · rw [h0]
    have : sIn (o 0 - 1) (w.mo 4) = false := by
      unfold sIn
      exact decide_eq_false (fun z => absurd z.1 (by decide))
    rw [this]; rfl
  · have e : o (dg s 20) - 1 = o (dg s 20 - 1) := o_sub (b := 1) (by omega)
    rw [e, sIn_o _ (by omega), decide_eq_true (by omega), if_neg (by decide), sIn_o 4 (by omega), decide_eq_true (by omega), sGd_true, ix_o (by omega), decide_eq_true (show 0 < dg s 20 by omega), Bool.true_and, hK 16 _ (by omega)]
    by_cases c : hw.1 16 (dg s 20 - 1) = 0
    · rw [if_pos c, decide_eq_true c]; rfl
    · rw [if_neg c, decide_eq_false c]; rfl
theorem A_in (hn : 8 ≤ n) (hf : f ≤ 160) (hW : Wr w h0 g) (hK : Kc hw h0) (hS : ∀ i, i < f → St w.mo (h0.2 35 i)) (r12 : Int32 × Int32 × sHp → Option sHp) (x3 : Int32) : ∀ k M (h : sHp) (p : Nat → Bool) c, k ≤ f → k < M → h.1 = h0.1 → (∀ j m, j ≠ 40 → h.2 j m = h0.2 j m) → (∀ i, i < 192 → hpf h i = p i) → (∀ i, p i = true → i < f) →
    ∃ h', sFx (F_A_findHope_33 n r12 x3) M (oB c, o k + (-1), h) = r12 (oB (pas (fun x => wn hw (h0.2 35 x)) (ld h0) f k p c).2, x3 + 1, h') ∧ h'.1 = h0.1 ∧ (∀ j m, j ≠ 40 → h'.2 j m = h0.2 j m) ∧ ∀ i, i < 192 → hpf h' i = (pas (fun x => wn hw (h0.2 35 x)) (ld h0) f k p c).1 i := by
  intro k
  induction k with
  | zero =>
    intro M h p c hk hM i1 i2 i3 i4
    obtain ⟨M, rfl⟩ : ∃ m, M = m + 1 := ⟨M - 1, by omega⟩
    refine ⟨h, ?_, i1, i2, i3⟩
    rw [sFx_s]; unfold F_A_findHope_33; dsimp only
    rw [if_pos (by decide)]; rfl
  | succ k ih =>
    intro M h p c hk hM i1 i2 i3 i4
    obtain ⟨M, rfl⟩ : ∃ m, M = m + 1 := ⟨M - 1, by omega⟩
    have hK2 : Kc h0 h := fun j m z => by rw [i1]
    have e35 : h.2 35 = h0.2 35 := funext fun m => i2 35 m (by omega)
    have eld : ld h = ld h0 := by funext i j; unfold ld; rw [i2 39 _ (by omega)]
    have w1 := A_won (n := n) (Wr_keep hK2 (Kg_refl g) hW) (Kc_trans hK hK2) (show k < 160 by omega) (by rw [e35]; exact hS k (by omega))
    rw [e35] at w1
    have w2 := A_leads (n := n) (h := h) hn (show k < 160 by omega) hf i3 i4
    rw [eld] at w2
    have w3 : J_A_isHopeful n (o k) h = some (oB (p k)) := by rw [A_hopeful (by omega), i3 k (by omega)]
    obtain ⟨h2, a1, a2, a3, a4⟩ := A_addH (n := n) (h := h) (show k < 192 by omega)
    have hup : ∀ i, upb p k i = true → i < f := fun i hi => by
      unfold upb at hi
      rw [Bool.or_eq_true, decide_eq_true_eq] at hi
      rcases hi with hi | hi
      · exact i4 i hi
      · omega
    obtain ⟨h3, b1, b2, b3, b4⟩ := ih M h p c (by omega) (by omega) i1 i2 i3 i4
    obtain ⟨h4, c1, c2, c3, c4⟩ := ih M h2 (upb p k) true (by omega) (by omega) (by rw [a2]; exact i1) (fun j m z => by rw [a3 j m z]; exact i2 j m z) (fun i hi => by rw [a4 i hi, i3 i hi]; rfl) hup
    have l0 : ¬ o k < (0 : Int32) := fun z => by have := (o_lt (by omega) (by omega : 0 < 2147483648)).mp z; omega
    rw [sFx_s]
    generalize sFx (F_A_findHope_33 n r12 x3) M = X at b1 c1 ⊢
    have yes : K_A_findHope_66 n r12 X x3 (o k) h = r12 (oB (pas (fun x => wn hw (h0.2 35 x)) (ld h0) f k (upb p k) true).2, x3 + 1, h4) := by
      unfold K_A_findHope_66
      rw [a1, Option.bind_some]; exact c1
    unfold F_A_findHope_33 pas
    dsimp only
    rw [om1', if_neg l0, w3, Option.bind_some]
    have nb : nwb (fun x => wn hw (h0.2 35 x)) (ld h0) f p k = (!p k && (wn hw (h0.2 35 k) || exb (fun j => ld h0 k j && p j) f)) := rfl
    rw [nb]
    cases hp : p k with
    | true =>
      rw [if_neg (show ¬ oB true = 0 by decide), if_neg (show ¬ (!true && (wn hw (h0.2 35 k) || exb (fun j => ld h0 k j && p j) f)) = true by simp)]
      exact ⟨h3, b1, b2, b3, b4⟩
    | false =>
      rw [if_pos (show oB false = 0 from rfl), w1, Option.bind_some]
      cases hwn : wn hw (h0.2 35 k) with
      | true =>
        rw [if_neg (show ¬ oB true = 0 by decide), if_pos (show (!false && (true || exb (fun j => ld h0 k j && p j) f)) = true from rfl)]
        exact ⟨h4, yes, c2, c3, c4⟩
      | false =>
        rw [if_pos (show oB false = 0 from rfl), w2, Option.bind_some]
        cases hl : exb (fun j => ld h0 k j && p j) f with
        | true =>
          rw [if_neg (show ¬ oB true = 0 by decide), if_pos (show (!false && (false || true)) = true from rfl)]
          exact ⟨h4, yes, c2, c3, c4⟩
        | false =>
          rw [if_pos (show oB false = 0 from rfl), if_neg (show ¬ (!false && (false || false)) = true by decide)]
          exact ⟨h3, b1, b2, b3, b4⟩
theorem A_out (hn : 600 ≤ n) (hf : f ≤ 160) (hW : Wr w h0 g) (hK : Kc hw h0) (hS : ∀ i, i < f → St w.mo (h0.2 35 i)) (h10 : h0.1 6 10 = o f) : ∀ c r M (h : sHp) (p : Nat → Bool), r + c = 161 → c < M → r ≤ hcn p f → h.1 = h0.1 → (∀ j m, j ≠ 40 → h.2 j m = h0.2 j m) → (∀ i, i < 192 → hpf h i = p i) → (∀ i, p i = true → Hp f (ld h0) (fun x => wn hw (h0.2 35 x)) i) →
    ∃ h', sFx (F_A_findHope_12 n) M (1, o r, h) = some h' ∧ h'.1 = h0.1 ∧ (∀ j m, j ≠ 40 → h'.2 j m = h0.2 j m) ∧ ∀ i, i < 192 → (hpf h' i = true ↔ Hp f (ld h0) (fun x => wn hw (h0.2 35 x)) i) := by
  intro c
  induction c with
  | zero =>
    intro r M h p hr hM hc
    have := hcn_le p f
    omega
  | succ c ih =>
    intro r M h p hr hM hc i1 i2 i3 i4
    obtain ⟨M, rfl⟩ : ∃ m, M = m + 1 := ⟨M - 1, by omega⟩
    have hlt : ∀ i, p i = true → i < f := fun i hi => Hp_lt (i4 i hi)
    have hh := hcn_le p f
    obtain ⟨h2, a1, a2, a3, a4⟩ := A_in (n := n) (by omega) hf hW hK hS (sFx (F_A_findHope_12 n) M) (o r) f n h p false (Nat.le_refl _) (by omega) i1 i2 i3 hlt
    have e1 : sFx (F_A_findHope_12 n) (M + 1) (1, o r, h) = sFx (F_A_findHope_12 n) M (oB (pas (fun x => wn hw (h0.2 35 x)) (ld h0) f f p false).2, o r + 1, h2) := by
      rw [sFx_s]
      generalize sFx (F_A_findHope_12 n) M = X at a1 ⊢
      rw [← a1]
      unfold F_A_findHope_12; dsimp only
      rw [if_neg (fun z => by have := (o_lt (by omega : 160 < 2147483648) (by omega)).mp z; omega), if_neg (by decide), i1, h10, os1]; rfl
    rw [e1]
    cases hch : (pas (fun x => wn hw (h0.2 35 x)) (ld h0) f f p false).2 with
    | true =>
      obtain ⟨i, y1, y2, y3⟩ := pas_yes f p hch
      have hc' : hcn p f < hcn (pas (fun x => wn hw (h0.2 35 x)) (ld h0) f f p false).1 f := hcn_lt (fun i hi => pas_mono f p false i hi) y2 y3 f y1
      rw [show o r + 1 = o (r + 1) from o_add r 1]
      exact ih (r + 1) M h2 _ (by omega) (by omega) (by omega) a2 a3 a4 (pas_sound f p false (Nat.le_refl _) i4)
    | false =>
      obtain ⟨y1, y2⟩ := pas_no f p hch
      obtain ⟨M, rfl⟩ : ∃ m, M = m + 1 := ⟨M - 1, by omega⟩
      refine ⟨h2, ?_, a2, a3, fun i hi => ?_⟩
      · rw [sFx_s]; unfold F_A_findHope_12; dsimp only
        by_cases z : 160 < o r + 1
        · rw [if_pos z]
        · rw [if_neg z, if_pos (by decide)]
      · rw [a4 i hi, y1]
        exact ⟨fun z => i4 i z, fun z => closed_all y2 z⟩
theorem A_findHope (hn : 600 ≤ n) (hf : f ≤ 160) (hW : Wr w h0 g) (hK : Kc hw h0) (hS : ∀ i, i < f → St w.mo (h0.2 35 i)) (h10 : h0.1 6 10 = o f) : ∃ h', J_A_findHope n h0 = some h' ∧ h'.1 = h0.1 ∧ (∀ j m, j ≠ 40 → h'.2 j m = h0.2 j m) ∧ ∀ i, i < 192 → (hpf h' i = true ↔ Hp f (ld h0) (fun x => wn hw (h0.2 35 x)) i) := by
  obtain ⟨h1, a1, a2, a3⟩ := fillH (n := n) 3 0 n h0 (by omega) (by omega)
  have z0 : ∀ k, k < 64 → lB 0 k = false := by decide +kernel
  obtain ⟨h2, b1, b2⟩ := A_out hn hf hW hK hS h10 161 0 n h1 (fun _ => false) (by omega) (by omega) (by omega) a2 (fun j m z => by rw [a3, if_neg (by omega)]) (fun i hi => by unfold hpf; rw [a3, if_pos (by omega)]; exact z0 _ (Nat.mod_lt _ (by omega))) (fun i z => absurd z (by decide))
  refine ⟨h2, ?_, b2⟩
  unfold J_A_findHope J_U_fillL
  rw [show (0 : Int32) = o 0 from rfl] at *
  rw [a1, Option.bind_some]
  exact b1
end HC
