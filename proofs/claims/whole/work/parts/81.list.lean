/-! The list of commands, and the atlas opened. -/
theorem cod_tab : ∀ v, v < 9 → ∀ a, a < 7 → ∀ b, b < 7 → J_D_of 0 (o v) (av a) (av b) (fun _ _ => 0, fun _ _ => 0) = some (o (64 * v + 8 * a + b)) ∧ J_D_verbOf 0 (o (64 * v + 8 * a + b)) (fun _ _ => 0, fun _ _ => 0) = some (o v) ∧ J_D_firstOf 0 (o (64 * v + 8 * a + b)) (fun _ _ => 0, fun _ _ => 0) = some (av a) ∧ J_D_secondOf 0 (o (64 * v + 8 * a + b)) (fun _ _ => 0, fun _ _ => 0) = some (av b) := by decide +kernel
theorem cnt_tab : ∀ T, T < 7 → cnt T 441 ≤ 163 := by decide +kernel
section LI
variable {n : Nat} {w : Wp} {hw h g : sHp}
theorem D_of {j : Nat} (hj : j < 441) : J_D_of n (o (jv j)) (av (ja j)) (av (jb j)) h = some (o (cod j)) := by
  obtain ⟨a, b, c⟩ := j_lt hj
  exact (cod_tab _ a _ b _ c).1
theorem D_verb {j : Nat} (hj : j < 441) : J_D_verbOf n (o (cod j)) h = some (o (jv j)) := by
  obtain ⟨a, b, c⟩ := j_lt hj
  exact (cod_tab _ a _ b _ c).2.1
theorem D_first {j : Nat} (hj : j < 441) : J_D_firstOf n (o (cod j)) h = some (av (ja j)) := by
  obtain ⟨a, b, c⟩ := j_lt hj
  exact (cod_tab _ a _ b _ c).2.2.1
theorem D_second {j : Nat} (hj : j < 441) : J_D_secondOf n (o (cod j)) h = some (av (jb j)) := by
  obtain ⟨a, b, c⟩ := j_lt hj
  exact (cod_tab _ a _ b _ c).2.2.2
theorem cnt_mono {T : Nat} : ∀ d j, cnt T j ≤ cnt T (j + d) := by
  intro d
  induction d with
  | zero => intro j; exact Nat.le_refl _
  | succ d ih => intro j; have := ih j; show cnt T j ≤ cnt T (j + d) + _; omega
theorem cnt_step {T j : Nat} (h : ic T j = true) : cnt T (j + 1) = cnt T j + 1 := by show cnt T j + _ = _; rw [if_pos h]
theorem cnt_skip {T j : Nat} (h : ic T j = false) : cnt T (j + 1) = cnt T j := by show cnt T j + _ = _; rw [h]; rfl
theorem cnt_lt {T j : Nat} (hT : T ≤ 6) (hj : j < 441) (h : ic T j = true) : cnt T j < cnt T 441 ∧ cnt T 441 ≤ 163 := by
  have a := cnt_tab T (by omega)
  have b := cnt_mono (T := T) (441 - (j + 1)) (j + 1)
  rw [show j + 1 + (441 - (j + 1)) = 441 by omega, cnt_step h] at b
  exact ⟨by omega, a⟩
theorem cnt_inj {T i j : Nat} (hij : i < j) (h : ic T i = true) : cnt T i < cnt T j := by
  have b := cnt_mono (T := T) (j - (i + 1)) (i + 1)
  rw [show i + 1 + (j - (i + 1)) = j by omega, cnt_step h] at b
  omega
theorem listF (hn : 10 ≤ n) : ∀ d j h, j + d = 441 → Wr w h g → h.1 6 1 = o (cnt w.T j) → (∀ i, i < j → ic w.T i = true → h.1 34 (cnt w.T i) = o (cod i)) → ∃ h', fld (bC n) d j h = some h' ∧ h'.2 = h.2 ∧ (∀ j m, j ≠ 34 → ¬ (j = 6 ∧ m = 1) → h'.1 j m = h.1 j m) ∧ h'.1 6 1 = o (cnt w.T 441) ∧ ∀ i, i < 441 → ic w.T i = true → h'.1 34 (cnt w.T i) = o (cod i) := by
  intro d
  induction d with
  | zero =>
    intro j h hj hW h1 h2
    obtain rfl : j = 441 := by omega
    exact ⟨h, rfl, rfl, fun _ _ _ _ => rfl, h1, h2⟩
  | succ d ih =>
    intro j h hj hW h1 h2
    have hT := hW.p.2.2.1.1
    have hj' : j < 441 := by omega
    have c163 := cnt_tab w.T (by omega)
    have cm := cnt_mono (T := w.T) (441 - j) j
    rw [show j + (441 - j) = 441 by omega] at cm
    show ∃ h', (bC n j h).bind (fld (bC n) d (j + 1)) = some h' ∧ _
    by_cases hc : ic w.T j = true
    · obtain ⟨c1, -⟩ := cnt_lt hT hj' hc
      have b : bC n j h = some (pI (pI h 34 (cnt w.T j) (o (cod j))) 6 1 (o (cnt w.T j + 1))) := by
        unfold bC
        rw [h1, if_neg (fun z => by have := (o_le (by omega : 163 < 2147483648) (by omega)).mp z; omega), W_ic hW hj', Option.bind_some, hc, if_neg (by decide), D_of hj', Option.bind_some, sIn_o 163 (by omega), decide_eq_true (by omega), sGd_true, ix_o (by omega), show o (cnt w.T j) + 1 = o (cnt w.T j + 1) from o_add _ 1]
      rw [b, Option.bind_some]
      obtain ⟨h', e1, e2, e3, e4, e5⟩ := ih (j + 1) (pI (pI h 34 (cnt w.T j) (o (cod j))) 6 1 (o (cnt w.T j + 1))) (by omega) (Wr_keep (Kc_pI (Kc_pI (Kc_refl h) (by omega)) (by omega)) (Kg_refl g) hW) (by rw [pI_i, if_pos ⟨rfl, rfl⟩, cnt_step hc]) (fun i hi hic => by
        rw [pI_i, if_neg (by omega), pI_i]
        by_cases hij : i = j
        · subst hij; rw [if_pos ⟨rfl, rfl⟩]
        · have := cnt_inj (show i < j by omega) hic
          rw [if_neg (by omega)]; exact h2 i (by omega) hic)
      refine ⟨h', e1, e2, fun j' m z1 z2 => ?_, e4, e5⟩
      rw [e3 j' m z1 z2, pI_i, if_neg (by omega), pI_i, if_neg (by omega)]
    · have hc : ic w.T j = false := by cases h : ic w.T j; rfl; exact absurd h hc
      have b : bC n j h = some h := by
        unfold bC
        by_cases hb : 163 ≤ h.1 6 1
        · rw [if_pos hb]
        · rw [if_neg hb, W_ic hW hj', Option.bind_some, hc]; rfl
      rw [b, Option.bind_some]
      exact ih (j + 1) h (by omega) hW (by rw [cnt_skip hc]; exact h1) (fun i hi hic => by
        by_cases hij : i = j
        · rw [hij, hc] at hic; exact absurd hic (by decide)
        · exact h2 i (by omega) hic)
theorem fillL (x : Int32) : ∀ d i M h, i + d = 512 → d < M → ∃ h', sFx (F_U_fill_5 n x 512) M (o i, h) = some h' ∧ h'.2 = h.2 ∧ ∀ j m, h'.1 j m = if j = 38 ∧ i ≤ m ∧ m < 512 then x else h.1 j m := by
  intro d
  induction d with
  | zero =>
    intro i M h hi hM
    obtain ⟨M, rfl⟩ : ∃ m, M = m + 1 := ⟨M - 1, by omega⟩
    obtain rfl : i = 512 := by omega
    exact ⟨h, rfl, rfl, fun j m => by rw [if_neg (by omega)]⟩
  | succ d ih =>
    intro i M h hi hM
    obtain ⟨M, rfl⟩ : ∃ m, M = m + 1 := ⟨M - 1, by omega⟩
    obtain ⟨h', e1, e2, e3⟩ := ih (i + 1) M (pI h 38 i x) (by omega) (by omega)
    refine ⟨h', ?_, e2, fun j m => ?_⟩
    · rw [sFx_s]
      generalize sFx (F_U_fill_5 n x 512) M = X at e1 ⊢
      unfold F_U_fill_5; dsimp only
      rw [if_neg (fun z => by have := (o_le (by omega : 512 < 2147483648) (by omega)).mp z; omega), sIn_o 512 (by omega), decide_eq_true (by omega), sGd_true, ix_o (by omega), show o i + 1 = o (i + 1) from o_add i 1]
      exact e1
    · rw [e3 j m, pI_i]
      by_cases q1 : j = 38 ∧ i + 1 ≤ m ∧ m < 512
      · rw [if_pos q1, if_pos (by omega)]
      · rw [if_neg q1]
        by_cases q2 : j = 38 ∧ m = i
        · rw [if_pos q2, if_pos (by omega)]
        · rw [if_neg q2, if_neg (by omega)]
/-- the atlas is opened -/
theorem open_both (hn : 600 ≤ n) (hW : Wr w h g) (hR : 0 < w.mo 3) (hF : isF w (h.2 7 0)) (hA : AtC h g) : ∃ h', J_A_opn n h = some h' ∧ Kc h h' ∧ Kp h h' ∧ AtO n w hw 1 0 false h' g := by
  obtain ⟨h1, a1, a2, a3⟩ := fillL (n := n) 0 512 0 n h (by omega) (by omega)
  have kc1 : Kc h (pI h1 6 1 0) := fun j m z => by rw [pI_i, if_neg (by omega), a3, if_neg (by omega)]
  obtain ⟨h2, b1, b2, b3, b4, b5⟩ := listF (g := g) (w := w) (by omega : 10 ≤ n) 441 0 (pI h1 6 1 0) (by omega) (Wr_keep kc1 (Kg_refl g) hW) (by rw [pI_i, if_pos ⟨rfl, rfl⟩]; rfl) (fun i hi => absurd hi (by omega))
  have k2 : ∀ j m, j ≠ 34 → ¬ (j = 6 ∧ m = 1) → j ≠ 38 → h2.1 j m = h.1 j m := fun j m x y z => by rw [b3 j m x y, pI_i, if_neg (by omega), a3, if_neg (by omega)]
  have k2l : h2.2 = h.2 := by rw [b2]; exact a2
  have kc2 : Kc h h2 := fun j m z => k2 j m (by omega) (by omega) (by omega)
  obtain ⟨s, c1, c2⟩ := E_first (n := n) (Wr_keep kc2 (Kg_refl g) hW) (by omega)
  have es : s = h.2 7 0 := isF_eq c2 hF
  have z38 : ∀ q, q < 512 → h2.1 38 q = 0 := fun q hq => by rw [b3 38 q (by omega) (by omega), pI_i, if_neg (by omega), a3, if_pos (by omega)]
  obtain ⟨e0, s1, s2, s3, s4⟩ := slot_spec (h := h2) (f := 0) s hn (by omega) (fun q hq => ⟨0, by omega, z38 q hq⟩) (fun i hi => absurd hi (by omega)) (by rw [zc_all 512 z38])
  have hq : (hsh s + e0) % 512 < 512 := Nat.mod_lt _ (by omega)
  have h10 : h2.1 6 10 = o 0 := by rw [k2 _ _ (by omega) (by omega) (by omega)]; exact hA.c1.1
  obtain ⟨h3, p1, p2, p3⟩ := E_append (h := h2) (n := n) (f := 0) (by omega) s 0 0 hq (by omega) h10
  have hS : St w.mo s := ⟨isF_Rk hW c2, c2.1, isF_V hR c2⟩
  have s30 : h3.2 35 0 = s := by rw [p3, if_neg (by omega), if_pos ⟨rfl, rfl⟩]
  have s70 : h3.2 7 0 = s := by rw [p3, if_neg (by omega), if_neg (by omega), k2l, es]
  have t1 : ∀ q, q ≠ (hsh s + e0) % 512 → h3.1 38 q = h2.1 38 q := fun q hq => by rw [p2, if_neg (by omega), if_neg (by omega), if_neg (by omega), if_neg (by omega)]
  have t2 : h3.1 38 ((hsh s + e0) % 512) = o 1 := by rw [p2, if_pos ⟨rfl, rfl⟩]
  have hi0 : ∀ i, i < 1 → i = 0 := fun i hi => by omega
  have l2 : ∀ j, j < 192 → ld h3 0 j = false := fun j hj => by
    unfold ld
    rw [p3, if_pos (by omega)]
    have : ∀ k, k < 64 → lB 0 k = false := by decide +kernel
    exact this _ (Nat.mod_lt _ (by omega))
  refine ⟨h3, ?_, fun j m z => ?_, ⟨fun j m z => ?_, fun m => ?_⟩, ?_⟩
  · unfold J_A_opn J_U_fill
    rw [show (0 : Int32) = o 0 from rfl] at a1 p1 ⊢
    rw [a1, Option.bind_some, A_list (by omega), show (0 : Int32) = o 0 from rfl]
    rw [show (0 : Int32) = o 0 from rfl] at b1
    rw [b1, Option.bind_some, c1, Option.bind_some, s2, Option.bind_some, p1]; rfl
  · rw [p2, if_neg (by omega), if_neg (by omega), if_neg (by omega), if_neg (by omega)]; exact kc2 j m z
  · rw [p2, if_neg (by omega), if_neg (by omega), if_neg (by omega), if_neg (by omega), k2 j m (by omega) (by omega) (by omega)]
  · rw [p3, if_neg (by omega), if_neg (by omega), k2l]
  · refine ⟨by omega, by omega, by omega, fun z => absurd z (by decide), ⟨?_, hA.c2.1⟩, ⟨?_, hA.c2.2.1⟩, ⟨?_, hA.c2.2.2.1⟩, ?_, hR, by rw [s30, s70], fun i hi => ?_, fun i j hi hj _ => by omega, fun i hi => ?_, fun i h1 h2 => absurd h2 (by omega), hA.c3.2.2, fun i h1 h2 => absurd h2 (by omega), ⟨?_, fun j h1 h2 => ?_⟩, fun i hi j hj => ?_, fun i hi j hj hl => ?_, fun i hi => absurd hi (by omega), fun q hq => ?_, fun i hi => ?_, ?_, fun z => absurd z (by omega)⟩
    · rw [p2, if_neg (by omega), if_pos ⟨rfl, rfl⟩]
    · rw [p2, if_neg (by omega), if_neg (by omega), if_neg (by omega), if_neg (by omega), k2 _ _ (by omega) (by omega) (by omega)]; exact hA.c1.2.1
    · rw [p2, if_neg (by omega), if_neg (by omega), if_neg (by omega), if_neg (by omega), k2 _ _ (by omega) (by omega) (by omega)]; exact hA.c1.2.2.1
    · rw [p2, if_neg (by omega), if_neg (by omega), if_neg (by omega), if_neg (by omega), k2 _ _ (by omega) (by omega) (by omega), hA.c1.2.2.2, hA.c2.2.2.2]
    · rw [hi0 i hi, s30]; exact hS
    · rw [hi0 i hi, s30, es]; exact ⟨hA.c3.1, hA.c3.2.1⟩
    · rw [p2, if_neg (by omega), if_neg (by omega), if_neg (by omega), if_neg (by omega)]; exact b4
    · rw [p2, if_neg (by omega), if_neg (by omega), if_neg (by omega), if_neg (by omega)]; exact b5 j h1 h2
    · rw [hi0 i hi, l2 j (by omega)]
      unfold rf
      rw [hA.c4 _ (by omega)]
      have : ∀ k, k < 32 → iB 0 k = false := by decide +kernel
      rw [this _ (Nat.mod_lt _ (by omega))]
    · rw [hi0 i hi, l2 j hj] at hl; exact absurd hl (by decide)
    · by_cases z : q = (hsh s + e0) % 512
      · exact ⟨1, by omega, by rw [z, t2]⟩
      · exact ⟨0, by omega, by rw [t1 q z]; exact z38 q hq⟩
    · rw [hi0 i hi, s30]
      refine ⟨e0, s1, t2, fun e' he' => ?_⟩
      exact absurd (z38 _ (Nat.mod_lt _ (by omega))) (s3 e' he')
    · have := zc_upd (f := h2.1 38) (f' := h3.1 38) (q := (hsh s + e0) % 512) (z38 _ hq) (by rw [t2]; decide) (fun j hj => t1 j hj) 512
      rw [if_pos hq, zc_all 512 z38] at this
      omega
end LI
