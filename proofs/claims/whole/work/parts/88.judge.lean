/-! The reference finds all hopeful states. -/
def exq (P : Nat → Bool) : Nat → Nat → Bool
  | 0, _ => false
  | c + 1, t => P t || exq P c (t + 1)
theorem exq_iff {P : Nat → Bool} : ∀ c t, exq P c t = true ↔ ∃ j, t ≤ j ∧ j < t + c ∧ P j = true := by
  intro c
  induction c with
  | zero => intro t; exact ⟨fun z => absurd z (by show ¬ false = true; decide), fun ⟨j, a, b, _⟩ => absurd b (by omega)⟩
  | succ c ih =>
    intro t
    show (P t || exq P c (t + 1)) = true ↔ _
    rw [Bool.or_eq_true, ih]
    constructor
    · rintro (a | ⟨j, a, b, c⟩)
      · exact ⟨t, by omega, by omega, a⟩
      · exact ⟨j, by omega, by omega, c⟩
    · rintro ⟨j, a, b, c⟩
      by_cases z : j = t
      · subst z; exact Or.inl c
      · exact Or.inr ⟨j, by omega, by omega, c⟩
theorem exq_exb {P : Nat → Bool} (m : Nat) : exq P m 0 = exb P m := by
  rw [Bool.eq_iff_iff, exq_iff, exb_iff]
  constructor
  · rintro ⟨j, _, b, c⟩; exact ⟨j, by omega, c⟩
  · rintro ⟨j, b, c⟩; exact ⟨j, by omega, by omega, c⟩
theorem ish_r : ∀ j, j < 32 → ((Int32.ofNat j) &&& 31).toBitVec.smod 32 = BitVec.ofNat 32 j := ish_s
theorem iand1 (s : Int32) {j : Nat} (hj : j < 32) : ((jIshr s (o j)) &&& 1) = 1 ↔ iB s j = true := by
  have b0 : iB (jIshr s (o j)) 0 = iB s j := by
    unfold iB jIshr
    rw [Int32.toBitVec_shiftRight]
    show (BitVec.sshiftRight' s.toBitVec (((Int32.ofNat j) &&& 31).toBitVec.smod 32)).getLsbD 0 = _
    rw [ish_r j hj, BitVec.sshiftRight_eq']
    have : (BitVec.ofNat 32 j).toNat = j := by rw [BitVec.toNat_ofNat]; exact Nat.mod_eq_of_lt (by omega)
    rw [this, BitVec.getLsbD_sshiftRight]
    simp [hj]
  constructor
  · intro z
    rw [← b0]
    have : iB ((jIshr s (o j)) &&& 1) 0 = true := by rw [z]; decide +kernel
    rw [iB_and] at this
    exact ((Bool.and_eq_true _ _).mp this).1
  · intro z
    apply iB_ext
    intro k hk
    rw [iB_and, iB_one k hk]
    by_cases hk0 : k = 0
    · rw [hk0, b0, z]; rfl
    · simp [hk0]
section JU
variable {n : Nat} {w : Wp} {hw h0 g0 : sHp} {f d : Nat} {full : Bool}
theorem M_fol {g : sHp} {i j : Nat} (hi : i < 160) (hj : j < 160) : J_M_isFollowed n (o i) (o j) g = some (oB (rf g i j)) := by
  have e1 : (5 : Int32) * o i + o j / 32 = o (5 * i + j / 32) := by
    rw [show (32 : Int32) = o 32 from rfl, o_div (by omega) (by omega)]
    show o 5 * o i + o (j / 32) = _
    rw [o_mul, o_add]
  have e2 : jRem (o j) 32 = o (j % 32) := jRem_o (by omega) (by omega : 32 < 2147483648)
  unfold J_M_isFollowed rf
  rw [e1, e2, sIn_o 800 (by omega), decide_eq_true (by omega), sGd_true, ix_o (by omega)]
  cases c : iB (g.1 40 (5 * i + j / 32)) (j % 32) with
  | true => rw [if_pos ((iand1 _ (by omega)).mpr c)]; rfl
  | false => rw [if_neg (fun z => by rw [iand1 _ (by omega), c] at z; exact absurd z (by decide))]; rfl
/-- what the judge has written so far -/
def Jd (g0 g : sHp) (f : Nat) (p : Nat → Bool) : Prop := g.2 = g0.2 ∧ (∀ j m, j ≠ 41 → g.1 j m = g0.1 j m) ∧ ∀ i, i < f → g.1 41 i = oB (p i)
theorem Jd_up {g : sHp} {p : Nat → Bool} (hJ : Jd g0 g f p) {k : Nat} (b : Bool) : Jd g0 (pI g 41 k (oB b)) f (fun i => if i = k then b else p i) := by
  obtain ⟨a1, a2, a3⟩ := hJ
  refine ⟨a1, fun j m z => by rw [pI_i, if_neg (by omega)]; exact a2 j m z, fun i hi => ?_⟩
  rw [pI_i]
  by_cases c : i = k
  · subst c; simp
  · rw [if_neg (by omega)]; simp only [if_neg c]; exact a3 i hi
theorem J_any (hA : AtO n w hw f d full h0 g0) {g : sHp} {p : Nat → Bool} (hJ : Jd g0 g f p) (r62 : Int32 × sHp → Option sHp) (r75 : Int32 × Int32 × sHp → Option sHp) (x1 : Int32) {k : Nat} (hk : k < f) (hp : p k = false) : ∀ c t M b, t + c = f → c < M → sFx (F_M_judge_84 n r62 r75 x1 (o k) g) M (oB b, o t) = K_M_judge_138 n r62 r75 x1 (o k) (oB (b || exq (fun j => ld h0 k j && p j) c t)) g := by
  have f160 := hA.f160
  obtain ⟨j1, j2, j3⟩ := hJ
  have h49 : g.1 0 49 = o f := by rw [j2 0 49 (by omega)]; exact hA.fo.2
  have hk0 : g.1 41 k = 0 := by rw [j3 k hk, hp]; rfl
  intro c
  induction c with
  | zero =>
    intro t M b ht hM
    obtain ⟨M, rfl⟩ : ∃ m, M = m + 1 := ⟨M - 1, by omega⟩
    rw [sFx_s]; unfold F_M_judge_84; dsimp only
    rw [h49, if_pos ((o_le (by omega) (by omega)).mpr (by omega))]
    show _ = K_M_judge_138 n r62 r75 x1 (o k) (oB (b || false)) g
    rw [Bool.or_false]
  | succ c ih =>
    intro t M b ht hM
    obtain ⟨M, rfl⟩ : ∃ m, M = m + 1 := ⟨M - 1, by omega⟩
    have e1 := ih (t + 1) M true (by omega) (by omega)
    have e0 := ih (t + 1) M false (by omega) (by omega)
    rw [sFx_s]
    generalize sFx (F_M_judge_84 n r62 r75 x1 (o k) g) M = X at e1 e0 ⊢
    have hr : rf g k t = ld h0 k t := by
      rw [hA.le k hk t (by omega)]; unfold rf; rw [j2 40 _ (by omega)]
    unfold F_M_judge_84; dsimp only
    rw [h49, if_neg (fun z => by have := (o_le (by omega) (by omega)).mp z; omega), sIn_o 160 (by omega), decide_eq_true (by omega), sGd_true, ix_o (by omega), hk0, if_pos rfl, sIn_o 160 (by omega), decide_eq_true (show t < 160 by omega), sGd_true, ix_o (show t < 2147483648 by omega), j3 t (by omega), M_fol (by omega) (by omega), Option.bind_some, hr, show o t + 1 = o (t + 1) from o_add t 1]
    have ex : exq (fun j => ld h0 k j && p j) (c + 1) t = ((ld h0 k t && p t) || exq (fun j => ld h0 k j && p j) c (t + 1)) := rfl
    rw [ex]
    cases b with
    | true => rw [if_neg (show ¬ oB true = 0 by decide), show (1 : Int32) = oB true from rfl, e1]; rfl
    | false =>
      rw [if_pos (show oB false = 0 from rfl)]
      cases hpt : p t with
      | false => rw [if_pos (show oB false = 0 from rfl), show (0 : Int32) = oB false from rfl, e0, Bool.and_false]; rfl
      | true =>
        rw [if_neg (show ¬ oB true = 0 by decide), Bool.and_true]
        cases hl : ld h0 k t with
        | true => rw [if_neg (show ¬ oB true = 0 by decide), show (1 : Int32) = oB true from rfl, e1]; rfl
        | false => rw [if_pos (show oB false = 0 from rfl), show (0 : Int32) = oB false from rfl, e0]; rfl
theorem Jd_eq {g : sHp} {p q : Nat → Bool} (hJ : Jd g0 g f p) (h : ∀ i, i < f → p i = q i) : Jd g0 g f q := ⟨hJ.1, hJ.2.1, fun i hi => by rw [← h i hi]; exact hJ.2.2 i hi⟩
theorem J_in (hn : 600 ≤ n) (hA : AtO n w hw f d full h0 g0) {W : Nat → Bool} (r62 : Int32 × sHp → Option sHp) : ∀ k M (g : sHp) (p : Nat → Bool) c, k ≤ f → k < M → Jd g0 g f p → (∀ i, W i = true → p i = true) → ∃ g', sFx (F_M_judge_75 n r62) M (oB c, o k + (-1), g) = r62 (oB (pas W (ld h0) f k p c).2, g') ∧ Jd g0 g' f (pas W (ld h0) f k p c).1 := by
  have f160 := hA.f160
  intro k
  induction k with
  | zero =>
    intro M g p c hk hM hJ hw'
    obtain ⟨M, rfl⟩ : ∃ m, M = m + 1 := ⟨M - 1, by omega⟩
    refine ⟨g, ?_, hJ⟩
    rw [sFx_s]; unfold F_M_judge_75; dsimp only
    rw [if_pos (by decide)]; rfl
  | succ k ih =>
    intro M g p c hk hM hJ hw'
    obtain ⟨M, rfl⟩ : ∃ m, M = m + 1 := ⟨M - 1, by omega⟩
    have l0 : ¬ o k < (0 : Int32) := fun z => by have := (o_lt (by omega) (by omega : 0 < 2147483648)).mp z; omega
    have hin : sIn (o k) 160 = true := by rw [sIn_o 160 (by omega), decide_eq_true (by omega)]
    rw [sFx_s]
    have ih1 := ih M
    generalize sFx (F_M_judge_75 n r62) M = X at ih1 ⊢
    unfold pas nwb
    have em : ∀ b : Bool, vp_nar .boolean (oB b) = oB b := nar_b
    have k138 : ∀ any : Bool, K_M_judge_138 n r62 X (oB c) (o k) (oB any) g = X (oB (c || any), o k + (-1), pI g 41 k (oB (p k || any))) := fun any => by
      unfold K_M_judge_138 K_M_judge_156 K_M_judge_161
      rw [hin]
      simp only [sGd_true, ix_o (show k < 2147483648 by omega)]
      rw [hJ.2.2 k (by omega)]
      cases p k <;> cases any <;> cases c <;> rfl
    have eF : F_M_judge_75 n r62 X (oB c, o (k + 1) + (-1), g) = X (oB (c || (!p k && exb (fun j => ld h0 k j && p j) f)), o k + (-1), pI g 41 k (oB (p k || (!p k && exb (fun j => ld h0 k j && p j) f)))) := by
      unfold F_M_judge_75; dsimp only
      rw [om1', if_neg l0]
      cases hp : p k with
      | false =>
        have := J_any (n := n) hA hJ r62 X (oB c) (show k < f by omega) hp f 0 n false (by omega) (by omega)
        rw [show ((0 : Int32), (0 : Int32)) = (oB false, o 0) from rfl, this, Bool.false_or, exq_exb, k138, hp]
        rfl
      | true =>
        obtain ⟨m, rfl⟩ : ∃ m, n = m + 1 := ⟨n - 1, by omega⟩
        rw [sFx_s]
        have h49 : g.1 0 49 = o f := by rw [hJ.2.1 0 49 (by omega)]; exact hA.fo.2
        have hk1 : ¬ g.1 41 k = 0 := by rw [hJ.2.2 k (by omega), hp]; decide
        unfold F_M_judge_84; dsimp only
        rw [h49, if_neg (fun z => by have := (o_le (by omega) (by omega : 0 < 2147483648)).mp z; omega), hin, sGd_true, ix_o (by omega), if_neg hk1, show (0 : Int32) = oB false from rfl, k138, hp]
        rfl
    rw [eF]
    cases hp : p k with
    | true =>
      have hJ' : Jd g0 (pI g 41 k (oB true)) f p := Jd_eq (Jd_up hJ true) (fun i hi => by
        by_cases z : i = k
        · simp only [if_pos z]; rw [z, hp]
        · simp only [if_neg z])
      obtain ⟨g', b1, b2⟩ := ih1 (pI g 41 k (oB true)) p c (by omega) (by omega) hJ' hw'
      rw [if_neg (show ¬ (!true && (W k || exb (fun j => ld h0 k j && p j) f)) = true by simp)]
      refine ⟨g', ?_, b2⟩
      rw [show (c || (!true && exb (fun j => ld h0 k j && p j) f)) = c by cases c <;> rfl]
      exact b1
    | false =>
      have hW0 : W k = false := by
        cases hc : W k with
        | false => rfl
        | true => have := hw' k hc; rw [hp] at this; exact absurd this (by decide)
      rw [hW0, Bool.false_or]
      cases hx : exb (fun j => ld h0 k j && p j) f with
      | true =>
        have hJ' : Jd g0 (pI g 41 k (oB true)) f (upb p k) := Jd_eq (Jd_up hJ true) (fun i hi => by
          unfold upb
          by_cases z : i = k
          · simp [z]
          · simp [z])
        obtain ⟨g', b1, b2⟩ := ih1 (pI g 41 k (oB true)) (upb p k) true (by omega) (by omega) hJ' (fun i hi => by unfold upb; rw [hw' i hi]; rfl)
        rw [if_pos (by rfl)]
        refine ⟨g', ?_, b2⟩
        rw [show (c || (!false && true)) = true by cases c <;> rfl]
        exact b1
      | false =>
        have hJ' : Jd g0 (pI g 41 k (oB false)) f p := Jd_eq (Jd_up hJ false) (fun i hi => by
          by_cases z : i = k
          · simp only [if_pos z]; rw [z, hp]
          · simp only [if_neg z])
        obtain ⟨g', b1, b2⟩ := ih1 (pI g 41 k (oB false)) p c (by omega) (by omega) hJ' hw'
        rw [if_neg (by decide)]
        refine ⟨g', ?_, b2⟩
        rw [show (c || (!false && false)) = c by cases c <;> rfl]
        exact b1
theorem J_out (hn : 600 ≤ n) (hA : AtO n w hw f d full h0 g0) {W : Nat → Bool} : ∀ c r M (g : sHp) (p : Nat → Bool), r + c = 161 → c < M → r ≤ hcn p f → Jd g0 g f p → (∀ i, W i = true → p i = true) → (∀ i, p i = true → Hp f (ld h0) W i) → ∃ g' p', sFx (F_M_judge_62 n) M (1, g) = some g' ∧ Jd g0 g' f p' ∧ ∀ i, (p' i = true ↔ Hp f (ld h0) W i) := by
  have f160 := hA.f160
  intro c
  induction c with
  | zero =>
    intro r M g p hr hM hc
    have := hcn_le p f
    omega
  | succ c ih =>
    intro r M g p hr hM hc hJ hw' hs
    obtain ⟨M, rfl⟩ : ∃ m, M = m + 1 := ⟨M - 1, by omega⟩
    obtain ⟨g2, a1, a2⟩ := J_in hn hA (W := W) (sFx (F_M_judge_62 n) M) f n g p false (Nat.le_refl _) (by omega) hJ hw'
    have e1 : sFx (F_M_judge_62 n) (M + 1) (1, g) = sFx (F_M_judge_62 n) M (oB (pas W (ld h0) f f p false).2, g2) := by
      rw [sFx_s]
      generalize sFx (F_M_judge_62 n) M = X at a1 ⊢
      rw [← a1]
      unfold F_M_judge_62; dsimp only
      rw [if_neg (by decide), hJ.2.1 0 49 (by omega), hA.fo.2, os1]; rfl
    rw [e1]
    cases hch : (pas W (ld h0) f f p false).2 with
    | true =>
      obtain ⟨i, y1, y2, y3⟩ := pas_yes f p hch
      have hc' : hcn p f < hcn (pas W (ld h0) f f p false).1 f := hcn_lt (fun i hi => pas_mono f p false i hi) y2 y3 f y1
      exact ih (r + 1) M g2 _ (by omega) (by omega) (by omega) a2 (fun i hi => pas_mono f p false i (hw' i hi)) (pas_sound f p false (Nat.le_refl _) hs)
    | false =>
      obtain ⟨y1, y2⟩ := pas_no f p hch
      obtain ⟨M, rfl⟩ : ∃ m, M = m + 1 := ⟨M - 1, by omega⟩
      rw [y1] at a2
      exact ⟨g2, p, rfl, a2, fun i => ⟨fun z => hs i z, fun z => closed_all y2 z⟩⟩
/-- the good endings first -/
theorem J_first (hn : 600 ≤ n) (hW : Wr w h0 g0) (hK : Kc hw h0) (hA : AtO n w hw f d full h0 g0) : ∀ c i M (g : sHp), i + c = f → c < M → Jd g0 g i (fun x => wn hw (h0.2 35 x)) → ∃ g', sFx (F_M_judge_2 n) M (o i, g) = sFx (F_M_judge_62 n) n (1, g') ∧ Jd g0 g' f (fun x => wn hw (h0.2 35 x)) := by
  have f160 := hA.f160
  have hE := hW.a.e4
  intro c
  induction c with
  | zero =>
    intro i M g hi hM hJ
    obtain ⟨M, rfl⟩ : ∃ m, M = m + 1 := ⟨M - 1, by omega⟩
    obtain rfl : i = f := by omega
    refine ⟨g, ?_, hJ⟩
    rw [sFx_s]; unfold F_M_judge_2; dsimp only
    rw [hJ.2.1 0 49 (by omega), hA.fo.2, if_pos ((o_le (by omega) (by omega)).mpr (Nat.le_refl _))]
  | succ c ih =>
    intro i M g hi hM hJ
    obtain ⟨M, rfl⟩ : ∃ m, M = m + 1 := ⟨M - 1, by omega⟩
    have hin : sIn (o i) 160 = true := by rw [sIn_o 160 (by omega), decide_eq_true (by omega)]
    have hV := (hA.st i (by omega)).2.2.2.2
    have h34 : g.1 34 i = o (eA (h0.2 35 i)) := by rw [hJ.2.1 34 i (by omega)]; exact (hA.enc i (by omega)).1
    have hJ' : Jd g0 (pI g 41 i (oB (wn hw (h0.2 35 i)))) (i + 1) (fun x => wn hw (h0.2 35 x)) := by
      obtain ⟨a1, a2, a3⟩ := hJ
      refine ⟨a1, fun j m z => by rw [pI_i, if_neg (by omega)]; exact a2 j m z, fun k hk => ?_⟩
      rw [pI_i]
      by_cases c : k = i
      · subst c; simp
      · rw [if_neg (by omega)]; exact a3 k (by omega)
    obtain ⟨g', e1, e2⟩ := ih (i + 1) M _ (by omega) (by omega) hJ'
    refine ⟨g', ?_, e2⟩
    rw [sFx_s]
    generalize sFx (F_M_judge_2 n) M = X at e1 ⊢
    have h7 : ∀ e, g.1 7 e = g0.1 7 e := fun e => hJ.2.1 7 e (by omega)
    unfold F_M_judge_2; dsimp only
    rw [hJ.2.1 0 49 (by omega), hA.fo.2, if_neg (fun z => by have := (o_le (by omega) (by omega)).mp z; omega), hin, sGd_true, sGd_true, ix_o (by omega), h34, eA_over, show o i + 1 = o (i + 1) from o_add i 1]
    have h8 := dV_lt (h0.2 35 i)
    unfold wn at e1
    generalize h0.2 35 i = s at *
    by_cases z0 : dg s 20 = 0
    · rw [if_pos (by rw [z0]; decide)]
      rw [z0] at e1
      exact e1
    · have l0 : ¬ o (dg s 20) ≤ (0 : Int32) := fun z => by have := (o_le (by omega) (by omega : 0 < 2147483648)).mp z; omega
      have e : o (dg s 20) - 1 = o (dg s 20 - 1) := o_sub (b := 1) (by omega)
      obtain ⟨b, b1, b2⟩ := hW.a.gd (dg s 20 - 1) (by omega)
      rw [hK 16 _ (by omega)] at b1
      rw [b1, decide_eq_true (show 0 < dg s 20 by omega), Bool.true_and] at e1
      rw [if_neg l0, if_neg l0, e, sIn_o 4 (by omega), decide_eq_true (by omega), sGd_true, ix_o (by omega), h7, b2]
      cases b with
      | true => rw [if_neg (by decide)]; exact e1
      | false => rw [if_pos (by decide)]; exact e1
theorem M_judge (hn : 600 ≤ n) (hW : Wr w h0 g0) (hK : Kc hw h0) (hA : AtO n w hw f d full h0 g0) : ∃ g' p', J_M_judge n g0 = some g' ∧ Jd g0 g' f p' ∧ ∀ i, (p' i = true ↔ Hp f (ld h0) (fun x => wn hw (h0.2 35 x)) i) := by
  have f160 := hA.f160
  obtain ⟨g1, a1, a2⟩ := J_first hn hW hK hA f 0 n g0 (by omega) (by omega) ⟨rfl, fun _ _ _ => rfl, fun i hi => absurd hi (by omega)⟩
  -- only states that were found count
  have hJ : Jd g0 g1 f (fun x => decide (x < f) && wn hw (h0.2 35 x)) := Jd_eq a2 (fun i hi => by rw [decide_eq_true hi, Bool.true_and])
  have hp : ∀ i, (Hp f (ld h0) (fun x => decide (x < f) && wn hw (h0.2 35 x)) i ↔ Hp f (ld h0) (fun x => wn hw (h0.2 35 x)) i) := fun i => by
    constructor
    · intro z
      exact z (fun i => Hp f (ld h0) (fun x => wn hw (h0.2 35 x)) i) (fun i h1 h2 => Hp.won h1 ((Bool.and_eq_true _ _).mp h2).2) (fun i j h1 h2 h3 h4 => Hp.step h1 h2 h3 h4)
    · intro z
      exact z (fun i => Hp f (ld h0) (fun x => decide (x < f) && wn hw (h0.2 35 x)) i) (fun i h1 h2 => Hp.won h1 (by show (decide (i < f) && wn hw (h0.2 35 i)) = true; rw [decide_eq_true h1, Bool.true_and]; exact h2)) (fun i j h1 h2 h3 h4 => Hp.step h1 h2 h3 h4)
  obtain ⟨g2, p', b1, b2, b3⟩ := J_out hn hA (W := fun x => decide (x < f) && wn hw (h0.2 35 x)) 161 0 n g1 _ (by omega) (by omega) (by omega) hJ (fun i hi => hi) (fun i hi => by
    rw [Bool.and_eq_true, decide_eq_true_eq] at hi
    exact Hp.won hi.1 (by show (decide (i < f) && wn hw (h0.2 35 i)) = true; rw [decide_eq_true hi.1, Bool.true_and]; exact hi.2))
  refine ⟨g2, p', ?_, b2, fun i => (b3 i).trans (hp i)⟩
  unfold J_M_judge
  rw [show (0 : Int32) = o 0 from rfl, a1]
  exact b1
end JU
