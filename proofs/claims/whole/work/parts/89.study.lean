/-! study, both sides. -/
section SU
variable {n : Nat} {w : Wp} {hw h g : sHp} {f d : Nat} {full : Bool}
/-- once all is found, each state of the line is found -/
theorem line_found {t k : Nat} (hP : Pl n w hw t k h g) (hA : AtO n w hw f d full h g) (hd : d = f) : ∀ i, i ≤ t → ∃ x, x < f ∧ h.2 35 x = h.2 7 i := by
  have f1 := hA.f1
  intro i
  induction i with
  | zero => intro _; exact ⟨0, by omega, hA.s0⟩
  | succ i ih =>
    intro hi
    obtain ⟨x, x1, x2⟩ := ih (by omega)
    obtain ⟨y1, j, j1, j2, j3⟩ := hP.nx i (by omega)
    rw [← x2] at y1 j3
    obtain ⟨z, z1, z2, -⟩ := hA.dne x (by omega) y1 j j1 j2
    exact ⟨z, z1, Nx_det z2 j3⟩
theorem E_hopeless (hn : 600 ≤ n) (hA : AtO n w hw f d full h g) {x : Nat} (hx : x < f) : J_A_isHopeless n (h.2 35 x) h = some (oB (!hpf h x)) := by
  have f160 := hA.f160
  obtain ⟨e0, s1, s2, s3, s4⟩ := slot_spec (h := h) (h.2 35 x) hn f160 hA.tb hA.ti hA.tz
  have hq : (hsh (h.2 35 x) + e0) % 512 < 512 := Nat.mod_lt _ (by omega)
  rcases s4 with ⟨z1, z2⟩ | ⟨i, i1, i2, i3⟩
  · exact absurd rfl (z2 x hx)
  · have : i = x := hA.inj i x i1 hx i3
    subst this
    have e1 : o (i + 1) - 1 = o i := o_sub (b := 1) (by omega)
    have m1 : ¬ o i = (-1 : Int32) := fun z => by
      have : (o i).toInt = (-1 : Int32).toInt := by rw [z]
      rw [o_toInt (by omega)] at this
      have z1 : (-1 : Int32).toInt = -1 := rfl
      omega
    unfold J_A_isHopeless
    rw [s2, Option.bind_some, sIn_o 512 (by omega), decide_eq_true hq, sGd_true, ix_o (by omega), i2, e1, if_neg m1, A_hopeful (by omega), Option.bind_some]
    cases hpf h i <;> rfl
theorem M_found (hn : 600 ≤ n) (hA : AtO n w hw f d full h g) {g' : sHp} {p : Nat → Bool} (hJ : Jd g g' f p) {x : Nat} (hx : x < f) : J_M_search n (o (eA (h.2 35 x))) (o (eB (h.2 35 x))) g' = some (o x) := by
  have f160 := hA.f160
  rcases M_search (g := g') (n := n) (S := h.2 35) f160 (by rw [hJ.2.1 0 49 (by omega)]; exact hA.fo.2) (fun i hi => by rw [hJ.2.1 34 i (by omega), hJ.2.1 35 i (by omega)]; exact hA.enc i hi) (fun i hi => (hA.st i hi).2.1) (hA.st x hx).2.1 f 0 n (by omega) (by omega) (fun j hj => absurd hj (by omega)) with ⟨-, b⟩ | ⟨y, y1, y2, y3⟩
  · exact absurd rfl (b x hx)
  · have : y = x := hA.inj y x y1 hx y2
    subst this; exact y3
/-- the turn that spoiled it -/
theorem spoil {t k : Nat} (hn : 600 ≤ n) (hP : Pl n w hw t k h g) (hA : AtO n w hw f d full h g) (hd : d = f) {g' : sHp} (hJ : Jd g g' f (hpf h)) : ∀ c M, c ≤ t → c < M → ∃ x, sFx (F_S_spoilingTurn_28 n h) M (o c + (-1)) = some x ∧ sFx (F_M_blamed_7 n g') M (o c + (-1)) = some x := by
  have f160 := hA.f160
  have t60 := hP.t60
  intro c
  induction c with
  | zero =>
    intro M hc hM
    obtain ⟨M, rfl⟩ : ∃ m, M = m + 1 := ⟨M - 1, by omega⟩
    refine ⟨-1, ?_, ?_⟩
    · rw [sFx_s]; unfold F_S_spoilingTurn_28; rw [if_pos (by decide)]
    · rw [sFx_s]; unfold F_M_blamed_7; rw [if_pos (by decide)]; rfl
  | succ c ih =>
    intro M hc hM
    obtain ⟨M, rfl⟩ : ∃ m, M = m + 1 := ⟨M - 1, by omega⟩
    obtain ⟨y, e1, e2⟩ := ih M (by omega) (by omega)
    obtain ⟨x, x1, x2⟩ := line_found hP hA hd c (by omega)
    have l0 : ¬ o c < (0 : Int32) := fun z => by have := (o_lt (by omega) (by omega : 0 < 2147483648)).mp z; omega
    have a1 := E_hopeless hn hA x1
    have a2 := M_found hn hA hJ x1
    obtain ⟨p1, p2⟩ := hP.past c (by omega)
    rw [x2] at a1 a2
    have p1' : g'.1 31 c = o (eA (h.2 7 c)) := by rw [hJ.2.1 31 c (by omega)]; exact p1
    have p2' : g'.1 32 c = o (eB (h.2 7 c)) := by rw [hJ.2.1 32 c (by omega)]; exact p2
    have eS : ∀ X, F_S_spoilingTurn_28 n h X (o c) = if hpf h x = true then some (o c) else X (o c + (-1)) := fun X => by
      unfold F_S_spoilingTurn_28
      rw [if_neg l0, sIn_o 61 (by omega), decide_eq_true (by omega), sGd_true, ix_o (by omega), a1, Option.bind_some]
      cases hpf h x <;> rfl
    have eM : ∀ X, F_M_blamed_7 n g' X (o c) = if hpf h x = true then some (o c) else X (o c + (-1)) := fun X => by
      unfold F_M_blamed_7
      rw [if_neg l0, sIn_o 60 (by omega), decide_eq_true (by omega), sGd_true, sGd_true, ix_o (by omega), p1', p2', a2, Option.bind_some, sIn_o 160 (by omega), decide_eq_true (by omega), sGd_true, ix_o (by omega), hJ.2.2 x x1]
      cases hpf h x <;> rfl
    rw [om1', sFx_s, sFx_s, eS, eM]
    cases hpf h x with
    | true => exact ⟨o c, rfl, rfl⟩
    | false => exact ⟨y, e1, e2⟩
/-- a state that leads to itself alone -/
theorem onlyL {i : Nat} (hi : i < 160) : ∀ c q M, q + c = 3 → c < M → ∃ b : Bool, sFx (F_A_leadsOnlyToItself_2 n (o i) h) M (o q) = some (oB b) ∧ (b = true ↔ ∀ j, 64 * q ≤ j → j < 192 → ld h i j = decide (j = i)) := by
  intro c
  induction c with
  | zero =>
    intro q M hq hM
    obtain ⟨M, rfl⟩ : ∃ m, M = m + 1 := ⟨M - 1, by omega⟩
    obtain rfl : q = 3 := by omega
    exact ⟨true, rfl, fun _ j a b => absurd a (by omega), fun _ => rfl⟩
  | succ c ih =>
    intro q M hq hM
    obtain ⟨M, rfl⟩ : ∃ m, M = m + 1 := ⟨M - 1, by omega⟩
    obtain ⟨b, e1, e2⟩ := ih (q + 1) M (by omega) (by omega)
    have l3 : ¬ (3 : Int32) ≤ o q := fun z => by have := (o_le (by omega : 3 < 2147483648) (by omega)).mp z; omega
    have z0 : ∀ k, k < 64 → lB 0 k = false := by decide +kernel
    rw [sFx_s]
    generalize sFx (F_A_leadsOnlyToItself_2 n (o i) h) M = X at e1 ⊢
    have e64 : o i / (64 : Int32) = o (i / 64) := by rw [show (64 : Int32) = o 64 from rfl, o_div (by omega) (by omega)]
    have r64 : jRem (o i) 64 = o (i % 64) := jRem_o (by omega) (by omega : 64 < 2147483648)
    have qq : (o q = o (i / 64)) ↔ q = i / 64 := o_inj (by omega) (by omega)
    -- the word that is asked for
    have key : ∀ t0 : Int64, (∀ r, r < 64 → lB t0 r = decide (64 * q + r = i)) → ∃ b' : Bool, K_A_leadsOnlyToItself_25 n (o i) h X (o q) t0 = some (oB b') ∧ (b' = true ↔ ∀ j, 64 * q ≤ j → j < 192 → ld h i j = decide (j = i)) := fun t0 ht => by
      unfold K_A_leadsOnlyToItself_25
      rw [q3c, sIn_o 480 (by omega), decide_eq_true (by omega), sGd_true, ix_o (by omega), show o q + 1 = o (q + 1) from o_add q 1]
      have hb : ∀ j, j / 64 = q → ld h i j = lB (h.2 39 (3 * i + q)) (j % 64) := fun j hj => by unfold ld; rw [hj]
      by_cases cq : lg_cmp (h.2 39 (3 * i + q)) t0 = 0
      · rw [if_pos cq]
        have ce := (lg_0 _ _).mp cq
        refine ⟨b, e1, e2.trans ⟨fun z j j1 j2 => ?_, fun z j j1 j2 => z j (by omega) j2⟩⟩
        by_cases hj : j / 64 = q
        · rw [hb j hj, ce, ht _ (by omega), show 64 * q + j % 64 = j by omega]
        · exact z j (by omega) j2
      · rw [if_neg cq]
        refine ⟨false, rfl, fun z => absurd z (by decide), fun z => absurd ((lg_0 _ _).mpr (lB_ext fun r hr => ?_)) cq⟩
        have := z (64 * q + r) (by omega) (by omega)
        rw [hb _ (by omega), show (64 * q + r) % 64 = r by omega] at this
        rw [this, ht r hr]
    unfold F_A_leadsOnlyToItself_2
    rw [if_neg l3, e64, r64]
    by_cases cq : q = i / 64
    · rw [if_pos (qq.mpr cq)]
      exact key _ (fun r hr => by
        rw [lB_bit (by omega) hr]
        exact decide_eq_decide.mpr ⟨fun z => by omega, fun z => by omega⟩)
    · rw [if_neg (fun z => cq (qq.mp z))]
      exact key _ (fun r hr => by rw [z0 r hr, decide_eq_false (by omega)])
theorem aloneL (hA : AtO n w hw f d full h g) (r4 : Int32 × Int32 → Option Int32) (k : Nat) {i : Nat} (hi : i < f) : ∀ c t M b, t + c = f → c < M → sFx (F_M_stuck_33 n g r4 (o k) (o i)) M (oB b, o t) = r4 (if (b && !exq (fun j => !decide (j = i) && ld h i j) c t) = true then o (k + 1) else o k, o (i + 1)) := by
  have f160 := hA.f160
  intro c
  induction c with
  | zero =>
    intro t M b ht hM
    obtain ⟨M, rfl⟩ : ∃ m, M = m + 1 := ⟨M - 1, by omega⟩
    rw [sFx_s]; unfold F_M_stuck_33; dsimp only
    rw [hA.fo.2, if_pos ((o_le (by omega) (by omega)).mpr (by omega)), show o i + 1 = o (i + 1) from o_add i 1, show o k + 1 = o (k + 1) from o_add k 1]
    cases b <;> rfl
  | succ c ih =>
    intro t M b ht hM
    obtain ⟨M, rfl⟩ : ∃ m, M = m + 1 := ⟨M - 1, by omega⟩
    have e1 := ih (t + 1) M true (by omega) (by omega)
    have e0 := ih (t + 1) M false (by omega) (by omega)
    rw [sFx_s]
    generalize sFx (F_M_stuck_33 n g r4 (o k) (o i)) M = X at e1 e0 ⊢
    have ti : (o t = o i) ↔ t = i := o_inj (by omega) (by omega)
    have ex : exq (fun j => !decide (j = i) && ld h i j) (c + 1) t = ((!decide (t = i) && ld h i t) || exq (fun j => !decide (j = i) && ld h i j) c (t + 1)) := rfl
    rw [ex]
    unfold F_M_stuck_33; dsimp only
    rw [hA.fo.2, if_neg (fun z => by have := (o_le (by omega) (by omega)).mp z; omega), M_fol (by omega) (by omega), Option.bind_some, ← hA.le i hi t (by omega), show o t + 1 = o (t + 1) from o_add t 1]
    cases b with
    | false => rw [if_pos (show oB false = 0 from rfl), show (0 : Int32) = oB false from rfl, e0]; rfl
    | true =>
      rw [if_neg (show ¬ oB true = 0 by decide)]
      by_cases c1 : t = i
      · rw [if_pos (ti.mpr c1), decide_eq_true c1, show (1 : Int32) = oB true from rfl, e1]; rfl
      · rw [if_neg (fun z => c1 (ti.mp z)), decide_eq_false c1]
        cases hl : ld h i t with
        | false => rw [if_pos (show oB false = 0 from rfl), show (1 : Int32) = oB true from rfl, e1]; rfl
        | true => rw [if_neg (show ¬ oB true = 0 by decide), show (0 : Int32) = oB false from rfl, e0]; rfl
theorem ic_wait (T : Nat) : ic T 294 = true := by
  unfold ic
  have : jv 294 = 6 ∧ ja 294 = 0 ∧ jb 294 = 0 := by decide
  rw [this.1, this.2.1, this.2.2]
  simp
/-- whether a state is stuck -/
def stk (h : sHp) (f i : Nat) : Bool := decide (dg (h.2 35 i) 20 = 0) && !exq (fun j => !decide (j = i) && ld h i j) f 0
theorem only_stk (hn : 600 ≤ n) (hA : AtO n w hw f d full h g) (hd : d = f) {i : Nat} (hi : i < f) (ho : dg (h.2 35 i) 20 = 0) : J_A_leadsOnlyToItself n (o i) h = some (oB (stk h f i)) := by
  have f160 := hA.f160
  obtain ⟨b, e1, e2⟩ := onlyL (n := n) (h := h) (show i < 160 by omega) 3 0 n (by omega) (by omega)
  have : b = stk h f i := by
    rw [Bool.eq_iff_iff, e2]
    unfold stk
    rw [decide_eq_true ho, Bool.true_and, Bool.not_eq_true', ← Bool.not_eq_true, exq_iff]
    constructor
    · rintro z ⟨j, j1, j2, j3⟩
      rw [z j (by omega) (by omega), Bool.and_eq_true, Bool.not_eq_true', decide_eq_false_iff_not, decide_eq_true_eq] at j3
      exact j3.1 j3.2
    · intro z j j1 j2
      have no : ∀ x, x < 192 → x ≠ i → ld h i x = false := fun x x1 x2 => by
        cases hl : ld h i x with
        | false => rfl
        | true =>
          have := hA.lf i hi x x1 hl
          exact absurd ⟨x, by omega, by omega, by rw [hl, decide_eq_false x2]; rfl⟩ z
      by_cases c : j = i
      · obtain ⟨x, x1, -, x3⟩ := hA.dne i (by omega) ho 294 (by omega) (ic_wait _)
        have hx : x = i := by
          by_cases y : x = i
          · exact y
          · rw [no x (by omega) y] at x3; exact absurd x3 (by decide)
        rw [c, decide_eq_true rfl, ← hx]
        rw [hx] at x3 ⊢
        exact x3
      · rw [no j j2 c, decide_eq_false c]
  rw [← this]
  exact e1
theorem stuckL (hn : 600 ≤ n) (hA : AtO n w hw f d full h g) (hd : d = f) : ∀ c i M k, i + c = f → c < M → ∃ x, sFx (F_A_countStuck_4 n h) M (o k, o i) = some x ∧ sFx (F_M_stuck_4 n g) M (o k, o i) = some x := by
  have f160 := hA.f160
  intro c
  induction c with
  | zero =>
    intro i M k hi hM
    obtain ⟨M, rfl⟩ : ∃ m, M = m + 1 := ⟨M - 1, by omega⟩
    have l : o f ≤ o i := (o_le (by omega) (by omega)).mpr (by omega)
    refine ⟨o k, ?_, ?_⟩
    · rw [sFx_s]; unfold F_A_countStuck_4; dsimp only; rw [hA.fo.1, if_pos l]
    · rw [sFx_s]; unfold F_M_stuck_4; dsimp only; rw [hA.fo.2, if_pos l]
  | succ c ih =>
    intro i M k hi hM
    obtain ⟨M, rfl⟩ : ∃ m, M = m + 1 := ⟨M - 1, by omega⟩
    have hif : i < f := by omega
    have l : ¬ o f ≤ o i := fun z => by have := (o_le (by omega) (by omega)).mp z; omega
    have h8 := dV_lt (h.2 35 i)
    have ov : o (dg (h.2 35 i) 20) = (0 : Int32) ↔ dg (h.2 35 i) 20 = 0 := o_inj (by omega) (by omega : 0 < 2147483648)
    have hin : sIn (o i) 160 = true := by rw [sIn_o 160 (by omega), decide_eq_true (by omega)]
    have eA' : ∀ X : Int32 × Int32 → Option Int32, F_A_countStuck_4 n h X (o k, o i) = X (if stk h f i = true then o (k + 1) else o k, o (i + 1)) := fun X => by
      unfold F_A_countStuck_4; dsimp only
      rw [hA.fo.1, if_neg l, hin, sGd_true, ix_o (by omega), b_over, Option.bind_some, show o i + 1 = o (i + 1) from o_add i 1, show o k + 1 = o (k + 1) from o_add k 1]
      by_cases c0 : dg (h.2 35 i) 20 = 0
      · rw [if_pos c0, if_pos rfl, only_stk hn hA hd hif c0, Option.bind_some]
        cases stk h f i <;> rfl
      · rw [if_neg c0, if_neg (by decide)]
        have : stk h f i = false := by unfold stk; rw [decide_eq_false c0, Bool.false_and]
        rw [this]; rfl
    have eM' : ∀ X : Int32 × Int32 → Option Int32, F_M_stuck_4 n g X (o k, o i) = X (if stk h f i = true then o (k + 1) else o k, o (i + 1)) := fun X => by
      have a1 := aloneL hA X k hif f 0 n true (by omega) (by omega)
      have a0 := aloneL hA X k hif f 0 n false (by omega) (by omega)
      unfold F_M_stuck_4 K_M_stuck_29; dsimp only
      rw [hA.fo.2, if_neg l, hin, sGd_true, ix_o (by omega), (hA.enc i hif).1, eA_over]
      by_cases c0 : dg (h.2 35 i) 20 = 0
      · rw [if_pos (ov.mpr c0), show (1 : Int32) = oB true from rfl, show (0 : Int32) = o 0 from rfl, a1]
        unfold stk
        rw [decide_eq_true c0]
      · rw [if_neg (fun z => c0 (ov.mp z))]
        have : ((0 : Int32), (0 : Int32)) = (oB false, o 0) := rfl
        rw [this, a0]
        unfold stk
        rw [decide_eq_false c0]
    rw [sFx_s, sFx_s, eA', eM']
    cases stk h f i with
    | true => exact ih (i + 1) M (k + 1) (by omega) (by omega)
    | false => exact ih (i + 1) M k (by omega) (by omega)
theorem idle_both {U : Nat} (hA : AtO n w hw f d full h g) (hU : g.1 0 12 = o U) (x : Int32) : J_A_idleRule n x (o U) h = J_M_unused n x g := by
  have : F_A_idleRule_5 n x (o U) h = F_M_unused_4 n x g := by
    funext r q
    unfold F_A_idleRule_5 F_M_unused_4
    rw [hU, hA.dn]
  unfold J_A_idleRule J_M_unused
  rw [this]
theorem idle_some {U : Nat} (hU12 : U ≤ 12) (x : Int32) : ∀ c i M k, i + c = U → c < M → ∃ y, sFx (F_A_idleRule_5 n x (o U) h) M (o k, o i) = some y := by
  intro c
  induction c with
  | zero =>
    intro i M k hi hM
    obtain ⟨M, rfl⟩ : ∃ m, M = m + 1 := ⟨M - 1, by omega⟩
    refine ⟨-1, ?_⟩
    rw [sFx_s]; unfold F_A_idleRule_5; dsimp only
    rw [if_pos ((o_le (by omega) (by omega)).mpr (by omega))]
  | succ c ih =>
    intro i M k hi hM
    obtain ⟨M, rfl⟩ : ∃ m, M = m + 1 := ⟨M - 1, by omega⟩
    obtain ⟨y1, e1⟩ := ih (i + 1) M (k + 1) (by omega) (by omega)
    obtain ⟨y0, e0⟩ := ih (i + 1) M k (by omega) (by omega)
    rw [sFx_s]
    generalize sFx (F_A_idleRule_5 n x (o U) h) M = X at e1 e0 ⊢
    unfold F_A_idleRule_5; dsimp only
    rw [if_neg (fun z => by have := (o_le (by omega) (by omega)).mp z; omega), show o i + 1 = o (i + 1) from o_add i 1, show o k + 1 = o (k + 1) from o_add k 1]
    by_cases c1 : (jIshr (h.1 6 8) (o i)) &&& 1 = 0
    · rw [if_pos c1]
      by_cases c2 : o k = x
      · rw [if_pos c2]; exact ⟨_, rfl⟩
      · rw [if_neg c2]; exact ⟨y1, e1⟩
    · rw [if_neg c1]; exact ⟨y0, e0⟩
end SU
