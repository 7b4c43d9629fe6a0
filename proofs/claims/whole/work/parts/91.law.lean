/-! The law: every script's answers are alike. -/
section LW
variable {n : Nat}
theorem sb_jnC (q h' : sHp) : sbH 42 (jnC q h') = sbH 42 q := by
  apply Prod.ext
  · funext i
    show (if 0 ≤ i + 42 ∧ i + 42 < 0 + 42 then h'.1 (i + 42 - 0) else q.1 (i + 42)) = q.1 (i + 42)
    rw [if_neg (by omega)]
  · funext i
    show (if 0 ≤ i + 42 ∧ i + 42 < 0 + 42 then h'.2 (i + 42 - 0) else q.2 (i + 42)) = q.2 (i + 42)
    rw [if_neg (by omega)]
theorem jnC_lo (q h' : sHp) {i : Nat} (hi : i < 42) : (jnC q h').1 i = h'.1 i ∧ (jnC q h').2 i = h'.2 i := by
  constructor
  · show (if 0 ≤ i ∧ i < 0 + 42 then h'.1 (i - 0) else q.1 i) = h'.1 i
    rw [if_pos (by omega)]; rfl
  · show (if 0 ≤ i ∧ i < 0 + 42 then h'.2 (i - 0) else q.2 i) = h'.2 i
    rw [if_pos (by omega)]; rfl
theorem jnM_lo (q g' : sHp) {i : Nat} (hi : i < 42) : (jnM q g').1 i = q.1 i ∧ (jnM q g').2 i = q.2 i := by
  constructor
  · show (if 42 ≤ i ∧ i < 42 + 42 then g'.1 (i - 42) else q.1 i) = q.1 i
    rw [if_neg (by omega)]
  · show (if 42 ≤ i ∧ i < 42 + 42 then g'.2 (i - 42) else q.2 i) = q.2 i
    rw [if_neg (by omega)]
theorem sb_jnM (q g' : sHp) {i : Nat} (hi : i < 42) : (sbH 42 (jnM q g')).1 i = g'.1 i ∧ (sbH 42 (jnM q g')).2 i = g'.2 i := by
  constructor
  · show (if 42 ≤ i + 42 ∧ i + 42 < 42 + 42 then g'.1 (i + 42 - 42) else q.1 (i + 42)) = g'.1 i
    rw [if_pos (by omega), Nat.add_sub_cancel]
  · show (if 42 ≤ i + 42 ∧ i + 42 < 42 + 42 then g'.2 (i + 42 - 42) else q.2 (i + 42)) = g'.2 i
    rw [if_pos (by omega), Nat.add_sub_cancel]
/-- both sides in one heap -/
def Il (n : Nat) (q : sHp) : Prop := Iv n q (sbH 42 q)
theorem Il_both {q h' g' : sHp} (x : Iv n h' g') : Il n (jnM (jnC q h') g') :=
  Iv_jn x (fun i hi => by rw [(jnM_lo _ _ hi).1, (jnM_lo _ _ hi).2, (jnC_lo _ _ hi).1, (jnC_lo _ _ hi).2]; exact ⟨rfl, rfl⟩) (fun i hi => sb_jnM _ _ hi)
theorem law_I {q : sHp} {X : Option (Int32 × sHp)} {Y : sHp → Option (Int32 × sHp)} (hF : FcI n X (Y (sbH 42 q))) (r : Int32 × sHp → Option (Int32 × sHp)) (z : Int32) : ∃ q2, Il n q2 ∧ ((X.map (fun r => (r.1, jnC q r.2))).bind fun v145 => ((Y (sbH 42 v145.2)).map (fun r => (r.1, jnM v145.2 r.2))).bind fun v151 => (J_M_thrown n (sbH 42 v151.2)).bind fun v157 =>
  if v157 = v145.1 then (if v145.1 = 0 then (if (lg_cmp (v151.2.2 41 (ix 0)) (Int32.toInt64 v151.1)) = 0 then (r (z, v151.2)) else (some (0, v151.2))) else (r (z, v151.2))) else (some (0, v151.2))) = r (z, q2) := by
  obtain ⟨k, h', x, g', e1, e2, e3, e4, e5⟩ := hF
  refine ⟨jnM (jnC q h') g', Il_both e5, ?_⟩
  rw [e1]
  show ((Y (sbH 42 (jnC q h'))).map (fun r => (r.1, jnM (jnC q h') r.2))).bind _ = _
  rw [sb_jnC, e2]
  show (if (sbH 42 (jnM (jnC q h') g')).1 0 0 = k then (if k = 0 then (if (lg_cmp ((jnM (jnC q h') g').2 41 (ix 0)) (Int32.toInt64 x)) = 0 then (r (z, jnM (jnC q h') g')) else (some (0, jnM (jnC q h') g'))) else (r (z, jnM (jnC q h') g'))) else (some (0, jnM (jnC q h') g'))) = _
  rw [(sb_jnM _ _ (show 0 < 42 by omega)).1, e3, if_pos rfl]
  by_cases c : k = 0
  · rw [if_pos c, (jnM_lo _ _ (show 41 < 42 by omega)).2, (jnC_lo _ _ (show 41 < 42 by omega)).2, show ix (0 : Int32) = 0 from rfl, e4 c, if_pos ((lg_0 _ _).mpr rfl)]
  · rw [if_neg c]
theorem law_V {q : sHp} {X : Option (Int32 × sHp)} {Y : sHp → Option sHp} (hF : FcV n X (Y (sbH 42 q))) (r : Int32 × sHp → Option (Int32 × sHp)) (z : Int32) : ∃ q2, Il n q2 ∧ ((X.map (fun r => (r.1, jnC q r.2))).bind fun v212 => ((Y (sbH 42 v212.2)).map (fun r => jnM v212.2 r)).bind fun v242 => (J_M_thrown n (sbH 42 v242)).bind fun v246 =>
  if v246 = v212.1 then (r (z, v242)) else (some (0, v242))) = r (z, q2) := by
  obtain ⟨k, h', g', e1, e2, e3, e5⟩ := hF
  refine ⟨jnM (jnC q h') g', Il_both e5, ?_⟩
  rw [e1]
  show ((Y (sbH 42 (jnC q h'))).map (fun r => jnM (jnC q h') r)).bind _ = _
  rw [sb_jnC, e2]
  show (if (sbH 42 (jnM (jnC q h') g')).1 0 0 = k then (r (z, jnM (jnC q h') g')) else (some (0, jnM (jnC q h') g'))) = _
  rw [(sb_jnM _ _ (show 0 < 42 by omega)).1, e3, if_pos rfl]
theorem law_one (hn : 1100 ≤ n) {K : Nat} (hK : K ≤ 2560) (xs : Nat → Int32) {i : Nat} (hi : i + 5 ≤ K) {q : sHp} (hI : Il n q) (r : Int32 × sHp → Option (Int32 × sHp)) : ∃ q2, Il n q2 ∧ F_law K xs n r (o i, q) = r (o (i + 5), q2) := by
  have hin : ∀ j, j < 5 → sIn (o (i + j)) K = true := fun j hj => by rw [sIn_o K (by omega), decide_eq_true (by omega)]
  have i0 : sIn (o i) K = true := hin 0 (by omega)
  have i1 : sIn (o i + 1) K = true := by rw [show o i + 1 = o (i + 1) from o_add i 1]; exact hin 1 (by omega)
  have i2 : sIn (o i + 2) K = true := by rw [show o i + 2 = o (i + 2) from o_add i 2]; exact hin 2 (by omega)
  have i3 : sIn (o i + 3) K = true := by rw [show o i + 3 = o (i + 3) from o_add i 3]; exact hin 3 (by omega)
  have i4 : sIn (o i + 4) K = true := by rw [show o i + 4 = o (i + 4) from o_add i 4]; exact hin 4 (by omega)
  have i5 : o i + 5 = o (i + 5) := o_add i 5
  have lK : ¬ (Int32.ofNat K - 5) < o i := fun z => by
    have : Int32.ofNat K - 5 = o (K - 5) := o_sub (a := K) (b := 5) (by omega)
    rw [this] at z
    have := (o_lt (by omega) (by omega)).mp z
    omega
  unfold F_law
  dsimp only
  rw [if_neg lK]
  simp only [i0, i1, i2, i3, i4, sGd_true, i5]
  generalize o (i + 5) = z
  generalize xs (ix (o i + 1)) = x1
  generalize xs (ix (o i + 2)) = x2
  generalize xs (ix (o i + 3)) = x3
  generalize xs (ix (o i + 4)) = x4
  generalize xs (ix (o i)) &&& 31 = v
  by_cases v0 : v = 0
  · rw [if_pos v0]
    obtain ⟨h', g', a, b, c⟩ := f_clear (n := n) (by omega) hI
    refine ⟨jnM (jnC q h') g', Il_both c, ?_⟩
    rw [a]
    show ((J_M_clear n (sbH 42 (jnC q h'))).map (fun r => jnM (jnC q h') r)).bind _ = _
    rw [sb_jnC, b]; rfl
  rw [if_neg v0]
  by_cases v1 : v = 1
  · rw [if_pos v1]; exact law_I (Y := fun g => J_M_room n g) (f_room (by omega) hI) r z
  rw [if_neg v1]
  by_cases v2 : v = 2
  · rw [if_pos v2]; exact law_V (Y := fun g => J_M_exit n x1 x2 x3 x4 g) (f_exit (by omega) hI x1 x2 x3 x4) r z
  rw [if_neg v2]
  by_cases v3 : v = 3
  · rw [if_pos v3]; exact law_I (Y := fun g => J_M_thing n x1 x2 g) (f_thing (by omega) hI x1 x2) r z
  rw [if_neg v3]
  by_cases v4 : v = 4
  · rw [if_pos v4]; exact law_I (Y := fun g => J_M_number n x1 x2 g) (f_number (by omega) hI x1 x2) r z
  rw [if_neg v4]
  by_cases v5 : v = 5
  · rw [if_pos v5]
    by_cases y : x1 = 0
    · rw [if_pos y]; exact law_I (Y := fun g => J_M_ending n 0 g) (f_ending (by omega) hI false) r z
    · simp only [if_neg y]; exact law_I (Y := fun g => J_M_ending n 1 g) (f_ending (by omega) hI true) r z
  rw [if_neg v5]
  by_cases v6 : v = 6
  · rw [if_pos v6]; exact law_I (Y := fun g => J_M_rule n x1 x2 x3 x4 g) (f_rule (by omega) hI x1 x2 x3 x4) r z
  rw [if_neg v6]
  by_cases v7 : v = 7
  · rw [if_pos v7]; exact law_V (Y := fun g => J_M_condition n x1 x2 x3 x4 g) (f_condition (by omega) hI x1 x2 x3 x4) r z
  rw [if_neg v7]
  by_cases v8 : v = 8
  · rw [if_pos v8]; exact law_V (Y := fun g => J_M_effect n x1 x2 x3 x4 g) (f_effect (by omega) hI x1 x2 x3 x4) r z
  rw [if_neg v8]
  by_cases v9 : v = 9
  · rw [if_pos v9]; exact law_V (Y := fun g => J_M_walker n x1 x2 x3 x4 g) (f_walker (by omega) hI x1 x2 x3 x4) r z
  rw [if_neg v9]
  by_cases v10 : v = 10
  · rw [if_pos v10]; exact law_V (Y := fun g => J_M_timer n x1 x2 g) (f_timer (by omega) hI x1 x2) r z
  rw [if_neg v10]
  by_cases v11 : v = 11
  · rw [if_pos v11]; exact law_V (Y := fun g => J_M_begin n g) (f_begin (by omega) hI) r z
  rw [if_neg v11]
  by_cases v12 : v = 12
  · rw [if_pos v12]; exact law_I (Y := fun g => J_M_command n x1 x2 x3 g) (f_command (by omega) hI x1 x2 x3) r z
  rw [if_neg v12]
  by_cases v13 : v = 13
  · rw [if_pos v13]
    obtain ⟨x, a, b⟩ := f_said hI x1
    refine ⟨jnM q (pI (sbH 42 q) 0 0 0), ?_, ?_⟩
    · exact Iv_jn (Iv_code hI 0) (fun i hi => jnM_lo _ _ hi) (fun i hi => sb_jnM _ _ hi)
    · rw [a, Option.bind_some, b]
      show (if x = x then r (z, jnM q (pI (sbH 42 q) 0 0 0)) else _) = _
      rw [if_pos rfl]
  rw [if_neg v13]
  by_cases v14 : v = 14
  · rw [if_pos v14]
    obtain ⟨x, h', g', a, b, c⟩ := f_undo hI
    refine ⟨jnM (jnC q h') g', Il_both c, ?_⟩
    rw [a]
    show ((J_M_undo n (sbH 42 (jnC q h'))).map (fun r => (r.1, jnM (jnC q h') r.2))).bind _ = _
    rw [sb_jnC, b]
    show (if x = x then r (z, jnM (jnC q h') g') else _) = _
    rw [if_pos rfl]
  rw [if_neg v14]
  by_cases v15 : v = 15
  · rw [if_pos v15]; exact law_I (Y := fun g => J_M_state n x1 x2 g) (f_state (by omega) hI x1 x2) r z
  rw [if_neg v15]
  by_cases v16 : v = 16
  · rw [if_pos v16]; exact law_I (Y := fun g => J_M_explore n x1 g) (f_explore (by omega) hI x1) r z
  rw [if_neg v16]
  by_cases v17 : v = 17
  · rw [if_pos v17]
    by_cases y : x2 = 0
    · rw [if_pos y]; exact law_I (Y := fun g => J_M_reach n x1 0 g) (f_reach (by omega) hI x1 0) r z
    · simp only [if_neg y]; exact law_I (Y := fun g => J_M_reach n x1 1 g) (f_reach (by omega) hI x1 1) r z
  rw [if_neg v17]
  by_cases v18 : v = 18
  · rw [if_pos v18]; exact law_I (Y := fun g => J_M_way n x1 x2 x3 g) (f_way (by omega) hI x1 x2 x3) r z
  rw [if_neg v18]
  by_cases v19 : v = 19
  · rw [if_pos v19]; exact law_I (Y := fun g => J_M_study n x1 x2 g) (f_study (by omega) hI x1 x2) r z
  rw [if_neg v19]
  exact ⟨q, hI, rfl⟩
theorem law_all (hn : 1100 ≤ n) {K : Nat} (hK : K ≤ 2560) (xs : Nat → Int32) : ∀ c r M q, r + c = K / 5 → c < M → Il n q → ∃ h', sFx (F_law K xs n) M (o (5 * r), q) = some (1, h') := by
  intro c
  induction c with
  | zero =>
    intro r M q hr hM hI
    obtain ⟨M, rfl⟩ : ∃ m, M = m + 1 := ⟨M - 1, by omega⟩
    refine ⟨q, ?_⟩
    have lK : (Int32.ofNat K - 5) < o (5 * r) := by
      rw [i32_lt, o_toInt (by omega)]
      have : (Int32.ofNat K - 5).toInt = (K : Int) - 5 := by
        have z5 : (5 : Int32).toInt = 5 := rfl
        have zK : (Int32.ofNat K).toInt = (K : Int) := o_toInt (by omega)
        rw [Int32.toInt_sub, z5, zK, Int.bmod_def]
        omega
      omega
    rw [sFx_s]; unfold F_law; dsimp only
    rw [if_pos lK]
  | succ c ih =>
    intro r M q hr hM hI
    obtain ⟨M, rfl⟩ : ∃ m, M = m + 1 := ⟨M - 1, by omega⟩
    obtain ⟨q2, a, b⟩ := law_one hn hK xs (show 5 * r + 5 ≤ K by omega) hI (sFx (F_law K xs n) M)
    obtain ⟨h', e⟩ := ih (r + 1) M q2 (by omega) (by omega) a
    refine ⟨h', ?_⟩
    rw [sFx_s, b, show 5 * r + 5 = 5 * (r + 1) by omega]
    exact e
theorem isF_w0 : isF w0 0 := by
  refine ⟨sT_zero, fun j hj => ?_⟩
  rw [dg_zero j]
  unfold fD
  repeat' split
  all_goals first | rfl | (rename_i h; exact absurd h.1 (by show ¬ _ < 0; omega))
theorem Wr_00 : Wr w0 h00 h00 := Wr_w0 ⟨rfl, rfl, rfl, rfl, rfl, rfl, rfl⟩ ⟨rfl, rfl, rfl, rfl, rfl, rfl, rfl⟩ (fun _ _ => ⟨⟨rfl, rfl, rfl⟩, rfl, rfl, rfl⟩) (fun _ _ => rfl)
theorem pI_00 (i k : Nat) : pI h00 i k 0 = h00 := by
  apply Prod.ext
  · funext j m
    rw [pI_i]
    split <;> rfl
  · rfl
theorem pL_00 (i k : Nat) : pL h00 i k 0 = h00 := pL_same h00 i k
theorem start_00 (hn : 8 ≤ n) : J_S_startAnew n h00 = some h00 := by
  obtain ⟨s, hs, e1⟩ := E_start Wr_00 hn (Kc_refl h00)
  have : s = 0 := isF_eq hs isF_w0
  subst this
  unfold J_S_startAnew J_A_forget
  rw [e1, Option.bind_some, pL_00, pI_00, pI_00, pI_00, pI_00, pI_00, pI_00]; rfl
theorem pureLaw : PureLaw := by
  intro K xs hK
  obtain ⟨h', g', a, b, c, -⟩ := Iv_new (n := 1100) Wr_00 (by omega)
  rw [start_00 (by omega)] at a
  have : h' = h00 := (Option.some.inj a).symm
  subst this
  have hI : Il 1100 (hIn g') := Iv_jn c (fun i hi => jnM_lo _ _ hi) (fun i hi => sb_jnM _ _ hi)
  obtain ⟨hf, e⟩ := law_all (n := 1100) (Nat.le_refl _) hK xs (K / 5) 0 513 (hIn g') (by omega) (by omega) hI
  exact ⟨1100, g', hf, b, e⟩
end LW
