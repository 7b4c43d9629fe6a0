/-! What both sides ask of the arguments of a call. -/
theorem i32_lt {a b : Int32} : a < b ↔ a.toInt < b.toInt := Int32.lt_iff_toInt_lt
theorem i32_le {a b : Int32} : a ≤ b ↔ a.toInt ≤ b.toInt := Int32.le_iff_toInt_le
theorem om1_toInt : ∀ R, R < 1100 → (o R - 1).toInt = (R : Int) - 1 := by decide +kernel
theorem o_toInt' {R : Nat} (h : R < 2147483648) : (o R).toInt = (R : Int) := o_toInt h
theorem of_sIn {p : Int32} {R : Nat} (h : sIn p R = true) : ∃ a, a < R ∧ p = o a := by
  have h' : 0 ≤ p.toInt ∧ p.toInt < (R : Int) := of_decide_eq_true h
  refine ⟨p.toInt.toNat, by omega, ?_⟩
  have : p.toInt < 2147483648 := p.toInt_lt
  apply Int32.toInt_inj.mp
  rw [o_toInt (by omega)]
  omega
theorem of_range {p : Int32} {a b : Int} (h0 : 0 ≤ a) (h1 : a ≤ p.toInt) (h2 : p.toInt ≤ b) : ∃ k : Nat, p = o k ∧ a ≤ (k : Int) ∧ (k : Int) ≤ b := by
  refine ⟨p.toInt.toNat, ?_, by omega, by omega⟩
  have : p.toInt < 2147483648 := p.toInt_lt
  apply Int32.toInt_inj.mp
  rw [o_toInt (by omega)]
  omega
theorem frm_eq (n : Nat) (p a b : Int32) (h : sHp) : J_S_isFrom n p a b h = some (oB (decide (a.toInt ≤ p.toInt ∧ p.toInt ≤ b.toInt))) := by
  unfold J_S_isFrom
  by_cases h1 : p < a
  · rw [if_pos h1, decide_eq_false (by have := i32_lt.mp h1; omega)]; rfl
  · rw [if_neg h1]
    by_cases h2 : b < p
    · rw [if_pos h2, decide_eq_false (by have := i32_lt.mp h2; omega)]; rfl
    · rw [if_neg h2, decide_eq_true ⟨by rw [i32_lt] at h1; omega, by rw [i32_lt] at h2; omega⟩]; rfl
theorem frm_sIn (n : Nat) (p : Int32) {R : Nat} (hR : R < 1100) (h : sHp) : J_S_isFrom n p 0 (o R - 1) h = some (oB (sIn p R)) := by
  rw [frm_eq, om1_toInt R hR]
  congr 2
  unfold sIn
  have : (0 : Int32).toInt = 0 := rfl
  rw [this]
  exact decide_eq_decide.mpr ⟨fun x => ⟨x.1, by omega⟩, fun x => ⟨x.1, by omega⟩⟩
theorem bnd_jB (b : Bool) : ((some (oB b)).bind fun v8 => sGd (jB v8) (some v8)) = some (oB b) := by cases b <;> rfl
theorem no_sIn (p : Int32) {R : Nat} (hR : R < 2147483648) : (if p < 0 then (some 1 : Option Int32) else (if p < o R then (some 0) else (some 1))) = some (oB (!sIn p R)) := by
  have z : (0 : Int32).toInt = 0 := rfl
  have e := o_toInt hR
  unfold sIn
  by_cases h1 : p < 0
  · rw [if_pos h1, decide_eq_false (by have := i32_lt.mp h1; omega)]; rfl
  · rw [if_neg h1]
    rw [i32_lt] at h1
    by_cases h2 : p < o R
    · rw [if_pos h2, decide_eq_true ⟨by omega, by have := i32_lt.mp h2; omega⟩]; rfl
    · rw [if_neg h2, decide_eq_false (by rw [i32_lt] at h2; omega)]; rfl
/-- a place that is there -/
def pOk (p : Int32) (R T : Nat) : Bool := sIn p R || decide (6 ≤ p.toInt ∧ p.toInt < 7 + (T : Int))
theorem of_pOk {p : Int32} {R T : Nat} (h : pOk p R T = true) (hR : R ≤ 6) (hT : T ≤ 6) : ∃ a, a < 13 ∧ p = o a ∧ (7 ≤ a → a - 7 < T) := by
  unfold pOk at h
  rcases (Bool.or_eq_true _ _).mp h with h | h
  · obtain ⟨a, h1, rfl⟩ := of_sIn h
    exact ⟨a, by omega, rfl, by omega⟩
  · have h := of_decide_eq_true h
    obtain ⟨k, rfl, h1, h2⟩ := of_range (p := p) (a := 6) (b := p.toInt) (by omega) h.1 (by omega)
    have : ((k : Int) < 7 + T) := by
      have := o_toInt (show k < 2147483648 by have := (o k).toInt_lt; omega)
      omega
    exact ⟨k, by omega, rfl, by omega⟩
section CK
variable {w : Wp} {h g : sHp} {n : Nat}
theorem W_room (hW : Wr w h g) (p : Int32) : J_W_hasRoom n p h = some (oB (sIn p (w.mo 3))) := by
  have := hW.p.2.2.2.1.1
  unfold J_W_hasRoom
  rw [hW.a.rm.1, frm_sIn n p (by omega), bnd_jB]
theorem W_thing (hW : Wr w h g) (p : Int32) : J_W_hasThing n p h = some (oB (sIn p w.T)) := by
  have := hW.p.2.2.1.1
  unfold J_W_hasThing
  rw [hW.a.th.1, frm_sIn n p (by omega), bnd_jB]
theorem W_number (hW : Wr w h g) (p : Int32) : J_W_hasNumber n p h = some (oB (sIn p w.N)) := by
  have := hW.a.n3
  unfold J_W_hasNumber
  rw [hW.a.nu.1, frm_sIn n p (by omega), bnd_jB]
theorem W_ending (hW : Wr w h g) (p : Int32) : J_W_hasEnding n p h = some (oB (sIn p (w.mo 4))) := by
  have := hW.a.e4
  unfold J_W_hasEnding
  rw [hW.a.en.1, frm_sIn n p (by omega), bnd_jB]
theorem W_rule (hW : Wr w h g) (p : Int32) : J_W_hasRule n p h = some (oB (sIn p w.U)) := by
  have := hW.p.1.1
  unfold J_W_hasRule
  rw [hW.p.1.2.1, frm_sIn n p (by omega), bnd_jB]
theorem M_room (hW : Wr w h g) (p : Int32) : J_M_noRoom n p g = some (oB (!sIn p (w.mo 3))) := by
  have := hW.p.2.2.2.1.1
  unfold J_M_noRoom
  rw [hW.a.rm.2, no_sIn p (by omega)]
theorem M_thing (hW : Wr w h g) (p : Int32) : J_M_noThing n p g = some (oB (!sIn p w.T)) := by
  have := hW.p.2.2.1.1
  unfold J_M_noThing
  rw [hW.a.th.2, no_sIn p (by omega)]
theorem M_number (hW : Wr w h g) (p : Int32) : J_M_noNumber n p g = some (oB (!sIn p w.N)) := by
  have := hW.a.n3
  unfold J_M_noNumber
  rw [hW.a.nu.2, no_sIn p (by omega)]
theorem M_rule (hW : Wr w h g) (p : Int32) : J_M_noRule n p g = some (oB (!sIn p w.U)) := by
  have := hW.p.1.1
  unfold J_M_noRule
  rw [hW.p.1.2.2.1, no_sIn p (by omega)]
theorem W_place (hW : Wr w h g) (p : Int32) : J_W_hasPlace n p h = some (oB (pOk p (w.mo 3) w.T)) := by
  have hT := hW.p.2.2.1.1
  have e : (7 : Int32) + o w.T - 1 = o (7 + w.T) - 1 := by rw [show (7 : Int32) + o w.T = o (7 + w.T) from o_add 7 _]
  unfold J_W_hasPlace
  rw [W_room hW, Option.bind_some, hW.a.th.1, e, frm_eq, om1_toInt _ (by omega)]
  have z : ((7 + w.T : Nat) : Int) - 1 = 6 + w.T := by omega
  have z6 : (6 : Int32).toInt = 6 := rfl
  rw [z, z6]
  unfold pOk
  cases sIn p (w.mo 3)
  · rw [Bool.false_or, if_pos (show oB false = 0 from rfl), Option.bind_some]
    have : decide ((6 : Int) ≤ p.toInt ∧ p.toInt ≤ 6 + (w.T : Int)) = decide (6 ≤ p.toInt ∧ p.toInt < 7 + (w.T : Int)) := decide_eq_decide.mpr ⟨fun x => ⟨x.1, by omega⟩, fun x => ⟨x.1, by omega⟩⟩
    rw [this]
    cases decide (6 ≤ p.toInt ∧ p.toInt < 7 + (w.T : Int)) <;> rfl
  · rfl
theorem M_place (hW : Wr w h g) (p : Int32) : J_M_noPlace n p g = some (oB (!pOk p (w.mo 3) w.T)) := by
  have hR := hW.p.2.2.2.1.1
  have hT := hW.p.2.2.1.1
  have z6 : (6 : Int32).toInt = 6 := rfl
  unfold J_M_noPlace
  rw [M_room hW, M_thing hW, bnd_jB]
  by_cases h6 : (6 : Int32) ≤ p
  · rw [if_pos h6]
    have h6' := i32_le.mp h6
    have s0 : sIn p (w.mo 3) = false := decide_eq_false (by omega)
    by_cases h7 : p ≤ 6
    · have h7' := i32_le.mp h7
      have : pOk p (w.mo 3) w.T = true := by
        unfold pOk
        rw [decide_eq_true (show 6 ≤ p.toInt ∧ p.toInt < 7 + (w.T : Int) by omega)]; simp
      rw [if_pos h7, this]; rfl
    · rw [i32_le] at h7
      have e : sIn (p - 7) w.T = decide (6 ≤ p.toInt ∧ p.toInt < 7 + (w.T : Int)) := by
        have : (p - 7).toInt = p.toInt - 7 := by
          have z7 : (7 : Int32).toInt = 7 := rfl
          have := p.toInt_lt
          rw [Int32.toInt_sub, z7, Int.bmod_def]
          omega
        unfold sIn
        rw [this]
        exact decide_eq_decide.mpr ⟨fun x => ⟨by omega, by omega⟩, fun x => ⟨by omega, by omega⟩⟩
      rw [if_neg (by rw [i32_le]; exact h7), Option.bind_some, e]
      unfold pOk
      rw [s0, Bool.false_or]
      cases decide (6 ≤ p.toInt ∧ p.toInt < 7 + (w.T : Int)) <;> rfl
  · rw [if_neg h6]
    rw [i32_le] at h6
    unfold pOk
    rw [decide_eq_false (show ¬ (6 ≤ p.toInt ∧ p.toInt < 7 + (w.T : Int)) by omega), Bool.or_false]
end CK
/-- an answer with a number -/
def FcI (n : Nat) (X Y : Option (Int32 × sHp)) : Prop := ∃ k h' r g', X = some (k, h') ∧ Y = some (r, g') ∧ g'.1 0 0 = k ∧ (k = 0 → h'.2 41 0 = Int32.toInt64 r) ∧ Iv n h' g'
/-- an answer without -/
def FcV (n : Nat) (X : Option (Int32 × sHp)) (Y : Option sHp) : Prop := ∃ k h' g', X = some (k, h') ∧ Y = some g' ∧ g'.1 0 0 = k ∧ Iv n h' g'
theorem FcI_no {n : Nat} {h g : sHp} (hI : Iv n h g) {X Y : Option (Int32 × sHp)} (c : Int32) (hc : c ≠ 0) (e1 : X = some (c, h)) (e2 : Y = some (0, pI g 0 0 c)) : FcI n X Y :=
  ⟨c, h, 0, _, e1, e2, by rw [pI_i, if_pos ⟨rfl, rfl⟩], fun z => absurd z hc, Iv_code hI c⟩
theorem FcV_no {n : Nat} {h g : sHp} (hI : Iv n h g) {X : Option (Int32 × sHp)} {Y : Option sHp} (c : Int32) (e1 : X = some (c, h)) (e2 : Y = some (pI g 0 0 c)) : FcV n X Y :=
  ⟨c, h, _, e1, e2, by rw [pI_i, if_pos ⟨rfl, rfl⟩], Iv_code hI c⟩
