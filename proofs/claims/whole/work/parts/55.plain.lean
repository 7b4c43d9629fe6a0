/-! What a command does where no rule fits, both sides. -/
/-- kinds are alike and small; exits are alike -/
def WrK (h g : sHp) (T : Nat) : Prop := T ≤ 6 ∧ ∀ t, t < T → ∃ k, k < 8 ∧ h.1 13 t = o k ∧ g.1 3 t = o k
def WrX (h g : sHp) (R T : Nat) : Prop := R ≤ 6 ∧ ∀ i, i < 4 * R → (h.1 10 i = -1 ∧ g.1 1 i = 0) ∨ (∃ a, a < R ∧ h.1 10 i = o a ∧ g.1 1 i = o (a + 1)) ∧ ((h.1 11 i = -1 ∧ g.1 2 i = 0) ∨ ∃ d, d < T ∧ h.1 11 i = o d ∧ g.1 2 i = o (d + 1))
/-- how both sides stand behind a step that may change the state -/
def Both (R : Nat) (h g : sHp) (X Y : Option (Int32 × sHp)) : Prop := ∃ (b : Bool) (s' : Int64) (g' : sHp) (r' : Nat → Nat), X = some (oB b, pL h 1 4 s') ∧ Y = some (oB b, g') ∧ Scr g' s' ∧ Lk g g' ∧ Rk s' r' ∧ sT s' ∧ ∀ mo : Nat → Nat, R ≤ mo 3 → Vb mo (h.2 1 4) → Vb mo s'
theorem kind_bits : ∀ k, k < 8 → ((o k &&& 1 = 0) ↔ k % 2 = 0) ∧ ((o k &&& 2 = 0) ↔ k / 2 % 2 = 0) := by decide +kernel
theorem Rk_keep {s : Int64} {r : Nat → Nat} (hr : Rk s r) {i v : Nat} (hi : i < 21) (hn : ¬ (1 ≤ i ∧ i < 7)) (hv : v < 2 ^ fw i) : Rk (dW s i v) r := by
  intro t ht
  have e : pl (dW s i v) t = pl s t := by
    unfold pl
    rw [dg_dW s hi (by omega) hv, if_neg (by omega)]
  have e2 : ∀ u, u < 6 → pl (dW s i v) u = pl s u := fun u hu => by
    unfold pl
    rw [dg_dW s hi (by omega) hv, if_neg (by omega)]
  rw [e]
  exact hr t ht
theorem Rk_put {s : Int64} {r : Nat → Nat} (hr : Rk s r) {t p : Nat} (ht : t < 6) (hp : p < 7) : Rk (dW s (1 + t) p) r := by
  have hv : p < 2 ^ fw (1 + t) := by rw [(fs_place t ht).2]; show p < 16; omega
  refine Rk_out hr (x := t) (fun u hu hn => ?_) ?_
  · unfold pl
    rw [dg_dW s (by omega) (by omega) hv, if_neg (by omega)]
  · unfold pl
    rw [dg_dW s (by omega) (by omega) hv, if_pos rfl]
    exact hp
theorem Rk_put_in {s : Int64} {r : Nat → Nat} (hr : Rk s r) {t y : Nat} (ht : t < 6) (hy : y < 6) (hw : wi s 6 y t = false) : ∃ r', Rk (dW s (1 + t) (7 + y)) r' := by
  have hv : 7 + y < 2 ^ fw (1 + t) := by rw [(fs_place t ht).2]; show 7 + y < 16; omega
  refine Rk_in (x := t) (y := y) hr hy (fun u hu hn => ?_) ?_ hw
  · unfold pl
    rw [dg_dW s (by omega) (by omega) hv, if_neg (by omega)]
  · unfold pl
    rw [dg_dW s (by omega) (by omega) hv, if_pos rfl]
section PB
variable {h g : sHp} {s : Int64} {r : Nat → Nat} {n R T : Nat}
theorem both_no (hnow : h.2 1 4 = s) (hg : Scr g s) (hr : Rk s r) (hs : sT s) : Both R h g (some (0, h)) (some (0, g)) := ⟨false, s, g, r, by rw [← hnow, pL_same]; rfl, rfl, hg, Lk_refl g, hr, hs, fun _ _ hV => by rw [hnow] at hV; exact hV⟩
theorem act_take (hnow : h.2 1 4 = s) (hg : Scr g s) (hr : Rk s r) (hs : sT s) (hK : WrK h g T) (hn : 8 ≤ n) {t : Nat} (ht : t < T) (b : Int32) : Both R h g (J_E_takeUp n (o t) h) (J_M_plain n 1 (o t) b g) := by
  have hT := hK.1
  have ht6 : t < 6 := by omega
  obtain ⟨k, hk, k1, k2⟩ := hK.2 t ht
  have kb := kind_bits k hk
  unfold J_E_takeUp J_M_plain
  rw [if_neg (by decide : ¬ (1 : Int32) = 0), if_pos rfl, sIn_o 6 (by omega), decide_eq_true ht6]
  simp only [sGd_true, ix_o (show t < 2147483648 by omega), hnow, b_place n s h ht6, B_seen hr (show 6 ≤ n by omega) h ht6, M_seen6 hg hr (show 6 ≤ n by omega) ht6, k1, k2, hg.2.1 t ht6, Option.bind_some, show (6 : Int32) = o 6 from rfl, b_wplace n s h ht6 6, oB_0, show (2 : Int32) = o 2 from rfl, jRem_o (show k < 2147483648 by omega) (show 2 < 2147483648 by omega)]
  have km : o (k % 2) = (0 : Int32) ↔ k % 2 = 0 := o_inj (by omega) (by omega : 0 < 2147483648)
  have hyes : Both R h g (some (1, pL h 1 4 (dW s (1 + t) 6))) (some (1, pI g 25 t (o 6))) := ⟨true, _, _, r, rfl, rfl, Scr_place hg ht6 (by omega), Lk_pI (Lk_refl g) (by omega), Rk_put hr ht6 (by omega), sT_dW (by omega) hs, fun _ _ hV => by rw [hnow] at hV; exact Vb_dW hV (by omega) (by rw [(fs_place t ht6).2]; show _ < 16; omega) (by omega) (by omega) (by omega)⟩
  have hno := both_no (R := R) hnow hg hr hs
  by_cases a1 : k % 2 = 0 <;> by_cases a2 : o (dg s (1 + t)) = o 6 <;> cases a3 : sn s 6 t <;> simp only [kb.1, km, a1, a2, if_true, if_false, Bool.true_eq_false] <;> first | exact hno | exact hyes
theorem act_drop (hnow : h.2 1 4 = s) (hg : Scr g s) (hr : Rk s r) (hs : sT s) (hR : dg s 0 < 6) {t : Nat} (ht6 : t < 6) (b : Int32) : Both R h g (J_E_putDown n (o t) h) (J_M_plain n 2 (o t) b g) := by
  have e1 : ¬ (2 : Int32) = 0 := by decide
  have e2 : ¬ (2 : Int32) = 1 := by decide
  unfold J_E_putDown J_M_plain
  rw [if_neg e1, if_neg e2, if_pos rfl, sIn_o 6 (by omega), decide_eq_true ht6]
  simp only [sGd_true, ix_o (show t < 2147483648 by omega), hnow, b_place n s h ht6, b_room, hg.2.1 t ht6, hg.1, Option.bind_some, b_wplace n s h ht6 (dg s 0)]
  have hyes : Both R h g (some (1, pL h 1 4 (dW s (1 + t) (dg s 0)))) (some (1, pI g 25 t (o (dg s 0)))) := ⟨true, _, _, r, rfl, rfl, Scr_place hg ht6 (by omega), Lk_pI (Lk_refl g) (by omega), Rk_put hr ht6 (by omega), sT_dW (by omega) hs, fun _ _ hV => by rw [hnow] at hV; exact Vb_dW hV (by omega) (by rw [(fs_place t ht6).2]; show _ < 16; omega) (by omega) (by omega) (by omega)⟩
  have hno := both_no (R := R) hnow hg hr hs
  by_cases a2 : o (dg s (1 + t)) = 6 <;> simp only [a2, if_true, if_false] <;> first | exact hno | exact hyes
theorem act_lid (hnow : h.2 1 4 = s) (hg : Scr g s) (hr : Rk s r) (hs : sT s) (hK : WrK h g T) (hn : 8 ≤ n) {t : Nat} (ht : t < T) (b : Int32) : Both R h g (J_E_turnLid n (o t) 1 h) (J_M_plain n 3 (o t) b g) ∧ Both R h g (J_E_turnLid n (o t) 0 h) (J_M_plain n 4 (o t) b g) := by
  have hT := hK.1
  have ht6 : t < 6 := by omega
  obtain ⟨k, hk, k1, k2⟩ := hK.2 t ht
  have kb := kind_bits k hk
  have hd := dO_lt s ht6
  have km : o (k / 2 % 2) = (0 : Int32) ↔ k / 2 % 2 = 0 := o_inj (by omega) (by omega : 0 < 2147483648)
  have hno := both_no (R := R) hnow hg hr hs
  have hy : ∀ v, v < 2 → Both R h g (some (1, pL h 1 4 (dW s (7 + t) v))) (some (1, pI g 26 t (o v))) := fun v hv => ⟨true, _, _, r, rfl, rfl, Scr_open hg ht6 hv, Lk_pI (Lk_refl g) (by omega), Rk_keep hr (by omega) (by omega) (by rw [(fs_open t ht6).2]; exact hv), sT_dW (by omega) hs, fun _ _ hV => by rw [hnow] at hV; exact Vb_dW hV (by omega) (by rw [(fs_open t ht6).2]; exact hv) (by omega) (by omega) (by omega)⟩
  have jr : jRem (o k / 2) 2 = o (k / 2 % 2) := by
    rw [show (2 : Int32) = o 2 from rfl, o_div (by omega) (by omega), jRem_o (by omega) (by omega)]
  have w1 : J_B_withOpen n s (o t) 1 h = some (dW s (7 + t) 1) := b_wopen n s h ht6 1
  have w0 : J_B_withOpen n s (o t) 0 h = some (dW s (7 + t) 0) := b_wopen n s h ht6 0
  refine ⟨?_, ?_⟩
  · unfold J_E_turnLid K_E_turnLid_32 J_M_plain K_M_plain_208
    rw [if_neg (by decide : ¬ (3 : Int32) = 0), if_neg (by decide : ¬ (3 : Int32) = 1), if_neg (by decide : ¬ (3 : Int32) = 2), if_pos rfl, sIn_o 6 (by omega), decide_eq_true ht6]
    simp only [sGd_true, ix_o (show t < 2147483648 by omega), hnow, b_open n s h ht6, B_seen hr (show 6 ≤ n by omega) h ht6, M_seen6 hg hr (show 6 ≤ n by omega) ht6, k1, k2, hg.2.2.1 t ht6, Option.bind_some, oB_0, jr, w1, if_true]
    by_cases a1 : k / 2 % 2 = 0 <;> by_cases a2 : o (dg s (7 + t)) = 1 <;> cases a3 : sn s 6 t <;> simp only [kb.2, km, a1, a2, if_true, if_false, Bool.true_eq_false] <;> first | exact hno | exact hy 1 (by omega)
  · unfold J_E_turnLid K_E_turnLid_32 J_M_plain K_M_plain_208
    rw [if_neg (by decide : ¬ (4 : Int32) = 0), if_neg (by decide : ¬ (4 : Int32) = 1), if_neg (by decide : ¬ (4 : Int32) = 2), if_neg (by decide : ¬ (4 : Int32) = 3), if_pos rfl, sIn_o 6 (by omega), decide_eq_true ht6]
    simp only [sGd_true, ix_o (show t < 2147483648 by omega), hnow, b_open n s h ht6, B_seen hr (show 6 ≤ n by omega) h ht6, M_seen6 hg hr (show 6 ≤ n by omega) ht6, k1, k2, hg.2.2.1 t ht6, Option.bind_some, oB_0, jr, w0, if_neg (by decide : ¬ (0 : Int32) = 1), if_neg (by decide : ¬ (4 : Int32) = 3)]
    by_cases a1 : k / 2 % 2 = 0 <;> by_cases a2 : o (dg s (7 + t)) = 0 <;> cases a3 : sn s 6 t <;> simp only [kb.2, km, a1, a2, if_true, if_false, Bool.true_eq_false] <;> first | exact hno | exact hy 0 (by omega)
theorem act_put (hnow : h.2 1 4 = s) (hg : Scr g s) (hr : Rk s r) (hs : sT s) (hK : WrK h g T) (hn : 8 ≤ n) {t y : Nat} (ht : t < T) (hy : y < T) : Both R h g (J_E_putInto n (o t) (o y) h) (J_M_plain n 5 (o t) (o y) g) := by
  have hT := hK.1
  have ht6 : t < 6 := by omega
  have hy6 : y < 6 := by omega
  obtain ⟨k, hk, k1, k2⟩ := hK.2 y hy
  have kb := kind_bits k hk
  have km : o (k / 2 % 2) = (0 : Int32) ↔ k / 2 % 2 = 0 := o_inj (by omega) (by omega : 0 < 2147483648)
  have hno := both_no (R := R) hnow hg hr hs
  have jr : jRem (o k / 2) 2 = o (k / 2 % 2) := by
    rw [show (2 : Int32) = o 2 from rfl, o_div (by omega) (by omega), jRem_o (by omega) (by omega)]
  have e7 : (7 : Int32) + o y = o (7 + y) := o_add 7 y
  have hyes : wi s 6 y t = false → Both R h g (some (1, pL h 1 4 (dW s (1 + t) (7 + y)))) (some (1, pI g 25 t (o (7 + y)))) := fun hw => by
    obtain ⟨r', hr'⟩ := Rk_put_in hr ht6 hy6 hw
    exact ⟨true, _, _, r', rfl, rfl, Scr_place hg ht6 (by omega), Lk_pI (Lk_refl g) (by omega), hr', sT_dW (by omega) hs, fun _ _ hV => by rw [hnow] at hV; exact Vb_dW hV (by omega) (by rw [(fs_place t ht6).2]; show 7 + y < 16; omega) (by omega) (by omega) (by omega)⟩
  unfold J_E_putInto J_M_plain
  rw [if_neg (by decide : ¬ (5 : Int32) = 0), if_neg (by decide : ¬ (5 : Int32) = 1), if_neg (by decide : ¬ (5 : Int32) = 2), if_neg (by decide : ¬ (5 : Int32) = 3), if_neg (by decide : ¬ (5 : Int32) = 4), if_pos rfl]
  simp only [sIn_o 6 (show t < 2147483648 by omega), sIn_o 6 (show y < 2147483648 by omega), decide_eq_true ht6, decide_eq_true hy6, sGd_true, ix_o (show t < 2147483648 by omega), ix_o (show y < 2147483648 by omega), hnow, b_place n s h ht6, b_open n s h hy6, B_seen hr (show 6 ≤ n by omega) h hy6, M_seen6 hg hr (show 6 ≤ n by omega) hy6, B_part hr (show 7 ≤ n by omega) h hy6 ht6, M_within hg hr (show 7 ≤ n by omega) hy6 ht6, k1, k2, hg.2.1 t ht6, hg.2.2.1 y hy6, Option.bind_some, oB_0, jr, e7, b_wplace n s h ht6 (7 + y)]
  by_cases a0 : o (dg s (1 + t)) = 6 <;> by_cases a1 : k / 2 % 2 = 0 <;> by_cases a2 : o (dg s (7 + y)) = 0 <;> cases a3 : sn s 6 y <;> cases a4 : wi s 6 y t <;> simp only [kb.2, km, a0, a1, a2, if_true, if_false, Bool.true_eq_false] <;> first | exact hno | exact hyes a4
end PB
