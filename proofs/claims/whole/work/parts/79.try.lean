/-! One command tried, the whole of it. -/
section TR
variable {n : Nat} {w : Wp} {hw h g : sHp} {f d : Nat}
/-- the row of the state gone through now, as far as it has come -/
def Row (n : Nat) (w : Wp) (hw : sHp) (f d j : Nat) (h : sHp) : Prop := ∀ i, i < j → ic w.T i = true → ∃ x, x < f ∧ Nx n hw (h.2 35 d) (jv i) (av (ja i)) (av (jb i)) (h.2 35 x) ∧ ld h d x = true
theorem try_both (hn : 600 ≤ n) (hW : Wr w h g) (hK : Kc hw h) (hA : AtO n w hw f d false h g) (hd : d < f) {j : Nat} (hj : j < 441) (hc : ic w.T j = true) (hR : Row n w hw f d j h) :
    ∃ h' g', ((J_E_take n (h.2 35 d) (o (jv j)) (av (ja j)) (av (jb j)) h).bind fun v78 => J_A_note n v78.1 (o (cod j)) (pI v78.2 6 8 ((v78.2.1 6 8) ||| (v78.2.1 1 3)))) = some h' ∧ J_M_tryOne n (o (jv j)) (av (ja j)) (av (jb j)) g = some g' ∧ Wr w h' g' ∧ Kc hw h' ∧ Kp h h' ∧ Kq g g' ∧ g'.1 0 0 = g.1 0 0 ∧ h'.2 35 d = h.2 35 d ∧
      ((∃ f', AtO n w hw f' d false h' g' ∧ d < f' ∧ Row n w hw f' d (j + 1) h') ∨ AtO n w hw f d true h' g') := by
  have f160 := hA.f160
  have hcmd := ic_cmd hj hc
  obtain ⟨gl, l1, l2, l3⟩ := M_lay (g := g) (h.2 35 d) (by omega : 8 ≤ n)
  have hWl := Wr_keep (Kc_refl h) (Kg_Lk l3) hW
  obtain ⟨s', h1, g1, k', mk, e1, e2, e3, e4, e5, e6, e7, e8, e9, e10, e11⟩ := take_all (by omega : 13 ≤ n) hWl hK l2 (hA.st d hd) hcmd
  generalize hh2 : pI h1 6 8 (h1.1 6 8 ||| h1.1 1 3) = h2
  have k2 : ∀ j m, ¬ (j = 6 ∧ m = 8) → j ≠ 1 → j ≠ 9 → h2.1 j m = h.1 j m := fun j m x y z => by rw [← hh2, pI_i, if_neg x, e7.1 j m y z]
  have kl2 : ∀ j m, j ≠ 1 → h2.2 j m = h.2 j m := fun j m y => by rw [← hh2]; exact e7.2.1 j m (by omega)
  have kg1 : ∀ j m, ¬ (25 ≤ j ∧ j ≤ 30) → ¬ (j = 0 ∧ (m = 32 ∨ m = 38 ∨ m = 39 ∨ m = 41)) → g1.1 j m = g.1 j m := fun j m x y => by rw [Tk_at e8 (by omega) (by omega), Lk_at l3 (by omega) (by omega)]
  have hdn : h2.1 6 8 = g1.1 0 41 := by
    rw [← hh2, pI_i, if_pos ⟨rfl, rfl⟩, e10, e9, e7.1 6 8 (by omega) (by omega), hA.dn, Lk_at l3 (by omega) (by omega)]
  have hA2 : AtO n w hw f d false h2 g1 := AtO_keep2 ⟨fun j m z => k2 j m (by omega) (by omega) (by omega), fun j m z => kl2 j m (by omega)⟩ (fun j m z => kg1 j m (by omega) (by omega)) hdn hA
  have hK2 : Kc h h2 := fun j m z => k2 j m (by omega) (by omega) (by omega)
  have hG2 : Kg g g1 := fun j m z => kg1 j m (by omega) (by omega)
  have hW2 := Wr_keep hK2 hG2 hW
  have hR2 : Row n w hw f d j h2 := by
    have e35 : h2.2 35 = h.2 35 := funext fun m => kl2 35 m (by omega)
    have eld : ld h2 = ld h := by funext i j; unfold ld; rw [kl2 39 _ (by omega)]
    unfold Row
    rw [e35, eld]; exact hR
  have hP2 : Kp h h2 := ⟨fun j m z => k2 j m (by omega) (by omega) (by omega), fun m => kl2 7 m (by omega)⟩
  have hQ2 : Kq g g1 := fun j m z => kg1 j m (by omega) (by omega)
  have sd : h2.2 35 d = h.2 35 d := kl2 35 d (by omega)
  have g00 : g1.1 0 0 = g.1 0 0 := kg1 0 0 (by omega) (by omega)
  rw [← sd] at e11
  have eL : ∀ {h' : sHp}, J_A_note n s' (o (cod j)) h2 = some h' → ((J_E_take n (h.2 35 d) (o (jv j)) (av (ja j)) (av (jb j)) h).bind fun v78 => J_A_note n v78.1 (o (cod j)) (pI v78.2 6 8 ((v78.2.1 6 8) ||| (v78.2.1 1 3)))) = some h' := fun z => by rw [e1, Option.bind_some]; dsimp only; rw [hh2]; exact z
  have eM : J_M_tryOne n (o (jv j)) (av (ja j)) (av (jb j)) g = (J_M_search n (o (eA s')) (o (eB s')) g1).bind fun v46 => if 0 ≤ v46 then (K_M_tryOne_72 n (o (jv j)) (av (ja j)) (av (jb j)) (o (eA s')) (o (eB s')) v46 g1) else (if (g1.1 0 49) = 160 then (some (pI g1 0 51 1)) else (K_M_tryOne_72 n (o (jv j)) (av (ja j)) (av (jb j)) (o (eA s')) (o (eB s')) v46 g1)) := by
    unfold J_M_tryOne
    rw [hA.go.2, sIn_o 160 (by omega), decide_eq_true (by omega), sGd_true, sGd_true, ix_o (by omega), (hA.enc d hd).1, (hA.enc d hd).2, l1, Option.bind_some, e2, Option.bind_some, M_packA e3 (by omega), Option.bind_some, M_packB e3 (by omega), Option.bind_some]
  obtain ⟨e0, s1, s2, s3, s4⟩ := slot_spec (h := h2) s' hn f160 hA2.tb hA2.ti hA2.tz
  have hq : (hsh s' + e0) % 512 < 512 := Nat.mod_lt _ (by omega)
  -- both set the lead
  have fin : ∀ (f2 : Nat) (h3 g3 : sHp) (x : Nat), AtO n w hw f2 d false h3 g3 → d < f2 → f2 ≤ 160 → x < f2 → h3.2 35 x = s' → h3.2 35 d = h2.2 35 d → Row n w hw f2 d j h3 → Kc h h3 → Kg g g3 → Kp h h3 → Kq g g3 → g3.1 0 0 = g.1 0 0 → h3.1 38 ((hsh s' + e0) % 512) = o (x + 1) →
      ∃ h' g', K_A_note_45 n s' (o (cod j)) (o ((hsh s' + e0) % 512)) h3 = some h' ∧ K_M_tryOne_98 n (o (jv j)) (av (ja j)) (av (jb j)) (o x) g3 = some g' ∧ Wr w h' g' ∧ Kc hw h' ∧ Kp h h' ∧ Kq g g' ∧ g'.1 0 0 = g.1 0 0 ∧ h'.2 35 d = h.2 35 d ∧ ∃ f', AtO n w hw f' d false h' g' ∧ d < f' ∧ Row n w hw f' d (j + 1) h' := by
    intro f2 h3 g3 x hA3 hd3 h160 hx hxs hdd hR3 c1 c2 c3 c4 c5 c6
    obtain ⟨h4, a1, a2, a3, a4⟩ := E_addTo (h := h3) (n := n) (d := d) (x := x) (by omega) (by omega)
    obtain ⟨g4, b1, b2, b3, b4⟩ := M_addTo (g := g3) (n := n) (d := d) (x := x) (o (jv j)) (av (ja j)) (av (jb j)) (by omega) (by omega) hA3.go.2
    have kc4 : Kc h3 h4 := fun j m z => by rw [a2]
    have kg4 : Kg g3 g4 := fun j m z => b3 j m (by omega)
    have e35 : h4.2 35 = h3.2 35 := funext fun m => a3 35 m (by omega)
    refine ⟨h4, g4, ?_, b1, Wr_keep (Kc_trans c1 kc4) (Kg_trans c2 kg4) hW, Kc_trans hK (Kc_trans c1 kc4), ⟨fun j m z => by rw [a2]; exact c3.1 j m z, fun m => by rw [a3 7 m (by omega)]; exact c3.2 m⟩, fun j m z => by rw [b3 j m (by omega)]; exact c4 j m z, by rw [b3 0 0 (by omega)]; exact c5, by rw [e35, hdd, sd], f2, AtO_lead hA3 hd3 hx a2 a3 a4 b3 b4, hd3, fun i hi hic => ?_⟩
    · unfold K_A_note_45
      rw [sIn_o 512 (by omega), decide_eq_true hq, sGd_true, ix_o (by omega), c6, hA3.go.1, show o (x + 1) - 1 = o x from o_sub (b := 1) (by omega), a1]; rfl
    · rw [e35]
      by_cases hij : i = j
      · subst hij
        refine ⟨x, hx, by rw [hxs, hdd]; exact e11, ?_⟩
        rw [a4 d x (by omega) (by omega), decide_eq_true rfl, decide_eq_true rfl]
        simp
      · obtain ⟨y, y1, y2, y3⟩ := hR3 i (by omega) hic
        refine ⟨y, y1, y2, ?_⟩
        rw [a4 d y (by omega) (by omega), y3]; rfl
  have srch := M_search (g := g1) (n := n) (S := h2.2 35) f160 hA2.fo.2 hA2.enc (fun i hi => (hA2.st i hi).2.1) e4.2.1 f 0 n (by omega) (by omega) (fun j hj => absurd hj (by omega))
  rcases s4 with ⟨z1, z2⟩ | ⟨i, i1, i2, i3⟩
  · -- a new state
    have hsr : J_M_search n (o (eA s')) (o (eB s')) g1 = some (-1) := by
      rcases srch with ⟨a, -⟩ | ⟨x, x1, x2, -⟩
      · exact a
      · exact absurd x2 (z2 x x1)
    rw [hsr, Option.bind_some, if_neg (by decide), hA2.fo.2] at eM
    by_cases h160 : f = 160
    · subst h160
      rw [if_pos (by decide)] at eM
      refine ⟨pI h2 6 11 1, pI g1 0 51 1, eL ?_, eM, Wr_keep (Kc_pI (Kc_refl h2) (by omega)) (Kg_pI (Kg_refl g1) (by omega)) hW2, Kc_trans hK (Kc_pI hK2 (by omega)), ⟨fun j m z => by rw [pI_i, if_neg (by omega)]; exact hP2.1 j m z, hP2.2⟩, fun j m z => by rw [pI_i, if_neg (by omega)]; exact hQ2 j m z, by rw [pI_i, if_neg (by omega)]; exact g00, sd, Or.inr (AtO_full hA2 hd)⟩
      unfold J_A_note
      rw [s2, Option.bind_some, sIn_o 512 (by omega), decide_eq_true hq, sGd_true, ix_o (by omega), if_pos z1, hA2.fo.1, if_pos (by decide)]
    · have hf : f < 160 := by omega
      have n160 : ¬ o f = (160 : Int32) := fun z => h160 ((o_inj (by omega) (by omega : 160 < 2147483648)).mp z)
      rw [if_neg n160] at eM
      obtain ⟨h3, p1, p2, p3⟩ := E_append (h := h2) (n := n) (by omega) s' (o d) (o (cod j)) hq hf hA2.fo.1
      obtain ⟨g3, q1, q2, q3⟩ := M_insert (g := g1) (n := n) (by omega) (o (eA s')) (o (eB s')) (o d) (o (jv j)) (av (ja j)) (av (jb j)) hf hA2.fo.2
      have hA3 := AtO_app hA2 hd hf e4 z2 s1 z1 s3 hj p2 p3 q3
      have s35 : ∀ i, i < f → h3.2 35 i = h2.2 35 i := fun i hi => by rw [p3, if_neg (by omega), if_neg (by omega)]
      have sff : h3.2 35 f = s' := by rw [p3, if_neg (by omega), if_pos ⟨rfl, rfl⟩]
      have hR3 : Row n w hw (f + 1) d j h3 := fun i hi hic => by
        obtain ⟨y, y1, y2, y3⟩ := hR2 i hi hic
        refine ⟨y, by omega, by rw [s35 d hd, s35 y y1]; exact y2, ?_⟩
        unfold ld at y3 ⊢
        rw [p3, if_neg (by omega), if_neg (by omega)]; exact y3
      obtain ⟨h4, g4, r1, r2, r3, r4, r5, r6, r7, r8, r9⟩ := fin (f + 1) h3 g3 f hA3 (by omega) (by omega) (by omega) sff (s35 d hd) hR3 (fun j m z => by rw [p2, if_neg (by omega), if_neg (by omega), if_neg (by omega), if_neg (by omega)]; exact hK2 j m z) (fun j m z => by rw [q3, if_neg (by omega), if_neg (by omega), if_neg (by omega)]; exact hG2 j m z) ⟨fun j m z => by rw [p2, if_neg (by omega), if_neg (by omega), if_neg (by omega), if_neg (by omega)]; exact hP2.1 j m z, fun m => by rw [p3, if_neg (by omega), if_neg (by omega)]; exact hP2.2 m⟩ (fun j m z => by rw [q3, if_neg (by omega), if_neg (by omega), if_neg (by omega)]; exact hQ2 j m z) (by rw [q3, if_neg (by omega), if_neg (by omega), if_neg (by omega)]; exact g00) (by rw [p2, if_pos ⟨rfl, rfl⟩])
      refine ⟨h4, g4, eL ?_, ?_, r3, r4, r5, r6, r7, r8, Or.inl r9⟩
      · have n160' : ¬ h2.1 6 10 = 160 := by rw [hA2.fo.1]; exact n160
        unfold J_A_note
        rw [s2, Option.bind_some, sIn_o 512 (by omega), decide_eq_true hq, sGd_true, ix_o (by omega), if_pos z1, if_neg n160', hA2.go.1, p1, Option.bind_some]
        exact r1
      · rw [eM]
        unfold K_M_tryOne_72
        rw [if_neg (by decide), hA2.go.2, q1, Option.bind_some, hA2.fo.2]
        exact r2
  · -- a state that was found before
    have hsr : J_M_search n (o (eA s')) (o (eB s')) g1 = some (o i) := by
      rcases srch with ⟨-, a⟩ | ⟨x, x1, x2, x3⟩
      · exact absurd i3 (a i i1)
      · have : x = i := hA2.inj x i x1 i1 (by rw [x2, i3])
        subst this
        exact x3
    have li : (0 : Int32) ≤ o i := (o_le (by omega : 0 < 2147483648) (by omega)).mpr (by omega)
    rw [hsr, Option.bind_some, if_pos li] at eM
    obtain ⟨h4, g4, r1, r2, r3, r4, r5, r6, r7, r8, r9⟩ := fin f h2 g1 i hA2 hd f160 i1 i3 rfl hR2 hK2 hG2 hP2 hQ2 g00 i2
    refine ⟨h4, g4, eL ?_, ?_, r3, r4, r5, r6, r7, r8, Or.inl r9⟩
    · have nz : ¬ h2.1 38 ((hsh s' + e0) % 512) = 0 := by
        rw [i2]; exact fun z => by have := (o_inj (by omega) (by omega : 0 < 2147483648)).mp z; omega
      unfold J_A_note
      rw [s2, Option.bind_some, sIn_o 512 (by omega), decide_eq_true hq, sGd_true, ix_o (by omega), if_neg nz]
      exact r1
    · rw [eM]
      unfold K_M_tryOne_72
      rw [if_pos li]
      exact r2
end TR
