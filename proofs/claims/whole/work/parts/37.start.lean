theorem sTab_of {s : State} {A : Array Value} (hts : ∀ w ∈ lw_tbl, w.before A s = true) : sTab s := by
  intro w hw
  have ok := List.all_eq_true.mp sTB_ok w hw
  have h0 := hts w (List.mem_filter.mp hw).1
  unfold sOkw at ok
  split at ok
  · exact word_at (State.WarmedH.refl s) (Or.inr ⟨_, rfl⟩) h0
  · exact va_tabs rfl rfl h0
  · exact va_tabs rfl rfl h0
  · exact va_tabs rfl rfl h0
  · exact va_tabs rfl rfl h0
  · rw [Bool.and_eq_true] at ok
    exact va_tabs ok.1 rfl h0
theorem sKn {s : State} {A : Array Value} (hts : ∀ w ∈ lw_tbl, w.before A s = true) : ∃ (D : va_G) (cA : Nat → ClassId), va_K D ZL.1 (sTy cA) s := by
  have hts2 : ∀ w ∈ sTB, w.before A s = true := fun w hw => hts w (List.mem_filter.mp hw).1
  obtain ⟨c0, i0, k0⟩ := u_known (C := "StoryStates") (T := T_c0) (N := 7) (n := 7) hts2 (fun w hw => (us_c0 w hw).1) (hts2 _ wm_20)
  obtain ⟨c1, i1, k1⟩ := u_known (C := "StoryStates$Engine") (T := T_c1) (N := 5) (n := 5) hts2 (fun w hw => (us_c1 w hw).1) (hts2 _ wm_28)
  obtain ⟨c2, i2, k2⟩ := u_known (C := "StoryStates$World") (T := T_c2) (N := 18) (n := 18) hts2 (fun w hw => (us_c2 w hw).1) (hts2 _ wm_34)
  obtain ⟨c3, i3, k3⟩ := u_known (C := "StoryStates$Rules") (T := T_c3) (N := 8) (n := 8) hts2 (fun w hw => (us_c3 w hw).1) (hts2 _ wm_40)
  obtain ⟨c4, i4, k4⟩ := u_known (C := "StoryStates$Clauses") (T := T_c4) (N := 4) (n := 4) hts2 (fun w hw => (us_c4 w hw).1) (hts2 _ wm_46)
  obtain ⟨c5, i5, k5⟩ := u_known (C := "StoryStates$Atlas") (T := T_c5) (N := 12) (n := 12) hts2 (fun w hw => (us_c5 w hw).1) (hts2 _ wm_200)
  obtain ⟨c6, i6, k6⟩ := u_known (C := "StoryStatesModel") (T := T_m0) (N := 60) (n := 60) hts2 (fun w hw => (us_m0 w hw).1) (hts2 _ wm_893)
  obtain ⟨a0, ka0, p0, x0, y0, z0⟩ := Cond.arrayClass_spec (hts2 _ wm_68)
  obtain ⟨a1, ka1, p1, x1, y1, z1⟩ := Cond.arrayClass_spec (hts2 _ wm_69)
  obtain ⟨a2, ka2, p2, x2, y2, z2⟩ := Cond.arrayClass_spec (hts2 _ wm_244)
  refine ⟨(fun c => match c with | 0 => c0 | 1 => c1 | 2 => c2 | 3 => c3 | 4 => c4 | 5 => c5 | _ => c6, fun c => match c with | 0 => i0 | 1 => i1 | 2 => i2 | 3 => i3 | 4 => i4 | 5 => i5 | _ => i6), fun t => match t with | 0 => a0 | 1 => a1 | _ => a2, fun c q hq => ?_, fun k q hq => ?_⟩
  · match c, hq with
    | 0, hq => cases hq; exact k0
    | 1, hq => cases hq; exact k1
    | 2, hq => cases hq; exact k2
    | 3, hq => cases hq; exact k3
    | 4, hq => cases hq; exact k4
    | 5, hq => cases hq; exact k5
    | 6, hq => cases hq; exact k6
    | n + 7, hq =>
      have hz : ZL.1[n + 7]? = none := rfl
      rw [hz] at hq
      cases hq
  · match k, hq with
    | 0, hq => cases hq; exact ⟨fun n z => ⟨fun k h => (by cases h), ka0, y0, p0, z0⟩, x0⟩
    | 1, hq => cases hq; exact ⟨fun n z => ⟨fun k h => (by cases h), ka1, y1, p1, z1⟩, x1⟩
    | 2, hq => cases hq; exact ⟨fun n z => ⟨fun k h => (by cases h), ka2, y2, p2, z2⟩, x2⟩
    | n + 3, hq =>
      cases hq
theorem sPcl {D : va_G} {c1 c2 : List vw_C} {ws : va_W} {H : Heap} (h : ∀ (c : Nat) (r : vw_C), c1[c]? = some r → c2[c]? = some r) (hP : va_P D c1 ws H) : va_P D c2 ws H := by
  intro k q hq
  have h1 := hP k q hq
  obtain ⟨a, x | x⟩ := q
  · exact h1
  · obtain ⟨r, h2, h3⟩ := h1
    exact ⟨r, h _ _ h2, h3⟩
theorem zl_cl (c : Nat) (r : vw_C) (h : Zc.1[c]? = some r) : ZL.1[c]? = some r := by
  show (Zc.1 ++ Zm.1)[c]? = some r
  rw [List.getElem?_append_left (List.getElem?_eq_some_iff.mp h).1]
  exact h
section LS
variable {p : Program} {l : Launch} {e : Env} {R : Room} {s : State} {m : MethodId} {args : Array Value} {below : List Frame} {meth : Method} {c : Code} {H : Heap} {locs : List Loc} {cells slots mc ms : Nat} {Q : State → Prop}
theorem sRunW {g : JFrame} {rest : List Value} {Qa : State → Outcome → State → Prop} {free : Addr → Prop} (key : va_Run p l e R s m args below meth c H locs cells slots mc ms g rest Qa free)
    (kk : ∀ (v : Option Value) (st₀ t : State) (H1 : Heap) (L : List Loc), st₀.heap = H → (∀ q ∈ L, free q.base) → H1 = t.heap → Qa st₀ (.returned v) t → W p l e R s m args below meth c H1 (locs ++ L) (cells + mc) (slots + ms) Q { g with pc := g.pc + 3, stack := v.toList ++ rest }) : W p l e R s m args below meth c H locs cells slots Q g := by
  intro T hT X
  obtain ⟨v, st₀, t, T', L, z0, X', hL, e1, e2, hq, stp⟩ := key T hT X
  obtain ⟨t2, a1, b1⟩ := kk v st₀ t T'.heap L z0 hL e1 hq T' rfl X'
  exact ⟨t2, stp t2 a1, b1⟩
end LS
/-- the law's end: nothing that was there before was written -/
theorem sEnd {below : List Frame} {a : Array Value} {s t : State} {V : sWo} {h' : sHp} {A : Addr → Prop} (hA : ∀ q, A q → s.heap.size ≤ q) (h : MQ below (sQr ZL V (some (.int 1)) h') a s 1111 12865 A t) : ∃ o, t.status = .running ∧ Ended t below o ∧ o = .returned (some (.int 1)) ∧ Framed s o t [] 1111 12865 := by
  obtain ⟨o, h1, h2, h3, L, h4, h5⟩ := h
  obtain ⟨D, cA, ad⟩ := V
  refine ⟨o, h1, h2, h3.1, h4.1, h4.2.1, ?_⟩
  obtain ⟨b1, b2, b3, b4, b5, b6⟩ := h4.2.2
  refine ⟨b1, b2, b3, b4, b5, fun x cx hx => ?_⟩
  obtain ⟨c', w1, w2, w3, w4⟩ := b6 x cx hx
  refine ⟨c', w1, w2, w3, fun i _ => w4 i (fun hm => ?_)⟩
  have := hA _ (h5 _ hm)
  have hlt : x < s.heap.size := (Array.getElem?_eq_some_iff.mp hx).1
  exact absurd this (Nat.not_le.mpr hlt)
set_option maxHeartbeats 4000000 in
theorem sStart {p : Program} {e : Env} {s : State} {m : MethodId} {below : List Frame} {meth : Method} {c : Code} (l : Launch) (hfl : l.flags = flags0) {b K : Nat} {xs : Nat → Int32} (hx : p.tables.exec = Jvm.exec) (hb : c.code = code) (hret : meth.sig.returnType = some .boolean) (hml : c.maxLocals = 7) (hown : s.vm.findClass "StoryStatesLaw" = some m.cls) (hts : ∀ w ∈ lw_tbl, w.before #[Value.ref b] s = true) (hX : va_X b K xs s s.heap) (hbl : b < s.heap.size) (hlk : meth.locks = false) (hNc : sNc s) (hZs : ∀ A : Nat → Prop, (∀ q, A q → s.heap.size ≤ q) → sZs A s s.heap)
    {n : Nat} {h1 h' : sHp} (hr : J_M_renew n h00 = some h1) (hF : sFx (F_law K xs n) 513 (0, hIn h1) = some (1, h')) : W p l e room_1 s m #[Value.ref b] below meth c s.heap [] 0 0 (fun t => ∃ o, t.status = .running ∧ Ended t below o ∧ o = .returned (some (.int 1)) ∧ Framed s o t [] 1111 12865) (entryFrame m ([Value.ref b] : List Value).toArray 7) := by
  have hTab := sTab_of hts
  have hts2 : ∀ w ∈ sTB, w.before #[Value.ref b] s = true := fun w hw => hts w (List.mem_filter.mp hw).1
  obtain ⟨D, cA, hK⟩ := sKn hts
  have hl0 := lv_entry ([Value.ref b]) (n := 7) (Nat.le_of_ble_eq_true rfl)
  rw [lg_entry_eq]
  have hP00 : va_P D ZL.1 [] s.heap := fun k q hq => by cases hq
  have hD00 : va_D (fun q => s.heap.size ≤ q) [] := ⟨fun i j p q hp => (by cases hp), fun k q hq => (by cases hq)⟩
  have hA : ∀ q, s.heap.size ≤ q → (fun q => s.heap.size ≤ q) q := fun q hq => hq
  refine va_new (A := fun q => s.heap.size ≤ q) (H0 := s.heap) (ws := []) (tys := sTy cA) (cl := ZL.1) (D := D) (ci := 0) (fs := f0_S) (C := "StoryStates") (T := T_c0) (N := 7) (Ts := sTB) hx hb hts2 (fun w hw => (us_c0 w hw).1) ty_c0 tyok_c0 hown (hts2 _ wm_19) (hts2 _ wm_20) (hts2 _ wm_1) hK hP00 hD00 va_S.rf hA rfl df_S (by decide) (by decide) d_L_law_0 (fun q0 H1 hP1 hD1 hS1 => ?_)
  refine lv_dup hx hb d_L_law_3 rfl ?_
  have hq0 : s.heap.size ≤ q0 := hD1.2 0 _ rfl
  have hpre : PreS s H1 (sPg Zc.1 D cA q0 H1.size 0 f0_S) (.ref q0 :: []) := ⟨sPg_blind Zc.1 D cA q0 H1.size 0 f0_S, fun U hU hW => ⟨rfl, by rw [hU], sTab_warm hW hTab, va_K.moved hW.alike (sK_down zl_c hK), fun k q hq => by
    have h1 : k < 1 := (List.getElem?_eq_some_iff.mp hq).1
    have h2 : k = 0 := by omega
    subst h2
    cases hq
    rw [hU]
    exact hP1 0 _ rfl⟩⟩
  have hcode : (Cond.code y_S_init prog_1_method_1_code 1 none).before #[Value.ref b] s = true := hts2 _ wm_23
  refine sRunW (va_runI (g := F0 m (0 + 3 + 1) _ [.ref q0, .ref q0]) (rest := [.ref q0]) (n := 0) (nL := 7) (As := []) (bytes := prog_1_method_1_code) (maxL := 1) (Ts := []) (locs := []) ⟨hx, hb, hml, hown, (fun w hw => by cases hw)⟩ (I_S l D cA q0 H1.size) ⟨⟨rfl, rfl, by decide, by decide, sCodeW hcode, List.mem_singleton.mpr rfl, hcode, hts2 _ wm_1, by decide, sDesc (by decide +kernel), hts2 _ wm_21⟩, rfl, hts2 _ wm_22⟩ hpre rfl rfl hl0.1 rfl (lv_room (Nat.le_of_ble_eq_true rfl)) d_L_law_4 ⟨by decide, by decide⟩) (fun v st₀ t H2 L1 z0 hL1 e1 hq => ?_)
  obtain ⟨hv, ⟨ad1, had1, hPc, hDc⟩, hz, hk⟩ := hq
  cases hv
  rw [z0] at hz hk
  rw [← e1] at hz hk hPc
  have hAs : ∀ q, sGA q0 H1.size q → s.heap.size ≤ q := fun q hq => by
    rcases hq with rfl | hq
    · exact hq0
    · exact Nat.le_trans hS1.1 hq
  have hP2 : va_P D ZL.1 (sGw cA ad1 g_S_init_13) H2 := sPcl zl_cl hPc
  have hD2 : va_D (fun q => s.heap.size ≤ q) (sGw cA ad1 g_S_init_13) := ⟨hDc.1, fun k q hq => hAs _ (hDc.2 k q hq)⟩
  have hS2 : va_S (fun q => s.heap.size ≤ q) s.heap H2 ([] ++ L1) := ⟨Nat.le_trans hS1.1 hz, fun q h1 h2 => by rw [hk q (Nat.lt_of_lt_of_le h1 hS1.1) (fun z => h2 (hAs q z))]; exact hS1.2.1 q h1 h2, fun q hq => hAs _ (hL1 q hq)⟩
  refine lv_astore_n (k := 1) (i := 1) hx hb d_L_law_7 rfl hl0 (by decide) rfl (fun ls1 hl1 => ?_)
  refine va_new (A := fun q => s.heap.size ≤ q) (H0 := s.heap) (tys := sTy cA) (ci := 6) (fs := f0_M) (C := "StoryStatesModel") (T := T_m0) (N := 60) (Ts := sTB) hx hb hts2 (fun w hw => (us_m0 w hw).1) ty_m0 tyok_m0 hown (hts2 _ wm_892) (hts2 _ wm_893) (hts2 _ wm_7) hK hP2 hD2 hS2 hA rfl df_M (by decide) (by decide) d_L_law_8 (fun q1 H3 hP3 hD3 hS3 => ?_)
  refine lv_dup hx hb d_L_law_11 rfl ?_
  have hlast : (sGw cA ad1 g_S_init_13 ++ [(q1, .inr (6, f0_M))])[41]? = some (q1, .inr (6, f0_M)) := by
    rw [List.getElem?_append_right (by rw [sGw_len]; decide), sGw_len]
    rfl
  have hq1 : s.heap.size ≤ q1 := hD3.2 41 _ hlast
  have hpre2 : PreS s H3 (sPg Zm.1 (shD 6 D) cA q1 H3.size 0 f0_M) (.ref q1 :: []) := ⟨sPg_blind Zm.1 (shD 6 D) cA q1 H3.size 0 f0_M, fun U hU hW => ⟨rfl, by rw [hU], sTab_warm hW hTab, va_K.moved hW.alike (sK_down zl_m hK), fun k q hq => by
    have h1 : k < 1 := (List.getElem?_eq_some_iff.mp hq).1
    have h2 : k = 0 := by omega
    subst h2
    cases hq
    rw [hU]
    exact hP3 41 _ hlast⟩⟩
  have hcode2 : (Cond.code y_M_init prog_10_method_1_code 1 none).before #[Value.ref b] s = true := hts2 _ wm_896
  refine sRunW (va_runI (g := F0 m (0 + 3 + 1 + 3 + 1 + 3 + 1) _ [.ref q1, .ref q1]) (rest := [.ref q1]) (n := 0) (nL := 7) (As := []) (bytes := prog_10_method_1_code) (maxL := 1) (Ts := []) ⟨hx, hb, hml, hown, (fun w hw => by cases hw)⟩ (I_M n h1 hr l (shD 6 D) cA q1 H3.size) ⟨⟨rfl, rfl, by decide, by decide, sCodeW hcode2, List.mem_singleton.mpr rfl, hcode2, hts2 _ wm_7, by decide, sDesc (by decide +kernel), hts2 _ wm_894⟩, rfl, hts2 _ wm_895⟩ hpre2 rfl rfl hl1.1 rfl (lv_room (Nat.le_of_ble_eq_true rfl)) d_L_law_12 ⟨by decide, by decide⟩) (fun v st₀ t H4 L2 z2 hL2 e2 hq => ?_)
  obtain ⟨hv, ⟨ad2, had2, hPm, hDm⟩, hz4, hk4⟩ := hq
  cases hv
  rw [z2] at hz4 hk4
  rw [← e2] at hz4 hk4 hPm
  have hAs2 : ∀ q, sGA q1 H3.size q → s.heap.size ≤ q := fun q hq => by
    rcases hq with rfl | hq
    · exact hq1
    · exact Nat.le_trans hS3.1 hq
  have hleft : ∀ (k : Nat) (x : Nat × va_E), (sGw cA ad1 g_S_init_13)[k]? = some x → (sGw cA ad1 g_S_init_13 ++ [(q1, .inr (6, f0_M))])[k]? = some x := fun k x hx => by
    rw [List.getElem?_append_left (List.getElem?_eq_some_iff.mp hx).1]; exact hx
  have hP3c : va_P D ZL.1 (sGw cA ad1 g_S_init_13) H3 := fun k x hx => hP3 k x (hleft k x hx)
  have hne : ∀ (k : Nat) (x : Nat × va_E), (sGw cA ad1 g_S_init_13)[k]? = some x → x.1 ≠ q1 := fun k x hx he => by
    have := hD3.1 k 41 _ _ (hleft k x hx) hlast he
    have hlt := (List.getElem?_eq_some_iff.mp hx).1
    rw [sGw_len] at hlt
    have : k < 41 := hlt
    omega
  have hP4 : va_P D ZL.1 (sGw cA ad1 g_S_init_13) H4 := hP3c.kept (fun k x hx => hk4 _ (hP3c k x hx).lt (fun z => by
    rcases z with z | z
    · exact hne k x hx z
    · exact absurd (hP3c k x hx).lt (Nat.not_lt.mpr z)))
  have hS4 : va_S (fun q => s.heap.size ≤ q) s.heap H4 (([] ++ L1) ++ L2) := ⟨Nat.le_trans hS3.1 hz4, fun q h1 h2 => by rw [hk4 q (Nat.lt_of_lt_of_le h1 hS3.1) (fun z => h2 (hAs2 q z))]; exact hS3.2.1 q h1 h2, fun q hq => by
    rcases List.mem_append.mp hq with h | h
    · exact hS3.2.2 q h
    · exact hAs2 _ (hL2 q h)⟩
  refine lv_astore_n (k := 2) (i := 2) hx hb d_L_law_15 rfl hl1 (by decide) rfl (fun ls2 hl2 => ?_)
  refine lv_iconst hx hb d_L_law_16 (by decide : Int32.ofInt 1 = 1) ?_
  refine va_newaK (atype := .long) (N := 1) (rest := []) (h := H4.size) hx hb (hts2 _ wm_244) rfl d_L_law_17 rfl (by decide) (by decide) (by decide) (by decide) (by decide) rfl (fun H5 cO e5 z5 o5 hAr hfc => ?_)
  have hcO : cO = cA 2 := by
    have h2 := (hK.2 2 (cA 2, .long) rfl).2
    exact Option.some.inj (Eq.trans (Eq.symm hfc) h2)
  subst hcO
  refine lv_astore_n (k := 3) (i := 3) hx hb d_L_law_19 rfl hl2 (by decide) rfl (fun ls3 hl3 => ?_)
  refine lv_iconst hx hb d_L_law_20 (by decide : Int32.ofInt 0 = 0) ?_
  refine lv_istore hx hb d_L_law_21 hl3 (by decide) rfl (fun ls4 hl4 => ?_)
  have hP5 : va_P D ZL.1 (sWd ZL.2 cA (adL ad1 ad2 H4.size b) (hIn h1)) H5 := sAsm (hP4.kept (fun k x hx => o5 _ (hP4 k x hx).lt)) (hPm.kept (fun k x hx => o5 _ (hPm k x hx).lt)) e5
  have l1 : ∀ i, i < 41 → ∃ x, (sGw cA ad1 g_S_init_13)[i]? = some (ad1 i, x) := fun i hi => ⟨_, sGw_at (List.getElem?_eq_getElem (show i < g_S_init_13.length from hi))⟩
  have l2 : ∀ i, i < 42 → ∃ x, (sWd Zm.2 cA ad2 h1)[i]? = some (ad2 i, x) := fun i hi => ⟨_, sWd_at (List.getElem?_eq_getElem (show i < Zm.2.length from hi))⟩
  have hap : sApart ZL.2 (adL ad1 ad2 H4.size b) := sApL
    (fun i j hi hj he => by obtain ⟨x, hx⟩ := l1 i hi; obtain ⟨y, hy⟩ := l1 j hj; exact hDc.1 i j _ _ hx hy he)
    (fun i j hi hj he => by obtain ⟨x, hx⟩ := l2 i hi; obtain ⟨y, hy⟩ := l2 j hj; exact hDm.1 i j _ _ hx hy he)
    (fun i j hi hj he => by
      obtain ⟨x, hx⟩ := l1 i hi
      obtain ⟨y, hy⟩ := l2 j hj
      rcases hDm.2 j _ hy with z | z
      · exact hne i _ hx (he.trans z)
      · have h6 := (hP3c i _ hx).lt
        have h7 : ad1 i < H3.size := h6
        have h8 : H3.size ≤ ad2 j := z
        omega)
    (fun i hi he => by obtain ⟨x, hx⟩ := l1 i hi; have h7 : ad1 i < H4.size := (hP4 i _ hx).lt; omega)
    (fun j hj he => by obtain ⟨y, hy⟩ := l2 j hj; have h7 : ad2 j < H4.size := (hPm j _ hy).lt; omega)
  have hold : ∀ q, sAr ZL.2 (adL ad1 ad2 H4.size b) q → s.heap.size ≤ q := adL_old
    (fun i hi => by obtain ⟨x, hx⟩ := l1 i hi; exact hD2.2 i _ hx) (fun j hj => by obtain ⟨y, hy⟩ := l2 j hj; exact hAs2 _ (hDm.2 j _ hy)) hS4.1
  have hb84 : adL ad1 ad2 H4.size b ZL.2.length = b := rfl
  have hO : sOk ZL (p, l, e, room_1, s, m, #[Value.ref b], below, meth, c, 84, 4655, 1111, 12865) (D, cA, adL ad1 ad2 H4.size b) code 7 "StoryStatesLaw" (some .boolean) room_1 := ⟨hx, hb, hml, hown, hTab, hK, hap, hlk, hret, rfl, ⟨by decide, by decide⟩, by decide, by decide⟩
  have hT : sOkl ZL K xs (p, l, e, room_1, s, m, #[Value.ref b], below, meth, c, 84, 4655, 1111, 12865) (D, cA, adL ad1 ad2 H4.size b) := ⟨⟨hfl, hZs _ hold, hNc⟩, hX, hbl, hold⟩
  have hwalk := R_law K xs n 513 (D, cA, adL ad1 ad2 H4.size b) _ hO hT ⟨by decide, by decide⟩ (0, hIn h1) (1, h') hF
  have hS5 : ∀ q ∈ (([] ++ L1) ++ L2), s.heap.size ≤ q.base := hS4.2.2
  have hlv : lv_has ls4 c.maxLocals (sLv (adL ad1 ad2 H4.size b) [(0, .ref 84), (1, .ref 0), (2, .ref 42), (3, .ref 41), (4, .int 0)]) := by
    rw [hml]
    have e0 : adL ad1 ad2 H4.size b 0 = q0 := had1
    have e42 : adL ad1 ad2 H4.size b 42 = q1 := had2
    have e41 : adL ad1 ad2 H4.size b 41 = H4.size := rfl
    have e84 : adL ad1 ad2 H4.size b 84 = b := rfl
    refine lv_sub hl4 [4, 3, 2, 1, 0] ?_
    simp only [sLv, List.map_cons, List.map_nil, sV, e0, e42, e41, e84]
    rfl
  refine va_forget hS5 ?_
  intro T hTt Xx
  obtain ⟨t9, a9, b9⟩ := hwalk H5 [] ls4 hlv hP5 ⟨Nat.le_trans hS4.1 (by omega), fun q h1 h2 => by rw [o5 q (Nat.lt_of_lt_of_le h1 hS4.1)]; exact hS4.2.1 q h1 (fun z => absurd h1 (Nat.not_lt.mpr z)), fun q hq => by cases hq⟩ T hTt Xx
  exact ⟨t9, a9, sEnd hold b9⟩
