def F_M_search_2 (n : Nat) (p1 : Int32) (p2 : Int32) (h : sHp) (rec2 : Int32 → Option Int32) (q : Int32) : Option Int32 :=
  if (h.1 0 49) ≤ q then (some (-1)) else (sGd (sIn q 160) (if (h.1 34 (ix q)) = p1 then (sGd (sIn q 160) (if (h.1 35 (ix q)) = p2 then (some q) else (rec2 (q + 1)))) else (rec2 (q + 1))))
def J_M_search (n : Nat) (p1 : Int32) (p2 : Int32) (h : sHp) : Option Int32 :=
  sFx (F_M_search_2 n p1 p2 h ) n 0
set_option maxRecDepth 20000 in
set_option maxHeartbeats 4000000 in
theorem R_M_search (n : Nat) (p1 : Int32) (p2 : Int32) (h : sHp) : sM Zm (sPi h) y_M_search prog_10_method_41_code 4 (some .int) rm_M_search [.ref 0, .int p1, .int p2] h (J_M_search n p1 p2 h) := by
  refine sM_of (own := "StoryStatesModel") rfl (by decide) (Nat.le_of_ble_eq_true rfl) (fun M V O => ?_)
  unfold J_M_search
  refine r_lv (lv' := [(0, .ref 0), (1, .int p1), (2, .int p2)]) [0, 1, 2] rfl ?_
  have hL2 : ∀ (q : Int32), sS Zm M V (sEb (sPi h)) 2 [(0, .ref 0), (1, .int p1), (2, .int p2), (3, .int q)] [] h (sFx (F_M_search_2 n p1 p2 h ) n q) := by
    skip
    refine r_fx (fun q => [(0, .ref 0), (1, .int p1), (2, .int p2), (3, .int q)]) (fun q => h) (F_M_search_2 n p1 p2 h ) (fun rec2 hrec2 q => ?_) n
    skip
    show sS Zm M V (sEb (sPi h)) 2 [(0, .ref 0), (1, .int p1), (2, .int p2), (3, .int q)] [] h _
    unfold F_M_search_2
    try dsimp only
    refine r_iload_n (pc := 2) O d_M_search_2 3 rfl ?_
    refine r_aload_n (pc := 3) O d_M_search_3 0 rfl ?_
    refine r_getI (x := (h.1 0 49)) (pc := 4) O gf_m_M_181_0 d_M_search_4 rfl ?_
    refine r_icmp_ge (tgt := 38) (pc := 7) O d_M_search_7 (by decide) (fun q7 => ?_) (fun q7 => ?_)
    · refine r_iconst (pc := 38) O d_M_search_38 ic_m1 ?_
      exact r_iret (pc := 39) O rfl d_M_search_39
    · refine r_aload_n (pc := 10) O d_M_search_10 0 rfl ?_
      refine r_getR (pc := 11) O gf_m_M_110_0 d_M_search_11 ?_
      refine r_iload_n (pc := 14) O d_M_search_14 3 rfl ?_
      refine r_iald (x := (h.1 34 (ix q))) (pc := 15) O rfl d_M_search_15 rfl ?_
      refine r_iload_n (pc := 16) O d_M_search_16 1 rfl ?_
      refine r_icmp_ne (tgt := 32) (pc := 17) O d_M_search_17 (by decide) (fun q17 => ?_) (fun q17 => ?_)
      · refine r_iinc (lv' := [(3, .int (q + 1)), (0, .ref 0), (1, .int p1), (2, .int p2)]) (pc := 32) O d_M_search_32 3 rfl (congrArg (HAdd.hAdd _) ic_1) (by decide) rfl ?_
        refine r_goto (pc := 35) O d_M_search_35 (tgt := 2) (by decide) ?_
        exact r_lv [1, 2, 3, 0] rfl (hrec2 (q + 1))
      · refine r_aload_n (pc := 20) O d_M_search_20 0 rfl ?_
        refine r_getR (pc := 21) O gf_m_M_113_0 d_M_search_21 ?_
        refine r_iload_n (pc := 24) O d_M_search_24 3 rfl ?_
        refine r_iald (x := (h.1 35 (ix q))) (pc := 25) O rfl d_M_search_25 rfl ?_
        refine r_iload_n (pc := 26) O d_M_search_26 2 rfl ?_
        refine r_icmp_ne (tgt := 32) (pc := 27) O d_M_search_27 (by decide) (fun q27 => ?_) (fun q27 => ?_)
        · refine r_iinc (lv' := [(3, .int (q + 1)), (0, .ref 0), (1, .int p1), (2, .int p2)]) (pc := 32) O d_M_search_32 3 rfl (congrArg (HAdd.hAdd _) ic_1) (by decide) rfl ?_
          refine r_goto (pc := 35) O d_M_search_35 (tgt := 2) (by decide) ?_
          exact r_lv [1, 2, 3, 0] rfl (hrec2 (q + 1))
        · refine r_iload_n (pc := 30) O d_M_search_30 3 rfl ?_
          exact r_iret (pc := 31) O rfl d_M_search_31
  refine r_iconst (pc := 0) O d_M_search_0 ic_0 ?_
  refine r_istore_n (lv' := [(3, .int 0), (0, .ref 0), (1, .int p1), (2, .int p2)]) (pc := 1) O d_M_search_1 rfl (by decide) rfl ?_
  exact r_lv [1, 2, 3, 0] rfl (hL2 0)
def K_M_tryOne_98 (n : Nat) (p1 : Int32) (p2 : Int32) (p3 : Int32) (x6 : Int32) (h : sHp) : Option sHp :=
  sGd (sIn ((5 * (h.1 0 50)) + (x6 / 32)) 800) (sGd (sIn ((5 * (h.1 0 50)) + (x6 / 32)) 800) (some (pI h 40 (ix ((5 * (h.1 0 50)) + (x6 / 32))) ((h.1 40 (ix ((5 * (h.1 0 50)) + (x6 / 32)))) ||| (jIshl 1 (jRem x6 32))))))
def K_M_tryOne_72 (n : Nat) (p1 : Int32) (p2 : Int32) (p3 : Int32) (x4 : Int32) (x5 : Int32) (x6 : Int32) (h : sHp) : Option sHp :=
  if 0 ≤ x6 then (K_M_tryOne_98 n p1 p2 p3 x6 h) else ((J_M_insert n x4 x5 (h.1 0 50) p1 p2 p3 h).bind fun v95 =>
  K_M_tryOne_98 n p1 p2 p3 (h.1 0 49) v95)
def J_M_tryOne (n : Nat) (p1 : Int32) (p2 : Int32) (p3 : Int32) (h : sHp) : Option sHp :=
  sGd (sIn (h.1 0 50) 160) (sGd (sIn (h.1 0 50) 160) ((J_M_lay n (h.1 34 (ix (h.1 0 50))) (h.1 35 (ix (h.1 0 50))) h).bind fun v19 =>
  (J_M_turn n p1 p2 p3 v19).bind fun v26 =>
  (J_M_packA n v26).bind fun v30 =>
  (J_M_packB n v26).bind fun v36 =>
  (J_M_search n v30 v36 v26).bind fun v46 =>
  if 0 ≤ v46 then (K_M_tryOne_72 n p1 p2 p3 v30 v36 v46 v26) else (if (v26.1 0 49) = 160 then (some (pI v26 0 51 1)) else (K_M_tryOne_72 n p1 p2 p3 v30 v36 v46 v26))))
set_option maxRecDepth 20000 in
set_option maxHeartbeats 4000000 in
theorem R_M_tryOne (n : Nat) (p1 : Int32) (p2 : Int32) (p3 : Int32) (h : sHp) : sM Zm sOv y_M_tryOne prog_10_method_43_code 7 none rm_M_tryOne [.ref 0, .int p1, .int p2, .int p3] h (J_M_tryOne n p1 p2 p3 h) := by
  refine sM_of (own := "StoryStatesModel") rfl (by decide) (Nat.le_of_ble_eq_true rfl) (fun M V O => ?_)
  unfold J_M_tryOne
  refine r_lv (lv' := [(0, .ref 0), (1, .int p1), (2, .int p2), (3, .int p3)]) [0, 1, 2, 3] rfl ?_
  have hK98 : ∀ (x6 : Int32) (h : sHp), sS Zm M V (sEb sOv) 98 [(0, .ref 0), (6, .int x6)] [] h (K_M_tryOne_98 n p1 p2 p3 x6 h) := by
    intro x6 h
    unfold K_M_tryOne_98
    refine r_aload_n (pc := 98) O d_M_tryOne_98 0 rfl ?_
    refine r_getR (pc := 99) O gf_m_M_128_0 d_M_tryOne_99 ?_
    refine r_iconst (pc := 102) O d_M_tryOne_102 ic_5 ?_
    refine r_aload_n (pc := 103) O d_M_tryOne_103 0 rfl ?_
    refine r_getI (x := (h.1 0 50)) (pc := 104) O gf_m_M_184_0 d_M_tryOne_104 rfl ?_
    refine r_imul (pc := 107) O d_M_tryOne_107 ?_
    refine r_iload (pc := 108) O d_M_tryOne_108 1 rfl ?_
    refine r_bipush (pc := 110) O d_M_tryOne_110 bc_32 ?_
    refine r_idiv (pc := 112) O d_M_tryOne_112 (by decide) ?_
    refine r_iadd (pc := 113) O d_M_tryOne_113 ?_
    refine r_aload_n (pc := 114) O d_M_tryOne_114 0 rfl ?_
    refine r_getR (pc := 115) O gf_m_M_128_0 d_M_tryOne_115 ?_
    refine r_iconst (pc := 118) O d_M_tryOne_118 ic_5 ?_
    refine r_aload_n (pc := 119) O d_M_tryOne_119 0 rfl ?_
    refine r_getI (x := (h.1 0 50)) (pc := 120) O gf_m_M_184_0 d_M_tryOne_120 rfl ?_
    refine r_imul (pc := 123) O d_M_tryOne_123 ?_
    refine r_iload (pc := 124) O d_M_tryOne_124 1 rfl ?_
    refine r_bipush (pc := 126) O d_M_tryOne_126 bc_32 ?_
    refine r_idiv (pc := 128) O d_M_tryOne_128 (by decide) ?_
    refine r_iadd (pc := 129) O d_M_tryOne_129 ?_
    refine r_iald (x := (h.1 40 (ix ((5 * (h.1 0 50)) + (x6 / 32))))) (pc := 130) O rfl d_M_tryOne_130 rfl ?_
    refine r_iconst (pc := 131) O d_M_tryOne_131 ic_1 ?_
    refine r_iload (pc := 132) O d_M_tryOne_132 1 rfl ?_
    refine r_bipush (pc := 134) O d_M_tryOne_134 bc_32 ?_
    refine r_irem (pc := 136) O d_M_tryOne_136 (by decide) ?_
    refine r_ishl (pc := 137) O d_M_tryOne_137 ?_
    refine r_ior (pc := 138) O d_M_tryOne_138 ?_
    refine r_iast (pc := 139) O rfl d_M_tryOne_139 ?_
    exact r_vret (pc := 140) O rfl d_M_tryOne_140
  have hK72 : ∀ (x4 : Int32) (x5 : Int32) (x6 : Int32) (h : sHp), sS Zm M V (sEb sOv) 72 [(0, .ref 0), (1, .int p1), (2, .int p2), (3, .int p3), (4, .int x4), (5, .int x5), (6, .int x6)] [] h (K_M_tryOne_72 n p1 p2 p3 x4 x5 x6 h) := by
    intro x4 x5 x6 h
    unfold K_M_tryOne_72
    refine r_iload (pc := 72) O d_M_tryOne_72 6 rfl ?_
    refine r_if_ge (tgt := 98) (pc := 74) O d_M_tryOne_74 (by decide) (fun q74 => ?_) (fun q74 => ?_)
    · exact r_lv [0, 6] rfl (hK98 x6 h)
    · refine r_aload_n (pc := 77) O d_M_tryOne_77 0 rfl ?_
      refine r_getI (x := (h.1 0 49)) (pc := 78) O gf_m_M_181_0 d_M_tryOne_78 rfl ?_
      refine r_istore (lv' := [(6, .int (h.1 0 49)), (0, .ref 0), (1, .int p1), (2, .int p2), (3, .int p3), (4, .int x4), (5, .int x5)]) (pc := 81) O d_M_tryOne_81 (by decide) rfl ?_
      refine r_aload_n (pc := 83) O d_M_tryOne_83 1 rfl ?_
      refine r_iload (pc := 84) O d_M_tryOne_84 5 rfl ?_
      refine r_iload (pc := 86) O d_M_tryOne_86 6 rfl ?_
      refine r_aload_n (pc := 88) O d_M_tryOne_88 1 rfl ?_
      refine r_getI (x := (h.1 0 50)) (pc := 89) O gf_m_M_184_0 d_M_tryOne_89 rfl ?_
      refine r_iload_n (pc := 92) O d_M_tryOne_92 2 rfl ?_
      refine r_iload_n (pc := 93) O d_M_tryOne_93 3 rfl ?_
      refine r_iload_n (pc := 94) O d_M_tryOne_94 4 rfl ?_
      refine r_callVv (pc := 95) O [.int x4, .int x5, .int (h.1 0 50), .int p1, .int p2, .int p3] rfl rfl (R_M_insert n x4 x5 (h.1 0 50) p1 p2 p3 h) cw_M_tryOne_95 wm_920 ws_M_insert rfl (Nat.le_of_ble_eq_true rfl) d_M_tryOne_95 rfl (fun v95 => ?_)
      exact r_lv [1, 0] rfl (hK98 (h.1 0 49) v95)
  refine r_aload_n (pc := 0) O d_M_tryOne_0 0 rfl ?_
  refine r_aload_n (pc := 1) O d_M_tryOne_1 0 rfl ?_
  refine r_getR (pc := 2) O gf_m_M_110_0 d_M_tryOne_2 ?_
  refine r_aload_n (pc := 5) O d_M_tryOne_5 0 rfl ?_
  refine r_getI (x := (h.1 0 50)) (pc := 6) O gf_m_M_184_0 d_M_tryOne_6 rfl ?_
  refine r_iald (x := (h.1 34 (ix (h.1 0 50)))) (pc := 9) O rfl d_M_tryOne_9 rfl ?_
  refine r_aload_n (pc := 10) O d_M_tryOne_10 0 rfl ?_
  refine r_getR (pc := 11) O gf_m_M_113_0 d_M_tryOne_11 ?_
  refine r_aload_n (pc := 14) O d_M_tryOne_14 0 rfl ?_
  refine r_getI (x := (h.1 0 50)) (pc := 15) O gf_m_M_184_0 d_M_tryOne_15 rfl ?_
  refine r_iald (x := (h.1 35 (ix (h.1 0 50)))) (pc := 18) O rfl d_M_tryOne_18 rfl ?_
  refine r_callVv (pc := 19) O [.int (h.1 34 (ix (h.1 0 50))), .int (h.1 35 (ix (h.1 0 50)))] rfl rfl (R_M_lay n (h.1 34 (ix (h.1 0 50))) (h.1 35 (ix (h.1 0 50))) h) cw_M_tryOne_19 wm_1189 ws_M_lay rfl (Nat.le_of_ble_eq_true rfl) d_M_tryOne_19 rfl (fun v19 => ?_)
  refine r_aload_n (pc := 22) O d_M_tryOne_22 0 rfl ?_
  refine r_iload_n (pc := 23) O d_M_tryOne_23 1 rfl ?_
  refine r_iload_n (pc := 24) O d_M_tryOne_24 2 rfl ?_
  refine r_iload_n (pc := 25) O d_M_tryOne_25 3 rfl ?_
  refine r_callVv (pc := 26) O [.int p1, .int p2, .int p3] rfl rfl (R_M_turn n p1 p2 p3 v19) cw_M_tryOne_26 wm_1193 ws_M_turn rfl (Nat.le_of_ble_eq_true rfl) d_M_tryOne_26 rfl (fun v26 => ?_)
  refine r_aload_n (pc := 29) O d_M_tryOne_29 0 rfl ?_
  refine r_callVip (pc := 30) O [] rfl rfl (R_M_packA n  v26) cw_M_tryOne_30 wm_912 ws_M_packA rfl (Nat.le_of_ble_eq_true rfl) d_M_tryOne_30 rfl (fun v30 => ?_)
  refine r_istore (lv' := [(4, .int v30), (0, .ref 0), (1, .int p1), (2, .int p2), (3, .int p3)]) (pc := 33) O d_M_tryOne_33 (by decide) rfl ?_
  refine r_aload_n (pc := 35) O d_M_tryOne_35 1 rfl ?_
  refine r_callVip (pc := 36) O [] rfl rfl (R_M_packB n  v26) cw_M_tryOne_36 wm_916 ws_M_packB rfl (Nat.le_of_ble_eq_true rfl) d_M_tryOne_36 rfl (fun v36 => ?_)
  refine r_istore (lv' := [(5, .int v36), (4, .int v30), (0, .ref 0), (1, .int p1), (2, .int p2), (3, .int p3)]) (pc := 39) O d_M_tryOne_39 (by decide) rfl ?_
  refine r_aload_n (pc := 41) O d_M_tryOne_41 2 rfl ?_
  refine r_iload (pc := 42) O d_M_tryOne_42 1 rfl ?_
  refine r_iload (pc := 44) O d_M_tryOne_44 0 rfl ?_
  refine r_callVip (pc := 46) O [.int v30, .int v36] rfl rfl (R_M_search n v30 v36 v26) cw_M_tryOne_46 wm_1253 ws_M_search rfl (Nat.le_of_ble_eq_true rfl) d_M_tryOne_46 rfl (fun v46 => ?_)
  refine r_istore (lv' := [(6, .int v46), (5, .int v36), (4, .int v30), (0, .ref 0), (1, .int p1), (2, .int p2), (3, .int p3)]) (pc := 49) O d_M_tryOne_49 (by decide) rfl ?_
  refine r_iload (pc := 51) O d_M_tryOne_51 0 rfl ?_
  refine r_if_ge (tgt := 72) (pc := 53) O d_M_tryOne_53 (by decide) (fun q53 => ?_) (fun q53 => ?_)
  · exact r_lv [3, 4, 5, 6, 2, 1, 0] rfl (hK72 v30 v36 v46 v26)
  · refine r_aload_n (pc := 56) O d_M_tryOne_56 3 rfl ?_
    refine r_getI (x := (v26.1 0 49)) (pc := 57) O gf_m_M_181_0 d_M_tryOne_57 rfl ?_
    refine r_sipush (pc := 60) O d_M_tryOne_60 sc_160 ?_
    refine r_icmp_ne (tgt := 72) (pc := 63) O d_M_tryOne_63 (by decide) (fun q63 => ?_) (fun q63 => ?_)
    · exact r_lv [3, 4, 5, 6, 2, 1, 0] rfl (hK72 v30 v36 v46 v26)
    · refine r_aload_n (pc := 66) O d_M_tryOne_66 3 rfl ?_
      refine r_iconst (pc := 67) O d_M_tryOne_67 ic_1 ?_
      refine r_putZ (pc := 68) O pf_m_M_187_0 d_M_tryOne_68 nb_1 rfl ?_
      exact r_vret (pc := 71) O rfl d_M_tryOne_71
def F_M_tryAll_18 (n : Nat) (rec2 : (Int32 × sHp → Option sHp)) (rec10 : (Int32 × sHp → Option sHp)) (x1 : Int32) (x2 : Int32) (rec18 : Int32 × sHp → Option sHp) (q : Int32 × sHp) : Option sHp :=
  if 6 ≤ q.1 then (rec10 ((x2 + 1), q.2)) else (if (q.2.1 0 51) = 0 then ((J_M_isCommand n x1 x2 q.1 q.2).bind fun v35 =>
  if v35 = 0 then (rec18 ((q.1 + 1), q.2)) else ((J_M_tryOne n x1 x2 q.1 q.2).bind fun v45 =>
  rec18 ((q.1 + 1), v45))) else (rec18 ((q.1 + 1), q.2)))
def F_M_tryAll_10 (n : Nat) (rec2 : (Int32 × sHp → Option sHp)) (x1 : Int32) (rec10 : Int32 × sHp → Option sHp) (q : Int32 × sHp) : Option sHp :=
  if 6 ≤ q.1 then (rec2 ((x1 + 1), q.2)) else (sFx (F_M_tryAll_18 n rec2 rec10 x1 q.1) n ((-1), q.2))
def F_M_tryAll_2 (n : Nat) (rec2 : Int32 × sHp → Option sHp) (q : Int32 × sHp) : Option sHp :=
  if 9 ≤ q.1 then (some q.2) else (sFx (F_M_tryAll_10 n rec2 q.1) n ((-1), q.2))
def J_M_tryAll (n : Nat)  (h : sHp) : Option sHp :=
  sFx (F_M_tryAll_2 n ) n (0, h)
set_option maxRecDepth 20000 in
set_option maxHeartbeats 4000000 in
theorem R_M_tryAll (n : Nat)  (h : sHp) : sM Zm sOv y_M_tryAll prog_10_method_44_code 4 none rm_M_tryAll [.ref 0] h (J_M_tryAll n  h) := by
  refine sM_of (own := "StoryStatesModel") rfl (by decide) (Nat.le_of_ble_eq_true rfl) (fun M V O => ?_)
  unfold J_M_tryAll
  refine r_lv (lv' := [(0, .ref 0)]) [0] rfl ?_
  have hL2 : ∀ (q : Int32 × sHp), sS Zm M V (sEb sOv) 2 [(0, .ref 0), (1, .int q.1)] [] q.2 (sFx (F_M_tryAll_2 n ) n q) := by
    skip
    refine r_fx (fun q => [(0, .ref 0), (1, .int q.1)]) (fun q => q.2) (F_M_tryAll_2 n ) (fun rec2 hrec2 q => ?_) n
    obtain ⟨qv0, qv1⟩ := q
    show sS Zm M V (sEb sOv) 2 [(0, .ref 0), (1, .int qv0)] [] qv1 _
    unfold F_M_tryAll_2
    try dsimp only
    have hL10 : ∀ (x1 : Int32) (q : Int32 × sHp), sS Zm M V (sEb sOv) 10 [(0, .ref 0), (1, .int x1), (2, .int q.1)] [] q.2 (sFx (F_M_tryAll_10 n rec2 x1) n q) := by
      intro x1
      refine r_fx (fun q => [(0, .ref 0), (1, .int x1), (2, .int q.1)]) (fun q => q.2) (F_M_tryAll_10 n rec2 x1) (fun rec10 hrec10 q => ?_) n
      obtain ⟨qv0, qv1⟩ := q
      show sS Zm M V (sEb sOv) 10 [(0, .ref 0), (1, .int x1), (2, .int qv0)] [] qv1 _
      unfold F_M_tryAll_10
      try dsimp only
      have hL18 : ∀ (x2 : Int32) (q : Int32 × sHp), sS Zm M V (sEb sOv) 18 [(0, .ref 0), (1, .int x1), (2, .int x2), (3, .int q.1)] [] q.2 (sFx (F_M_tryAll_18 n rec2 rec10 x1 x2) n q) := by
        intro x2
        refine r_fx (fun q => [(0, .ref 0), (1, .int x1), (2, .int x2), (3, .int q.1)]) (fun q => q.2) (F_M_tryAll_18 n rec2 rec10 x1 x2) (fun rec18 hrec18 q => ?_) n
        obtain ⟨qv0, qv1⟩ := q
        show sS Zm M V (sEb sOv) 18 [(0, .ref 0), (1, .int x1), (2, .int x2), (3, .int qv0)] [] qv1 _
        unfold F_M_tryAll_18
        try dsimp only
        refine r_iload_n (pc := 18) O d_M_tryAll_18 3 rfl ?_
        refine r_bipush (pc := 19) O d_M_tryAll_19 bc_6 ?_
        refine r_icmp_ge (tgt := 54) (pc := 21) O d_M_tryAll_21 (by decide) (fun q21 => ?_) (fun q21 => ?_)
        · refine r_iinc (lv' := [(2, .int (x2 + 1)), (0, .ref 0), (1, .int x1), (3, .int qv0)]) (pc := 54) O d_M_tryAll_54 2 rfl (congrArg (HAdd.hAdd _) ic_1) (by decide) rfl ?_
          refine r_goto (pc := 57) O d_M_tryAll_57 (tgt := 10) (by decide) ?_
          exact r_lv [1, 2, 0] rfl (hrec10 ((x2 + 1), qv1))
        · refine r_aload_n (pc := 24) O d_M_tryAll_24 0 rfl ?_
          refine r_getI (x := (qv1.1 0 51)) (pc := 25) O gf_m_M_187_0 d_M_tryAll_25 rfl ?_
          refine r_if_ne (tgt := 48) (pc := 28) O d_M_tryAll_28 (by decide) (fun q28 => ?_) (fun q28 => ?_)
          · refine r_iinc (lv' := [(3, .int (qv0 + 1)), (0, .ref 0), (1, .int x1), (2, .int x2)]) (pc := 48) O d_M_tryAll_48 3 rfl (congrArg (HAdd.hAdd _) ic_1) (by decide) rfl ?_
            refine r_goto (pc := 51) O d_M_tryAll_51 (tgt := 18) (by decide) ?_
            exact r_lv [1, 2, 3, 0] rfl (hrec18 ((qv0 + 1), qv1))
          · refine r_aload_n (pc := 31) O d_M_tryAll_31 0 rfl ?_
            refine r_iload_n (pc := 32) O d_M_tryAll_32 1 rfl ?_
            refine r_iload_n (pc := 33) O d_M_tryAll_33 2 rfl ?_
            refine r_iload_n (pc := 34) O d_M_tryAll_34 3 rfl ?_
            refine r_callVip (pc := 35) O [.int x1, .int x2, .int qv0] rfl rfl (R_M_isCommand n x1 x2 qv0 qv1) cw_M_tryAll_35 wm_1185 ws_M_isCommand rfl (Nat.le_of_ble_eq_true rfl) d_M_tryAll_35 rfl (fun v35 => ?_)
            refine r_if_eq (tgt := 48) (pc := 38) O d_M_tryAll_38 (by decide) (fun q38 => ?_) (fun q38 => ?_)
            · refine r_iinc (lv' := [(3, .int (qv0 + 1)), (0, .ref 0), (1, .int x1), (2, .int x2)]) (pc := 48) O d_M_tryAll_48 3 rfl (congrArg (HAdd.hAdd _) ic_1) (by decide) rfl ?_
              refine r_goto (pc := 51) O d_M_tryAll_51 (tgt := 18) (by decide) ?_
              exact r_lv [1, 2, 3, 0] rfl (hrec18 ((qv0 + 1), qv1))
            · refine r_aload_n (pc := 41) O d_M_tryAll_41 0 rfl ?_
              refine r_iload_n (pc := 42) O d_M_tryAll_42 1 rfl ?_
              refine r_iload_n (pc := 43) O d_M_tryAll_43 2 rfl ?_
              refine r_iload_n (pc := 44) O d_M_tryAll_44 3 rfl ?_
              refine r_callVv (pc := 45) O [.int x1, .int x2, .int qv0] rfl rfl (R_M_tryOne n x1 x2 qv0 qv1) cw_M_tryAll_45 wm_1249 ws_M_tryOne rfl (Nat.le_of_ble_eq_true rfl) d_M_tryAll_45 rfl (fun v45 => ?_)
              refine r_iinc (lv' := [(3, .int (qv0 + 1)), (0, .ref 0), (1, .int x1), (2, .int x2)]) (pc := 48) O d_M_tryAll_48 3 rfl (congrArg (HAdd.hAdd _) ic_1) (by decide) rfl ?_
              refine r_goto (pc := 51) O d_M_tryAll_51 (tgt := 18) (by decide) ?_
              exact r_lv [1, 2, 3, 0] rfl (hrec18 ((qv0 + 1), v45))
      refine r_iload_n (pc := 10) O d_M_tryAll_10 2 rfl ?_
      refine r_bipush (pc := 11) O d_M_tryAll_11 bc_6 ?_
      refine r_icmp_ge (tgt := 60) (pc := 13) O d_M_tryAll_13 (by decide) (fun q13 => ?_) (fun q13 => ?_)
      · refine r_iinc (lv' := [(1, .int (x1 + 1)), (0, .ref 0), (2, .int qv0)]) (pc := 60) O d_M_tryAll_60 1 rfl (congrArg (HAdd.hAdd _) ic_1) (by decide) rfl ?_
        refine r_goto (pc := 63) O d_M_tryAll_63 (tgt := 2) (by decide) ?_
        exact r_lv [1, 0] rfl (hrec2 ((x1 + 1), qv1))
      · refine r_iconst (pc := 16) O d_M_tryAll_16 ic_m1 ?_
        refine r_istore_n (lv' := [(3, .int (-1)), (0, .ref 0), (1, .int x1), (2, .int qv0)]) (pc := 17) O d_M_tryAll_17 rfl (by decide) rfl ?_
        exact r_lv [1, 2, 3, 0] rfl (hL18 qv0 ((-1), qv1))
    refine r_iload_n (pc := 2) O d_M_tryAll_2 1 rfl ?_
    refine r_bipush (pc := 3) O d_M_tryAll_3 bc_9 ?_
    refine r_icmp_ge (tgt := 66) (pc := 5) O d_M_tryAll_5 (by decide) (fun q5 => ?_) (fun q5 => ?_)
    · exact r_vret (pc := 66) O rfl d_M_tryAll_66
    · refine r_iconst (pc := 8) O d_M_tryAll_8 ic_m1 ?_
      refine r_istore_n (lv' := [(2, .int (-1)), (0, .ref 0), (1, .int qv0)]) (pc := 9) O d_M_tryAll_9 rfl (by decide) rfl ?_
      exact r_lv [1, 2, 0] rfl (hL10 qv0 ((-1), qv1))
  refine r_iconst (pc := 0) O d_M_tryAll_0 ic_0 ?_
  refine r_istore_n (lv' := [(1, .int 0), (0, .ref 0)]) (pc := 1) O d_M_tryAll_1 rfl (by decide) rfl ?_
  exact r_lv [1, 0] rfl (hL2 (0, h))
def J_M_finished (n : Nat)  (h : sHp) : Option Int32 :=
  if (h.1 0 51) = 0 then (if (h.1 0 50) = (h.1 0 49) then (some 1) else (some 0)) else (some 0)
set_option maxRecDepth 20000 in
set_option maxHeartbeats 4000000 in
theorem R_M_finished (n : Nat)  (h : sHp) : sM Zm (sPi h) y_M_finished prog_10_method_45_code 1 (some .boolean) rm_M_finished [.ref 0] h (J_M_finished n  h) := by
  refine sM_of (own := "StoryStatesModel") rfl (by decide) (Nat.le_of_ble_eq_true rfl) (fun M V O => ?_)
  unfold J_M_finished
  refine r_lv (lv' := [(0, .ref 0)]) [0] rfl ?_
  refine r_aload_n (pc := 0) O d_M_finished_0 0 rfl ?_
  refine r_getI (x := (h.1 0 51)) (pc := 1) O gf_m_M_187_0 d_M_finished_1 rfl ?_
  refine r_if_ne (tgt := 22) (pc := 4) O d_M_finished_4 (by decide) (fun q4 => ?_) (fun q4 => ?_)
  · refine r_iconst (pc := 22) O d_M_finished_22 ic_0 ?_
    exact r_zret (pc := 23) O rfl d_M_finished_23 nb_0
  · refine r_aload_n (pc := 7) O d_M_finished_7 0 rfl ?_
    refine r_getI (x := (h.1 0 50)) (pc := 8) O gf_m_M_184_0 d_M_finished_8 rfl ?_
    refine r_aload_n (pc := 11) O d_M_finished_11 0 rfl ?_
    refine r_getI (x := (h.1 0 49)) (pc := 12) O gf_m_M_181_0 d_M_finished_12 rfl ?_
    refine r_icmp_ne (tgt := 22) (pc := 15) O d_M_finished_15 (by decide) (fun q15 => ?_) (fun q15 => ?_)
    · refine r_iconst (pc := 22) O d_M_finished_22 ic_0 ?_
      exact r_zret (pc := 23) O rfl d_M_finished_23 nb_0
    · refine r_iconst (pc := 18) O d_M_finished_18 ic_1 ?_
      refine r_goto (pc := 19) O d_M_finished_19 (tgt := 23) (by decide) ?_
      exact r_zret (pc := 23) O rfl d_M_finished_23 nb_1
def K_M_explore_114 (n : Nat) (p1 : Int32) (h : sHp) : Option (Int32 × sHp) :=
  if (h.1 0 51) = 0 then (if (h.1 0 50) = (h.1 0 49) then (some (1, h)) else (some (0, h))) else (some (2, h))
def K_M_explore_84 (n : Nat) (p1 : Int32) (rec42 : (Int32 × sHp → Option (Int32 × sHp))) (x2 : Int32) (h : sHp) : Option (Int32 × sHp) :=
  if (h.1 0 51) = 0 then (rec42 ((x2 + 1), (pI h 0 50 ((h.1 0 50) + 1)))) else (rec42 ((x2 + 1), (pI h 0 50 (h.1 0 50))))
def F_M_explore_42 (n : Nat) (p1 : Int32) (rec42 : Int32 × sHp → Option (Int32 × sHp)) (q : Int32 × sHp) : Option (Int32 × sHp) :=
  if p1 ≤ q.1 then (K_M_explore_114 n p1 q.2) else (if (q.2.1 0 51) = 0 then (if (q.2.1 0 49) ≤ (q.2.1 0 50) then (K_M_explore_114 n p1 q.2) else (sGd (sIn (q.2.1 0 50) 160) (if (jRem (q.2.1 34 (ix (q.2.1 0 50))) 8) = 0 then ((J_M_tryAll n q.2).bind fun v81 =>
  K_M_explore_84 n p1 rec42 q.1 v81) else (K_M_explore_84 n p1 rec42 q.1 q.2)))) else (K_M_explore_114 n p1 q.2))
def K_M_explore_28 (n : Nat) (p1 : Int32) (t0 : Int32) (h : sHp) : Option (Int32 × sHp) :=
  if t0 ≤ 0 then (sFx (F_M_explore_42 n p1 ) n (0, (pI h 0 0 t0))) else (some (0, (pI h 0 0 t0)))
def K_M_explore_23 (n : Nat) (p1 : Int32) (h : sHp) : Option (Int32 × sHp) :=
  K_M_explore_28 n p1 2 h
def J_M_explore (n : Nat) (p1 : Int32) (h : sHp) : Option (Int32 × sHp) :=
  if (h.1 0 1) = 0 then (K_M_explore_28 n p1 1 h) else (if p1 < 0 then (K_M_explore_23 n p1 h) else (if p1 ≤ 1000 then (K_M_explore_28 n p1 0 h) else (K_M_explore_23 n p1 h)))
set_option maxRecDepth 20000 in
set_option maxHeartbeats 4000000 in
theorem R_M_explore (n : Nat) (p1 : Int32) (h : sHp) : sM Zm sOi y_M_explore prog_10_method_46_code 3 (some .int) rm_M_explore [.ref 0, .int p1] h (J_M_explore n p1 h) := by
  refine sM_of (own := "StoryStatesModel") rfl (by decide) (Nat.le_of_ble_eq_true rfl) (fun M V O => ?_)
  unfold J_M_explore
  refine r_lv (lv' := [(0, .ref 0), (1, .int p1)]) [0, 1] rfl ?_
  have hK114 : ∀ (h : sHp), sS Zm M V (sEb sOi) 114 [(0, .ref 0)] [] h (K_M_explore_114 n p1 h) := by
    intro h
    unfold K_M_explore_114
    refine r_aload_n (pc := 114) O d_M_explore_114 0 rfl ?_
    refine r_getI (x := (h.1 0 51)) (pc := 115) O gf_m_M_187_0 d_M_explore_115 rfl ?_
    refine r_if_eq (tgt := 125) (pc := 118) O d_M_explore_118 (by decide) (fun q118 => ?_) (fun q118 => ?_)
    · refine r_aload_n (pc := 125) O d_M_explore_125 0 rfl ?_
      refine r_getI (x := (h.1 0 50)) (pc := 126) O gf_m_M_184_0 d_M_explore_126 rfl ?_
      refine r_aload_n (pc := 129) O d_M_explore_129 0 rfl ?_
      refine r_getI (x := (h.1 0 49)) (pc := 130) O gf_m_M_181_0 d_M_explore_130 rfl ?_
      refine r_icmp_ne (tgt := 140) (pc := 133) O d_M_explore_133 (by decide) (fun q133 => ?_) (fun q133 => ?_)
      · refine r_iconst (pc := 140) O d_M_explore_140 ic_0 ?_
        exact r_iret (pc := 141) O rfl d_M_explore_141
      · refine r_iconst (pc := 136) O d_M_explore_136 ic_1 ?_
        refine r_goto (pc := 137) O d_M_explore_137 (tgt := 141) (by decide) ?_
        exact r_iret (pc := 141) O rfl d_M_explore_141
    · refine r_iconst (pc := 121) O d_M_explore_121 ic_2 ?_
      refine r_goto (pc := 122) O d_M_explore_122 (tgt := 141) (by decide) ?_
      exact r_iret (pc := 141) O rfl d_M_explore_141
  have hL42 : ∀ (q : Int32 × sHp), sS Zm M V (sEb sOi) 42 [(0, .ref 0), (1, .int p1), (2, .int q.1)] [] q.2 (sFx (F_M_explore_42 n p1 ) n q) := by
    skip
    refine r_fx (fun q => [(0, .ref 0), (1, .int p1), (2, .int q.1)]) (fun q => q.2) (F_M_explore_42 n p1 ) (fun rec42 hrec42 q => ?_) n
    obtain ⟨qv0, qv1⟩ := q
    show sS Zm M V (sEb sOi) 42 [(0, .ref 0), (1, .int p1), (2, .int qv0)] [] qv1 _
    unfold F_M_explore_42
    try dsimp only
    have hK84 : ∀ (x2 : Int32) (h : sHp), sS Zm M V (sEb sOi) 84 [(0, .ref 0), (1, .int p1), (2, .int x2)] [] h (K_M_explore_84 n p1 rec42 x2 h) := by
      intro x2 h
      unfold K_M_explore_84
      refine r_aload_n (pc := 84) O d_M_explore_84 0 rfl ?_
      refine r_aload_n (pc := 85) O d_M_explore_85 0 rfl ?_
      refine r_getI (x := (h.1 0 51)) (pc := 86) O gf_m_M_187_0 d_M_explore_86 rfl ?_
      refine r_if_eq (tgt := 99) (pc := 89) O d_M_explore_89 (by decide) (fun q89 => ?_) (fun q89 => ?_)
      · refine r_aload_n (pc := 99) O d_M_explore_99 0 rfl ?_
        refine r_getI (x := (h.1 0 50)) (pc := 100) O gf_m_M_184_0 d_M_explore_100 rfl ?_
        refine r_iconst (pc := 103) O d_M_explore_103 ic_1 ?_
        refine r_iadd (pc := 104) O d_M_explore_104 ?_
        refine r_putI (pc := 105) O pf_m_M_184_0 d_M_explore_105 ?_
        refine r_iinc (lv' := [(2, .int (x2 + 1)), (0, .ref 0), (1, .int p1)]) (pc := 108) O d_M_explore_108 2 rfl (congrArg (HAdd.hAdd _) ic_1) (by decide) rfl ?_
        refine r_goto (pc := 111) O d_M_explore_111 (tgt := 42) (by decide) ?_
        exact r_lv [1, 2, 0] rfl (hrec42 ((x2 + 1), (pI h 0 50 ((h.1 0 50) + 1))))
      · refine r_aload_n (pc := 92) O d_M_explore_92 0 rfl ?_
        refine r_getI (x := (h.1 0 50)) (pc := 93) O gf_m_M_184_0 d_M_explore_93 rfl ?_
        refine r_goto (pc := 96) O d_M_explore_96 (tgt := 105) (by decide) ?_
        refine r_putI (pc := 105) O pf_m_M_184_0 d_M_explore_105 ?_
        refine r_iinc (lv' := [(2, .int (x2 + 1)), (0, .ref 0), (1, .int p1)]) (pc := 108) O d_M_explore_108 2 rfl (congrArg (HAdd.hAdd _) ic_1) (by decide) rfl ?_
        refine r_goto (pc := 111) O d_M_explore_111 (tgt := 42) (by decide) ?_
        exact r_lv [1, 2, 0] rfl (hrec42 ((x2 + 1), (pI h 0 50 (h.1 0 50))))
    refine r_iload_n (pc := 42) O d_M_explore_42 2 rfl ?_
    refine r_iload_n (pc := 43) O d_M_explore_43 1 rfl ?_
    refine r_icmp_ge (tgt := 114) (pc := 44) O d_M_explore_44 (by decide) (fun q44 => ?_) (fun q44 => ?_)
    · exact r_lv [0] rfl (hK114 qv1)
    · refine r_aload_n (pc := 47) O d_M_explore_47 0 rfl ?_
      refine r_getI (x := (qv1.1 0 51)) (pc := 48) O gf_m_M_187_0 d_M_explore_48 rfl ?_
      refine r_if_ne (tgt := 114) (pc := 51) O d_M_explore_51 (by decide) (fun q51 => ?_) (fun q51 => ?_)
      · exact r_lv [0] rfl (hK114 qv1)
      · refine r_aload_n (pc := 54) O d_M_explore_54 0 rfl ?_
        refine r_getI (x := (qv1.1 0 50)) (pc := 55) O gf_m_M_184_0 d_M_explore_55 rfl ?_
        refine r_aload_n (pc := 58) O d_M_explore_58 0 rfl ?_
        refine r_getI (x := (qv1.1 0 49)) (pc := 59) O gf_m_M_181_0 d_M_explore_59 rfl ?_
        refine r_icmp_ge (tgt := 114) (pc := 62) O d_M_explore_62 (by decide) (fun q62 => ?_) (fun q62 => ?_)
        · exact r_lv [0] rfl (hK114 qv1)
        · refine r_aload_n (pc := 65) O d_M_explore_65 0 rfl ?_
          refine r_getR (pc := 66) O gf_m_M_110_0 d_M_explore_66 ?_
          refine r_aload_n (pc := 69) O d_M_explore_69 0 rfl ?_
          refine r_getI (x := (qv1.1 0 50)) (pc := 70) O gf_m_M_184_0 d_M_explore_70 rfl ?_
          refine r_iald (x := (qv1.1 34 (ix (qv1.1 0 50)))) (pc := 73) O rfl d_M_explore_73 rfl ?_
          refine r_bipush (pc := 74) O d_M_explore_74 bc_8 ?_
          refine r_irem (pc := 76) O d_M_explore_76 (by decide) ?_
          refine r_if_ne (tgt := 84) (pc := 77) O d_M_explore_77 (by decide) (fun q77 => ?_) (fun q77 => ?_)
          · exact (hK84 qv0 qv1)
          · refine r_aload_n (pc := 80) O d_M_explore_80 0 rfl ?_
            refine r_callVv (pc := 81) O [] rfl rfl (R_M_tryAll n  qv1) cw_M_explore_81 wm_1245 ws_M_tryAll rfl (Nat.le_of_ble_eq_true rfl) d_M_explore_81 rfl (fun v81 => ?_)
            exact (hK84 qv0 v81)
  have hK28 : ∀ (t0 : Int32) (h : sHp), sS Zm M V (sEb sOi) 28 [(0, .ref 0), (1, .int p1)] [.int t0, .ref 0] h (K_M_explore_28 n p1 t0 h) := by
    intro t0 h
    unfold K_M_explore_28
    refine r_putI (pc := 28) O pf_m_M_137_0 d_M_explore_28 ?_
    refine r_aload_n (pc := 31) O d_M_explore_31 0 rfl ?_
    refine r_getI (x := t0) (pc := 32) O gf_m_M_137_0 d_M_explore_32 rfl ?_
    refine r_if_le (tgt := 40) (pc := 35) O d_M_explore_35 (by decide) (fun q35 => ?_) (fun q35 => ?_)
    · refine r_iconst (pc := 40) O d_M_explore_40 ic_0 ?_
      refine r_istore_n (lv' := [(2, .int 0), (0, .ref 0), (1, .int p1)]) (pc := 41) O d_M_explore_41 rfl (by decide) rfl ?_
      exact r_lv [1, 2, 0] rfl (hL42 (0, (pI h 0 0 t0)))
    · refine r_iconst (pc := 38) O d_M_explore_38 ic_0 ?_
      exact r_iret (pc := 39) O rfl d_M_explore_39
  have hK23 : ∀ (h : sHp), sS Zm M V (sEb sOi) 23 [(0, .ref 0), (1, .int p1)] [.ref 0] h (K_M_explore_23 n p1 h) := by
    intro h
    unfold K_M_explore_23
    refine r_iconst (pc := 23) O d_M_explore_23 ic_2 ?_
    refine r_goto (pc := 24) O d_M_explore_24 (tgt := 28) (by decide) ?_
    exact (hK28 2 h)
  refine r_aload_n (pc := 0) O d_M_explore_0 0 rfl ?_
  refine r_aload_n (pc := 1) O d_M_explore_1 0 rfl ?_
  refine r_getI (x := (h.1 0 1)) (pc := 2) O gf_m_M_198_0 d_M_explore_2 rfl ?_
  refine r_if_ne (tgt := 12) (pc := 5) O d_M_explore_5 (by decide) (fun q5 => ?_) (fun q5 => ?_)
  · refine r_iload_n (pc := 12) O d_M_explore_12 1 rfl ?_
    refine r_if_lt (tgt := 23) (pc := 13) O d_M_explore_13 (by decide) (fun q13 => ?_) (fun q13 => ?_)
    · exact (hK23 h)
    · refine r_iload_n (pc := 16) O d_M_explore_16 1 rfl ?_
      refine r_sipush (pc := 17) O d_M_explore_17 sc_1000 ?_
      refine r_icmp_le (tgt := 27) (pc := 20) O d_M_explore_20 (by decide) (fun q20 => ?_) (fun q20 => ?_)
      · refine r_iconst (pc := 27) O d_M_explore_27 ic_0 ?_
        exact (hK28 0 h)
      · exact (hK23 h)
  · refine r_iconst (pc := 8) O d_M_explore_8 ic_1 ?_
    refine r_goto (pc := 9) O d_M_explore_9 (tgt := 28) (by decide) ?_
    exact (hK28 1 h)
def F_M_firstOver_2 (n : Nat) (p1 : Int32) (h : sHp) (rec2 : Int32 → Option Int32) (q : Int32) : Option Int32 :=
  if (h.1 0 49) ≤ q then (some (-1)) else (sGd (sIn q 160) (if (jRem (h.1 34 (ix q)) 8) = (p1 + 1) then (some q) else (rec2 (q + 1))))
def J_M_firstOver (n : Nat) (p1 : Int32) (h : sHp) : Option Int32 :=
  sFx (F_M_firstOver_2 n p1 h ) n 0
set_option maxRecDepth 20000 in
set_option maxHeartbeats 4000000 in
theorem R_M_firstOver (n : Nat) (p1 : Int32) (h : sHp) : sM Zm (sPi h) y_M_firstOver prog_10_method_47_code 3 (some .int) rm_M_firstOver [.ref 0, .int p1] h (J_M_firstOver n p1 h) := by
  refine sM_of (own := "StoryStatesModel") rfl (by decide) (Nat.le_of_ble_eq_true rfl) (fun M V O => ?_)
  unfold J_M_firstOver
  refine r_lv (lv' := [(0, .ref 0), (1, .int p1)]) [0, 1] rfl ?_
  have hL2 : ∀ (q : Int32), sS Zm M V (sEb (sPi h)) 2 [(0, .ref 0), (1, .int p1), (2, .int q)] [] h (sFx (F_M_firstOver_2 n p1 h ) n q) := by
    skip
    refine r_fx (fun q => [(0, .ref 0), (1, .int p1), (2, .int q)]) (fun q => h) (F_M_firstOver_2 n p1 h ) (fun rec2 hrec2 q => ?_) n
    skip
    show sS Zm M V (sEb (sPi h)) 2 [(0, .ref 0), (1, .int p1), (2, .int q)] [] h _
    unfold F_M_firstOver_2
    try dsimp only
    refine r_iload_n (pc := 2) O d_M_firstOver_2 2 rfl ?_
    refine r_aload_n (pc := 3) O d_M_firstOver_3 0 rfl ?_
    refine r_getI (x := (h.1 0 49)) (pc := 4) O gf_m_M_181_0 d_M_firstOver_4 rfl ?_
    refine r_icmp_ge (tgt := 33) (pc := 7) O d_M_firstOver_7 (by decide) (fun q7 => ?_) (fun q7 => ?_)
    · refine r_iconst (pc := 33) O d_M_firstOver_33 ic_m1 ?_
      exact r_iret (pc := 34) O rfl d_M_firstOver_34
    · refine r_aload_n (pc := 10) O d_M_firstOver_10 0 rfl ?_
      refine r_getR (pc := 11) O gf_m_M_110_0 d_M_firstOver_11 ?_
      refine r_iload_n (pc := 14) O d_M_firstOver_14 2 rfl ?_
      refine r_iald (x := (h.1 34 (ix q))) (pc := 15) O rfl d_M_firstOver_15 rfl ?_
      refine r_bipush (pc := 16) O d_M_firstOver_16 bc_8 ?_
      refine r_irem (pc := 18) O d_M_firstOver_18 (by decide) ?_
      refine r_iload_n (pc := 19) O d_M_firstOver_19 1 rfl ?_
      refine r_iconst (pc := 20) O d_M_firstOver_20 ic_1 ?_
      refine r_iadd (pc := 21) O d_M_firstOver_21 ?_
      refine r_icmp_ne (tgt := 27) (pc := 22) O d_M_firstOver_22 (by decide) (fun q22 => ?_) (fun q22 => ?_)
      · refine r_iinc (lv' := [(2, .int (q + 1)), (0, .ref 0), (1, .int p1)]) (pc := 27) O d_M_firstOver_27 2 rfl (congrArg (HAdd.hAdd _) ic_1) (by decide) rfl ?_
        refine r_goto (pc := 30) O d_M_firstOver_30 (tgt := 2) (by decide) ?_
        exact r_lv [1, 2, 0] rfl (hrec2 (q + 1))
      · refine r_iload_n (pc := 25) O d_M_firstOver_25 2 rfl ?_
        exact r_iret (pc := 26) O rfl d_M_firstOver_26
  refine r_iconst (pc := 0) O d_M_firstOver_0 ic_0 ?_
  refine r_istore_n (lv' := [(2, .int 0), (0, .ref 0), (1, .int p1)]) (pc := 1) O d_M_firstOver_1 rfl (by decide) rfl ?_
  exact r_lv [1, 2, 0] rfl (hL2 0)
def F_M_depth_4 (n : Nat) (p1 : Int32) (h : sHp) (rec4 : Int32 × Int32 → Option Int32) (q : Int32 × Int32) : Option Int32 :=
  sGd (sIn q.2 160) (if (h.1 36 (ix q.2)) < 0 then (some q.1) else (sGd (sIn q.2 160) (rec4 ((q.1 + 1), (h.1 36 (ix q.2))))))
def J_M_depth (n : Nat) (p1 : Int32) (h : sHp) : Option Int32 :=
  sFx (F_M_depth_4 n p1 h ) n (0, p1)
set_option maxRecDepth 20000 in
set_option maxHeartbeats 4000000 in
theorem R_M_depth (n : Nat) (p1 : Int32) (h : sHp) : sM Zm (sPi h) y_M_depth prog_10_method_48_code 4 (some .int) rm_M_depth [.ref 0, .int p1] h (J_M_depth n p1 h) := by
  refine sM_of (own := "StoryStatesModel") rfl (by decide) (Nat.le_of_ble_eq_true rfl) (fun M V O => ?_)
  unfold J_M_depth
  refine r_lv (lv' := [(0, .ref 0), (1, .int p1)]) [0, 1] rfl ?_
  have hL4 : ∀ (q : Int32 × Int32), sS Zm M V (sEb (sPi h)) 4 [(0, .ref 0), (2, .int q.1), (3, .int q.2)] [] h (sFx (F_M_depth_4 n p1 h ) n q) := by
    skip
    refine r_fx (fun q => [(0, .ref 0), (2, .int q.1), (3, .int q.2)]) (fun q => h) (F_M_depth_4 n p1 h ) (fun rec4 hrec4 q => ?_) n
    obtain ⟨qv0, qv1⟩ := q
    show sS Zm M V (sEb (sPi h)) 4 [(0, .ref 0), (2, .int qv0), (3, .int qv1)] [] h _
    unfold F_M_depth_4
    try dsimp only
    refine r_aload_n (pc := 4) O d_M_depth_4 0 rfl ?_
    refine r_getR (pc := 5) O gf_m_M_116_0 d_M_depth_5 ?_
    refine r_iload_n (pc := 8) O d_M_depth_8 2 rfl ?_
    refine r_iald (x := (h.1 36 (ix qv1))) (pc := 9) O rfl d_M_depth_9 rfl ?_
    refine r_if_lt (tgt := 26) (pc := 10) O d_M_depth_10 (by decide) (fun q10 => ?_) (fun q10 => ?_)
    · refine r_iload_n (pc := 26) O d_M_depth_26 1 rfl ?_
      exact r_iret (pc := 27) O rfl d_M_depth_27
    · refine r_iinc (lv' := [(2, .int (qv0 + 1)), (0, .ref 0), (3, .int qv1)]) (pc := 13) O d_M_depth_13 1 rfl (congrArg (HAdd.hAdd _) ic_1) (by decide) rfl ?_
      refine r_aload_n (pc := 16) O d_M_depth_16 1 rfl ?_
      refine r_getR (pc := 17) O gf_m_M_116_0 d_M_depth_17 ?_
      refine r_iload_n (pc := 20) O d_M_depth_20 2 rfl ?_
      refine r_iald (x := (h.1 36 (ix qv1))) (pc := 21) O rfl d_M_depth_21 rfl ?_
      refine r_istore_n (lv' := [(3, .int (h.1 36 (ix qv1))), (2, .int (qv0 + 1)), (0, .ref 0)]) (pc := 22) O d_M_depth_22 rfl (by decide) rfl ?_
      refine r_goto (pc := 23) O d_M_depth_23 (tgt := 4) (by decide) ?_
      exact r_lv [2, 1, 0] rfl (hrec4 ((qv0 + 1), (h.1 36 (ix qv1))))
  refine r_iconst (pc := 0) O d_M_depth_0 ic_0 ?_
  refine r_istore_n (lv' := [(2, .int 0), (0, .ref 0), (1, .int p1)]) (pc := 1) O d_M_depth_1 rfl (by decide) rfl ?_
  refine r_iload_n (pc := 2) O d_M_depth_2 2 rfl ?_
  refine r_istore_n (lv' := [(3, .int p1), (2, .int 0), (0, .ref 0), (1, .int p1)]) (pc := 3) O d_M_depth_3 rfl (by decide) rfl ?_
  exact r_lv [2, 1, 0] rfl (hL4 (0, p1))
def K_M_reach_29 (n : Nat) (p1 : Int32) (p2 : Int32) (t0 : Int32) (h : sHp) : Option (Int32 × sHp) :=
  if t0 ≤ 0 then ((J_M_firstOver n p1 (pI h 0 0 t0)).bind fun v43 =>
  if p2 = 0 then (if v43 < 0 then ((J_M_finished n (pI h 0 0 t0)).bind fun v74 =>
  if v74 = 0 then (some (2, (pI h 0 0 t0))) else (some (0, (pI h 0 0 t0)))) else (some (1, (pI h 0 0 t0)))) else (if 0 ≤ v43 then ((J_M_depth n v43 (pI h 0 0 t0)).bind fun v61 =>
  some (v61, (pI h 0 0 t0))) else (some ((-1), (pI h 0 0 t0))))) else (some (0, (pI h 0 0 t0)))
def K_M_reach_24 (n : Nat) (p1 : Int32) (p2 : Int32) (h : sHp) : Option (Int32 × sHp) :=
  K_M_reach_29 n p1 p2 2 h
def J_M_reach (n : Nat) (p1 : Int32) (p2 : Int32) (h : sHp) : Option (Int32 × sHp) :=
  if (h.1 0 1) = 0 then (K_M_reach_29 n p1 p2 1 h) else (if p1 < 0 then (K_M_reach_24 n p1 p2 h) else (if p1 < (h.1 0 10) then (K_M_reach_29 n p1 p2 0 h) else (K_M_reach_24 n p1 p2 h)))
set_option maxRecDepth 20000 in
set_option maxHeartbeats 4000000 in
theorem R_M_reach (n : Nat) (p1 : Int32) (p2 : Int32) (h : sHp) : sM Zm sOi y_M_reach prog_10_method_49_code 4 (some .int) rm_M_reach [.ref 0, .int p1, .int p2] h (J_M_reach n p1 p2 h) := by
  refine sM_of (own := "StoryStatesModel") rfl (by decide) (Nat.le_of_ble_eq_true rfl) (fun M V O => ?_)
  unfold J_M_reach
  refine r_lv (lv' := [(0, .ref 0), (1, .int p1), (2, .int p2)]) [0, 1, 2] rfl ?_
  have hK29 : ∀ (t0 : Int32) (h : sHp), sS Zm M V (sEb sOi) 29 [(0, .ref 0), (1, .int p1), (2, .int p2)] [.int t0, .ref 0] h (K_M_reach_29 n p1 p2 t0 h) := by
    intro t0 h
    unfold K_M_reach_29
    refine r_putI (pc := 29) O pf_m_M_137_0 d_M_reach_29 ?_
    refine r_aload_n (pc := 32) O d_M_reach_32 0 rfl ?_
    refine r_getI (x := t0) (pc := 33) O gf_m_M_137_0 d_M_reach_33 rfl ?_
    refine r_if_le (tgt := 41) (pc := 36) O d_M_reach_36 (by decide) (fun q36 => ?_) (fun q36 => ?_)
    · refine r_aload_n (pc := 41) O d_M_reach_41 0 rfl ?_
      refine r_iload_n (pc := 42) O d_M_reach_42 1 rfl ?_
      refine r_callVip (pc := 43) O [.int p1] rfl rfl (R_M_firstOver n p1 (pI h 0 0 t0)) cw_M_reach_43 wm_1261 ws_M_firstOver rfl (Nat.le_of_ble_eq_true rfl) d_M_reach_43 rfl (fun v43 => ?_)
      refine r_istore_n (lv' := [(3, .int v43), (0, .ref 0), (1, .int p1), (2, .int p2)]) (pc := 46) O d_M_reach_46 rfl (by decide) rfl ?_
      refine r_iload_n (pc := 47) O d_M_reach_47 3 rfl ?_
      refine r_if_eq (tgt := 65) (pc := 48) O d_M_reach_48 (by decide) (fun q48 => ?_) (fun q48 => ?_)
      · refine r_iload_n (pc := 65) O d_M_reach_65 0 rfl ?_
        refine r_if_lt (tgt := 73) (pc := 66) O d_M_reach_66 (by decide) (fun q66 => ?_) (fun q66 => ?_)
        · refine r_aload_n (pc := 73) O d_M_reach_73 1 rfl ?_
          refine r_callVip (pc := 74) O [] rfl rfl (R_M_finished n  (pI h 0 0 t0)) cw_M_reach_74 wm_1269 ws_M_finished rfl (Nat.le_of_ble_eq_true rfl) d_M_reach_74 rfl (fun v74 => ?_)
          refine r_if_eq (tgt := 84) (pc := 77) O d_M_reach_77 (by decide) (fun q77 => ?_) (fun q77 => ?_)
          · refine r_iconst (pc := 84) O d_M_reach_84 ic_2 ?_
            exact r_iret (pc := 85) O rfl d_M_reach_85
          · refine r_iconst (pc := 80) O d_M_reach_80 ic_0 ?_
            refine r_goto (pc := 81) O d_M_reach_81 (tgt := 85) (by decide) ?_
            exact r_iret (pc := 85) O rfl d_M_reach_85
        · refine r_iconst (pc := 69) O d_M_reach_69 ic_1 ?_
          refine r_goto (pc := 70) O d_M_reach_70 (tgt := 85) (by decide) ?_
          exact r_iret (pc := 85) O rfl d_M_reach_85
      · refine r_iload_n (pc := 51) O d_M_reach_51 0 rfl ?_
        refine r_if_ge (tgt := 59) (pc := 52) O d_M_reach_52 (by decide) (fun q52 => ?_) (fun q52 => ?_)
        · refine r_aload_n (pc := 59) O d_M_reach_59 1 rfl ?_
          refine r_iload_n (pc := 60) O d_M_reach_60 0 rfl ?_
          refine r_callVip (pc := 61) O [.int v43] rfl rfl (R_M_depth n v43 (pI h 0 0 t0)) cw_M_reach_61 wm_1265 ws_M_depth rfl (Nat.le_of_ble_eq_true rfl) d_M_reach_61 rfl (fun v61 => ?_)
          exact r_iret (pc := 64) O rfl d_M_reach_64
        · refine r_iconst (pc := 55) O d_M_reach_55 ic_m1 ?_
          refine r_goto (pc := 56) O d_M_reach_56 (tgt := 64) (by decide) ?_
          exact r_iret (pc := 64) O rfl d_M_reach_64
    · refine r_iconst (pc := 39) O d_M_reach_39 ic_0 ?_
      exact r_iret (pc := 40) O rfl d_M_reach_40
  have hK24 : ∀ (h : sHp), sS Zm M V (sEb sOi) 24 [(0, .ref 0), (1, .int p1), (2, .int p2)] [.ref 0] h (K_M_reach_24 n p1 p2 h) := by
    intro h
    unfold K_M_reach_24
    refine r_iconst (pc := 24) O d_M_reach_24 ic_2 ?_
    refine r_goto (pc := 25) O d_M_reach_25 (tgt := 29) (by decide) ?_
    exact (hK29 2 h)
  refine r_aload_n (pc := 0) O d_M_reach_0 0 rfl ?_
  refine r_aload_n (pc := 1) O d_M_reach_1 0 rfl ?_
  refine r_getI (x := (h.1 0 1)) (pc := 2) O gf_m_M_198_0 d_M_reach_2 rfl ?_
  refine r_if_ne (tgt := 12) (pc := 5) O d_M_reach_5 (by decide) (fun q5 => ?_) (fun q5 => ?_)
  · refine r_iload_n (pc := 12) O d_M_reach_12 1 rfl ?_
    refine r_if_lt (tgt := 24) (pc := 13) O d_M_reach_13 (by decide) (fun q13 => ?_) (fun q13 => ?_)
    · exact (hK24 h)
    · refine r_iload_n (pc := 16) O d_M_reach_16 1 rfl ?_
      refine r_aload_n (pc := 17) O d_M_reach_17 0 rfl ?_
      refine r_getI (x := (h.1 0 10)) (pc := 18) O gf_m_M_211_0 d_M_reach_18 rfl ?_
      refine r_icmp_lt (tgt := 28) (pc := 21) O d_M_reach_21 (by decide) (fun q21 => ?_) (fun q21 => ?_)
      · refine r_iconst (pc := 28) O d_M_reach_28 ic_0 ?_
        exact (hK29 0 h)
      · exact (hK24 h)
  · refine r_iconst (pc := 8) O d_M_reach_8 ic_1 ?_
    refine r_goto (pc := 9) O d_M_reach_9 (tgt := 29) (by decide) ?_
    exact (hK29 1 h)
def F_M_way_78 (n : Nat) (p1 : Int32) (p2 : Int32) (p3 : Int32) (h : sHp) (rec78 : Int32 → Option (Int32 × sHp)) (q : Int32) : Option (Int32 × sHp) :=
  (J_M_depth n q h).bind fun v81 =>
  if v81 ≤ (p2 + 1) then (if p3 = 0 then (sGd (sIn q 160) (some ((h.1 37 (ix q)), h))) else (if p3 = 1 then (sGd (sIn q 160) (some ((h.1 38 (ix q)), h))) else (sGd (sIn q 160) (some ((h.1 39 (ix q)), h))))) else (sGd (sIn q 160) (rec78 (h.1 36 (ix q))))
def K_M_way_29 (n : Nat) (p1 : Int32) (p2 : Int32) (p3 : Int32) (t0 : Int32) (h : sHp) : Option (Int32 × sHp) :=
  if t0 ≤ 0 then ((J_M_firstOver n p1 (pI h 0 0 t0)).bind fun v43 =>
  if v43 < 0 then (some ((-1), (pI h 0 0 t0))) else (if p2 < 0 then (some ((-1), (pI h 0 0 t0))) else ((J_M_depth n v43 (pI h 0 0 t0)).bind fun v61 =>
  if v61 ≤ p2 then (some ((-1), (pI h 0 0 t0))) else (if p3 < 0 then (some ((-1), (pI h 0 0 t0))) else (if p3 ≤ 2 then (sFx (F_M_way_78 n p1 p2 p3 (pI h 0 0 t0)) n v43) else (some ((-1), (pI h 0 0 t0)))))))) else (some (0, (pI h 0 0 t0)))
def K_M_way_24 (n : Nat) (p1 : Int32) (p2 : Int32) (p3 : Int32) (h : sHp) : Option (Int32 × sHp) :=
  K_M_way_29 n p1 p2 p3 2 h
def J_M_way (n : Nat) (p1 : Int32) (p2 : Int32) (p3 : Int32) (h : sHp) : Option (Int32 × sHp) :=
  if (h.1 0 1) = 0 then (K_M_way_29 n p1 p2 p3 1 h) else (if p1 < 0 then (K_M_way_24 n p1 p2 p3 h) else (if p1 < (h.1 0 10) then (K_M_way_29 n p1 p2 p3 0 h) else (K_M_way_24 n p1 p2 p3 h)))
set_option maxRecDepth 20000 in
set_option maxHeartbeats 4000000 in
theorem R_M_way (n : Nat) (p1 : Int32) (p2 : Int32) (p3 : Int32) (h : sHp) : sM Zm sOi y_M_way prog_10_method_50_code 5 (some .int) rm_M_way [.ref 0, .int p1, .int p2, .int p3] h (J_M_way n p1 p2 p3 h) := by
  refine sM_of (own := "StoryStatesModel") rfl (by decide) (Nat.le_of_ble_eq_true rfl) (fun M V O => ?_)
  unfold J_M_way
  refine r_lv (lv' := [(0, .ref 0), (1, .int p1), (2, .int p2), (3, .int p3)]) [0, 1, 2, 3] rfl ?_
  have hL78 : ∀ (h : sHp) (q : Int32), sS Zm M V (sEb sOi) 78 [(0, .ref 0), (2, .int p2), (3, .int p3), (4, .int q)] [] h (sFx (F_M_way_78 n p1 p2 p3 h) n q) := by
    intro h
    refine r_fx (fun q => [(0, .ref 0), (2, .int p2), (3, .int p3), (4, .int q)]) (fun q => h) (F_M_way_78 n p1 p2 p3 h) (fun rec78 hrec78 q => ?_) n
    skip
    show sS Zm M V (sEb sOi) 78 [(0, .ref 0), (2, .int p2), (3, .int p3), (4, .int q)] [] h _
    unfold F_M_way_78
    try dsimp only
    refine r_aload_n (pc := 78) O d_M_way_78 0 rfl ?_
    refine r_iload (pc := 79) O d_M_way_79 3 rfl ?_
    refine r_callVip (pc := 81) O [.int q] rfl rfl (R_M_depth n q h) cw_M_way_81 wm_1265 ws_M_depth rfl (Nat.le_of_ble_eq_true rfl) d_M_way_81 rfl (fun v81 => ?_)
    refine r_iload_n (pc := 84) O d_M_way_84 1 rfl ?_
    refine r_iconst (pc := 85) O d_M_way_85 ic_1 ?_
    refine r_iadd (pc := 86) O d_M_way_86 ?_
    refine r_icmp_le (tgt := 102) (pc := 87) O d_M_way_87 (by decide) (fun q87 => ?_) (fun q87 => ?_)
    · refine r_iload_n (pc := 102) O d_M_way_102 2 rfl ?_
      refine r_if_ne (tgt := 116) (pc := 103) O d_M_way_103 (by decide) (fun q103 => ?_) (fun q103 => ?_)
      · refine r_iload_n (pc := 116) O d_M_way_116 2 rfl ?_
        refine r_iconst (pc := 117) O d_M_way_117 ic_1 ?_
        refine r_icmp_ne (tgt := 131) (pc := 118) O d_M_way_118 (by decide) (fun q118 => ?_) (fun q118 => ?_)
        · refine r_aload_n (pc := 131) O d_M_way_131 0 rfl ?_
          refine r_getR (pc := 132) O gf_m_M_125_0 d_M_way_132 ?_
          refine r_iload (pc := 135) O d_M_way_135 3 rfl ?_
          refine r_iald (x := (h.1 39 (ix q))) (pc := 137) O rfl d_M_way_137 rfl ?_
          exact r_iret (pc := 138) O rfl d_M_way_138
        · refine r_aload_n (pc := 121) O d_M_way_121 0 rfl ?_
          refine r_getR (pc := 122) O gf_m_M_122_0 d_M_way_122 ?_
          refine r_iload (pc := 125) O d_M_way_125 3 rfl ?_
          refine r_iald (x := (h.1 38 (ix q))) (pc := 127) O rfl d_M_way_127 rfl ?_
          refine r_goto (pc := 128) O d_M_way_128 (tgt := 138) (by decide) ?_
          exact r_iret (pc := 138) O rfl d_M_way_138
      · refine r_aload_n (pc := 106) O d_M_way_106 0 rfl ?_
        refine r_getR (pc := 107) O gf_m_M_119_0 d_M_way_107 ?_
        refine r_iload (pc := 110) O d_M_way_110 3 rfl ?_
        refine r_iald (x := (h.1 37 (ix q))) (pc := 112) O rfl d_M_way_112 rfl ?_
        refine r_goto (pc := 113) O d_M_way_113 (tgt := 138) (by decide) ?_
        exact r_iret (pc := 138) O rfl d_M_way_138
    · refine r_aload_n (pc := 90) O d_M_way_90 0 rfl ?_
      refine r_getR (pc := 91) O gf_m_M_116_0 d_M_way_91 ?_
      refine r_iload (pc := 94) O d_M_way_94 3 rfl ?_
      refine r_iald (x := (h.1 36 (ix q))) (pc := 96) O rfl d_M_way_96 rfl ?_
      refine r_istore (lv' := [(4, .int (h.1 36 (ix q))), (0, .ref 0), (2, .int p2), (3, .int p3)]) (pc := 97) O d_M_way_97 (by decide) rfl ?_
      refine r_goto (pc := 99) O d_M_way_99 (tgt := 78) (by decide) ?_
      exact r_lv [1, 2, 3, 0] rfl (hrec78 (h.1 36 (ix q)))
  have hK29 : ∀ (t0 : Int32) (h : sHp), sS Zm M V (sEb sOi) 29 [(0, .ref 0), (1, .int p1), (2, .int p2), (3, .int p3)] [.int t0, .ref 0] h (K_M_way_29 n p1 p2 p3 t0 h) := by
    intro t0 h
    unfold K_M_way_29
    refine r_putI (pc := 29) O pf_m_M_137_0 d_M_way_29 ?_
    refine r_aload_n (pc := 32) O d_M_way_32 0 rfl ?_
    refine r_getI (x := t0) (pc := 33) O gf_m_M_137_0 d_M_way_33 rfl ?_
    refine r_if_le (tgt := 41) (pc := 36) O d_M_way_36 (by decide) (fun q36 => ?_) (fun q36 => ?_)
    · refine r_aload_n (pc := 41) O d_M_way_41 0 rfl ?_
      refine r_iload_n (pc := 42) O d_M_way_42 1 rfl ?_
      refine r_callVip (pc := 43) O [.int p1] rfl rfl (R_M_firstOver n p1 (pI h 0 0 t0)) cw_M_way_43 wm_1261 ws_M_firstOver rfl (Nat.le_of_ble_eq_true rfl) d_M_way_43 rfl (fun v43 => ?_)
      refine r_istore (lv' := [(4, .int v43), (0, .ref 0), (1, .int p1), (2, .int p2), (3, .int p3)]) (pc := 46) O d_M_way_46 (by decide) rfl ?_
      refine r_iload (pc := 48) O d_M_way_48 0 rfl ?_
      refine r_if_lt (tgt := 76) (pc := 50) O d_M_way_50 (by decide) (fun q50 => ?_) (fun q50 => ?_)
      · refine r_iconst (pc := 76) O d_M_way_76 ic_m1 ?_
        exact r_iret (pc := 77) O rfl d_M_way_77
      · refine r_iload_n (pc := 53) O d_M_way_53 3 rfl ?_
        refine r_if_lt (tgt := 76) (pc := 54) O d_M_way_54 (by decide) (fun q54 => ?_) (fun q54 => ?_)
        · refine r_iconst (pc := 76) O d_M_way_76 ic_m1 ?_
          exact r_iret (pc := 77) O rfl d_M_way_77
        · refine r_iload_n (pc := 57) O d_M_way_57 3 rfl ?_
          refine r_aload_n (pc := 58) O d_M_way_58 1 rfl ?_
          refine r_iload (pc := 59) O d_M_way_59 0 rfl ?_
          refine r_callVip (pc := 61) O [.int v43] rfl rfl (R_M_depth n v43 (pI h 0 0 t0)) cw_M_way_61 wm_1265 ws_M_depth rfl (Nat.le_of_ble_eq_true rfl) d_M_way_61 rfl (fun v61 => ?_)
          refine r_icmp_ge (tgt := 76) (pc := 64) O d_M_way_64 (by decide) (fun q64 => ?_) (fun q64 => ?_)
          · refine r_iconst (pc := 76) O d_M_way_76 ic_m1 ?_
            exact r_iret (pc := 77) O rfl d_M_way_77
          · refine r_iload_n (pc := 67) O d_M_way_67 4 rfl ?_
            refine r_if_lt (tgt := 76) (pc := 68) O d_M_way_68 (by decide) (fun q68 => ?_) (fun q68 => ?_)
            · refine r_iconst (pc := 76) O d_M_way_76 ic_m1 ?_
              exact r_iret (pc := 77) O rfl d_M_way_77
            · refine r_iload_n (pc := 71) O d_M_way_71 4 rfl ?_
              refine r_iconst (pc := 72) O d_M_way_72 ic_2 ?_
              refine r_icmp_le (tgt := 78) (pc := 73) O d_M_way_73 (by decide) (fun q73 => ?_) (fun q73 => ?_)
              · exact r_lv [1, 3, 4, 0] rfl (hL78 (pI h 0 0 t0) v43)
              · refine r_iconst (pc := 76) O d_M_way_76 ic_m1 ?_
                exact r_iret (pc := 77) O rfl d_M_way_77
    · refine r_iconst (pc := 39) O d_M_way_39 ic_0 ?_
      exact r_iret (pc := 40) O rfl d_M_way_40
  have hK24 : ∀ (h : sHp), sS Zm M V (sEb sOi) 24 [(0, .ref 0), (1, .int p1), (2, .int p2), (3, .int p3)] [.ref 0] h (K_M_way_24 n p1 p2 p3 h) := by
    intro h
    unfold K_M_way_24
    refine r_iconst (pc := 24) O d_M_way_24 ic_2 ?_
    refine r_goto (pc := 25) O d_M_way_25 (tgt := 29) (by decide) ?_
    exact (hK29 2 h)
  refine r_aload_n (pc := 0) O d_M_way_0 0 rfl ?_
  refine r_aload_n (pc := 1) O d_M_way_1 0 rfl ?_
  refine r_getI (x := (h.1 0 1)) (pc := 2) O gf_m_M_198_0 d_M_way_2 rfl ?_
  refine r_if_ne (tgt := 12) (pc := 5) O d_M_way_5 (by decide) (fun q5 => ?_) (fun q5 => ?_)
  · refine r_iload_n (pc := 12) O d_M_way_12 1 rfl ?_
    refine r_if_lt (tgt := 24) (pc := 13) O d_M_way_13 (by decide) (fun q13 => ?_) (fun q13 => ?_)
    · exact (hK24 h)
    · refine r_iload_n (pc := 16) O d_M_way_16 1 rfl ?_
      refine r_aload_n (pc := 17) O d_M_way_17 0 rfl ?_
      refine r_getI (x := (h.1 0 10)) (pc := 18) O gf_m_M_211_0 d_M_way_18 rfl ?_
      refine r_icmp_lt (tgt := 28) (pc := 21) O d_M_way_21 (by decide) (fun q21 => ?_) (fun q21 => ?_)
      · refine r_iconst (pc := 28) O d_M_way_28 ic_0 ?_
        exact (hK29 0 h)
      · exact (hK24 h)
  · refine r_iconst (pc := 8) O d_M_way_8 ic_1 ?_
    refine r_goto (pc := 9) O d_M_way_9 (tgt := 29) (by decide) ?_
    exact (hK29 1 h)
def J_M_isFollowed (n : Nat) (p1 : Int32) (p2 : Int32) (h : sHp) : Option Int32 :=
  sGd (sIn ((5 * p1) + (p2 / 32)) 800) (if ((jIshr (h.1 40 (ix ((5 * p1) + (p2 / 32)))) (jRem p2 32)) &&& 1) = 1 then (some 1) else (some 0))
set_option maxRecDepth 20000 in
set_option maxHeartbeats 4000000 in
theorem R_M_isFollowed (n : Nat) (p1 : Int32) (p2 : Int32) (h : sHp) : sM Zm (sPi h) y_M_isFollowed prog_10_method_51_code 3 (some .boolean) rm_M_isFollowed [.ref 0, .int p1, .int p2] h (J_M_isFollowed n p1 p2 h) := by
  refine sM_of (own := "StoryStatesModel") rfl (by decide) (Nat.le_of_ble_eq_true rfl) (fun M V O => ?_)
  unfold J_M_isFollowed
  refine r_lv (lv' := [(0, .ref 0), (1, .int p1), (2, .int p2)]) [0, 1, 2] rfl ?_
  refine r_aload_n (pc := 0) O d_M_isFollowed_0 0 rfl ?_
  refine r_getR (pc := 1) O gf_m_M_128_0 d_M_isFollowed_1 ?_
  refine r_iconst (pc := 4) O d_M_isFollowed_4 ic_5 ?_
  refine r_iload_n (pc := 5) O d_M_isFollowed_5 1 rfl ?_
  refine r_imul (pc := 6) O d_M_isFollowed_6 ?_
  refine r_iload_n (pc := 7) O d_M_isFollowed_7 2 rfl ?_
  refine r_bipush (pc := 8) O d_M_isFollowed_8 bc_32 ?_
  refine r_idiv (pc := 10) O d_M_isFollowed_10 (by decide) ?_
  refine r_iadd (pc := 11) O d_M_isFollowed_11 ?_
  refine r_iald (x := (h.1 40 (ix ((5 * p1) + (p2 / 32))))) (pc := 12) O rfl d_M_isFollowed_12 rfl ?_
  refine r_iload_n (pc := 13) O d_M_isFollowed_13 2 rfl ?_
  refine r_bipush (pc := 14) O d_M_isFollowed_14 bc_32 ?_
  refine r_irem (pc := 16) O d_M_isFollowed_16 (by decide) ?_
  refine r_ishr (pc := 17) O d_M_isFollowed_17 ?_
  refine r_iconst (pc := 18) O d_M_isFollowed_18 ic_1 ?_
  refine r_iand (pc := 19) O d_M_isFollowed_19 ?_
  refine r_iconst (pc := 20) O d_M_isFollowed_20 ic_1 ?_
  refine r_icmp_ne (tgt := 28) (pc := 21) O d_M_isFollowed_21 (by decide) (fun q21 => ?_) (fun q21 => ?_)
  · refine r_iconst (pc := 28) O d_M_isFollowed_28 ic_0 ?_
    exact r_zret (pc := 29) O rfl d_M_isFollowed_29 nb_0
  · refine r_iconst (pc := 24) O d_M_isFollowed_24 ic_1 ?_
    refine r_goto (pc := 25) O d_M_isFollowed_25 (tgt := 29) (by decide) ?_
    exact r_zret (pc := 29) O rfl d_M_isFollowed_29 nb_1
def K_M_judge_161 (n : Nat) (rec62 : (Int32 × sHp → Option sHp)) (rec75 : (Int32 × Int32 × sHp → Option sHp)) (x1 : Int32) (x2 : Int32) (x3 : Int32) (t0 : Int32) (t1 : Int32) (h : sHp) : Option sHp :=
  sGd (sIn t1 160) (if x1 = 0 then (if x3 = 0 then (rec75 (0, (x2 + (-1)), (pI h 41 (ix t1) (vp_nar .boolean t0)))) else (rec75 (1, (x2 + (-1)), (pI h 41 (ix t1) (vp_nar .boolean t0))))) else (rec75 (1, (x2 + (-1)), (pI h 41 (ix t1) (vp_nar .boolean t0)))))
def K_M_judge_156 (n : Nat) (rec62 : (Int32 × sHp → Option sHp)) (rec75 : (Int32 × Int32 × sHp → Option sHp)) (x1 : Int32) (x2 : Int32) (x3 : Int32) (t0 : Int32) (h : sHp) : Option sHp :=
  K_M_judge_161 n rec62 rec75 x1 x2 x3 1 t0 h
def K_M_judge_138 (n : Nat) (rec62 : (Int32 × sHp → Option sHp)) (rec75 : (Int32 × Int32 × sHp → Option sHp)) (x1 : Int32) (x2 : Int32) (x3 : Int32) (h : sHp) : Option sHp :=
  sGd (sIn x2 160) (if (h.1 41 (ix x2)) = 0 then (if x3 = 0 then (K_M_judge_161 n rec62 rec75 x1 x2 x3 0 x2 h) else (K_M_judge_156 n rec62 rec75 x1 x2 x3 x2 h)) else (K_M_judge_156 n rec62 rec75 x1 x2 x3 x2 h))
def F_M_judge_84 (n : Nat) (rec62 : (Int32 × sHp → Option sHp)) (rec75 : (Int32 × Int32 × sHp → Option sHp)) (x1 : Int32) (x2 : Int32) (h : sHp) (rec84 : Int32 × Int32 → Option sHp) (q : Int32 × Int32) : Option sHp :=
  if (h.1 0 49) ≤ q.2 then (K_M_judge_138 n rec62 rec75 x1 x2 q.1 h) else (sGd (sIn x2 160) (if (h.1 41 (ix x2)) = 0 then (if q.1 = 0 then (sGd (sIn q.2 160) (if (h.1 41 (ix q.2)) = 0 then (rec84 (0, (q.2 + 1))) else ((J_M_isFollowed n x2 q.2 h).bind fun v120 =>
  if v120 = 0 then (rec84 (0, (q.2 + 1))) else (rec84 (1, (q.2 + 1)))))) else (rec84 (1, (q.2 + 1)))) else (K_M_judge_138 n rec62 rec75 x1 x2 q.1 h)))
def F_M_judge_75 (n : Nat) (rec62 : (Int32 × sHp → Option sHp)) (rec75 : Int32 × Int32 × sHp → Option sHp) (q : Int32 × Int32 × sHp) : Option sHp :=
  if q.2.1 < 0 then (rec62 (q.1, q.2.2)) else (sFx (F_M_judge_84 n rec62 rec75 q.1 q.2.1 q.2.2) n (0, 0))
def F_M_judge_62 (n : Nat) (rec62 : Int32 × sHp → Option sHp) (q : Int32 × sHp) : Option sHp :=
  if q.1 = 0 then (some q.2) else (sFx (F_M_judge_75 n rec62 ) n (0, ((q.2.1 0 49) - 1), q.2))
def F_M_judge_2 (n : Nat) (rec2 : Int32 × sHp → Option sHp) (q : Int32 × sHp) : Option sHp :=
  if (q.2.1 0 49) ≤ q.1 then (sFx (F_M_judge_62 n ) n (1, q.2)) else (sGd (sIn q.1 160) (if (jRem (q.2.1 34 (ix q.1)) 8) ≤ 0 then (sGd (sIn q.1 160) (rec2 ((q.1 + 1), (pI q.2 41 (ix q.1) 0)))) else (if (jRem (q.2.1 34 (ix q.1)) 8) ≤ 0 then (if (q.2.1 7 (ix 0)) = 0 then (sGd (sIn q.1 160) (rec2 ((q.1 + 1), (pI q.2 41 (ix q.1) 0)))) else (sGd (sIn q.1 160) (rec2 ((q.1 + 1), (pI q.2 41 (ix q.1) 1))))) else (sGd (sIn ((jRem (q.2.1 34 (ix q.1)) 8) - 1) 4) (if (q.2.1 7 (ix ((jRem (q.2.1 34 (ix q.1)) 8) - 1))) = 0 then (sGd (sIn q.1 160) (rec2 ((q.1 + 1), (pI q.2 41 (ix q.1) 0)))) else (sGd (sIn q.1 160) (rec2 ((q.1 + 1), (pI q.2 41 (ix q.1) 1)))))))))
def J_M_judge (n : Nat)  (h : sHp) : Option sHp :=
  sFx (F_M_judge_2 n ) n (0, h)
set_option maxRecDepth 20000 in
set_option maxHeartbeats 4000000 in
theorem R_M_judge (n : Nat)  (h : sHp) : sM Zm sOv y_M_judge prog_10_method_52_code 5 none rm_M_judge [.ref 0] h (J_M_judge n  h) := by
  refine sM_of (own := "StoryStatesModel") rfl (by decide) (Nat.le_of_ble_eq_true rfl) (fun M V O => ?_)
  unfold J_M_judge
  refine r_lv (lv' := [(0, .ref 0)]) [0] rfl ?_
  have hL62 : ∀ (q : Int32 × sHp), sS Zm M V (sEb sOv) 62 [(0, .ref 0), (1, .int q.1)] [] q.2 (sFx (F_M_judge_62 n ) n q) := by
    skip
    refine r_fx (fun q => [(0, .ref 0), (1, .int q.1)]) (fun q => q.2) (F_M_judge_62 n ) (fun rec62 hrec62 q => ?_) n
    obtain ⟨qv0, qv1⟩ := q
    show sS Zm M V (sEb sOv) 62 [(0, .ref 0), (1, .int qv0)] [] qv1 _
    unfold F_M_judge_62
    try dsimp only
    have hL75 : ∀ (q : Int32 × Int32 × sHp), sS Zm M V (sEb sOv) 75 [(0, .ref 0), (1, .int q.1), (2, .int q.2.1)] [] q.2.2 (sFx (F_M_judge_75 n rec62 ) n q) := by
      skip
      refine r_fx (fun q => [(0, .ref 0), (1, .int q.1), (2, .int q.2.1)]) (fun q => q.2.2) (F_M_judge_75 n rec62 ) (fun rec75 hrec75 q => ?_) n
      obtain ⟨qv0, qv1, qv2⟩ := q
      show sS Zm M V (sEb sOv) 75 [(0, .ref 0), (1, .int qv0), (2, .int qv1)] [] qv2 _
      unfold F_M_judge_75
      try dsimp only
      have hK161 : ∀ (x1 : Int32) (x2 : Int32) (x3 : Int32) (t0 : Int32) (t1 : Int32) (h : sHp), sS Zm M V (sEb sOv) 161 [(0, .ref 0), (1, .int x1), (2, .int x2), (3, .int x3)] [.int t0, .int t1, .ref 41] h (K_M_judge_161 n rec62 rec75 x1 x2 x3 t0 t1 h) := by
        intro x1 x2 x3 t0 t1 h
        unfold K_M_judge_161
        refine r_zast (pc := 161) O rfl d_M_judge_161 rfl ?_
        refine r_iload_n (pc := 162) O d_M_judge_162 1 rfl ?_
        refine r_if_ne (tgt := 170) (pc := 163) O d_M_judge_163 (by decide) (fun q163 => ?_) (fun q163 => ?_)
        · refine r_iconst (pc := 170) O d_M_judge_170 ic_1 ?_
          refine r_goto (pc := 171) O d_M_judge_171 (tgt := 175) (by decide) ?_
          refine r_istore_n (lv' := [(1, .int 1), (0, .ref 0), (2, .int x2), (3, .int x3)]) (pc := 175) O d_M_judge_175 rfl (by decide) rfl ?_
          refine r_iinc (lv' := [(2, .int (x2 + (-1))), (1, .int 1), (0, .ref 0), (3, .int x3)]) (pc := 176) O d_M_judge_176 2 rfl (congrArg (HAdd.hAdd _) ic_m1) (by decide) rfl ?_
          refine r_goto (pc := 179) O d_M_judge_179 (tgt := 75) (by decide) ?_
          exact r_lv [2, 1, 0] rfl (hrec75 (1, (x2 + (-1)), (pI h 41 (ix t1) (vp_nar .boolean t0))))
        · refine r_iload_n (pc := 166) O d_M_judge_166 3 rfl ?_
          refine r_if_eq (tgt := 174) (pc := 167) O d_M_judge_167 (by decide) (fun q167 => ?_) (fun q167 => ?_)
          · refine r_iconst (pc := 174) O d_M_judge_174 ic_0 ?_
            refine r_istore_n (lv' := [(1, .int 0), (0, .ref 0), (2, .int x2), (3, .int x3)]) (pc := 175) O d_M_judge_175 rfl (by decide) rfl ?_
            refine r_iinc (lv' := [(2, .int (x2 + (-1))), (1, .int 0), (0, .ref 0), (3, .int x3)]) (pc := 176) O d_M_judge_176 2 rfl (congrArg (HAdd.hAdd _) ic_m1) (by decide) rfl ?_
            refine r_goto (pc := 179) O d_M_judge_179 (tgt := 75) (by decide) ?_
            exact r_lv [2, 1, 0] rfl (hrec75 (0, (x2 + (-1)), (pI h 41 (ix t1) (vp_nar .boolean t0))))
          · refine r_iconst (pc := 170) O d_M_judge_170 ic_1 ?_
            refine r_goto (pc := 171) O d_M_judge_171 (tgt := 175) (by decide) ?_
            refine r_istore_n (lv' := [(1, .int 1), (0, .ref 0), (2, .int x2), (3, .int x3)]) (pc := 175) O d_M_judge_175 rfl (by decide) rfl ?_
            refine r_iinc (lv' := [(2, .int (x2 + (-1))), (1, .int 1), (0, .ref 0), (3, .int x3)]) (pc := 176) O d_M_judge_176 2 rfl (congrArg (HAdd.hAdd _) ic_m1) (by decide) rfl ?_
            refine r_goto (pc := 179) O d_M_judge_179 (tgt := 75) (by decide) ?_
            exact r_lv [2, 1, 0] rfl (hrec75 (1, (x2 + (-1)), (pI h 41 (ix t1) (vp_nar .boolean t0))))
      have hK156 : ∀ (x1 : Int32) (x2 : Int32) (x3 : Int32) (t0 : Int32) (h : sHp), sS Zm M V (sEb sOv) 156 [(0, .ref 0), (1, .int x1), (2, .int x2), (3, .int x3)] [.int t0, .ref 41] h (K_M_judge_156 n rec62 rec75 x1 x2 x3 t0 h) := by
        intro x1 x2 x3 t0 h
        unfold K_M_judge_156
        refine r_iconst (pc := 156) O d_M_judge_156 ic_1 ?_
        refine r_goto (pc := 157) O d_M_judge_157 (tgt := 161) (by decide) ?_
        exact (hK161 x1 x2 x3 1 t0 h)
      have hK138 : ∀ (x1 : Int32) (x2 : Int32) (x3 : Int32) (h : sHp), sS Zm M V (sEb sOv) 138 [(0, .ref 0), (1, .int x1), (2, .int x2), (3, .int x3)] [] h (K_M_judge_138 n rec62 rec75 x1 x2 x3 h) := by
        intro x1 x2 x3 h
        unfold K_M_judge_138
        refine r_aload_n (pc := 138) O d_M_judge_138 0 rfl ?_
        refine r_getR (pc := 139) O gf_m_M_131_0 d_M_judge_139 ?_
        refine r_iload_n (pc := 142) O d_M_judge_142 2 rfl ?_
        refine r_aload_n (pc := 143) O d_M_judge_143 0 rfl ?_
        refine r_getR (pc := 144) O gf_m_M_131_0 d_M_judge_144 ?_
        refine r_iload_n (pc := 147) O d_M_judge_147 2 rfl ?_
        refine r_zald (x := (h.1 41 (ix x2))) (pc := 148) O rfl d_M_judge_148 rfl ?_
        refine r_if_ne (tgt := 156) (pc := 149) O d_M_judge_149 (by decide) (fun q149 => ?_) (fun q149 => ?_)
        · exact (hK156 x1 x2 x3 x2 h)
        · refine r_iload_n (pc := 152) O d_M_judge_152 3 rfl ?_
          refine r_if_eq (tgt := 160) (pc := 153) O d_M_judge_153 (by decide) (fun q153 => ?_) (fun q153 => ?_)
          · refine r_iconst (pc := 160) O d_M_judge_160 ic_0 ?_
            exact (hK161 x1 x2 x3 0 x2 h)
          · exact (hK156 x1 x2 x3 x2 h)
      have hL84 : ∀ (x1 : Int32) (x2 : Int32) (h : sHp) (q : Int32 × Int32), sS Zm M V (sEb sOv) 84 [(0, .ref 0), (1, .int x1), (2, .int x2), (3, .int q.1), (4, .int q.2)] [] h (sFx (F_M_judge_84 n rec62 rec75 x1 x2 h) n q) := by
        intro x1 x2 h
        refine r_fx (fun q => [(0, .ref 0), (1, .int x1), (2, .int x2), (3, .int q.1), (4, .int q.2)]) (fun q => h) (F_M_judge_84 n rec62 rec75 x1 x2 h) (fun rec84 hrec84 q => ?_) n
        obtain ⟨qv0, qv1⟩ := q
        show sS Zm M V (sEb sOv) 84 [(0, .ref 0), (1, .int x1), (2, .int x2), (3, .int qv0), (4, .int qv1)] [] h _
        unfold F_M_judge_84
        try dsimp only
        refine r_iload (pc := 84) O d_M_judge_84 4 rfl ?_
        refine r_aload_n (pc := 86) O d_M_judge_86 0 rfl ?_
        refine r_getI (x := (h.1 0 49)) (pc := 87) O gf_m_M_181_0 d_M_judge_87 rfl ?_
        refine r_icmp_ge (tgt := 138) (pc := 90) O d_M_judge_90 (by decide) (fun q90 => ?_) (fun q90 => ?_)
        · exact r_lv [0, 1, 2, 3] rfl (hK138 x1 x2 qv0 h)
        · refine r_aload_n (pc := 93) O d_M_judge_93 0 rfl ?_
          refine r_getR (pc := 94) O gf_m_M_131_0 d_M_judge_94 ?_
          refine r_iload_n (pc := 97) O d_M_judge_97 2 rfl ?_
          refine r_zald (x := (h.1 41 (ix x2))) (pc := 98) O rfl d_M_judge_98 rfl ?_
          refine r_if_ne (tgt := 138) (pc := 99) O d_M_judge_99 (by decide) (fun q99 => ?_) (fun q99 => ?_)
          · exact r_lv [0, 1, 2, 3] rfl (hK138 x1 x2 qv0 h)
          · refine r_iload_n (pc := 102) O d_M_judge_102 3 rfl ?_
            refine r_if_ne (tgt := 126) (pc := 103) O d_M_judge_103 (by decide) (fun q103 => ?_) (fun q103 => ?_)
            · refine r_iconst (pc := 126) O d_M_judge_126 ic_1 ?_
              refine r_goto (pc := 127) O d_M_judge_127 (tgt := 131) (by decide) ?_
              refine r_istore_n (lv' := [(3, .int 1), (0, .ref 0), (1, .int x1), (2, .int x2), (4, .int qv1)]) (pc := 131) O d_M_judge_131 rfl (by decide) rfl ?_
              refine r_iinc (lv' := [(4, .int (qv1 + 1)), (3, .int 1), (0, .ref 0), (1, .int x1), (2, .int x2)]) (pc := 132) O d_M_judge_132 4 rfl (congrArg (HAdd.hAdd _) ic_1) (by decide) rfl ?_
              refine r_goto (pc := 135) O d_M_judge_135 (tgt := 84) (by decide) ?_
              exact r_lv [2, 3, 4, 1, 0] rfl (hrec84 (1, (qv1 + 1)))
            · refine r_aload_n (pc := 106) O d_M_judge_106 0 rfl ?_
              refine r_getR (pc := 107) O gf_m_M_131_0 d_M_judge_107 ?_
              refine r_iload (pc := 110) O d_M_judge_110 4 rfl ?_
              refine r_zald (x := (h.1 41 (ix qv1))) (pc := 112) O rfl d_M_judge_112 rfl ?_
              refine r_if_eq (tgt := 130) (pc := 113) O d_M_judge_113 (by decide) (fun q113 => ?_) (fun q113 => ?_)
              · refine r_iconst (pc := 130) O d_M_judge_130 ic_0 ?_
                refine r_istore_n (lv' := [(3, .int 0), (0, .ref 0), (1, .int x1), (2, .int x2), (4, .int qv1)]) (pc := 131) O d_M_judge_131 rfl (by decide) rfl ?_
                refine r_iinc (lv' := [(4, .int (qv1 + 1)), (3, .int 0), (0, .ref 0), (1, .int x1), (2, .int x2)]) (pc := 132) O d_M_judge_132 4 rfl (congrArg (HAdd.hAdd _) ic_1) (by decide) rfl ?_
                refine r_goto (pc := 135) O d_M_judge_135 (tgt := 84) (by decide) ?_
                exact r_lv [2, 3, 4, 1, 0] rfl (hrec84 (0, (qv1 + 1)))
              · refine r_aload_n (pc := 116) O d_M_judge_116 0 rfl ?_
                refine r_iload_n (pc := 117) O d_M_judge_117 2 rfl ?_
                refine r_iload (pc := 118) O d_M_judge_118 4 rfl ?_
                refine r_callVip (pc := 120) O [.int x2, .int qv1] rfl rfl (R_M_isFollowed n x2 qv1 h) cw_M_judge_120 wm_1285 ws_M_isFollowed rfl (Nat.le_of_ble_eq_true rfl) d_M_judge_120 rfl (fun v120 => ?_)
                refine r_if_eq (tgt := 130) (pc := 123) O d_M_judge_123 (by decide) (fun q123 => ?_) (fun q123 => ?_)
                · refine r_iconst (pc := 130) O d_M_judge_130 ic_0 ?_
                  refine r_istore_n (lv' := [(3, .int 0), (0, .ref 0), (1, .int x1), (2, .int x2), (4, .int qv1)]) (pc := 131) O d_M_judge_131 rfl (by decide) rfl ?_
                  refine r_iinc (lv' := [(4, .int (qv1 + 1)), (3, .int 0), (0, .ref 0), (1, .int x1), (2, .int x2)]) (pc := 132) O d_M_judge_132 4 rfl (congrArg (HAdd.hAdd _) ic_1) (by decide) rfl ?_
                  refine r_goto (pc := 135) O d_M_judge_135 (tgt := 84) (by decide) ?_
                  exact r_lv [2, 3, 4, 1, 0] rfl (hrec84 (0, (qv1 + 1)))
                · refine r_iconst (pc := 126) O d_M_judge_126 ic_1 ?_
                  refine r_goto (pc := 127) O d_M_judge_127 (tgt := 131) (by decide) ?_
                  refine r_istore_n (lv' := [(3, .int 1), (0, .ref 0), (1, .int x1), (2, .int x2), (4, .int qv1)]) (pc := 131) O d_M_judge_131 rfl (by decide) rfl ?_
                  refine r_iinc (lv' := [(4, .int (qv1 + 1)), (3, .int 1), (0, .ref 0), (1, .int x1), (2, .int x2)]) (pc := 132) O d_M_judge_132 4 rfl (congrArg (HAdd.hAdd _) ic_1) (by decide) rfl ?_
                  refine r_goto (pc := 135) O d_M_judge_135 (tgt := 84) (by decide) ?_
                  exact r_lv [2, 3, 4, 1, 0] rfl (hrec84 (1, (qv1 + 1)))
      refine r_iload_n (pc := 75) O d_M_judge_75 2 rfl ?_
      refine r_if_lt (tgt := 182) (pc := 76) O d_M_judge_76 (by decide) (fun q76 => ?_) (fun q76 => ?_)
      · refine r_goto (pc := 182) O d_M_judge_182 (tgt := 62) (by decide) ?_
        exact r_lv [0, 1] rfl (hrec62 (qv0, qv2))
      · refine r_iconst (pc := 79) O d_M_judge_79 ic_0 ?_
        refine r_istore_n (lv' := [(3, .int 0), (0, .ref 0), (1, .int qv0), (2, .int qv1)]) (pc := 80) O d_M_judge_80 rfl (by decide) rfl ?_
        refine r_iconst (pc := 81) O d_M_judge_81 ic_0 ?_
        refine r_istore (lv' := [(4, .int 0), (3, .int 0), (0, .ref 0), (1, .int qv0), (2, .int qv1)]) (pc := 82) O d_M_judge_82 (by decide) rfl ?_
        exact r_lv [2, 3, 4, 1, 0] rfl (hL84 qv0 qv1 qv2 (0, 0))
    refine r_iload_n (pc := 62) O d_M_judge_62 1 rfl ?_
    refine r_if_eq (tgt := 185) (pc := 63) O d_M_judge_63 (by decide) (fun q63 => ?_) (fun q63 => ?_)
    · exact r_vret (pc := 185) O rfl d_M_judge_185
    · refine r_iconst (pc := 66) O d_M_judge_66 ic_0 ?_
      refine r_istore_n (lv' := [(1, .int 0), (0, .ref 0)]) (pc := 67) O d_M_judge_67 rfl (by decide) rfl ?_
      refine r_aload_n (pc := 68) O d_M_judge_68 1 rfl ?_
      refine r_getI (x := (qv1.1 0 49)) (pc := 69) O gf_m_M_181_0 d_M_judge_69 rfl ?_
      refine r_iconst (pc := 72) O d_M_judge_72 ic_1 ?_
      refine r_isub (pc := 73) O d_M_judge_73 ?_
      refine r_istore_n (lv' := [(2, .int ((qv1.1 0 49) - 1)), (1, .int 0), (0, .ref 0)]) (pc := 74) O d_M_judge_74 rfl (by decide) rfl ?_
      exact r_lv [2, 1, 0] rfl (hL75 (0, ((qv1.1 0 49) - 1), qv1))
  have hL2 : ∀ (q : Int32 × sHp), sS Zm M V (sEb sOv) 2 [(0, .ref 0), (1, .int q.1)] [] q.2 (sFx (F_M_judge_2 n ) n q) := by
    skip
    refine r_fx (fun q => [(0, .ref 0), (1, .int q.1)]) (fun q => q.2) (F_M_judge_2 n ) (fun rec2 hrec2 q => ?_) n
    obtain ⟨qv0, qv1⟩ := q
    show sS Zm M V (sEb sOv) 2 [(0, .ref 0), (1, .int qv0)] [] qv1 _
    unfold F_M_judge_2
    try dsimp only
    refine r_iload_n (pc := 2) O d_M_judge_2 1 rfl ?_
    refine r_aload_n (pc := 3) O d_M_judge_3 0 rfl ?_
    refine r_getI (x := (qv1.1 0 49)) (pc := 4) O gf_m_M_181_0 d_M_judge_4 rfl ?_
    refine r_icmp_ge (tgt := 60) (pc := 7) O d_M_judge_7 (by decide) (fun q7 => ?_) (fun q7 => ?_)
    · refine r_iconst (pc := 60) O d_M_judge_60 ic_1 ?_
      refine r_istore_n (lv' := [(1, .int 1), (0, .ref 0)]) (pc := 61) O d_M_judge_61 rfl (by decide) rfl ?_
      exact r_lv [1, 0] rfl (hL62 (1, qv1))
    · refine r_aload_n (pc := 10) O d_M_judge_10 0 rfl ?_
      refine r_getR (pc := 11) O gf_m_M_110_0 d_M_judge_11 ?_
      refine r_iload_n (pc := 14) O d_M_judge_14 1 rfl ?_
      refine r_iald (x := (qv1.1 34 (ix qv0))) (pc := 15) O rfl d_M_judge_15 rfl ?_
      refine r_bipush (pc := 16) O d_M_judge_16 bc_8 ?_
      refine r_irem (pc := 18) O d_M_judge_18 (by decide) ?_
      refine r_istore_n (lv' := [(2, .int (jRem (qv1.1 34 (ix qv0)) 8)), (0, .ref 0), (1, .int qv0)]) (pc := 19) O d_M_judge_19 rfl (by decide) rfl ?_
      refine r_aload_n (pc := 20) O d_M_judge_20 1 rfl ?_
      refine r_getR (pc := 21) O gf_m_M_131_0 d_M_judge_21 ?_
      refine r_iload_n (pc := 24) O d_M_judge_24 2 rfl ?_
      refine r_iload_n (pc := 25) O d_M_judge_25 0 rfl ?_
      refine r_if_le (tgt := 52) (pc := 26) O d_M_judge_26 (by decide) (fun q26 => ?_) (fun q26 => ?_)
      · refine r_iconst (pc := 52) O d_M_judge_52 ic_0 ?_
        refine r_zast (pc := 53) O rfl d_M_judge_53 nz_0 ?_
        refine r_iinc (lv' := [(1, .int (qv0 + 1)), (2, .int (jRem (qv1.1 34 (ix qv0)) 8)), (0, .ref 0)]) (pc := 54) O d_M_judge_54 2 rfl (congrArg (HAdd.hAdd _) ic_1) (by decide) rfl ?_
        refine r_goto (pc := 57) O d_M_judge_57 (tgt := 2) (by decide) ?_
        exact r_lv [2, 0] rfl (hrec2 ((qv0 + 1), (pI qv1 41 (ix qv0) 0)))
      · refine r_aload_n (pc := 29) O d_M_judge_29 1 rfl ?_
        refine r_getR (pc := 30) O gf_m_M_28_0 d_M_judge_30 ?_
        refine r_iload_n (pc := 33) O d_M_judge_33 0 rfl ?_
        refine r_if_le (tgt := 43) (pc := 34) O d_M_judge_34 (by decide) (fun q34 => ?_) (fun q34 => ?_)
        · refine r_iconst (pc := 43) O d_M_judge_43 ic_0 ?_
          refine r_zald_c (x := (qv1.1 7 (ix 0))) (pc := 44) O rfl (sIn_iff.mp (by decide)) d_M_judge_44 rfl ?_
          refine r_if_eq (tgt := 52) (pc := 45) O d_M_judge_45 (by decide) (fun q45 => ?_) (fun q45 => ?_)
          · refine r_iconst (pc := 52) O d_M_judge_52 ic_0 ?_
            refine r_zast (pc := 53) O rfl d_M_judge_53 nz_0 ?_
            refine r_iinc (lv' := [(1, .int (qv0 + 1)), (2, .int (jRem (qv1.1 34 (ix qv0)) 8)), (0, .ref 0)]) (pc := 54) O d_M_judge_54 2 rfl (congrArg (HAdd.hAdd _) ic_1) (by decide) rfl ?_
            refine r_goto (pc := 57) O d_M_judge_57 (tgt := 2) (by decide) ?_
            exact r_lv [2, 0] rfl (hrec2 ((qv0 + 1), (pI qv1 41 (ix qv0) 0)))
          · refine r_iconst (pc := 48) O d_M_judge_48 ic_1 ?_
            refine r_goto (pc := 49) O d_M_judge_49 (tgt := 53) (by decide) ?_
            refine r_zast (pc := 53) O rfl d_M_judge_53 nz_1 ?_
            refine r_iinc (lv' := [(1, .int (qv0 + 1)), (2, .int (jRem (qv1.1 34 (ix qv0)) 8)), (0, .ref 0)]) (pc := 54) O d_M_judge_54 2 rfl (congrArg (HAdd.hAdd _) ic_1) (by decide) rfl ?_
            refine r_goto (pc := 57) O d_M_judge_57 (tgt := 2) (by decide) ?_
            exact r_lv [2, 0] rfl (hrec2 ((qv0 + 1), (pI qv1 41 (ix qv0) 1)))
        · refine r_iload_n (pc := 37) O d_M_judge_37 0 rfl ?_
          refine r_iconst (pc := 38) O d_M_judge_38 ic_1 ?_
          refine r_isub (pc := 39) O d_M_judge_39 ?_
          refine r_goto (pc := 40) O d_M_judge_40 (tgt := 44) (by decide) ?_
          refine r_zald (x := (qv1.1 7 (ix ((jRem (qv1.1 34 (ix qv0)) 8) - 1)))) (pc := 44) O rfl d_M_judge_44 rfl ?_
          refine r_if_eq (tgt := 52) (pc := 45) O d_M_judge_45 (by decide) (fun q45 => ?_) (fun q45 => ?_)
          · refine r_iconst (pc := 52) O d_M_judge_52 ic_0 ?_
            refine r_zast (pc := 53) O rfl d_M_judge_53 nz_0 ?_
            refine r_iinc (lv' := [(1, .int (qv0 + 1)), (2, .int (jRem (qv1.1 34 (ix qv0)) 8)), (0, .ref 0)]) (pc := 54) O d_M_judge_54 2 rfl (congrArg (HAdd.hAdd _) ic_1) (by decide) rfl ?_
            refine r_goto (pc := 57) O d_M_judge_57 (tgt := 2) (by decide) ?_
            exact r_lv [2, 0] rfl (hrec2 ((qv0 + 1), (pI qv1 41 (ix qv0) 0)))
          · refine r_iconst (pc := 48) O d_M_judge_48 ic_1 ?_
            refine r_goto (pc := 49) O d_M_judge_49 (tgt := 53) (by decide) ?_
            refine r_zast (pc := 53) O rfl d_M_judge_53 nz_1 ?_
            refine r_iinc (lv' := [(1, .int (qv0 + 1)), (2, .int (jRem (qv1.1 34 (ix qv0)) 8)), (0, .ref 0)]) (pc := 54) O d_M_judge_54 2 rfl (congrArg (HAdd.hAdd _) ic_1) (by decide) rfl ?_
            refine r_goto (pc := 57) O d_M_judge_57 (tgt := 2) (by decide) ?_
            exact r_lv [2, 0] rfl (hrec2 ((qv0 + 1), (pI qv1 41 (ix qv0) 1)))
  refine r_iconst (pc := 0) O d_M_judge_0 ic_0 ?_
  refine r_istore_n (lv' := [(1, .int 0), (0, .ref 0)]) (pc := 1) O d_M_judge_1 rfl (by decide) rfl ?_
  exact r_lv [1, 0] rfl (hL2 (0, h))
