def J_B_stepOf (n : Nat) (p0 : Int64) (p2 : Int32) (h : sHp) : Option Int32 :=
  some ((Int64.toInt32 (jLushr p0 (42 + (2 * p2)))) &&& 3)
set_option maxRecDepth 20000 in
set_option maxHeartbeats 4000000 in
theorem R_B_stepOf (n : Nat) (p0 : Int64) (p2 : Int32) (h : sHp) : sM Zc (sPi h) y_B_stepOf prog_3_method_10_code 3 (some .int) rm_B_stepOf [.long p0, .int p2] h (J_B_stepOf n p0 p2 h) := by
  refine sM_of (own := "StoryStates$Bits") rfl (by decide) (Nat.le_of_ble_eq_true rfl) (fun M V O => ?_)
  unfold J_B_stepOf
  refine r_lv (lv' := [(0, .long p0), (2, .int p2)]) [0, 1] rfl ?_
  refine r_lload_n (pc := 0) O d_B_stepOf_0 0 rfl ?_
  refine r_bipush (pc := 1) O d_B_stepOf_1 bc_42 ?_
  refine r_iconst (pc := 3) O d_B_stepOf_3 ic_2 ?_
  refine r_iload_n (pc := 4) O d_B_stepOf_4 1 rfl ?_
  refine r_imul (pc := 5) O d_B_stepOf_5 ?_
  refine r_iadd (pc := 6) O d_B_stepOf_6 ?_
  refine r_lushr (pc := 7) O d_B_stepOf_7 ?_
  refine r_l2i (pc := 8) O d_B_stepOf_8 ?_
  refine r_iconst (pc := 9) O d_B_stepOf_9 ic_3 ?_
  refine r_iand (pc := 10) O d_B_stepOf_10 ?_
  exact r_iret (pc := 11) O rfl d_B_stepOf_11
def J_B_withStep (n : Nat) (p0 : Int64) (p2 : Int32) (p3 : Int32) (h : sHp) : Option Int64 :=
  (J_B_write n p0 (42 + (2 * p2)) 3 p3 h).bind fun v9 =>
  some v9
set_option maxRecDepth 20000 in
set_option maxHeartbeats 4000000 in
theorem R_B_withStep (n : Nat) (p0 : Int64) (p2 : Int32) (p3 : Int32) (h : sHp) : sM Zc (sPl h) y_B_withStep prog_3_method_11_code 4 (some .long) rm_B_withStep [.long p0, .int p2, .int p3] h (J_B_withStep n p0 p2 p3 h) := by
  refine sM_of (own := "StoryStates$Bits") rfl (by decide) (Nat.le_of_ble_eq_true rfl) (fun M V O => ?_)
  unfold J_B_withStep
  refine r_lv (lv' := [(0, .long p0), (2, .int p2), (3, .int p3)]) [0, 1, 2] rfl ?_
  refine r_lload_n (pc := 0) O d_B_withStep_0 0 rfl ?_
  refine r_bipush (pc := 1) O d_B_withStep_1 bc_42 ?_
  refine r_iconst (pc := 3) O d_B_withStep_3 ic_2 ?_
  refine r_iload_n (pc := 4) O d_B_withStep_4 1 rfl ?_
  refine r_imul (pc := 5) O d_B_withStep_5 ?_
  refine r_iadd (pc := 6) O d_B_withStep_6 ?_
  refine r_iconst (pc := 7) O d_B_withStep_7 ic_3 ?_
  refine r_iload_n (pc := 8) O d_B_withStep_8 2 rfl ?_
  refine r_callSlp (pc := 9) O [.long p0, .int (42 + (2 * p2)), .int 3, .int p3] (R_B_write n p0 (42 + (2 * p2)) 3 p3 h) cw_B_withStep_9 wm_291 rfl (Nat.le_of_ble_eq_true rfl) d_B_withStep_9 rfl (fun v9 => ?_)
  exact r_lret (pc := 12) O rfl d_B_withStep_12
def K_E_stepWalkers_57 (n : Nat) (rec2 : (Int32 × sHp → Option sHp)) (x1 : Int32) (x2 : Int32) (t0 : Int32) (h : sHp) : Option sHp :=
  (J_B_withStep n (h.2 1 4) x1 t0 h).bind fun v67 =>
  sGd (sIn ((x1 * 3) + t0) 6) ((J_B_withPlace n v67 x2 (h.1 18 (ix ((x1 * 3) + t0))) (pL h 1 4 v67)).bind fun v93 =>
  rec2 ((x1 + 1), (pL (pL h 1 4 v67) 1 4 v93)))
def F_E_stepWalkers_2 (n : Nat) (rec2 : Int32 × sHp → Option sHp) (q : Int32 × sHp) : Option sHp :=
  if (q.2.1 2 16) ≤ q.1 then (some q.2) else (sGd (sIn q.1 2) ((J_B_placeOf n (q.2.2 1 4) (q.2.1 17 (ix q.1)) q.2).bind fun v28 =>
  if 6 ≤ v28 then (rec2 ((q.1 + 1), q.2)) else ((J_B_stepOf n (q.2.2 1 4) q.1 q.2).bind fun v41 =>
  if 2 ≤ v41 then (K_E_stepWalkers_57 n rec2 q.1 (q.2.1 17 (ix q.1)) 0 q.2) else (K_E_stepWalkers_57 n rec2 q.1 (q.2.1 17 (ix q.1)) (v41 + 1) q.2))))
def J_E_stepWalkers (n : Nat)  (h : sHp) : Option sHp :=
  sFx (F_E_stepWalkers_2 n ) n (0, h)
set_option maxRecDepth 20000 in
set_option maxHeartbeats 4000000 in
theorem R_E_stepWalkers (n : Nat)  (h : sHp) : sM Zc sOv y_E_stepWalkers prog_6_method_15_code 5 none rm_E_stepWalkers [.ref 1] h (J_E_stepWalkers n  h) := by
  refine sM_of (own := "StoryStates$Engine") rfl (by decide) (Nat.le_of_ble_eq_true rfl) (fun M V O => ?_)
  unfold J_E_stepWalkers
  refine r_lv (lv' := [(0, .ref 1)]) [0] rfl ?_
  have hL2 : ∀ (q : Int32 × sHp), sS Zc M V (sEb sOv) 2 [(0, .ref 1), (1, .int q.1)] [] q.2 (sFx (F_E_stepWalkers_2 n ) n q) := by
    skip
    refine r_fx (fun q => [(0, .ref 1), (1, .int q.1)]) (fun q => q.2) (F_E_stepWalkers_2 n ) (fun rec2 hrec2 q => ?_) n
    obtain ⟨qv0, qv1⟩ := q
    show sS Zc M V (sEb sOv) 2 [(0, .ref 1), (1, .int qv0)] [] qv1 _
    unfold F_E_stepWalkers_2
    try dsimp only
    have hK57 : ∀ (x1 : Int32) (x2 : Int32) (t0 : Int32) (h : sHp), sS Zc M V (sEb sOv) 57 [(0, .ref 1), (1, .int x1), (2, .int x2)] [.int t0] h (K_E_stepWalkers_57 n rec2 x1 x2 t0 h) := by
      intro x1 x2 t0 h
      unfold K_E_stepWalkers_57
      refine r_istore (lv' := [(4, .int t0), (0, .ref 1), (1, .int x1), (2, .int x2)]) (pc := 57) O d_E_stepWalkers_57 (by decide) rfl ?_
      refine r_aload_n (pc := 59) O d_E_stepWalkers_59 1 rfl ?_
      refine r_aload_n (pc := 60) O d_E_stepWalkers_60 1 rfl ?_
      refine r_getL (x := (h.2 1 4)) (pc := 61) O gf_c_E_22_1 d_E_stepWalkers_61 rfl ?_
      refine r_iload_n (pc := 64) O d_E_stepWalkers_64 2 rfl ?_
      refine r_iload (pc := 65) O d_E_stepWalkers_65 0 rfl ?_
      refine r_callSlp (pc := 67) O [.long (h.2 1 4), .int x1, .int t0] (R_B_withStep n (h.2 1 4) x1 t0 h) cw_E_stepWalkers_67 wm_716 rfl (Nat.le_of_ble_eq_true rfl) d_E_stepWalkers_67 rfl (fun v67 => ?_)
      refine r_putL (pc := 70) O pf_c_E_22_1 d_E_stepWalkers_70 ?_
      refine r_aload_n (pc := 73) O d_E_stepWalkers_73 1 rfl ?_
      refine r_aload_n (pc := 74) O d_E_stepWalkers_74 1 rfl ?_
      refine r_getL (x := v67) (pc := 75) O gf_c_E_22_1 d_E_stepWalkers_75 rfl ?_
      refine r_iload_n (pc := 78) O d_E_stepWalkers_78 3 rfl ?_
      refine r_aload_n (pc := 79) O d_E_stepWalkers_79 1 rfl ?_
      refine r_getR (pc := 80) O gf_c_E_12_1 d_E_stepWalkers_80 ?_
      refine r_getR (pc := 83) O gf_c_E_205_2 d_E_stepWalkers_83 ?_
      refine r_iload_n (pc := 86) O d_E_stepWalkers_86 2 rfl ?_
      refine r_iconst (pc := 87) O d_E_stepWalkers_87 ic_3 ?_
      refine r_imul (pc := 88) O d_E_stepWalkers_88 ?_
      refine r_iload (pc := 89) O d_E_stepWalkers_89 0 rfl ?_
      refine r_iadd (pc := 91) O d_E_stepWalkers_91 ?_
      refine r_iald (x := (h.1 18 (ix ((x1 * 3) + t0)))) (pc := 92) O rfl d_E_stepWalkers_92 rfl ?_
      refine r_callSlp (pc := 93) O [.long v67, .int x2, .int (h.1 18 (ix ((x1 * 3) + t0)))] (R_B_withPlace n v67 x2 (h.1 18 (ix ((x1 * 3) + t0))) (pL h 1 4 v67)) cw_E_stepWalkers_93 wm_288 rfl (Nat.le_of_ble_eq_true rfl) d_E_stepWalkers_93 rfl (fun v93 => ?_)
      refine r_putL (pc := 96) O pf_c_E_22_1 d_E_stepWalkers_96 ?_
      refine r_iinc (lv' := [(1, .int (x1 + 1)), (4, .int t0), (0, .ref 1), (2, .int x2)]) (pc := 99) O d_E_stepWalkers_99 2 rfl (congrArg (HAdd.hAdd _) ic_1) (by decide) rfl ?_
      refine r_goto (pc := 102) O d_E_stepWalkers_102 (tgt := 2) (by decide) ?_
      exact r_lv [2, 0] rfl (hrec2 ((x1 + 1), (pL (pL h 1 4 v67) 1 4 v93)))
    refine r_iload_n (pc := 2) O d_E_stepWalkers_2 1 rfl ?_
    refine r_aload_n (pc := 3) O d_E_stepWalkers_3 0 rfl ?_
    refine r_getR (pc := 4) O gf_c_E_12_1 d_E_stepWalkers_4 ?_
    refine r_getI (x := (qv1.1 2 16)) (pc := 7) O gf_c_E_193_2 d_E_stepWalkers_7 rfl ?_
    refine r_icmp_ge (tgt := 105) (pc := 10) O d_E_stepWalkers_10 (by decide) (fun q10 => ?_) (fun q10 => ?_)
    · exact r_vret (pc := 105) O rfl d_E_stepWalkers_105
    · refine r_aload_n (pc := 13) O d_E_stepWalkers_13 0 rfl ?_
      refine r_getR (pc := 14) O gf_c_E_12_1 d_E_stepWalkers_14 ?_
      refine r_getR (pc := 17) O gf_c_E_196_2 d_E_stepWalkers_17 ?_
      refine r_iload_n (pc := 20) O d_E_stepWalkers_20 1 rfl ?_
      refine r_iald (x := (qv1.1 17 (ix qv0))) (pc := 21) O rfl d_E_stepWalkers_21 rfl ?_
      refine r_istore_n (lv' := [(2, .int (qv1.1 17 (ix qv0))), (0, .ref 1), (1, .int qv0)]) (pc := 22) O d_E_stepWalkers_22 rfl (by decide) rfl ?_
      refine r_aload_n (pc := 23) O d_E_stepWalkers_23 1 rfl ?_
      refine r_getL (x := (qv1.2 1 4)) (pc := 24) O gf_c_E_22_1 d_E_stepWalkers_24 rfl ?_
      refine r_iload_n (pc := 27) O d_E_stepWalkers_27 0 rfl ?_
      refine r_callSip (pc := 28) O [.long (qv1.2 1 4), .int (qv1.1 17 (ix qv0))] (R_B_placeOf n (qv1.2 1 4) (qv1.1 17 (ix qv0)) qv1) cw_E_stepWalkers_28 wm_622 rfl (Nat.le_of_ble_eq_true rfl) d_E_stepWalkers_28 rfl (fun v28 => ?_)
      refine r_bipush (pc := 31) O d_E_stepWalkers_31 bc_6 ?_
      refine r_icmp_ge (tgt := 99) (pc := 33) O d_E_stepWalkers_33 (by decide) (fun q33 => ?_) (fun q33 => ?_)
      · refine r_iinc (lv' := [(1, .int (qv0 + 1)), (2, .int (qv1.1 17 (ix qv0))), (0, .ref 1)]) (pc := 99) O d_E_stepWalkers_99 2 rfl (congrArg (HAdd.hAdd _) ic_1) (by decide) rfl ?_
        refine r_goto (pc := 102) O d_E_stepWalkers_102 (tgt := 2) (by decide) ?_
        exact r_lv [2, 0] rfl (hrec2 ((qv0 + 1), qv1))
      · refine r_aload_n (pc := 36) O d_E_stepWalkers_36 1 rfl ?_
        refine r_getL (x := (qv1.2 1 4)) (pc := 37) O gf_c_E_22_1 d_E_stepWalkers_37 rfl ?_
        refine r_iload_n (pc := 40) O d_E_stepWalkers_40 2 rfl ?_
        refine r_callSip (pc := 41) O [.long (qv1.2 1 4), .int qv0] (R_B_stepOf n (qv1.2 1 4) qv0 qv1) cw_E_stepWalkers_41 wm_713 rfl (Nat.le_of_ble_eq_true rfl) d_E_stepWalkers_41 rfl (fun v41 => ?_)
        refine r_istore_n (lv' := [(3, .int v41), (2, .int (qv1.1 17 (ix qv0))), (0, .ref 1), (1, .int qv0)]) (pc := 44) O d_E_stepWalkers_44 rfl (by decide) rfl ?_
        refine r_iload_n (pc := 45) O d_E_stepWalkers_45 0 rfl ?_
        refine r_iconst (pc := 46) O d_E_stepWalkers_46 ic_2 ?_
        refine r_icmp_ge (tgt := 56) (pc := 47) O d_E_stepWalkers_47 (by decide) (fun q47 => ?_) (fun q47 => ?_)
        · refine r_iconst (pc := 56) O d_E_stepWalkers_56 ic_0 ?_
          exact r_lv [2, 3, 1] rfl (hK57 qv0 (qv1.1 17 (ix qv0)) 0 qv1)
        · refine r_iload_n (pc := 50) O d_E_stepWalkers_50 0 rfl ?_
          refine r_iconst (pc := 51) O d_E_stepWalkers_51 ic_1 ?_
          refine r_iadd (pc := 52) O d_E_stepWalkers_52 ?_
          refine r_goto (pc := 53) O d_E_stepWalkers_53 (tgt := 57) (by decide) ?_
          exact r_lv [2, 3, 1] rfl (hK57 qv0 (qv1.1 17 (ix qv0)) (v41 + 1) qv1)
  refine r_iconst (pc := 0) O d_E_stepWalkers_0 ic_0 ?_
  refine r_istore_n (lv' := [(1, .int 0), (0, .ref 1)]) (pc := 1) O d_E_stepWalkers_1 rfl (by decide) rfl ?_
  exact r_lv [1, 0] rfl (hL2 (0, h))
def J_B_countOf (n : Nat) (p0 : Int64) (p2 : Int32) (h : sHp) : Option Int32 :=
  some ((Int64.toInt32 (jLushr p0 (46 + (4 * p2)))) &&& 15)
set_option maxRecDepth 20000 in
set_option maxHeartbeats 4000000 in
theorem R_B_countOf (n : Nat) (p0 : Int64) (p2 : Int32) (h : sHp) : sM Zc (sPi h) y_B_countOf prog_3_method_12_code 3 (some .int) rm_B_countOf [.long p0, .int p2] h (J_B_countOf n p0 p2 h) := by
  refine sM_of (own := "StoryStates$Bits") rfl (by decide) (Nat.le_of_ble_eq_true rfl) (fun M V O => ?_)
  unfold J_B_countOf
  refine r_lv (lv' := [(0, .long p0), (2, .int p2)]) [0, 1] rfl ?_
  refine r_lload_n (pc := 0) O d_B_countOf_0 0 rfl ?_
  refine r_bipush (pc := 1) O d_B_countOf_1 bc_46 ?_
  refine r_iconst (pc := 3) O d_B_countOf_3 ic_4 ?_
  refine r_iload_n (pc := 4) O d_B_countOf_4 1 rfl ?_
  refine r_imul (pc := 5) O d_B_countOf_5 ?_
  refine r_iadd (pc := 6) O d_B_countOf_6 ?_
  refine r_lushr (pc := 7) O d_B_countOf_7 ?_
  refine r_l2i (pc := 8) O d_B_countOf_8 ?_
  refine r_bipush (pc := 9) O d_B_countOf_9 bc_15 ?_
  refine r_iand (pc := 11) O d_B_countOf_11 ?_
  exact r_iret (pc := 12) O rfl d_B_countOf_12
def J_E_runsOut (n : Nat) (p1 : Int32) (h : sHp) : Option (Int32 × sHp) :=
  (J_B_countOf n (h.2 1 4) p1 h).bind fun v5 =>
  if v5 = 0 then (some (0, h)) else ((J_B_withCount n (h.2 1 4) p1 (v5 - 1) h).bind fun v24 =>
  if v5 = 1 then (some (1, (pL h 1 4 v24))) else (some (0, (pL h 1 4 v24))))
set_option maxRecDepth 20000 in
set_option maxHeartbeats 4000000 in
theorem R_E_runsOut (n : Nat) (p1 : Int32) (h : sHp) : sM Zc sOi y_E_runsOut prog_6_method_16_code 3 (some .boolean) rm_E_runsOut [.ref 1, .int p1] h (J_E_runsOut n p1 h) := by
  refine sM_of (own := "StoryStates$Engine") rfl (by decide) (Nat.le_of_ble_eq_true rfl) (fun M V O => ?_)
  unfold J_E_runsOut
  refine r_lv (lv' := [(0, .ref 1), (1, .int p1)]) [0, 1] rfl ?_
  refine r_aload_n (pc := 0) O d_E_runsOut_0 0 rfl ?_
  refine r_getL (x := (h.2 1 4)) (pc := 1) O gf_c_E_22_1 d_E_runsOut_1 rfl ?_
  refine r_iload_n (pc := 4) O d_E_runsOut_4 1 rfl ?_
  refine r_callSip (pc := 5) O [.long (h.2 1 4), .int p1] (R_B_countOf n (h.2 1 4) p1 h) cw_E_runsOut_5 wm_723 rfl (Nat.le_of_ble_eq_true rfl) d_E_runsOut_5 rfl (fun v5 => ?_)
  refine r_istore_n (lv' := [(2, .int v5), (0, .ref 1), (1, .int p1)]) (pc := 8) O d_E_runsOut_8 rfl (by decide) rfl ?_
  refine r_iload_n (pc := 9) O d_E_runsOut_9 0 rfl ?_
  refine r_if_ne (tgt := 15) (pc := 10) O d_E_runsOut_10 (by decide) (fun q10 => ?_) (fun q10 => ?_)
  · refine r_aload_n (pc := 15) O d_E_runsOut_15 1 rfl ?_
    refine r_aload_n (pc := 16) O d_E_runsOut_16 1 rfl ?_
    refine r_getL (x := (h.2 1 4)) (pc := 17) O gf_c_E_22_1 d_E_runsOut_17 rfl ?_
    refine r_iload_n (pc := 20) O d_E_runsOut_20 2 rfl ?_
    refine r_iload_n (pc := 21) O d_E_runsOut_21 0 rfl ?_
    refine r_iconst (pc := 22) O d_E_runsOut_22 ic_1 ?_
    refine r_isub (pc := 23) O d_E_runsOut_23 ?_
    refine r_callSlp (pc := 24) O [.long (h.2 1 4), .int p1, .int (v5 - 1)] (R_B_withCount n (h.2 1 4) p1 (v5 - 1) h) cw_E_runsOut_24 wm_301 rfl (Nat.le_of_ble_eq_true rfl) d_E_runsOut_24 rfl (fun v24 => ?_)
    refine r_putL (pc := 27) O pf_c_E_22_1 d_E_runsOut_27 ?_
    refine r_iload_n (pc := 30) O d_E_runsOut_30 0 rfl ?_
    refine r_iconst (pc := 31) O d_E_runsOut_31 ic_1 ?_
    refine r_icmp_ne (tgt := 39) (pc := 32) O d_E_runsOut_32 (by decide) (fun q32 => ?_) (fun q32 => ?_)
    · refine r_iconst (pc := 39) O d_E_runsOut_39 ic_0 ?_
      exact r_zret (pc := 40) O rfl d_E_runsOut_40 nb_0
    · refine r_iconst (pc := 35) O d_E_runsOut_35 ic_1 ?_
      refine r_goto (pc := 36) O d_E_runsOut_36 (tgt := 40) (by decide) ?_
      exact r_zret (pc := 40) O rfl d_E_runsOut_40 nb_1
  · refine r_iconst (pc := 13) O d_E_runsOut_13 ic_0 ?_
    exact r_zret (pc := 14) O rfl d_E_runsOut_14 nb_0
def J_E_putInto (n : Nat) (p1 : Int32) (p2 : Int32) (h : sHp) : Option (Int32 × sHp) :=
  (J_B_placeOf n (h.2 1 4) p1 h).bind fun v5 =>
  if v5 = 6 then (sGd (sIn p2 6) (if ((h.1 13 (ix p2)) &&& 2) = 0 then (some (0, h)) else ((J_B_isOpen n (h.2 1 4) p2 h).bind fun v32 =>
  if v32 = 0 then (some (0, h)) else ((J_B_isSeen n (h.2 1 4) p2 h).bind fun v43 =>
  if v43 = 0 then (some (0, h)) else ((J_B_isPartOf n (h.2 1 4) p2 p1 h).bind fun v55 =>
  if v55 = 0 then ((J_B_withPlace n (h.2 1 4) p1 (7 + p2) h).bind fun v73 =>
  some (1, (pL h 1 4 v73))) else (some (0, h))))))) else (some (0, h))
set_option maxRecDepth 20000 in
set_option maxHeartbeats 4000000 in
theorem R_E_putInto (n : Nat) (p1 : Int32) (p2 : Int32) (h : sHp) : sM Zc sOi y_E_putInto prog_6_method_14_code 3 (some .boolean) rm_E_putInto [.ref 1, .int p1, .int p2] h (J_E_putInto n p1 p2 h) := by
  refine sM_of (own := "StoryStates$Engine") rfl (by decide) (Nat.le_of_ble_eq_true rfl) (fun M V O => ?_)
  unfold J_E_putInto
  refine r_lv (lv' := [(0, .ref 1), (1, .int p1), (2, .int p2)]) [0, 1, 2] rfl ?_
  refine r_aload_n (pc := 0) O d_E_putInto_0 0 rfl ?_
  refine r_getL (x := (h.2 1 4)) (pc := 1) O gf_c_E_22_1 d_E_putInto_1 rfl ?_
  refine r_iload_n (pc := 4) O d_E_putInto_4 1 rfl ?_
  refine r_callSip (pc := 5) O [.long (h.2 1 4), .int p1] (R_B_placeOf n (h.2 1 4) p1 h) cw_E_putInto_5 wm_622 rfl (Nat.le_of_ble_eq_true rfl) d_E_putInto_5 rfl (fun v5 => ?_)
  refine r_bipush (pc := 8) O d_E_putInto_8 bc_6 ?_
  refine r_icmp_ne (tgt := 61) (pc := 10) O d_E_putInto_10 (by decide) (fun q10 => ?_) (fun q10 => ?_)
  · refine r_iconst (pc := 61) O d_E_putInto_61 ic_0 ?_
    exact r_zret (pc := 62) O rfl d_E_putInto_62 nb_0
  · refine r_aload_n (pc := 13) O d_E_putInto_13 0 rfl ?_
    refine r_getR (pc := 14) O gf_c_E_12_1 d_E_putInto_14 ?_
    refine r_getR (pc := 17) O gf_c_E_192_2 d_E_putInto_17 ?_
    refine r_iload_n (pc := 20) O d_E_putInto_20 2 rfl ?_
    refine r_iald (x := (h.1 13 (ix p2))) (pc := 21) O rfl d_E_putInto_21 rfl ?_
    refine r_iconst (pc := 22) O d_E_putInto_22 ic_2 ?_
    refine r_iand (pc := 23) O d_E_putInto_23 ?_
    refine r_if_eq (tgt := 61) (pc := 24) O d_E_putInto_24 (by decide) (fun q24 => ?_) (fun q24 => ?_)
    · refine r_iconst (pc := 61) O d_E_putInto_61 ic_0 ?_
      exact r_zret (pc := 62) O rfl d_E_putInto_62 nb_0
    · refine r_aload_n (pc := 27) O d_E_putInto_27 0 rfl ?_
      refine r_getL (x := (h.2 1 4)) (pc := 28) O gf_c_E_22_1 d_E_putInto_28 rfl ?_
      refine r_iload_n (pc := 31) O d_E_putInto_31 2 rfl ?_
      refine r_callSip (pc := 32) O [.long (h.2 1 4), .int p2] (R_B_isOpen n (h.2 1 4) p2 h) cw_E_putInto_32 wm_625 rfl (Nat.le_of_ble_eq_true rfl) d_E_putInto_32 rfl (fun v32 => ?_)
      refine r_if_eq (tgt := 61) (pc := 35) O d_E_putInto_35 (by decide) (fun q35 => ?_) (fun q35 => ?_)
      · refine r_iconst (pc := 61) O d_E_putInto_61 ic_0 ?_
        exact r_zret (pc := 62) O rfl d_E_putInto_62 nb_0
      · refine r_aload_n (pc := 38) O d_E_putInto_38 0 rfl ?_
        refine r_getL (x := (h.2 1 4)) (pc := 39) O gf_c_E_22_1 d_E_putInto_39 rfl ?_
        refine r_iload_n (pc := 42) O d_E_putInto_42 2 rfl ?_
        refine r_callSip (pc := 43) O [.long (h.2 1 4), .int p2] (R_B_isSeen n (h.2 1 4) p2 h) cw_E_putInto_43 wm_619 rfl (Nat.le_of_ble_eq_true rfl) d_E_putInto_43 rfl (fun v43 => ?_)
        refine r_if_eq (tgt := 61) (pc := 46) O d_E_putInto_46 (by decide) (fun q46 => ?_) (fun q46 => ?_)
        · refine r_iconst (pc := 61) O d_E_putInto_61 ic_0 ?_
          exact r_zret (pc := 62) O rfl d_E_putInto_62 nb_0
        · refine r_aload_n (pc := 49) O d_E_putInto_49 0 rfl ?_
          refine r_getL (x := (h.2 1 4)) (pc := 50) O gf_c_E_22_1 d_E_putInto_50 rfl ?_
          refine r_iload_n (pc := 53) O d_E_putInto_53 2 rfl ?_
          refine r_iload_n (pc := 54) O d_E_putInto_54 1 rfl ?_
          refine r_callSip (pc := 55) O [.long (h.2 1 4), .int p2, .int p1] (R_B_isPartOf n (h.2 1 4) p2 p1 h) cw_E_putInto_55 wm_670 rfl (Nat.le_of_ble_eq_true rfl) d_E_putInto_55 rfl (fun v55 => ?_)
          refine r_if_eq (tgt := 63) (pc := 58) O d_E_putInto_58 (by decide) (fun q58 => ?_) (fun q58 => ?_)
          · refine r_aload_n (pc := 63) O d_E_putInto_63 0 rfl ?_
            refine r_aload_n (pc := 64) O d_E_putInto_64 0 rfl ?_
            refine r_getL (x := (h.2 1 4)) (pc := 65) O gf_c_E_22_1 d_E_putInto_65 rfl ?_
            refine r_iload_n (pc := 68) O d_E_putInto_68 1 rfl ?_
            refine r_bipush (pc := 69) O d_E_putInto_69 bc_7 ?_
            refine r_iload_n (pc := 71) O d_E_putInto_71 2 rfl ?_
            refine r_iadd (pc := 72) O d_E_putInto_72 ?_
            refine r_callSlp (pc := 73) O [.long (h.2 1 4), .int p1, .int (7 + p2)] (R_B_withPlace n (h.2 1 4) p1 (7 + p2) h) cw_E_putInto_73 wm_288 rfl (Nat.le_of_ble_eq_true rfl) d_E_putInto_73 rfl (fun v73 => ?_)
            refine r_putL (pc := 76) O pf_c_E_22_1 d_E_putInto_76 ?_
            refine r_iconst (pc := 79) O d_E_putInto_79 ic_1 ?_
            exact r_zret (pc := 80) O rfl d_E_putInto_80 nb_1
          · refine r_iconst (pc := 61) O d_E_putInto_61 ic_0 ?_
            exact r_zret (pc := 62) O rfl d_E_putInto_62 nb_0
def K_E_turnLid_32 (n : Nat) (p1 : Int32) (p2 : Int32) (t0 : Int32) (t1 : Int32) (h : sHp) : Option (Int32 × sHp) :=
  if t1 = t0 then (some (0, h)) else ((J_B_isSeen n (h.2 1 4) p1 h).bind fun v40 =>
  if v40 = 0 then (some (0, h)) else ((J_B_withOpen n (h.2 1 4) p1 p2 h).bind fun v55 =>
  some (1, (pL h 1 4 v55))))
def J_E_turnLid (n : Nat) (p1 : Int32) (p2 : Int32) (h : sHp) : Option (Int32 × sHp) :=
  sGd (sIn p1 6) (if ((h.1 13 (ix p1)) &&& 2) = 0 then (some (0, h)) else ((J_B_isOpen n (h.2 1 4) p1 h).bind fun v19 =>
  if p2 = 1 then (K_E_turnLid_32 n p1 p2 1 v19 h) else (K_E_turnLid_32 n p1 p2 0 v19 h)))
set_option maxRecDepth 20000 in
set_option maxHeartbeats 4000000 in
theorem R_E_turnLid (n : Nat) (p1 : Int32) (p2 : Int32) (h : sHp) : sM Zc sOi y_E_turnLid prog_6_method_13_code 3 (some .boolean) rm_E_turnLid [.ref 1, .int p1, .int p2] h (J_E_turnLid n p1 p2 h) := by
  refine sM_of (own := "StoryStates$Engine") rfl (by decide) (Nat.le_of_ble_eq_true rfl) (fun M V O => ?_)
  unfold J_E_turnLid
  refine r_lv (lv' := [(0, .ref 1), (1, .int p1), (2, .int p2)]) [0, 1, 2] rfl ?_
  have hK32 : ∀ (t0 : Int32) (t1 : Int32) (h : sHp), sS Zc M V (sEb sOi) 32 [(0, .ref 1), (1, .int p1), (2, .int p2)] [.int t0, .int t1] h (K_E_turnLid_32 n p1 p2 t0 t1 h) := by
    intro t0 t1 h
    unfold K_E_turnLid_32
    refine r_icmp_eq (tgt := 46) (pc := 32) O d_E_turnLid_32 (by decide) (fun q32 => ?_) (fun q32 => ?_)
    · refine r_iconst (pc := 46) O d_E_turnLid_46 ic_0 ?_
      exact r_zret (pc := 47) O rfl d_E_turnLid_47 nb_0
    · refine r_aload_n (pc := 35) O d_E_turnLid_35 0 rfl ?_
      refine r_getL (x := (h.2 1 4)) (pc := 36) O gf_c_E_22_1 d_E_turnLid_36 rfl ?_
      refine r_iload_n (pc := 39) O d_E_turnLid_39 1 rfl ?_
      refine r_callSip (pc := 40) O [.long (h.2 1 4), .int p1] (R_B_isSeen n (h.2 1 4) p1 h) cw_E_turnLid_40 wm_619 rfl (Nat.le_of_ble_eq_true rfl) d_E_turnLid_40 rfl (fun v40 => ?_)
      refine r_if_ne (tgt := 48) (pc := 43) O d_E_turnLid_43 (by decide) (fun q43 => ?_) (fun q43 => ?_)
      · refine r_aload_n (pc := 48) O d_E_turnLid_48 0 rfl ?_
        refine r_aload_n (pc := 49) O d_E_turnLid_49 0 rfl ?_
        refine r_getL (x := (h.2 1 4)) (pc := 50) O gf_c_E_22_1 d_E_turnLid_50 rfl ?_
        refine r_iload_n (pc := 53) O d_E_turnLid_53 1 rfl ?_
        refine r_iload_n (pc := 54) O d_E_turnLid_54 2 rfl ?_
        refine r_callSlp (pc := 55) O [.long (h.2 1 4), .int p1, .int p2] (R_B_withOpen n (h.2 1 4) p1 p2 h) cw_E_turnLid_55 wm_295 rfl (Nat.le_of_ble_eq_true rfl) d_E_turnLid_55 rfl (fun v55 => ?_)
        refine r_putL (pc := 58) O pf_c_E_22_1 d_E_turnLid_58 ?_
        refine r_iconst (pc := 61) O d_E_turnLid_61 ic_1 ?_
        exact r_zret (pc := 62) O rfl d_E_turnLid_62 nb_1
      · refine r_iconst (pc := 46) O d_E_turnLid_46 ic_0 ?_
        exact r_zret (pc := 47) O rfl d_E_turnLid_47 nb_0
  refine r_aload_n (pc := 0) O d_E_turnLid_0 0 rfl ?_
  refine r_getR (pc := 1) O gf_c_E_12_1 d_E_turnLid_1 ?_
  refine r_getR (pc := 4) O gf_c_E_192_2 d_E_turnLid_4 ?_
  refine r_iload_n (pc := 7) O d_E_turnLid_7 1 rfl ?_
  refine r_iald (x := (h.1 13 (ix p1))) (pc := 8) O rfl d_E_turnLid_8 rfl ?_
  refine r_iconst (pc := 9) O d_E_turnLid_9 ic_2 ?_
  refine r_iand (pc := 10) O d_E_turnLid_10 ?_
  refine r_if_eq (tgt := 46) (pc := 11) O d_E_turnLid_11 (by decide) (fun q11 => ?_) (fun q11 => ?_)
  · refine r_iconst (pc := 46) O d_E_turnLid_46 ic_0 ?_
    exact r_zret (pc := 47) O rfl d_E_turnLid_47 nb_0
  · refine r_aload_n (pc := 14) O d_E_turnLid_14 0 rfl ?_
    refine r_getL (x := (h.2 1 4)) (pc := 15) O gf_c_E_22_1 d_E_turnLid_15 rfl ?_
    refine r_iload_n (pc := 18) O d_E_turnLid_18 1 rfl ?_
    refine r_callSip (pc := 19) O [.long (h.2 1 4), .int p1] (R_B_isOpen n (h.2 1 4) p1 h) cw_E_turnLid_19 wm_625 rfl (Nat.le_of_ble_eq_true rfl) d_E_turnLid_19 rfl (fun v19 => ?_)
    refine r_iload_n (pc := 22) O d_E_turnLid_22 2 rfl ?_
    refine r_iconst (pc := 23) O d_E_turnLid_23 ic_1 ?_
    refine r_icmp_ne (tgt := 31) (pc := 24) O d_E_turnLid_24 (by decide) (fun q24 => ?_) (fun q24 => ?_)
    · refine r_iconst (pc := 31) O d_E_turnLid_31 ic_0 ?_
      exact (hK32 0 v19 h)
    · refine r_iconst (pc := 27) O d_E_turnLid_27 ic_1 ?_
      refine r_goto (pc := 28) O d_E_turnLid_28 (tgt := 32) (by decide) ?_
      exact (hK32 1 v19 h)
def J_E_putDown (n : Nat) (p1 : Int32) (h : sHp) : Option (Int32 × sHp) :=
  (J_B_placeOf n (h.2 1 4) p1 h).bind fun v5 =>
  if v5 = 6 then ((J_B_roomOf n (h.2 1 4) h).bind fun v25 =>
  (J_B_withPlace n (h.2 1 4) p1 v25 h).bind fun v28 =>
  some (1, (pL h 1 4 v28))) else (some (0, h))
set_option maxRecDepth 20000 in
set_option maxHeartbeats 4000000 in
theorem R_E_putDown (n : Nat) (p1 : Int32) (h : sHp) : sM Zc sOi y_E_putDown prog_6_method_12_code 2 (some .boolean) rm_E_putDown [.ref 1, .int p1] h (J_E_putDown n p1 h) := by
  refine sM_of (own := "StoryStates$Engine") rfl (by decide) (Nat.le_of_ble_eq_true rfl) (fun M V O => ?_)
  unfold J_E_putDown
  refine r_lv (lv' := [(0, .ref 1), (1, .int p1)]) [0, 1] rfl ?_
  refine r_aload_n (pc := 0) O d_E_putDown_0 0 rfl ?_
  refine r_getL (x := (h.2 1 4)) (pc := 1) O gf_c_E_22_1 d_E_putDown_1 rfl ?_
  refine r_iload_n (pc := 4) O d_E_putDown_4 1 rfl ?_
  refine r_callSip (pc := 5) O [.long (h.2 1 4), .int p1] (R_B_placeOf n (h.2 1 4) p1 h) cw_E_putDown_5 wm_622 rfl (Nat.le_of_ble_eq_true rfl) d_E_putDown_5 rfl (fun v5 => ?_)
  refine r_bipush (pc := 8) O d_E_putDown_8 bc_6 ?_
  refine r_icmp_eq (tgt := 15) (pc := 10) O d_E_putDown_10 (by decide) (fun q10 => ?_) (fun q10 => ?_)
  · refine r_aload_n (pc := 15) O d_E_putDown_15 0 rfl ?_
    refine r_aload_n (pc := 16) O d_E_putDown_16 0 rfl ?_
    refine r_getL (x := (h.2 1 4)) (pc := 17) O gf_c_E_22_1 d_E_putDown_17 rfl ?_
    refine r_iload_n (pc := 20) O d_E_putDown_20 1 rfl ?_
    refine r_aload_n (pc := 21) O d_E_putDown_21 0 rfl ?_
    refine r_getL (x := (h.2 1 4)) (pc := 22) O gf_c_E_22_1 d_E_putDown_22 rfl ?_
    refine r_callSip (pc := 25) O [.long (h.2 1 4)] (R_B_roomOf n (h.2 1 4) h) cw_E_putDown_25 wm_628 rfl (Nat.le_of_ble_eq_true rfl) d_E_putDown_25 rfl (fun v25 => ?_)
    refine r_callSlp (pc := 28) O [.long (h.2 1 4), .int p1, .int v25] (R_B_withPlace n (h.2 1 4) p1 v25 h) cw_E_putDown_28 wm_288 rfl (Nat.le_of_ble_eq_true rfl) d_E_putDown_28 rfl (fun v28 => ?_)
    refine r_putL (pc := 31) O pf_c_E_22_1 d_E_putDown_31 ?_
    refine r_iconst (pc := 34) O d_E_putDown_34 ic_1 ?_
    exact r_zret (pc := 35) O rfl d_E_putDown_35 nb_1
  · refine r_iconst (pc := 13) O d_E_putDown_13 ic_0 ?_
    exact r_zret (pc := 14) O rfl d_E_putDown_14 nb_0
def J_E_takeUp (n : Nat) (p1 : Int32) (h : sHp) : Option (Int32 × sHp) :=
  sGd (sIn p1 6) (if ((h.1 13 (ix p1)) &&& 1) = 0 then (some (0, h)) else ((J_B_placeOf n (h.2 1 4) p1 h).bind fun v19 =>
  if v19 = 6 then (some (0, h)) else ((J_B_isSeen n (h.2 1 4) p1 h).bind fun v32 =>
  if v32 = 0 then (some (0, h)) else ((J_B_withPlace n (h.2 1 4) p1 6 h).bind fun v48 =>
  some (1, (pL h 1 4 v48))))))
set_option maxRecDepth 20000 in
set_option maxHeartbeats 4000000 in
theorem R_E_takeUp (n : Nat) (p1 : Int32) (h : sHp) : sM Zc sOi y_E_takeUp prog_6_method_11_code 2 (some .boolean) rm_E_takeUp [.ref 1, .int p1] h (J_E_takeUp n p1 h) := by
  refine sM_of (own := "StoryStates$Engine") rfl (by decide) (Nat.le_of_ble_eq_true rfl) (fun M V O => ?_)
  unfold J_E_takeUp
  refine r_lv (lv' := [(0, .ref 1), (1, .int p1)]) [0, 1] rfl ?_
  refine r_aload_n (pc := 0) O d_E_takeUp_0 0 rfl ?_
  refine r_getR (pc := 1) O gf_c_E_12_1 d_E_takeUp_1 ?_
  refine r_getR (pc := 4) O gf_c_E_192_2 d_E_takeUp_4 ?_
  refine r_iload_n (pc := 7) O d_E_takeUp_7 1 rfl ?_
  refine r_iald (x := (h.1 13 (ix p1))) (pc := 8) O rfl d_E_takeUp_8 rfl ?_
  refine r_iconst (pc := 9) O d_E_takeUp_9 ic_1 ?_
  refine r_iand (pc := 10) O d_E_takeUp_10 ?_
  refine r_if_eq (tgt := 38) (pc := 11) O d_E_takeUp_11 (by decide) (fun q11 => ?_) (fun q11 => ?_)
  · refine r_iconst (pc := 38) O d_E_takeUp_38 ic_0 ?_
    exact r_zret (pc := 39) O rfl d_E_takeUp_39 nb_0
  · refine r_aload_n (pc := 14) O d_E_takeUp_14 0 rfl ?_
    refine r_getL (x := (h.2 1 4)) (pc := 15) O gf_c_E_22_1 d_E_takeUp_15 rfl ?_
    refine r_iload_n (pc := 18) O d_E_takeUp_18 1 rfl ?_
    refine r_callSip (pc := 19) O [.long (h.2 1 4), .int p1] (R_B_placeOf n (h.2 1 4) p1 h) cw_E_takeUp_19 wm_622 rfl (Nat.le_of_ble_eq_true rfl) d_E_takeUp_19 rfl (fun v19 => ?_)
    refine r_bipush (pc := 22) O d_E_takeUp_22 bc_6 ?_
    refine r_icmp_eq (tgt := 38) (pc := 24) O d_E_takeUp_24 (by decide) (fun q24 => ?_) (fun q24 => ?_)
    · refine r_iconst (pc := 38) O d_E_takeUp_38 ic_0 ?_
      exact r_zret (pc := 39) O rfl d_E_takeUp_39 nb_0
    · refine r_aload_n (pc := 27) O d_E_takeUp_27 0 rfl ?_
      refine r_getL (x := (h.2 1 4)) (pc := 28) O gf_c_E_22_1 d_E_takeUp_28 rfl ?_
      refine r_iload_n (pc := 31) O d_E_takeUp_31 1 rfl ?_
      refine r_callSip (pc := 32) O [.long (h.2 1 4), .int p1] (R_B_isSeen n (h.2 1 4) p1 h) cw_E_takeUp_32 wm_619 rfl (Nat.le_of_ble_eq_true rfl) d_E_takeUp_32 rfl (fun v32 => ?_)
      refine r_if_ne (tgt := 40) (pc := 35) O d_E_takeUp_35 (by decide) (fun q35 => ?_) (fun q35 => ?_)
      · refine r_aload_n (pc := 40) O d_E_takeUp_40 0 rfl ?_
        refine r_aload_n (pc := 41) O d_E_takeUp_41 0 rfl ?_
        refine r_getL (x := (h.2 1 4)) (pc := 42) O gf_c_E_22_1 d_E_takeUp_42 rfl ?_
        refine r_iload_n (pc := 45) O d_E_takeUp_45 1 rfl ?_
        refine r_bipush (pc := 46) O d_E_takeUp_46 bc_6 ?_
        refine r_callSlp (pc := 48) O [.long (h.2 1 4), .int p1, .int 6] (R_B_withPlace n (h.2 1 4) p1 6 h) cw_E_takeUp_48 wm_288 rfl (Nat.le_of_ble_eq_true rfl) d_E_takeUp_48 rfl (fun v48 => ?_)
        refine r_putL (pc := 51) O pf_c_E_22_1 d_E_takeUp_51 ?_
        refine r_iconst (pc := 54) O d_E_takeUp_54 ic_1 ?_
        exact r_zret (pc := 55) O rfl d_E_takeUp_55 nb_1
      · refine r_iconst (pc := 38) O d_E_takeUp_38 ic_0 ?_
        exact r_zret (pc := 39) O rfl d_E_takeUp_39 nb_0
def K_E_goThrough_53 (n : Nat) (p1 : Int32) (x2 : Int32) (h : sHp) : Option (Int32 × sHp) :=
  sGd (sIn x2 24) ((J_B_withRoom n (h.2 1 4) (h.1 10 (ix x2)) h).bind fun v67 =>
  some (1, (pL h 1 4 v67)))
def J_E_goThrough (n : Nat) (p1 : Int32) (h : sHp) : Option (Int32 × sHp) :=
  (J_B_roomOf n (h.2 1 4) h).bind fun v4 =>
  sGd (sIn ((v4 * 4) + p1) 24) (sGd (sIn ((v4 * 4) + p1) 24) (if (h.1 10 (ix ((v4 * 4) + p1))) = (-1) then (some (0, h)) else (if (h.1 11 (ix ((v4 * 4) + p1))) = (-1) then (K_E_goThrough_53 n p1 ((v4 * 4) + p1) h) else ((J_B_isOpen n (h.2 1 4) (h.1 11 (ix ((v4 * 4) + p1))) h).bind fun v45 =>
  if v45 = 0 then (some (0, h)) else (K_E_goThrough_53 n p1 ((v4 * 4) + p1) h)))))
set_option maxRecDepth 20000 in
set_option maxHeartbeats 4000000 in
theorem R_E_goThrough (n : Nat) (p1 : Int32) (h : sHp) : sM Zc sOi y_E_goThrough prog_6_method_10_code 4 (some .boolean) rm_E_goThrough [.ref 1, .int p1] h (J_E_goThrough n p1 h) := by
  refine sM_of (own := "StoryStates$Engine") rfl (by decide) (Nat.le_of_ble_eq_true rfl) (fun M V O => ?_)
  unfold J_E_goThrough
  refine r_lv (lv' := [(0, .ref 1), (1, .int p1)]) [0, 1] rfl ?_
  have hK53 : ∀ (x2 : Int32) (h : sHp), sS Zc M V (sEb sOi) 53 [(0, .ref 1), (2, .int x2)] [] h (K_E_goThrough_53 n p1 x2 h) := by
    intro x2 h
    unfold K_E_goThrough_53
    refine r_aload_n (pc := 53) O d_E_goThrough_53 0 rfl ?_
    refine r_aload_n (pc := 54) O d_E_goThrough_54 0 rfl ?_
    refine r_getL (x := (h.2 1 4)) (pc := 55) O gf_c_E_22_1 d_E_goThrough_55 rfl ?_
    refine r_aload_n (pc := 58) O d_E_goThrough_58 0 rfl ?_
    refine r_getR (pc := 59) O gf_c_E_12_1 d_E_goThrough_59 ?_
    refine r_getR (pc := 62) O gf_c_E_189_2 d_E_goThrough_62 ?_
    refine r_iload_n (pc := 65) O d_E_goThrough_65 1 rfl ?_
    refine r_iald (x := (h.1 10 (ix x2))) (pc := 66) O rfl d_E_goThrough_66 rfl ?_
    refine r_callSlp (pc := 67) O [.long (h.2 1 4), .int (h.1 10 (ix x2))] (R_B_withRoom n (h.2 1 4) (h.1 10 (ix x2)) h) cw_E_goThrough_67 wm_667 rfl (Nat.le_of_ble_eq_true rfl) d_E_goThrough_67 rfl (fun v67 => ?_)
    refine r_putL (pc := 70) O pf_c_E_22_1 d_E_goThrough_70 ?_
    refine r_iconst (pc := 73) O d_E_goThrough_73 ic_1 ?_
    exact r_zret (pc := 74) O rfl d_E_goThrough_74 nb_1
  refine r_aload_n (pc := 0) O d_E_goThrough_0 0 rfl ?_
  refine r_getL (x := (h.2 1 4)) (pc := 1) O gf_c_E_22_1 d_E_goThrough_1 rfl ?_
  refine r_callSip (pc := 4) O [.long (h.2 1 4)] (R_B_roomOf n (h.2 1 4) h) cw_E_goThrough_4 wm_628 rfl (Nat.le_of_ble_eq_true rfl) d_E_goThrough_4 rfl (fun v4 => ?_)
  refine r_iconst (pc := 7) O d_E_goThrough_7 ic_4 ?_
  refine r_imul (pc := 8) O d_E_goThrough_8 ?_
  refine r_iload_n (pc := 9) O d_E_goThrough_9 1 rfl ?_
  refine r_iadd (pc := 10) O d_E_goThrough_10 ?_
  refine r_istore_n (lv' := [(2, .int ((v4 * 4) + p1)), (0, .ref 1), (1, .int p1)]) (pc := 11) O d_E_goThrough_11 rfl (by decide) rfl ?_
  refine r_aload_n (pc := 12) O d_E_goThrough_12 1 rfl ?_
  refine r_getR (pc := 13) O gf_c_E_12_1 d_E_goThrough_13 ?_
  refine r_getR (pc := 16) O gf_c_E_186_2 d_E_goThrough_16 ?_
  refine r_iload_n (pc := 19) O d_E_goThrough_19 0 rfl ?_
  refine r_iald (x := (h.1 11 (ix ((v4 * 4) + p1)))) (pc := 20) O rfl d_E_goThrough_20 rfl ?_
  refine r_istore_n (lv' := [(3, .int (h.1 11 (ix ((v4 * 4) + p1)))), (2, .int ((v4 * 4) + p1)), (0, .ref 1), (1, .int p1)]) (pc := 21) O d_E_goThrough_21 rfl (by decide) rfl ?_
  refine r_aload_n (pc := 22) O d_E_goThrough_22 2 rfl ?_
  refine r_getR (pc := 23) O gf_c_E_12_1 d_E_goThrough_23 ?_
  refine r_getR (pc := 26) O gf_c_E_189_2 d_E_goThrough_26 ?_
  refine r_iload_n (pc := 29) O d_E_goThrough_29 1 rfl ?_
  refine r_iald (x := (h.1 10 (ix ((v4 * 4) + p1)))) (pc := 30) O rfl d_E_goThrough_30 rfl ?_
  refine r_iconst (pc := 31) O d_E_goThrough_31 ic_m1 ?_
  refine r_icmp_eq (tgt := 51) (pc := 32) O d_E_goThrough_32 (by decide) (fun q32 => ?_) (fun q32 => ?_)
  · refine r_iconst (pc := 51) O d_E_goThrough_51 ic_0 ?_
    exact r_zret (pc := 52) O rfl d_E_goThrough_52 nb_0
  · refine r_iload_n (pc := 35) O d_E_goThrough_35 0 rfl ?_
    refine r_iconst (pc := 36) O d_E_goThrough_36 ic_m1 ?_
    refine r_icmp_eq (tgt := 53) (pc := 37) O d_E_goThrough_37 (by decide) (fun q37 => ?_) (fun q37 => ?_)
    · exact r_lv [2, 1] rfl (hK53 ((v4 * 4) + p1) h)
    · refine r_aload_n (pc := 40) O d_E_goThrough_40 2 rfl ?_
      refine r_getL (x := (h.2 1 4)) (pc := 41) O gf_c_E_22_1 d_E_goThrough_41 rfl ?_
      refine r_iload_n (pc := 44) O d_E_goThrough_44 0 rfl ?_
      refine r_callSip (pc := 45) O [.long (h.2 1 4), .int (h.1 11 (ix ((v4 * 4) + p1)))] (R_B_isOpen n (h.2 1 4) (h.1 11 (ix ((v4 * 4) + p1))) h) cw_E_goThrough_45 wm_625 rfl (Nat.le_of_ble_eq_true rfl) d_E_goThrough_45 rfl (fun v45 => ?_)
      refine r_if_ne (tgt := 53) (pc := 48) O d_E_goThrough_48 (by decide) (fun q48 => ?_) (fun q48 => ?_)
      · exact r_lv [2, 1] rfl (hK53 ((v4 * 4) + p1) h)
      · refine r_iconst (pc := 51) O d_E_goThrough_51 ic_0 ?_
        exact r_zret (pc := 52) O rfl d_E_goThrough_52 nb_0
def J_E_actWithoutRule (n : Nat) (p1 : Int32) (p2 : Int32) (p3 : Int32) (h : sHp) : Option (Int32 × sHp) :=
  if p1 = 0 then ((J_E_goThrough n p2 h).bind fun v42 =>
  sGd (jB v42.1) (some (v42.1, v42.2))) else (if p1 = 1 then ((J_E_takeUp n p2 h).bind fun v48 =>
  sGd (jB v48.1) (some (v48.1, v48.2))) else (if p1 = 2 then ((J_E_putDown n p2 h).bind fun v54 =>
  sGd (jB v54.1) (some (v54.1, v54.2))) else (if p1 = 3 then ((J_E_turnLid n p2 1 h).bind fun v61 =>
  sGd (jB v61.1) (some (v61.1, v61.2))) else (if p1 = 4 then ((J_E_turnLid n p2 0 h).bind fun v68 =>
  sGd (jB v68.1) (some (v68.1, v68.2))) else (if p1 = 5 then ((J_E_putInto n p2 p3 h).bind fun v75 =>
  sGd (jB v75.1) (some (v75.1, v75.2))) else (if p1 = 6 then (some (1, h)) else (some (0, h))))))))
set_option maxRecDepth 20000 in
set_option maxHeartbeats 4000000 in
theorem R_E_actWithoutRule (n : Nat) (p1 : Int32) (p2 : Int32) (p3 : Int32) (h : sHp) : sM Zc sOi y_E_actWithoutRule prog_6_method_9_code 4 (some .boolean) rm_E_actWithoutRule [.ref 1, .int p1, .int p2, .int p3] h (J_E_actWithoutRule n p1 p2 p3 h) := by
  refine sM_of (own := "StoryStates$Engine") rfl (by decide) (Nat.le_of_ble_eq_true rfl) (fun M V O => ?_)
  unfold J_E_actWithoutRule
  refine r_lv (lv' := [(0, .ref 1), (1, .int p1), (2, .int p2), (3, .int p3)]) [0, 1, 2, 3] rfl ?_
  refine r_iload_n (pc := 0) O d_E_actWithoutRule_0 1 rfl ?_
  refine r_ite (fun q1_0 => ?_) (fun q1_0 => ?_)
  · refine r_tin (tgt := 40) (pc := 1) O d_E_actWithoutRule_1 (by rw [q1_0] <;> decide) (by rw [q1_0] <;> decide) (by rw [q1_0] <;> rfl) (by decide) ?_
    refine r_aload_n (pc := 40) O d_E_actWithoutRule_40 0 rfl ?_
    refine r_iload_n (pc := 41) O d_E_actWithoutRule_41 2 rfl ?_
    refine r_callVi (pc := 42) O [.int p2] rfl rfl (R_E_goThrough n p2 h) cw_E_actWithoutRule_42 wm_690 ws_E_goThrough rfl (Nat.le_of_ble_eq_true rfl) d_E_actWithoutRule_42 rfl (fun v42 => ?_)
    exact r_zretg (pc := 45) O rfl d_E_actWithoutRule_45
  · refine r_ite (fun q1_1 => ?_) (fun q1_1 => ?_)
    · refine r_tin (tgt := 46) (pc := 1) O d_E_actWithoutRule_1 (by rw [q1_1] <;> decide) (by rw [q1_1] <;> decide) (by rw [q1_1] <;> rfl) (by decide) ?_
      refine r_aload_n (pc := 46) O d_E_actWithoutRule_46 0 rfl ?_
      refine r_iload_n (pc := 47) O d_E_actWithoutRule_47 2 rfl ?_
      refine r_callVi (pc := 48) O [.int p2] rfl rfl (R_E_takeUp n p2 h) cw_E_actWithoutRule_48 wm_694 ws_E_takeUp rfl (Nat.le_of_ble_eq_true rfl) d_E_actWithoutRule_48 rfl (fun v48 => ?_)
      exact r_zretg (pc := 51) O rfl d_E_actWithoutRule_51
    · refine r_ite (fun q1_2 => ?_) (fun q1_2 => ?_)
      · refine r_tin (tgt := 52) (pc := 1) O d_E_actWithoutRule_1 (by rw [q1_2] <;> decide) (by rw [q1_2] <;> decide) (by rw [q1_2] <;> rfl) (by decide) ?_
        refine r_aload_n (pc := 52) O d_E_actWithoutRule_52 0 rfl ?_
        refine r_iload_n (pc := 53) O d_E_actWithoutRule_53 2 rfl ?_
        refine r_callVi (pc := 54) O [.int p2] rfl rfl (R_E_putDown n p2 h) cw_E_actWithoutRule_54 wm_698 ws_E_putDown rfl (Nat.le_of_ble_eq_true rfl) d_E_actWithoutRule_54 rfl (fun v54 => ?_)
        exact r_zretg (pc := 57) O rfl d_E_actWithoutRule_57
      · refine r_ite (fun q1_3 => ?_) (fun q1_3 => ?_)
        · refine r_tin (tgt := 58) (pc := 1) O d_E_actWithoutRule_1 (by rw [q1_3] <;> decide) (by rw [q1_3] <;> decide) (by rw [q1_3] <;> rfl) (by decide) ?_
          refine r_aload_n (pc := 58) O d_E_actWithoutRule_58 0 rfl ?_
          refine r_iload_n (pc := 59) O d_E_actWithoutRule_59 2 rfl ?_
          refine r_iconst (pc := 60) O d_E_actWithoutRule_60 ic_1 ?_
          refine r_callVi (pc := 61) O [.int p2, .int 1] rfl rfl (R_E_turnLid n p2 1 h) cw_E_actWithoutRule_61 wm_702 ws_E_turnLid rfl (Nat.le_of_ble_eq_true rfl) d_E_actWithoutRule_61 rfl (fun v61 => ?_)
          exact r_zretg (pc := 64) O rfl d_E_actWithoutRule_64
        · refine r_ite (fun q1_4 => ?_) (fun q1_4 => ?_)
          · refine r_tin (tgt := 65) (pc := 1) O d_E_actWithoutRule_1 (by rw [q1_4] <;> decide) (by rw [q1_4] <;> decide) (by rw [q1_4] <;> rfl) (by decide) ?_
            refine r_aload_n (pc := 65) O d_E_actWithoutRule_65 0 rfl ?_
            refine r_iload_n (pc := 66) O d_E_actWithoutRule_66 2 rfl ?_
            refine r_iconst (pc := 67) O d_E_actWithoutRule_67 ic_0 ?_
            refine r_callVi (pc := 68) O [.int p2, .int 0] rfl rfl (R_E_turnLid n p2 0 h) cw_E_actWithoutRule_68 wm_702 ws_E_turnLid rfl (Nat.le_of_ble_eq_true rfl) d_E_actWithoutRule_68 rfl (fun v68 => ?_)
            exact r_zretg (pc := 71) O rfl d_E_actWithoutRule_71
          · refine r_ite (fun q1_5 => ?_) (fun q1_5 => ?_)
            · refine r_tin (tgt := 72) (pc := 1) O d_E_actWithoutRule_1 (by rw [q1_5] <;> decide) (by rw [q1_5] <;> decide) (by rw [q1_5] <;> rfl) (by decide) ?_
              refine r_aload_n (pc := 72) O d_E_actWithoutRule_72 0 rfl ?_
              refine r_iload_n (pc := 73) O d_E_actWithoutRule_73 2 rfl ?_
              refine r_iload_n (pc := 74) O d_E_actWithoutRule_74 3 rfl ?_
              refine r_callVi (pc := 75) O [.int p2, .int p3] rfl rfl (R_E_putInto n p2 p3 h) cw_E_actWithoutRule_75 wm_706 ws_E_putInto rfl (Nat.le_of_ble_eq_true rfl) d_E_actWithoutRule_75 rfl (fun v75 => ?_)
              exact r_zretg (pc := 78) O rfl d_E_actWithoutRule_78
            · refine r_tout (tgt := 79) (pc := 1) O d_E_actWithoutRule_1 (by have z0 := lv_neT (a := 0) q1_0 (by decide); have z1 := lv_neT (a := 1) q1_1 (by decide); have z2 := lv_neT (a := 2) q1_2 (by decide); have z3 := lv_neT (a := 3) q1_3 (by decide); have z4 := lv_neT (a := 4) q1_4 (by decide); have z5 := lv_neT (a := 5) q1_5 (by decide); omega) (by decide) ?_
              refine r_iload_n (pc := 79) O d_E_actWithoutRule_79 1 rfl ?_
              refine r_bipush (pc := 80) O d_E_actWithoutRule_80 bc_6 ?_
              refine r_icmp_ne (tgt := 89) (pc := 82) O d_E_actWithoutRule_82 (by decide) (fun q82 => ?_) (fun q82 => ?_)
              · refine r_iconst (pc := 89) O d_E_actWithoutRule_89 ic_0 ?_
                exact r_zret (pc := 90) O rfl d_E_actWithoutRule_90 nb_0
              · refine r_iconst (pc := 85) O d_E_actWithoutRule_85 ic_1 ?_
                refine r_goto (pc := 86) O d_E_actWithoutRule_86 (tgt := 90) (by decide) ?_
                exact r_zret (pc := 90) O rfl d_E_actWithoutRule_90 nb_1
def F_E_take_83 (n : Nat) (p1 : Int64) (p3 : Int32) (p4 : Int32) (p5 : Int32) (rec83 : Int32 × sHp → Option (Int64 × sHp)) (q : Int32 × sHp) : Option (Int64 × sHp) :=
  if (q.2.1 2 17) ≤ q.1 then (some ((q.2.2 1 4), q.2)) else ((J_B_isOver n (q.2.2 1 4) q.2).bind fun v99 =>
  if v99 = 0 then (sGd (sIn q.1 2) ((J_E_runsOut n q.1 q.2).bind fun v120 =>
  if v120.1 = 0 then (rec83 ((q.1 + 1), v120.2)) else ((J_E_conditionsHold n (q.2.1 19 (ix q.1)) v120.2).bind fun v129 =>
  if v129 = 0 then (rec83 ((q.1 + 1), v120.2)) else ((J_E_doRule n (q.2.1 19 (ix q.1)) v120.2).bind fun v138 =>
  rec83 ((q.1 + 1), v138))))) else (some ((q.2.2 1 4), q.2)))
def K_E_take_80 (n : Nat) (p1 : Int64) (p3 : Int32) (p4 : Int32) (p5 : Int32) (h : sHp) : Option (Int64 × sHp) :=
  sFx (F_E_take_83 n p1 p3 p4 p5 ) n (0, h)
def K_E_take_66 (n : Nat) (p1 : Int64) (p3 : Int32) (p4 : Int32) (p5 : Int32) (h : sHp) : Option (Int64 × sHp) :=
  (J_B_isOver n (h.2 1 4) h).bind fun v70 =>
  if v70 = 0 then ((J_E_stepWalkers n h).bind fun v77 =>
  K_E_take_80 n p1 p3 p4 p5 v77) else (K_E_take_80 n p1 p3 p4 p5 h)
def K_E_take_63 (n : Nat) (p1 : Int64) (p3 : Int32) (p4 : Int32) (p5 : Int32) (t0 : Int32) (h : sHp) : Option (Int64 × sHp) :=
  (J_E_say n t0 h).bind fun v63 =>
  K_E_take_66 n p1 p3 p4 p5 v63
def J_E_take (n : Nat) (p1 : Int64) (p3 : Int32) (p4 : Int32) (p5 : Int32) (h : sHp) : Option (Int64 × sHp) :=
  (J_E_fittingRule n p3 p4 p5 (pI (pI (pL h 1 4 p1) 1 2 0) 1 3 0)).bind fun v21 =>
  if v21 = (-1) then ((J_E_actWithoutRule n p3 p4 p5 (pI (pI (pL h 1 4 p1) 1 2 0) 1 3 0)).bind fun v48 =>
  if v48.1 = 0 then (K_E_take_63 n p1 p3 p4 p5 99 v48.2) else (K_E_take_63 n p1 p3 p4 p5 (100 + p3) v48.2)) else ((J_E_doRule n v21 (pI (pI (pL h 1 4 p1) 1 2 0) 1 3 0)).bind fun v35 =>
  K_E_take_66 n p1 p3 p4 p5 v35)
set_option maxRecDepth 20000 in
set_option maxHeartbeats 4000000 in
theorem R_E_take (n : Nat) (p1 : Int64) (p3 : Int32) (p4 : Int32) (p5 : Int32) (h : sHp) : sM Zc sOl y_E_take prog_6_method_2_code 9 (some .long) rm_E_take [.ref 1, .long p1, .int p3, .int p4, .int p5] h (J_E_take n p1 p3 p4 p5 h) := by
  refine sM_of (own := "StoryStates$Engine") rfl (by decide) (Nat.le_of_ble_eq_true rfl) (fun M V O => ?_)
  unfold J_E_take
  refine r_lv (lv' := [(0, .ref 1), (1, .long p1), (3, .int p3), (4, .int p4), (5, .int p5)]) [0, 1, 2, 3, 4] rfl ?_
  have hL83 : ∀ (q : Int32 × sHp), sS Zc M V (sEb sOl) 83 [(0, .ref 1), (7, .int q.1)] [] q.2 (sFx (F_E_take_83 n p1 p3 p4 p5 ) n q) := by
    skip
    refine r_fx (fun q => [(0, .ref 1), (7, .int q.1)]) (fun q => q.2) (F_E_take_83 n p1 p3 p4 p5 ) (fun rec83 hrec83 q => ?_) n
    obtain ⟨qv0, qv1⟩ := q
    show sS Zc M V (sEb sOl) 83 [(0, .ref 1), (7, .int qv0)] [] qv1 _
    unfold F_E_take_83
    try dsimp only
    refine r_iload (pc := 83) O d_E_take_83 1 rfl ?_
    refine r_aload_n (pc := 85) O d_E_take_85 0 rfl ?_
    refine r_getR (pc := 86) O gf_c_E_12_1 d_E_take_86 ?_
    refine r_getI (x := (qv1.1 2 17)) (pc := 89) O gf_c_E_57_2 d_E_take_89 rfl ?_
    refine r_icmp_ge (tgt := 147) (pc := 92) O d_E_take_92 (by decide) (fun q92 => ?_) (fun q92 => ?_)
    · refine r_aload_n (pc := 147) O d_E_take_147 0 rfl ?_
      refine r_getL (x := (qv1.2 1 4)) (pc := 148) O gf_c_E_22_1 d_E_take_148 rfl ?_
      exact r_lret (pc := 151) O rfl d_E_take_151
    · refine r_aload_n (pc := 95) O d_E_take_95 0 rfl ?_
      refine r_getL (x := (qv1.2 1 4)) (pc := 96) O gf_c_E_22_1 d_E_take_96 rfl ?_
      refine r_callSip (pc := 99) O [.long (qv1.2 1 4)] (R_B_isOver n (qv1.2 1 4) qv1) cw_E_take_99 wm_601 rfl (Nat.le_of_ble_eq_true rfl) d_E_take_99 rfl (fun v99 => ?_)
      refine r_if_ne (tgt := 147) (pc := 102) O d_E_take_102 (by decide) (fun q102 => ?_) (fun q102 => ?_)
      · refine r_aload_n (pc := 147) O d_E_take_147 0 rfl ?_
        refine r_getL (x := (qv1.2 1 4)) (pc := 148) O gf_c_E_22_1 d_E_take_148 rfl ?_
        exact r_lret (pc := 151) O rfl d_E_take_151
      · refine r_aload_n (pc := 105) O d_E_take_105 0 rfl ?_
        refine r_getR (pc := 106) O gf_c_E_12_1 d_E_take_106 ?_
        refine r_getR (pc := 109) O gf_c_E_60_2 d_E_take_109 ?_
        refine r_iload (pc := 112) O d_E_take_112 1 rfl ?_
        refine r_iald (x := (qv1.1 19 (ix qv0))) (pc := 114) O rfl d_E_take_114 rfl ?_
        refine r_istore (lv' := [(8, .int (qv1.1 19 (ix qv0))), (0, .ref 1), (7, .int qv0)]) (pc := 115) O d_E_take_115 (by decide) rfl ?_
        refine r_aload_n (pc := 117) O d_E_take_117 1 rfl ?_
        refine r_iload (pc := 118) O d_E_take_118 2 rfl ?_
        refine r_callVi (pc := 120) O [.int qv0] rfl rfl (R_E_runsOut n qv0 qv1) cw_E_take_120 wm_720 ws_E_runsOut rfl (Nat.le_of_ble_eq_true rfl) d_E_take_120 rfl (fun v120 => ?_)
        refine r_if_eq (tgt := 141) (pc := 123) O d_E_take_123 (by decide) (fun q123 => ?_) (fun q123 => ?_)
        · refine r_iinc (lv' := [(7, .int (qv0 + 1)), (8, .int (qv1.1 19 (ix qv0))), (0, .ref 1)]) (pc := 141) O d_E_take_141 2 rfl (congrArg (HAdd.hAdd _) ic_1) (by decide) rfl ?_
          refine r_goto (pc := 144) O d_E_take_144 (tgt := 83) (by decide) ?_
          exact r_lv [2, 0] rfl (hrec83 ((qv0 + 1), v120.2))
        · refine r_aload_n (pc := 126) O d_E_take_126 1 rfl ?_
          refine r_iload (pc := 127) O d_E_take_127 0 rfl ?_
          refine r_callVip (pc := 129) O [.int (qv1.1 19 (ix qv0))] rfl rfl (R_E_conditionsHold n (qv1.1 19 (ix qv0)) v120.2) cw_E_take_129 wm_636 ws_E_conditionsHold rfl (Nat.le_of_ble_eq_true rfl) d_E_take_129 rfl (fun v129 => ?_)
          refine r_if_eq (tgt := 141) (pc := 132) O d_E_take_132 (by decide) (fun q132 => ?_) (fun q132 => ?_)
          · refine r_iinc (lv' := [(7, .int (qv0 + 1)), (8, .int (qv1.1 19 (ix qv0))), (0, .ref 1)]) (pc := 141) O d_E_take_141 2 rfl (congrArg (HAdd.hAdd _) ic_1) (by decide) rfl ?_
            refine r_goto (pc := 144) O d_E_take_144 (tgt := 83) (by decide) ?_
            exact r_lv [2, 0] rfl (hrec83 ((qv0 + 1), v120.2))
          · refine r_aload_n (pc := 135) O d_E_take_135 1 rfl ?_
            refine r_iload (pc := 136) O d_E_take_136 0 rfl ?_
            refine r_callVv (pc := 138) O [.int (qv1.1 19 (ix qv0))] rfl rfl (R_E_doRule n (qv1.1 19 (ix qv0)) v120.2) cw_E_take_138 wm_655 ws_E_doRule rfl (Nat.le_of_ble_eq_true rfl) d_E_take_138 rfl (fun v138 => ?_)
            refine r_iinc (lv' := [(7, .int (qv0 + 1)), (8, .int (qv1.1 19 (ix qv0))), (0, .ref 1)]) (pc := 141) O d_E_take_141 2 rfl (congrArg (HAdd.hAdd _) ic_1) (by decide) rfl ?_
            refine r_goto (pc := 144) O d_E_take_144 (tgt := 83) (by decide) ?_
            exact r_lv [2, 0] rfl (hrec83 ((qv0 + 1), v138))
  have hK80 : ∀ (h : sHp), sS Zc M V (sEb sOl) 80 [(0, .ref 1)] [] h (K_E_take_80 n p1 p3 p4 p5 h) := by
    intro h
    unfold K_E_take_80
    refine r_iconst (pc := 80) O d_E_take_80 ic_0 ?_
    refine r_istore (lv' := [(7, .int 0), (0, .ref 1)]) (pc := 81) O d_E_take_81 (by decide) rfl ?_
    exact r_lv [1, 0] rfl (hL83 (0, h))
  have hK66 : ∀ (h : sHp), sS Zc M V (sEb sOl) 66 [(0, .ref 1)] [] h (K_E_take_66 n p1 p3 p4 p5 h) := by
    intro h
    unfold K_E_take_66
    refine r_aload_n (pc := 66) O d_E_take_66 0 rfl ?_
    refine r_getL (x := (h.2 1 4)) (pc := 67) O gf_c_E_22_1 d_E_take_67 rfl ?_
    refine r_callSip (pc := 70) O [.long (h.2 1 4)] (R_B_isOver n (h.2 1 4) h) cw_E_take_70 wm_601 rfl (Nat.le_of_ble_eq_true rfl) d_E_take_70 rfl (fun v70 => ?_)
    refine r_if_ne (tgt := 80) (pc := 73) O d_E_take_73 (by decide) (fun q73 => ?_) (fun q73 => ?_)
    · exact (hK80 h)
    · refine r_aload_n (pc := 76) O d_E_take_76 0 rfl ?_
      refine r_callVv (pc := 77) O [] rfl rfl (R_E_stepWalkers n  h) cw_E_take_77 wm_710 ws_E_stepWalkers rfl (Nat.le_of_ble_eq_true rfl) d_E_take_77 rfl (fun v77 => ?_)
      exact (hK80 v77)
  have hK63 : ∀ (t0 : Int32) (h : sHp), sS Zc M V (sEb sOl) 63 [(0, .ref 1)] [.int t0, .ref 1] h (K_E_take_63 n p1 p3 p4 p5 t0 h) := by
    intro t0 h
    unfold K_E_take_63
    refine r_callVv (pc := 63) O [.int t0] rfl rfl (R_E_say n t0 h) cw_E_take_63 wm_659 ws_E_say rfl (Nat.le_of_ble_eq_true rfl) d_E_take_63 rfl (fun v63 => ?_)
    exact (hK66 v63)
  refine r_aload_n (pc := 0) O d_E_take_0 0 rfl ?_
  refine r_lload_n (pc := 1) O d_E_take_1 1 rfl ?_
  refine r_putL (pc := 2) O pf_c_E_22_1 d_E_take_2 ?_
  refine r_aload_n (pc := 5) O d_E_take_5 0 rfl ?_
  refine r_iconst (pc := 6) O d_E_take_6 ic_0 ?_
  refine r_putI (pc := 7) O pf_c_E_26_1 d_E_take_7 ?_
  refine r_aload_n (pc := 10) O d_E_take_10 0 rfl ?_
  refine r_iconst (pc := 11) O d_E_take_11 ic_0 ?_
  refine r_putI (pc := 12) O pf_c_E_30_1 d_E_take_12 ?_
  refine r_aload_n (pc := 15) O d_E_take_15 0 rfl ?_
  refine r_iload_n (pc := 16) O d_E_take_16 2 rfl ?_
  refine r_iload (pc := 17) O d_E_take_17 3 rfl ?_
  refine r_iload (pc := 19) O d_E_take_19 4 rfl ?_
  refine r_callVip (pc := 21) O [.int p3, .int p4, .int p5] rfl rfl (R_E_fittingRule n p3 p4 p5 (pI (pI (pL h 1 4 p1) 1 2 0) 1 3 0)) cw_E_take_21 wm_612 ws_E_fittingRule rfl (Nat.le_of_ble_eq_true rfl) d_E_take_21 rfl (fun v21 => ?_)
  refine r_istore (lv' := [(6, .int v21), (0, .ref 1), (1, .long p1), (3, .int p3), (4, .int p4), (5, .int p5)]) (pc := 24) O d_E_take_24 (by decide) rfl ?_
  refine r_iload (pc := 26) O d_E_take_26 0 rfl ?_
  refine r_iconst (pc := 28) O d_E_take_28 ic_m1 ?_
  refine r_icmp_eq (tgt := 41) (pc := 29) O d_E_take_29 (by decide) (fun q29 => ?_) (fun q29 => ?_)
  · refine r_aload_n (pc := 41) O d_E_take_41 1 rfl ?_
    refine r_aload_n (pc := 42) O d_E_take_42 1 rfl ?_
    refine r_iload_n (pc := 43) O d_E_take_43 3 rfl ?_
    refine r_iload (pc := 44) O d_E_take_44 4 rfl ?_
    refine r_iload (pc := 46) O d_E_take_46 5 rfl ?_
    refine r_callVi (pc := 48) O [.int p3, .int p4, .int p5] rfl rfl (R_E_actWithoutRule n p3 p4 p5 (pI (pI (pL h 1 4 p1) 1 2 0) 1 3 0)) cw_E_take_48 wm_686 ws_E_actWithoutRule rfl (Nat.le_of_ble_eq_true rfl) d_E_take_48 rfl (fun v48 => ?_)
    refine r_if_eq (tgt := 61) (pc := 51) O d_E_take_51 (by decide) (fun q51 => ?_) (fun q51 => ?_)
    · refine r_bipush (pc := 61) O d_E_take_61 bc_99 ?_
      exact r_lv [1] rfl (hK63 99 v48.2)
    · refine r_bipush (pc := 54) O d_E_take_54 bc_100 ?_
      refine r_iload_n (pc := 56) O d_E_take_56 3 rfl ?_
      refine r_iadd (pc := 57) O d_E_take_57 ?_
      refine r_goto (pc := 58) O d_E_take_58 (tgt := 63) (by decide) ?_
      exact r_lv [1] rfl (hK63 (100 + p3) v48.2)
  · refine r_aload_n (pc := 32) O d_E_take_32 1 rfl ?_
    refine r_iload (pc := 33) O d_E_take_33 0 rfl ?_
    refine r_callVv (pc := 35) O [.int v21] rfl rfl (R_E_doRule n v21 (pI (pI (pL h 1 4 p1) 1 2 0) 1 3 0)) cw_E_take_35 wm_655 ws_E_doRule rfl (Nat.le_of_ble_eq_true rfl) d_E_take_35 rfl (fun v35 => ?_)
    refine r_goto (pc := 38) O d_E_take_38 (tgt := 66) (by decide) ?_
    exact r_lv [1] rfl (hK66 v35)
def J_A_forget (n : Nat)  (h : sHp) : Option sHp :=
  some (pI (pI (pI (pI h 6 10 0) 6 9 0) 6 11 0) 6 8 0)
set_option maxRecDepth 20000 in
set_option maxHeartbeats 4000000 in
theorem R_A_forget (n : Nat)  (h : sHp) : sM Zc sOv y_A_forget prog_2_method_2_code 1 none rm_A_forget [.ref 6] h (J_A_forget n  h) := by
  refine sM_of (own := "StoryStates$Atlas") rfl (by decide) (Nat.le_of_ble_eq_true rfl) (fun M V O => ?_)
  unfold J_A_forget
  refine r_lv (lv' := [(0, .ref 6)]) [0] rfl ?_
  refine r_aload_n (pc := 0) O d_A_forget_0 0 rfl ?_
  refine r_iconst (pc := 1) O d_A_forget_1 ic_0 ?_
  refine r_putI (pc := 2) O pf_c_A_34_6 d_A_forget_2 ?_
  refine r_aload_n (pc := 5) O d_A_forget_5 0 rfl ?_
  refine r_iconst (pc := 6) O d_A_forget_6 ic_0 ?_
  refine r_putI (pc := 7) O pf_c_A_38_6 d_A_forget_7 ?_
  refine r_aload_n (pc := 10) O d_A_forget_10 0 rfl ?_
  refine r_iconst (pc := 11) O d_A_forget_11 ic_0 ?_
  refine r_putZ (pc := 12) O pf_c_A_41_6 d_A_forget_12 nb_0 rfl ?_
  refine r_aload_n (pc := 15) O d_A_forget_15 0 rfl ?_
  refine r_iconst (pc := 16) O d_A_forget_16 ic_0 ?_
  refine r_putI (pc := 17) O pf_c_A_45_6 d_A_forget_17 ?_
  exact r_vret (pc := 20) O rfl d_A_forget_20
def F_U_fill_5 (n : Nat) (p1 : Int32) (x3 : Int32) (rec5 : Int32 × sHp → Option sHp) (q : Int32 × sHp) : Option sHp :=
  if x3 ≤ q.1 then (some q.2) else (sGd (sIn q.1 512) (rec5 ((q.1 + 1), (pI q.2 38 (ix q.1) p1))))
def J_U_fill (n : Nat) (p1 : Int32) (h : sHp) : Option sHp :=
  sFx (F_U_fill_5 n p1 512) n (0, h)
set_option maxRecDepth 20000 in
set_option maxHeartbeats 4000000 in
theorem R_U_fill (n : Nat) (p1 : Int32) (h : sHp) : sM Zc sOv y_U_fill prog_19_method_103_code 4 none rm_U_fill [.ref 38, .int p1] h (J_U_fill n p1 h) := by
  refine sM_of (own := "java/util/Arrays") rfl (by decide) (Nat.le_of_ble_eq_true rfl) (fun M V O => ?_)
  unfold J_U_fill
  refine r_lv (lv' := [(0, .ref 38), (1, .int p1)]) [0, 1] rfl ?_
  have hL5 : ∀ (x3 : Int32) (q : Int32 × sHp), sS Zc M V (sEb sOv) 5 [(0, .ref 38), (1, .int p1), (2, .int q.1), (3, .int x3)] [] q.2 (sFx (F_U_fill_5 n p1 x3) n q) := by
    intro x3
    refine r_fx (fun q => [(0, .ref 38), (1, .int p1), (2, .int q.1), (3, .int x3)]) (fun q => q.2) (F_U_fill_5 n p1 x3) (fun rec5 hrec5 q => ?_) n
    obtain ⟨qv0, qv1⟩ := q
    show sS Zc M V (sEb sOv) 5 [(0, .ref 38), (1, .int p1), (2, .int qv0), (3, .int x3)] [] qv1 _
    unfold F_U_fill_5
    try dsimp only
    refine r_iload_n (pc := 5) O d_U_fill_5 2 rfl ?_
    refine r_iload_n (pc := 6) O d_U_fill_6 3 rfl ?_
    refine r_icmp_ge (tgt := 20) (pc := 7) O d_U_fill_7 (by decide) (fun q7 => ?_) (fun q7 => ?_)
    · exact r_vret (pc := 20) O rfl d_U_fill_20
    · refine r_aload_n (pc := 10) O d_U_fill_10 0 rfl ?_
      refine r_iload_n (pc := 11) O d_U_fill_11 2 rfl ?_
      refine r_iload_n (pc := 12) O d_U_fill_12 1 rfl ?_
      refine r_iast (pc := 13) O rfl d_U_fill_13 ?_
      refine r_iinc (lv' := [(2, .int (qv0 + 1)), (0, .ref 38), (1, .int p1), (3, .int x3)]) (pc := 14) O d_U_fill_14 2 rfl (congrArg (HAdd.hAdd _) ic_1) (by decide) rfl ?_
      refine r_goto (pc := 17) O d_U_fill_17 (tgt := 5) (by decide) ?_
      exact r_lv [1, 2, 0, 3] rfl (hrec5 ((qv0 + 1), (pI qv1 38 (ix qv0) p1)))
  refine r_iconst (pc := 0) O d_U_fill_0 ic_0 ?_
  refine r_istore_n (lv' := [(2, .int 0), (0, .ref 38), (1, .int p1)]) (pc := 1) O d_U_fill_1 rfl (by decide) rfl ?_
  refine r_aload_n (pc := 2) O d_U_fill_2 1 rfl ?_
  refine r_alen (pc := 3) O rfl (by decide) nc_512 d_U_fill_3 ?_
  refine r_istore_n (lv' := [(3, .int 512), (2, .int 0), (0, .ref 38), (1, .int p1)]) (pc := 4) O d_U_fill_4 rfl (by decide) rfl ?_
  exact r_lv [2, 3, 1, 0] rfl (hL5 512 (0, h))
def J_D_of (n : Nat) (p0 : Int32) (p1 : Int32) (p2 : Int32) (h : sHp) : Option Int32 :=
  some (((jIshl p0 6) ||| (jIshl (p1 + 1) 3)) ||| (p2 + 1))
set_option maxRecDepth 20000 in
set_option maxHeartbeats 4000000 in
theorem R_D_of (n : Nat) (p0 : Int32) (p1 : Int32) (p2 : Int32) (h : sHp) : sM Zc (sPi h) y_D_of prog_5_method_2_code 3 (some .int) rm_D_of [.int p0, .int p1, .int p2] h (J_D_of n p0 p1 p2 h) := by
  refine sM_of (own := "StoryStates$Code") rfl (by decide) (Nat.le_of_ble_eq_true rfl) (fun M V O => ?_)
  unfold J_D_of
  refine r_lv (lv' := [(0, .int p0), (1, .int p1), (2, .int p2)]) [0, 1, 2] rfl ?_
  refine r_iload_n (pc := 0) O d_D_of_0 0 rfl ?_
  refine r_bipush (pc := 1) O d_D_of_1 bc_6 ?_
  refine r_ishl (pc := 3) O d_D_of_3 ?_
  refine r_iload_n (pc := 4) O d_D_of_4 1 rfl ?_
  refine r_iconst (pc := 5) O d_D_of_5 ic_1 ?_
  refine r_iadd (pc := 6) O d_D_of_6 ?_
  refine r_iconst (pc := 7) O d_D_of_7 ic_3 ?_
  refine r_ishl (pc := 8) O d_D_of_8 ?_
  refine r_ior (pc := 9) O d_D_of_9 ?_
  refine r_iload_n (pc := 10) O d_D_of_10 2 rfl ?_
  refine r_iconst (pc := 11) O d_D_of_11 ic_1 ?_
  refine r_iadd (pc := 12) O d_D_of_12 ?_
  refine r_ior (pc := 13) O d_D_of_13 ?_
  exact r_iret (pc := 14) O rfl d_D_of_14
def F_A_listCommands_24 (n : Nat) (rec7 : (Int32 × sHp → Option sHp)) (rec15 : (Int32 × sHp → Option sHp)) (x2 : Int32) (x3 : Int32) (rec24 : Int32 × sHp → Option sHp) (q : Int32 × sHp) : Option sHp :=
  if 6 ≤ q.1 then (rec15 ((x3 + 1), q.2)) else (if 163 ≤ (q.2.1 6 1) then (rec24 ((q.1 + 1), q.2)) else ((J_W_hasCommand n x2 x3 q.1 q.2).bind fun v46 =>
  if v46 = 0 then (rec24 ((q.1 + 1), q.2)) else ((J_D_of n x2 x3 q.1 q.2).bind fun v64 =>
  sGd (sIn (q.2.1 6 1) 163) (rec24 ((q.1 + 1), (pI (pI q.2 34 (ix (q.2.1 6 1)) v64) 6 1 ((q.2.1 6 1) + 1)))))))
def F_A_listCommands_15 (n : Nat) (rec7 : (Int32 × sHp → Option sHp)) (x2 : Int32) (rec15 : Int32 × sHp → Option sHp) (q : Int32 × sHp) : Option sHp :=
  if 6 ≤ q.1 then (rec7 ((x2 + 1), q.2)) else (sFx (F_A_listCommands_24 n rec7 rec15 x2 q.1) n ((-1), q.2))
def F_A_listCommands_7 (n : Nat) (rec7 : Int32 × sHp → Option sHp) (q : Int32 × sHp) : Option sHp :=
  if 8 < q.1 then (some q.2) else (sFx (F_A_listCommands_15 n rec7 q.1) n ((-1), q.2))
def J_A_listCommands (n : Nat)  (h : sHp) : Option sHp :=
  sFx (F_A_listCommands_7 n ) n (0, (pI h 6 1 0))
set_option maxRecDepth 20000 in
set_option maxHeartbeats 4000000 in
theorem R_A_listCommands (n : Nat)  (h : sHp) : sM Zc sOv y_A_listCommands prog_2_method_4_code 5 none rm_A_listCommands [.ref 6, .ref 2] h (J_A_listCommands n  h) := by
  refine sM_of (own := "StoryStates$Atlas") rfl (by decide) (Nat.le_of_ble_eq_true rfl) (fun M V O => ?_)
  unfold J_A_listCommands
  refine r_lv (lv' := [(0, .ref 6), (1, .ref 2)]) [0, 1] rfl ?_
  have hL7 : ∀ (q : Int32 × sHp), sS Zc M V (sEb sOv) 7 [(0, .ref 6), (1, .ref 2), (2, .int q.1)] [] q.2 (sFx (F_A_listCommands_7 n ) n q) := by
    skip
    refine r_fx (fun q => [(0, .ref 6), (1, .ref 2), (2, .int q.1)]) (fun q => q.2) (F_A_listCommands_7 n ) (fun rec7 hrec7 q => ?_) n
    obtain ⟨qv0, qv1⟩ := q
    show sS Zc M V (sEb sOv) 7 [(0, .ref 6), (1, .ref 2), (2, .int qv0)] [] qv1 _
    unfold F_A_listCommands_7
    try dsimp only
    have hL15 : ∀ (x2 : Int32) (q : Int32 × sHp), sS Zc M V (sEb sOv) 15 [(0, .ref 6), (1, .ref 2), (2, .int x2), (3, .int q.1)] [] q.2 (sFx (F_A_listCommands_15 n rec7 x2) n q) := by
      intro x2
      refine r_fx (fun q => [(0, .ref 6), (1, .ref 2), (2, .int x2), (3, .int q.1)]) (fun q => q.2) (F_A_listCommands_15 n rec7 x2) (fun rec15 hrec15 q => ?_) n
      obtain ⟨qv0, qv1⟩ := q
      show sS Zc M V (sEb sOv) 15 [(0, .ref 6), (1, .ref 2), (2, .int x2), (3, .int qv0)] [] qv1 _
      unfold F_A_listCommands_15
      try dsimp only
      have hL24 : ∀ (x3 : Int32) (q : Int32 × sHp), sS Zc M V (sEb sOv) 24 [(0, .ref 6), (1, .ref 2), (2, .int x2), (3, .int x3), (4, .int q.1)] [] q.2 (sFx (F_A_listCommands_24 n rec7 rec15 x2 x3) n q) := by
        intro x3
        refine r_fx (fun q => [(0, .ref 6), (1, .ref 2), (2, .int x2), (3, .int x3), (4, .int q.1)]) (fun q => q.2) (F_A_listCommands_24 n rec7 rec15 x2 x3) (fun rec24 hrec24 q => ?_) n
        obtain ⟨qv0, qv1⟩ := q
        show sS Zc M V (sEb sOv) 24 [(0, .ref 6), (1, .ref 2), (2, .int x2), (3, .int x3), (4, .int qv0)] [] qv1 _
        unfold F_A_listCommands_24
        try dsimp only
        refine r_iload (pc := 24) O d_A_listCommands_24 4 rfl ?_
        refine r_bipush (pc := 26) O d_A_listCommands_26 bc_6 ?_
        refine r_icmp_ge (tgt := 84) (pc := 28) O d_A_listCommands_28 (by decide) (fun q28 => ?_) (fun q28 => ?_)
        · refine r_iinc (lv' := [(3, .int (x3 + 1)), (0, .ref 6), (1, .ref 2), (2, .int x2), (4, .int qv0)]) (pc := 84) O d_A_listCommands_84 3 rfl (congrArg (HAdd.hAdd _) ic_1) (by decide) rfl ?_
          refine r_goto (pc := 87) O d_A_listCommands_87 (tgt := 15) (by decide) ?_
          exact r_lv [1, 2, 3, 0] rfl (hrec15 ((x3 + 1), qv1))
        · refine r_aload_n (pc := 31) O d_A_listCommands_31 0 rfl ?_
          refine r_getI (x := (qv1.1 6 1)) (pc := 32) O gf_c_A_72_6 d_A_listCommands_32 rfl ?_
          refine r_sipush (pc := 35) O d_A_listCommands_35 sc_163 ?_
          refine r_icmp_ge (tgt := 78) (pc := 38) O d_A_listCommands_38 (by decide) (fun q38 => ?_) (fun q38 => ?_)
          · refine r_iinc (lv' := [(4, .int (qv0 + 1)), (0, .ref 6), (1, .ref 2), (2, .int x2), (3, .int x3)]) (pc := 78) O d_A_listCommands_78 4 rfl (congrArg (HAdd.hAdd _) ic_1) (by decide) rfl ?_
            refine r_goto (pc := 81) O d_A_listCommands_81 (tgt := 24) (by decide) ?_
            exact r_lv [1, 2, 3, 4, 0] rfl (hrec24 ((qv0 + 1), qv1))
          · refine r_aload_n (pc := 41) O d_A_listCommands_41 1 rfl ?_
            refine r_iload_n (pc := 42) O d_A_listCommands_42 2 rfl ?_
            refine r_iload_n (pc := 43) O d_A_listCommands_43 3 rfl ?_
            refine r_iload (pc := 44) O d_A_listCommands_44 4 rfl ?_
            refine r_callVip (pc := 46) O [.int x2, .int x3, .int qv0] rfl rfl (R_W_hasCommand n x2 x3 qv0 qv1) cw_A_listCommands_46 wm_597 wm_598 rfl (Nat.le_of_ble_eq_true rfl) d_A_listCommands_46 rfl (fun v46 => ?_)
            refine r_if_eq (tgt := 78) (pc := 49) O d_A_listCommands_49 (by decide) (fun q49 => ?_) (fun q49 => ?_)
            · refine r_iinc (lv' := [(4, .int (qv0 + 1)), (0, .ref 6), (1, .ref 2), (2, .int x2), (3, .int x3)]) (pc := 78) O d_A_listCommands_78 4 rfl (congrArg (HAdd.hAdd _) ic_1) (by decide) rfl ?_
              refine r_goto (pc := 81) O d_A_listCommands_81 (tgt := 24) (by decide) ?_
              exact r_lv [1, 2, 3, 4, 0] rfl (hrec24 ((qv0 + 1), qv1))
            · refine r_aload_n (pc := 52) O d_A_listCommands_52 0 rfl ?_
              refine r_getR (pc := 53) O gf_c_A_11_6 d_A_listCommands_53 ?_
              refine r_aload_n (pc := 56) O d_A_listCommands_56 0 rfl ?_
              refine r_getI (x := (qv1.1 6 1)) (pc := 57) O gf_c_A_72_6 d_A_listCommands_57 rfl ?_
              refine r_iload_n (pc := 60) O d_A_listCommands_60 2 rfl ?_
              refine r_iload_n (pc := 61) O d_A_listCommands_61 3 rfl ?_
              refine r_iload (pc := 62) O d_A_listCommands_62 4 rfl ?_
              refine r_callSip (pc := 64) O [.int x2, .int x3, .int qv0] (R_D_of n x2 x3 qv0 qv1) cw_A_listCommands_64 wm_769 rfl (Nat.le_of_ble_eq_true rfl) d_A_listCommands_64 rfl (fun v64 => ?_)
              refine r_iast (pc := 67) O rfl d_A_listCommands_67 ?_
              refine r_aload_n (pc := 68) O d_A_listCommands_68 0 rfl ?_
              refine r_dup (pc := 69) O d_A_listCommands_69 rfl ?_
              refine r_getI (x := (qv1.1 6 1)) (pc := 70) O gf_c_A_72_6 d_A_listCommands_70 rfl ?_
              refine r_iconst (pc := 73) O d_A_listCommands_73 ic_1 ?_
              refine r_iadd (pc := 74) O d_A_listCommands_74 ?_
              refine r_putI (pc := 75) O pf_c_A_72_6 d_A_listCommands_75 ?_
              refine r_iinc (lv' := [(4, .int (qv0 + 1)), (0, .ref 6), (1, .ref 2), (2, .int x2), (3, .int x3)]) (pc := 78) O d_A_listCommands_78 4 rfl (congrArg (HAdd.hAdd _) ic_1) (by decide) rfl ?_
              refine r_goto (pc := 81) O d_A_listCommands_81 (tgt := 24) (by decide) ?_
              exact r_lv [1, 2, 3, 4, 0] rfl (hrec24 ((qv0 + 1), (pI (pI qv1 34 (ix (qv1.1 6 1)) v64) 6 1 ((qv1.1 6 1) + 1))))
      refine r_iload_n (pc := 15) O d_A_listCommands_15 3 rfl ?_
      refine r_bipush (pc := 16) O d_A_listCommands_16 bc_6 ?_
      refine r_icmp_ge (tgt := 90) (pc := 18) O d_A_listCommands_18 (by decide) (fun q18 => ?_) (fun q18 => ?_)
      · refine r_iinc (lv' := [(2, .int (x2 + 1)), (0, .ref 6), (1, .ref 2), (3, .int qv0)]) (pc := 90) O d_A_listCommands_90 2 rfl (congrArg (HAdd.hAdd _) ic_1) (by decide) rfl ?_
        refine r_goto (pc := 93) O d_A_listCommands_93 (tgt := 7) (by decide) ?_
        exact r_lv [1, 2, 0] rfl (hrec7 ((x2 + 1), qv1))
      · refine r_iconst (pc := 21) O d_A_listCommands_21 ic_m1 ?_
        refine r_istore (lv' := [(4, .int (-1)), (0, .ref 6), (1, .ref 2), (2, .int x2), (3, .int qv0)]) (pc := 22) O d_A_listCommands_22 (by decide) rfl ?_
        exact r_lv [1, 2, 3, 4, 0] rfl (hL24 qv0 ((-1), qv1))
    refine r_iload_n (pc := 7) O d_A_listCommands_7 2 rfl ?_
    refine r_bipush (pc := 8) O d_A_listCommands_8 bc_8 ?_
    refine r_icmp_gt (tgt := 96) (pc := 10) O d_A_listCommands_10 (by decide) (fun q10 => ?_) (fun q10 => ?_)
    · exact r_vret (pc := 96) O rfl d_A_listCommands_96
    · refine r_iconst (pc := 13) O d_A_listCommands_13 ic_m1 ?_
      refine r_istore_n (lv' := [(3, .int (-1)), (0, .ref 6), (1, .ref 2), (2, .int qv0)]) (pc := 14) O d_A_listCommands_14 rfl (by decide) rfl ?_
      exact r_lv [1, 2, 3, 0] rfl (hL15 qv0 ((-1), qv1))
  refine r_aload_n (pc := 0) O d_A_listCommands_0 0 rfl ?_
  refine r_iconst (pc := 1) O d_A_listCommands_1 ic_0 ?_
  refine r_putI (pc := 2) O pf_c_A_72_6 d_A_listCommands_2 ?_
  refine r_iconst (pc := 5) O d_A_listCommands_5 ic_0 ?_
  refine r_istore_n (lv' := [(2, .int 0), (0, .ref 6), (1, .ref 2)]) (pc := 6) O d_A_listCommands_6 rfl (by decide) rfl ?_
  exact r_lv [1, 2, 0] rfl (hL7 (0, (pI h 6 1 0)))
def F_A_slotOf_13 (n : Nat) (p1 : Int64) (h : sHp) (rec13 : Int32 × Int32 → Option Int32) (q : Int32 × Int32) : Option Int32 :=
  if 512 ≤ q.2 then (some q.1) else (sGd (sIn q.1 512) (if (h.1 38 (ix q.1)) = 0 then (some q.1) else (sGd (sIn q.1 512) (sGd (sIn ((h.1 38 (ix q.1)) - 1) 160) (if (lg_cmp (h.2 35 (ix ((h.1 38 (ix q.1)) - 1))) p1) = 0 then (some q.1) else (rec13 (((q.1 + 1) &&& 511), (q.2 + 1))))))))
def J_A_slotOf (n : Nat) (p1 : Int64) (h : sHp) : Option Int32 :=
  sFx (F_A_slotOf_13 n p1 h ) n ((Int64.toInt32 (jLushr (p1 * (-7046029254386353131)) 55)), 0)
set_option maxRecDepth 20000 in
set_option maxHeartbeats 4000000 in
theorem R_A_slotOf (n : Nat) (p1 : Int64) (h : sHp) : sM Zc (sPi h) y_A_slotOf prog_2_method_10_code 5 (some .int) rm_A_slotOf [.ref 6, .long p1] h (J_A_slotOf n p1 h) := by
  refine sM_of (own := "StoryStates$Atlas") rfl (by decide) (Nat.le_of_ble_eq_true rfl) (fun M V O => ?_)
  unfold J_A_slotOf
  refine r_lv (lv' := [(0, .ref 6), (1, .long p1)]) [0, 1] rfl ?_
  have hL13 : ∀ (q : Int32 × Int32), sS Zc M V (sEb (sPi h)) 13 [(0, .ref 6), (1, .long p1), (3, .int q.1), (4, .int q.2)] [] h (sFx (F_A_slotOf_13 n p1 h ) n q) := by
    skip
    refine r_fx (fun q => [(0, .ref 6), (1, .long p1), (3, .int q.1), (4, .int q.2)]) (fun q => h) (F_A_slotOf_13 n p1 h ) (fun rec13 hrec13 q => ?_) n
    obtain ⟨qv0, qv1⟩ := q
    show sS Zc M V (sEb (sPi h)) 13 [(0, .ref 6), (1, .long p1), (3, .int qv0), (4, .int qv1)] [] h _
    unfold F_A_slotOf_13
    try dsimp only
    refine r_iload (pc := 13) O d_A_slotOf_13 3 rfl ?_
    refine r_sipush (pc := 15) O d_A_slotOf_15 sc_512 ?_
    refine r_icmp_ge (tgt := 64) (pc := 18) O d_A_slotOf_18 (by decide) (fun q18 => ?_) (fun q18 => ?_)
    · refine r_iload_n (pc := 64) O d_A_slotOf_64 2 rfl ?_
      exact r_iret (pc := 65) O rfl d_A_slotOf_65
    · refine r_aload_n (pc := 21) O d_A_slotOf_21 0 rfl ?_
      refine r_getR (pc := 22) O gf_c_A_25_6 d_A_slotOf_22 ?_
      refine r_iload_n (pc := 25) O d_A_slotOf_25 2 rfl ?_
      refine r_iald (x := (h.1 38 (ix qv0))) (pc := 26) O rfl d_A_slotOf_26 rfl ?_
      refine r_if_eq (tgt := 48) (pc := 27) O d_A_slotOf_27 (by decide) (fun q27 => ?_) (fun q27 => ?_)
      · refine r_iload_n (pc := 48) O d_A_slotOf_48 2 rfl ?_
        exact r_iret (pc := 49) O rfl d_A_slotOf_49
      · refine r_aload_n (pc := 30) O d_A_slotOf_30 0 rfl ?_
        refine r_getR (pc := 31) O gf_c_A_15_6 d_A_slotOf_31 ?_
        refine r_aload_n (pc := 34) O d_A_slotOf_34 0 rfl ?_
        refine r_getR (pc := 35) O gf_c_A_25_6 d_A_slotOf_35 ?_
        refine r_iload_n (pc := 38) O d_A_slotOf_38 2 rfl ?_
        refine r_iald (x := (h.1 38 (ix qv0))) (pc := 39) O rfl d_A_slotOf_39 rfl ?_
        refine r_iconst (pc := 40) O d_A_slotOf_40 ic_1 ?_
        refine r_isub (pc := 41) O d_A_slotOf_41 ?_
        refine r_lald (x := (h.2 35 (ix ((h.1 38 (ix qv0)) - 1)))) (pc := 42) O rfl d_A_slotOf_42 rfl ?_
        refine r_lload_n (pc := 43) O d_A_slotOf_43 1 rfl ?_
        refine r_lcmp (pc := 44) O d_A_slotOf_44 ?_
        refine r_if_ne (tgt := 50) (pc := 45) O d_A_slotOf_45 (by decide) (fun q45 => ?_) (fun q45 => ?_)
        · refine r_iload_n (pc := 50) O d_A_slotOf_50 2 rfl ?_
          refine r_iconst (pc := 51) O d_A_slotOf_51 ic_1 ?_
          refine r_iadd (pc := 52) O d_A_slotOf_52 ?_
          refine r_sipush (pc := 53) O d_A_slotOf_53 sc_511 ?_
          refine r_iand (pc := 56) O d_A_slotOf_56 ?_
          refine r_istore_n (lv' := [(3, .int ((qv0 + 1) &&& 511)), (0, .ref 6), (1, .long p1), (4, .int qv1)]) (pc := 57) O d_A_slotOf_57 rfl (by decide) rfl ?_
          refine r_iinc (lv' := [(4, .int (qv1 + 1)), (3, .int ((qv0 + 1) &&& 511)), (0, .ref 6), (1, .long p1)]) (pc := 58) O d_A_slotOf_58 3 rfl (congrArg (HAdd.hAdd _) ic_1) (by decide) rfl ?_
          refine r_goto (pc := 61) O d_A_slotOf_61 (tgt := 13) (by decide) ?_
          exact r_lv [2, 3, 1, 0] rfl (hrec13 (((qv0 + 1) &&& 511), (qv1 + 1)))
        · refine r_iload_n (pc := 48) O d_A_slotOf_48 2 rfl ?_
          exact r_iret (pc := 49) O rfl d_A_slotOf_49
  refine r_lload_n (pc := 0) O d_A_slotOf_0 1 rfl ?_
  refine r_ldc2 (pc := 1) O d_A_slotOf_1 wm_776 ?_
  refine r_lmul (pc := 4) O d_A_slotOf_4 ?_
  refine r_bipush (pc := 5) O d_A_slotOf_5 bc_55 ?_
  refine r_lushr (pc := 7) O d_A_slotOf_7 ?_
  refine r_l2i (pc := 8) O d_A_slotOf_8 ?_
  refine r_istore_n (lv' := [(3, .int (Int64.toInt32 (jLushr (p1 * (-7046029254386353131)) 55))), (0, .ref 6), (1, .long p1)]) (pc := 9) O d_A_slotOf_9 rfl (by decide) rfl ?_
  refine r_iconst (pc := 10) O d_A_slotOf_10 ic_0 ?_
  refine r_istore (lv' := [(4, .int 0), (3, .int (Int64.toInt32 (jLushr (p1 * (-7046029254386353131)) 55))), (0, .ref 6), (1, .long p1)]) (pc := 11) O d_A_slotOf_11 (by decide) rfl ?_
  exact r_lv [2, 3, 1, 0] rfl (hL13 ((Int64.toInt32 (jLushr (p1 * (-7046029254386353131)) 55)), 0))
def F_A_append_35 (n : Nat) (p1 : Int64) (p3 : Int32) (p4 : Int32) (p5 : Int32) (rec35 : Int32 × sHp → Option sHp) (q : Int32 × sHp) : Option sHp :=
  if 3 ≤ q.1 then (sGd (sIn p3 512) (some (pI (pI q.2 6 10 ((q.2.1 6 10) + 1)) 38 (ix p3) ((q.2.1 6 10) + 1)))) else (sGd (sIn (((q.2.1 6 10) * 3) + q.1) 480) (rec35 ((q.1 + 1), (pL q.2 39 (ix (((q.2.1 6 10) * 3) + q.1)) 0))))
def J_A_append (n : Nat) (p1 : Int64) (p3 : Int32) (p4 : Int32) (p5 : Int32) (h : sHp) : Option sHp :=
  sGd (sIn (h.1 6 10) 160) (sGd (sIn (h.1 6 10) 160) (sGd (sIn (h.1 6 10) 160) (sFx (F_A_append_35 n p1 p3 p4 p5 ) n (0, (pI (pI (pL h 35 (ix (h.1 6 10)) p1) 36 (ix (h.1 6 10)) p4) 37 (ix (h.1 6 10)) p5)))))
set_option maxRecDepth 20000 in
set_option maxHeartbeats 4000000 in
theorem R_A_append (n : Nat) (p1 : Int64) (p3 : Int32) (p4 : Int32) (p5 : Int32) (h : sHp) : sM Zc sOv y_A_append prog_2_method_9_code 7 none rm_A_append [.ref 6, .long p1, .int p3, .int p4, .int p5] h (J_A_append n p1 p3 p4 p5 h) := by
  refine sM_of (own := "StoryStates$Atlas") rfl (by decide) (Nat.le_of_ble_eq_true rfl) (fun M V O => ?_)
  unfold J_A_append
  refine r_lv (lv' := [(0, .ref 6), (1, .long p1), (3, .int p3), (4, .int p4), (5, .int p5)]) [0, 1, 2, 3, 4] rfl ?_
  have hL35 : ∀ (q : Int32 × sHp), sS Zc M V (sEb sOv) 35 [(0, .ref 6), (3, .int p3), (6, .int q.1)] [] q.2 (sFx (F_A_append_35 n p1 p3 p4 p5 ) n q) := by
    skip
    refine r_fx (fun q => [(0, .ref 6), (3, .int p3), (6, .int q.1)]) (fun q => q.2) (F_A_append_35 n p1 p3 p4 p5 ) (fun rec35 hrec35 q => ?_) n
    obtain ⟨qv0, qv1⟩ := q
    show sS Zc M V (sEb sOv) 35 [(0, .ref 6), (3, .int p3), (6, .int qv0)] [] qv1 _
    unfold F_A_append_35
    try dsimp only
    refine r_iload (pc := 35) O d_A_append_35 2 rfl ?_
    refine r_iconst (pc := 37) O d_A_append_37 ic_3 ?_
    refine r_icmp_ge (tgt := 62) (pc := 38) O d_A_append_38 (by decide) (fun q38 => ?_) (fun q38 => ?_)
    · refine r_aload_n (pc := 62) O d_A_append_62 0 rfl ?_
      refine r_dup (pc := 63) O d_A_append_63 rfl ?_
      refine r_getI (x := (qv1.1 6 10)) (pc := 64) O gf_c_A_34_6 d_A_append_64 rfl ?_
      refine r_iconst (pc := 67) O d_A_append_67 ic_1 ?_
      refine r_iadd (pc := 68) O d_A_append_68 ?_
      refine r_putI (pc := 69) O pf_c_A_34_6 d_A_append_69 ?_
      refine r_aload_n (pc := 72) O d_A_append_72 0 rfl ?_
      refine r_getR (pc := 73) O gf_c_A_25_6 d_A_append_73 ?_
      refine r_iload_n (pc := 76) O d_A_append_76 1 rfl ?_
      refine r_aload_n (pc := 77) O d_A_append_77 0 rfl ?_
      refine r_getI (x := ((qv1.1 6 10) + 1)) (pc := 78) O gf_c_A_34_6 d_A_append_78 rfl ?_
      refine r_iast (pc := 81) O rfl d_A_append_81 ?_
      exact r_vret (pc := 82) O rfl d_A_append_82
    · refine r_aload_n (pc := 41) O d_A_append_41 0 rfl ?_
      refine r_getR (pc := 42) O gf_c_A_28_6 d_A_append_42 ?_
      refine r_aload_n (pc := 45) O d_A_append_45 0 rfl ?_
      refine r_getI (x := (qv1.1 6 10)) (pc := 46) O gf_c_A_34_6 d_A_append_46 rfl ?_
      refine r_iconst (pc := 49) O d_A_append_49 ic_3 ?_
      refine r_imul (pc := 50) O d_A_append_50 ?_
      refine r_iload (pc := 51) O d_A_append_51 2 rfl ?_
      refine r_iadd (pc := 53) O d_A_append_53 ?_
      refine r_lconst (pc := 54) O d_A_append_54 lc_0 ?_
      refine r_last (pc := 55) O rfl d_A_append_55 ?_
      refine r_iinc (lv' := [(6, .int (qv0 + 1)), (0, .ref 6), (3, .int p3)]) (pc := 56) O d_A_append_56 2 rfl (congrArg (HAdd.hAdd _) ic_1) (by decide) rfl ?_
      refine r_goto (pc := 59) O d_A_append_59 (tgt := 35) (by decide) ?_
      exact r_lv [1, 2, 0] rfl (hrec35 ((qv0 + 1), (pL qv1 39 (ix (((qv1.1 6 10) * 3) + qv0)) 0)))
  refine r_aload_n (pc := 0) O d_A_append_0 0 rfl ?_
  refine r_getR (pc := 1) O gf_c_A_15_6 d_A_append_1 ?_
  refine r_aload_n (pc := 4) O d_A_append_4 0 rfl ?_
  refine r_getI (x := (h.1 6 10)) (pc := 5) O gf_c_A_34_6 d_A_append_5 rfl ?_
  refine r_lload_n (pc := 8) O d_A_append_8 1 rfl ?_
  refine r_last (pc := 9) O rfl d_A_append_9 ?_
  refine r_aload_n (pc := 10) O d_A_append_10 0 rfl ?_
  refine r_getR (pc := 11) O gf_c_A_19_6 d_A_append_11 ?_
  refine r_aload_n (pc := 14) O d_A_append_14 0 rfl ?_
  refine r_getI (x := (h.1 6 10)) (pc := 15) O gf_c_A_34_6 d_A_append_15 rfl ?_
  refine r_iload (pc := 18) O d_A_append_18 3 rfl ?_
  refine r_iast (pc := 20) O rfl d_A_append_20 ?_
  refine r_aload_n (pc := 21) O d_A_append_21 0 rfl ?_
  refine r_getR (pc := 22) O gf_c_A_22_6 d_A_append_22 ?_
  refine r_aload_n (pc := 25) O d_A_append_25 0 rfl ?_
  refine r_getI (x := (h.1 6 10)) (pc := 26) O gf_c_A_34_6 d_A_append_26 rfl ?_
  refine r_iload (pc := 29) O d_A_append_29 4 rfl ?_
  refine r_iast (pc := 31) O rfl d_A_append_31 ?_
  refine r_iconst (pc := 32) O d_A_append_32 ic_0 ?_
  refine r_istore (lv' := [(6, .int 0), (0, .ref 6), (1, .long p1), (3, .int p3), (4, .int p4), (5, .int p5)]) (pc := 33) O d_A_append_33 (by decide) rfl ?_
  exact r_lv [1, 3, 0] rfl (hL35 (0, (pI (pI (pL h 35 (ix (h.1 6 10)) p1) 36 (ix (h.1 6 10)) p4) 37 (ix (h.1 6 10)) p5)))
