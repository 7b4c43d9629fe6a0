def J_A_opn (n : Nat)  (h : sHp) : Option sHp :=
  (J_U_fill n 0 h).bind fun v5 =>
  (J_A_listCommands n v5).bind fun v10 =>
  (J_W_firstState n v10).bind fun v14 =>
  (J_A_slotOf n v14 v10).bind fun v22 =>
  (J_A_append n v14 v22 0 0 v10).bind fun v27 =>
  some v27
set_option maxRecDepth 20000 in
set_option maxHeartbeats 4000000 in
theorem R_A_opn (n : Nat)  (h : sHp) : sM Zc sOv y_A_opn prog_2_method_3_code 4 none rm_A_opn [.ref 6, .ref 2] h (J_A_opn n  h) := by
  refine sM_of (own := "StoryStates$Atlas") rfl (by decide) (Nat.le_of_ble_eq_true rfl) (fun M V O => ?_)
  unfold J_A_opn
  refine r_lv (lv' := [(0, .ref 6), (1, .ref 2)]) [0, 1] rfl ?_
  refine r_aload_n (pc := 0) O d_A_opn_0 0 rfl ?_
  refine r_getR (pc := 1) O gf_c_A_25_6 d_A_opn_1 ?_
  refine r_iconst (pc := 4) O d_A_opn_4 ic_0 ?_
  refine r_callSv (pc := 5) O [.ref 38, .int 0] (R_U_fill n 0 h) cw_A_opn_5 wm_761 rfl (Nat.le_of_ble_eq_true rfl) d_A_opn_5 rfl (fun v5 => ?_)
  refine r_aload_n (pc := 8) O d_A_opn_8 0 rfl ?_
  refine r_aload_n (pc := 9) O d_A_opn_9 1 rfl ?_
  refine r_callVv (pc := 10) O [.ref 2] rfl rfl (R_A_listCommands n  v5) cw_A_opn_10 wm_765 ws_A_listCommands rfl (Nat.le_of_ble_eq_true rfl) d_A_opn_10 rfl (fun v10 => ?_)
  refine r_aload_n (pc := 13) O d_A_opn_13 1 rfl ?_
  refine r_callVlp (pc := 14) O [] rfl rfl (R_W_firstState n  v10) cw_A_opn_14 wm_284 wm_285 rfl (Nat.le_of_ble_eq_true rfl) d_A_opn_14 rfl (fun v14 => ?_)
  refine r_lstore_n (lv' := [(2, .long v14), (0, .ref 6), (1, .ref 2)]) (pc := 17) O d_A_opn_17 rfl (by decide) rfl ?_
  refine r_aload_n (pc := 18) O d_A_opn_18 1 rfl ?_
  refine r_lload_n (pc := 19) O d_A_opn_19 0 rfl ?_
  refine r_aload_n (pc := 20) O d_A_opn_20 1 rfl ?_
  refine r_lload_n (pc := 21) O d_A_opn_21 0 rfl ?_
  refine r_callVip (pc := 22) O [.long v14] rfl rfl (R_A_slotOf n v14 v10) cw_A_opn_22 wm_774 ws_A_slotOf rfl (Nat.le_of_ble_eq_true rfl) d_A_opn_22 rfl (fun v22 => ?_)
  refine r_iconst (pc := 25) O d_A_opn_25 ic_0 ?_
  refine r_iconst (pc := 26) O d_A_opn_26 ic_0 ?_
  refine r_callVv (pc := 27) O [.long v14, .int v22, .int 0, .int 0] rfl rfl (R_A_append n v14 v22 0 0 v10) cw_A_opn_27 wm_779 ws_A_append rfl (Nat.le_of_ble_eq_true rfl) d_A_opn_27 rfl (fun v27 => ?_)
  exact r_vret (pc := 30) O rfl d_A_opn_30
def J_A_hasMore (n : Nat)  (h : sHp) : Option Int32 :=
  if (h.1 6 10) ≤ (h.1 6 9) then (some 0) else (if (h.1 6 11) = 0 then (some 1) else (some 0))
set_option maxRecDepth 20000 in
set_option maxHeartbeats 4000000 in
theorem R_A_hasMore (n : Nat)  (h : sHp) : sM Zc (sPi h) y_A_hasMore prog_2_method_5_code 1 (some .boolean) rm_A_hasMore [.ref 6] h (J_A_hasMore n  h) := by
  refine sM_of (own := "StoryStates$Atlas") rfl (by decide) (Nat.le_of_ble_eq_true rfl) (fun M V O => ?_)
  unfold J_A_hasMore
  refine r_lv (lv' := [(0, .ref 6)]) [0] rfl ?_
  refine r_aload_n (pc := 0) O d_A_hasMore_0 0 rfl ?_
  refine r_getI (x := (h.1 6 9)) (pc := 1) O gf_c_A_38_6 d_A_hasMore_1 rfl ?_
  refine r_aload_n (pc := 4) O d_A_hasMore_4 0 rfl ?_
  refine r_getI (x := (h.1 6 10)) (pc := 5) O gf_c_A_34_6 d_A_hasMore_5 rfl ?_
  refine r_icmp_ge (tgt := 22) (pc := 8) O d_A_hasMore_8 (by decide) (fun q8 => ?_) (fun q8 => ?_)
  · refine r_iconst (pc := 22) O d_A_hasMore_22 ic_0 ?_
    exact r_zret (pc := 23) O rfl d_A_hasMore_23 nb_0
  · refine r_aload_n (pc := 11) O d_A_hasMore_11 0 rfl ?_
    refine r_getI (x := (h.1 6 11)) (pc := 12) O gf_c_A_41_6 d_A_hasMore_12 rfl ?_
    refine r_if_ne (tgt := 22) (pc := 15) O d_A_hasMore_15 (by decide) (fun q15 => ?_) (fun q15 => ?_)
    · refine r_iconst (pc := 22) O d_A_hasMore_22 ic_0 ?_
      exact r_zret (pc := 23) O rfl d_A_hasMore_23 nb_0
    · refine r_iconst (pc := 18) O d_A_hasMore_18 ic_1 ?_
      refine r_goto (pc := 19) O d_A_hasMore_19 (tgt := 23) (by decide) ?_
      exact r_zret (pc := 23) O rfl d_A_hasMore_23 nb_1
def J_A_isFinished (n : Nat)  (h : sHp) : Option Int32 :=
  if (h.1 6 10) ≤ 0 then (some 0) else (if (h.1 6 9) = (h.1 6 10) then (some 1) else (some 0))
set_option maxRecDepth 20000 in
set_option maxHeartbeats 4000000 in
theorem R_A_isFinished (n : Nat)  (h : sHp) : sM Zc (sPi h) y_A_isFinished prog_2_method_6_code 1 (some .boolean) rm_A_isFinished [.ref 6] h (J_A_isFinished n  h) := by
  refine sM_of (own := "StoryStates$Atlas") rfl (by decide) (Nat.le_of_ble_eq_true rfl) (fun M V O => ?_)
  unfold J_A_isFinished
  refine r_lv (lv' := [(0, .ref 6)]) [0] rfl ?_
  refine r_aload_n (pc := 0) O d_A_isFinished_0 0 rfl ?_
  refine r_getI (x := (h.1 6 10)) (pc := 1) O gf_c_A_34_6 d_A_isFinished_1 rfl ?_
  refine r_if_le (tgt := 22) (pc := 4) O d_A_isFinished_4 (by decide) (fun q4 => ?_) (fun q4 => ?_)
  · refine r_iconst (pc := 22) O d_A_isFinished_22 ic_0 ?_
    exact r_zret (pc := 23) O rfl d_A_isFinished_23 nb_0
  · refine r_aload_n (pc := 7) O d_A_isFinished_7 0 rfl ?_
    refine r_getI (x := (h.1 6 9)) (pc := 8) O gf_c_A_38_6 d_A_isFinished_8 rfl ?_
    refine r_aload_n (pc := 11) O d_A_isFinished_11 0 rfl ?_
    refine r_getI (x := (h.1 6 10)) (pc := 12) O gf_c_A_34_6 d_A_isFinished_12 rfl ?_
    refine r_icmp_ne (tgt := 22) (pc := 15) O d_A_isFinished_15 (by decide) (fun q15 => ?_) (fun q15 => ?_)
    · refine r_iconst (pc := 22) O d_A_isFinished_22 ic_0 ?_
      exact r_zret (pc := 23) O rfl d_A_isFinished_23 nb_0
    · refine r_iconst (pc := 18) O d_A_isFinished_18 ic_1 ?_
      refine r_goto (pc := 19) O d_A_isFinished_19 (tgt := 23) (by decide) ?_
      exact r_zret (pc := 23) O rfl d_A_isFinished_23 nb_1
def J_D_verbOf (n : Nat) (p0 : Int32) (h : sHp) : Option Int32 :=
  some (jIshr p0 6)
set_option maxRecDepth 20000 in
set_option maxHeartbeats 4000000 in
theorem R_D_verbOf (n : Nat) (p0 : Int32) (h : sHp) : sM Zc (sPi h) y_D_verbOf prog_5_method_3_code 1 (some .int) rm_D_verbOf [.int p0] h (J_D_verbOf n p0 h) := by
  refine sM_of (own := "StoryStates$Code") rfl (by decide) (Nat.le_of_ble_eq_true rfl) (fun M V O => ?_)
  unfold J_D_verbOf
  refine r_lv (lv' := [(0, .int p0)]) [0] rfl ?_
  refine r_iload_n (pc := 0) O d_D_verbOf_0 0 rfl ?_
  refine r_bipush (pc := 1) O d_D_verbOf_1 bc_6 ?_
  refine r_ishr (pc := 3) O d_D_verbOf_3 ?_
  exact r_iret (pc := 4) O rfl d_D_verbOf_4
def J_D_firstOf (n : Nat) (p0 : Int32) (h : sHp) : Option Int32 :=
  some (((jIshr p0 3) &&& 7) - 1)
set_option maxRecDepth 20000 in
set_option maxHeartbeats 4000000 in
theorem R_D_firstOf (n : Nat) (p0 : Int32) (h : sHp) : sM Zc (sPi h) y_D_firstOf prog_5_method_4_code 1 (some .int) rm_D_firstOf [.int p0] h (J_D_firstOf n p0 h) := by
  refine sM_of (own := "StoryStates$Code") rfl (by decide) (Nat.le_of_ble_eq_true rfl) (fun M V O => ?_)
  unfold J_D_firstOf
  refine r_lv (lv' := [(0, .int p0)]) [0] rfl ?_
  refine r_iload_n (pc := 0) O d_D_firstOf_0 0 rfl ?_
  refine r_iconst (pc := 1) O d_D_firstOf_1 ic_3 ?_
  refine r_ishr (pc := 2) O d_D_firstOf_2 ?_
  refine r_bipush (pc := 3) O d_D_firstOf_3 bc_7 ?_
  refine r_iand (pc := 5) O d_D_firstOf_5 ?_
  refine r_iconst (pc := 6) O d_D_firstOf_6 ic_1 ?_
  refine r_isub (pc := 7) O d_D_firstOf_7 ?_
  exact r_iret (pc := 8) O rfl d_D_firstOf_8
def J_D_secondOf (n : Nat) (p0 : Int32) (h : sHp) : Option Int32 :=
  some ((p0 &&& 7) - 1)
set_option maxRecDepth 20000 in
set_option maxHeartbeats 4000000 in
theorem R_D_secondOf (n : Nat) (p0 : Int32) (h : sHp) : sM Zc (sPi h) y_D_secondOf prog_5_method_5_code 1 (some .int) rm_D_secondOf [.int p0] h (J_D_secondOf n p0 h) := by
  refine sM_of (own := "StoryStates$Code") rfl (by decide) (Nat.le_of_ble_eq_true rfl) (fun M V O => ?_)
  unfold J_D_secondOf
  refine r_lv (lv' := [(0, .int p0)]) [0] rfl ?_
  refine r_iload_n (pc := 0) O d_D_secondOf_0 0 rfl ?_
  refine r_bipush (pc := 1) O d_D_secondOf_1 bc_7 ?_
  refine r_iand (pc := 3) O d_D_secondOf_3 ?_
  refine r_iconst (pc := 4) O d_D_secondOf_4 ic_1 ?_
  refine r_isub (pc := 5) O d_D_secondOf_5 ?_
  exact r_iret (pc := 6) O rfl d_D_secondOf_6
def J_A_addTo (n : Nat) (p1 : Int32) (p2 : Int32) (h : sHp) : Option sHp :=
  sGd (sIn (p1 + (p2 / 64)) 480) (sGd (sIn (p1 + (p2 / 64)) 480) (some (pL h 39 (ix (p1 + (p2 / 64))) ((h.2 39 (ix (p1 + (p2 / 64)))) ||| (jLshl 1 (jRem p2 64))))))
set_option maxRecDepth 20000 in
set_option maxHeartbeats 4000000 in
theorem R_A_addTo (n : Nat) (p1 : Int32) (p2 : Int32) (h : sHp) : sM Zc sOv y_A_addTo prog_2_method_15_code 3 none rm_A_addTo [.ref 39, .int p1, .int p2] h (J_A_addTo n p1 p2 h) := by
  refine sM_of (own := "StoryStates$Atlas") rfl (by decide) (Nat.le_of_ble_eq_true rfl) (fun M V O => ?_)
  unfold J_A_addTo
  refine r_lv (lv' := [(0, .ref 39), (1, .int p1), (2, .int p2)]) [0, 1, 2] rfl ?_
  refine r_aload_n (pc := 0) O d_A_addTo_0 0 rfl ?_
  refine r_iload_n (pc := 1) O d_A_addTo_1 1 rfl ?_
  refine r_iload_n (pc := 2) O d_A_addTo_2 2 rfl ?_
  refine r_bipush (pc := 3) O d_A_addTo_3 bc_64 ?_
  refine r_idiv (pc := 5) O d_A_addTo_5 (by decide) ?_
  refine r_iadd (pc := 6) O d_A_addTo_6 ?_
  refine r_dup2_11 (pc := 7) O d_A_addTo_7 rfl rfl ?_
  refine r_lald (x := (h.2 39 (ix (p1 + (p2 / 64))))) (pc := 8) O rfl d_A_addTo_8 rfl ?_
  refine r_lconst (pc := 9) O d_A_addTo_9 lc_1 ?_
  refine r_iload_n (pc := 10) O d_A_addTo_10 2 rfl ?_
  refine r_bipush (pc := 11) O d_A_addTo_11 bc_64 ?_
  refine r_irem (pc := 13) O d_A_addTo_13 (by decide) ?_
  refine r_lshl (pc := 14) O d_A_addTo_14 ?_
  refine r_lor (pc := 15) O d_A_addTo_15 ?_
  refine r_last (pc := 16) O rfl d_A_addTo_16 ?_
  exact r_vret (pc := 17) O rfl d_A_addTo_17
def K_A_note_45 (n : Nat) (p1 : Int64) (p3 : Int32) (x4 : Int32) (h : sHp) : Option sHp :=
  sGd (sIn x4 512) ((J_A_addTo n ((h.1 6 9) * 3) ((h.1 38 (ix x4)) - 1) h).bind fun v64 =>
  some v64)
def J_A_note (n : Nat) (p1 : Int64) (p3 : Int32) (h : sHp) : Option sHp :=
  (J_A_slotOf n p1 h).bind fun v2 =>
  sGd (sIn v2 512) (if (h.1 38 (ix v2)) = 0 then (if (h.1 6 10) = 160 then (some (pI h 6 11 1)) else ((J_A_append n p1 v2 (h.1 6 9) p3 h).bind fun v42 =>
  K_A_note_45 n p1 p3 v2 v42)) else (K_A_note_45 n p1 p3 v2 h))
set_option maxRecDepth 20000 in
set_option maxHeartbeats 4000000 in
theorem R_A_note (n : Nat) (p1 : Int64) (p3 : Int32) (h : sHp) : sM Zc sOv y_A_note prog_2_method_8_code 5 none rm_A_note [.ref 6, .long p1, .int p3] h (J_A_note n p1 p3 h) := by
  refine sM_of (own := "StoryStates$Atlas") rfl (by decide) (Nat.le_of_ble_eq_true rfl) (fun M V O => ?_)
  unfold J_A_note
  refine r_lv (lv' := [(0, .ref 6), (1, .long p1), (3, .int p3)]) [0, 1, 2] rfl ?_
  have hK45 : ∀ (x4 : Int32) (h : sHp), sS Zc M V (sEb sOv) 45 [(0, .ref 6), (4, .int x4)] [] h (K_A_note_45 n p1 p3 x4 h) := by
    intro x4 h
    unfold K_A_note_45
    refine r_aload_n (pc := 45) O d_A_note_45 0 rfl ?_
    refine r_getR (pc := 46) O gf_c_A_28_6 d_A_note_46 ?_
    refine r_aload_n (pc := 49) O d_A_note_49 0 rfl ?_
    refine r_getI (x := (h.1 6 9)) (pc := 50) O gf_c_A_38_6 d_A_note_50 rfl ?_
    refine r_iconst (pc := 53) O d_A_note_53 ic_3 ?_
    refine r_imul (pc := 54) O d_A_note_54 ?_
    refine r_aload_n (pc := 55) O d_A_note_55 0 rfl ?_
    refine r_getR (pc := 56) O gf_c_A_25_6 d_A_note_56 ?_
    refine r_iload (pc := 59) O d_A_note_59 1 rfl ?_
    refine r_iald (x := (h.1 38 (ix x4))) (pc := 61) O rfl d_A_note_61 rfl ?_
    refine r_iconst (pc := 62) O d_A_note_62 ic_1 ?_
    refine r_isub (pc := 63) O d_A_note_63 ?_
    refine r_callSv (pc := 64) O [.ref 39, .int ((h.1 6 9) * 3), .int ((h.1 38 (ix x4)) - 1)] (R_A_addTo n ((h.1 6 9) * 3) ((h.1 38 (ix x4)) - 1) h) cw_A_note_64 wm_806 rfl (Nat.le_of_ble_eq_true rfl) d_A_note_64 rfl (fun v64 => ?_)
    exact r_vret (pc := 67) O rfl d_A_note_67
  refine r_aload_n (pc := 0) O d_A_note_0 0 rfl ?_
  refine r_lload_n (pc := 1) O d_A_note_1 1 rfl ?_
  refine r_callVip (pc := 2) O [.long p1] rfl rfl (R_A_slotOf n p1 h) cw_A_note_2 wm_774 ws_A_slotOf rfl (Nat.le_of_ble_eq_true rfl) d_A_note_2 rfl (fun v2 => ?_)
  refine r_istore (lv' := [(4, .int v2), (0, .ref 6), (1, .long p1), (3, .int p3)]) (pc := 5) O d_A_note_5 (by decide) rfl ?_
  refine r_aload_n (pc := 7) O d_A_note_7 1 rfl ?_
  refine r_getR (pc := 8) O gf_c_A_25_6 d_A_note_8 ?_
  refine r_iload (pc := 11) O d_A_note_11 0 rfl ?_
  refine r_iald (x := (h.1 38 (ix v2))) (pc := 13) O rfl d_A_note_13 rfl ?_
  refine r_if_ne (tgt := 45) (pc := 14) O d_A_note_14 (by decide) (fun q14 => ?_) (fun q14 => ?_)
  · exact r_lv [1, 0] rfl (hK45 v2 h)
  · refine r_aload_n (pc := 17) O d_A_note_17 1 rfl ?_
    refine r_getI (x := (h.1 6 10)) (pc := 18) O gf_c_A_34_6 d_A_note_18 rfl ?_
    refine r_sipush (pc := 21) O d_A_note_21 sc_160 ?_
    refine r_icmp_ne (tgt := 33) (pc := 24) O d_A_note_24 (by decide) (fun q24 => ?_) (fun q24 => ?_)
    · refine r_aload_n (pc := 33) O d_A_note_33 1 rfl ?_
      refine r_lload_n (pc := 34) O d_A_note_34 2 rfl ?_
      refine r_iload (pc := 35) O d_A_note_35 0 rfl ?_
      refine r_aload_n (pc := 37) O d_A_note_37 1 rfl ?_
      refine r_getI (x := (h.1 6 9)) (pc := 38) O gf_c_A_38_6 d_A_note_38 rfl ?_
      refine r_iload_n (pc := 41) O d_A_note_41 3 rfl ?_
      refine r_callVv (pc := 42) O [.long p1, .int v2, .int (h.1 6 9), .int p3] rfl rfl (R_A_append n p1 v2 (h.1 6 9) p3 h) cw_A_note_42 wm_779 ws_A_append rfl (Nat.le_of_ble_eq_true rfl) d_A_note_42 rfl (fun v42 => ?_)
      exact r_lv [1, 0] rfl (hK45 v2 v42)
    · refine r_aload_n (pc := 27) O d_A_note_27 1 rfl ?_
      refine r_iconst (pc := 28) O d_A_note_28 ic_1 ?_
      refine r_putZ (pc := 29) O pf_c_A_41_6 d_A_note_29 nb_1 rfl ?_
      exact r_vret (pc := 32) O rfl d_A_note_32
def F_U_fillL_6 (n : Nat) (p1 : Int64) (x4 : Int32) (rec6 : Int32 × sHp → Option sHp) (q : Int32 × sHp) : Option sHp :=
  if x4 ≤ q.1 then (some q.2) else (sGd (sIn q.1 3) (rec6 ((q.1 + 1), (pL q.2 40 (ix q.1) p1))))
def J_U_fillL (n : Nat) (p1 : Int64) (h : sHp) : Option sHp :=
  sFx (F_U_fillL_6 n p1 3) n (0, h)
set_option maxRecDepth 20000 in
set_option maxHeartbeats 4000000 in
theorem R_U_fillL (n : Nat) (p1 : Int64) (h : sHp) : sM Zc sOv y_U_fillL prog_19_method_101_code 5 none rm_U_fillL [.ref 40, .long p1] h (J_U_fillL n p1 h) := by
  refine sM_of (own := "java/util/Arrays") rfl (by decide) (Nat.le_of_ble_eq_true rfl) (fun M V O => ?_)
  unfold J_U_fillL
  refine r_lv (lv' := [(0, .ref 40), (1, .long p1)]) [0, 1] rfl ?_
  have hL6 : ∀ (x4 : Int32) (q : Int32 × sHp), sS Zc M V (sEb sOv) 6 [(0, .ref 40), (1, .long p1), (3, .int q.1), (4, .int x4)] [] q.2 (sFx (F_U_fillL_6 n p1 x4) n q) := by
    intro x4
    refine r_fx (fun q => [(0, .ref 40), (1, .long p1), (3, .int q.1), (4, .int x4)]) (fun q => q.2) (F_U_fillL_6 n p1 x4) (fun rec6 hrec6 q => ?_) n
    obtain ⟨qv0, qv1⟩ := q
    show sS Zc M V (sEb sOv) 6 [(0, .ref 40), (1, .long p1), (3, .int qv0), (4, .int x4)] [] qv1 _
    unfold F_U_fillL_6
    try dsimp only
    refine r_iload_n (pc := 6) O d_U_fillL_6 2 rfl ?_
    refine r_iload (pc := 7) O d_U_fillL_7 3 rfl ?_
    refine r_icmp_ge (tgt := 22) (pc := 9) O d_U_fillL_9 (by decide) (fun q9 => ?_) (fun q9 => ?_)
    · exact r_vret (pc := 22) O rfl d_U_fillL_22
    · refine r_aload_n (pc := 12) O d_U_fillL_12 0 rfl ?_
      refine r_iload_n (pc := 13) O d_U_fillL_13 2 rfl ?_
      refine r_lload_n (pc := 14) O d_U_fillL_14 1 rfl ?_
      refine r_last (pc := 15) O rfl d_U_fillL_15 ?_
      refine r_iinc (lv' := [(3, .int (qv0 + 1)), (0, .ref 40), (1, .long p1), (4, .int x4)]) (pc := 16) O d_U_fillL_16 2 rfl (congrArg (HAdd.hAdd _) ic_1) (by decide) rfl ?_
      refine r_goto (pc := 19) O d_U_fillL_19 (tgt := 6) (by decide) ?_
      exact r_lv [1, 2, 0, 3] rfl (hrec6 ((qv0 + 1), (pL qv1 40 (ix qv0) p1)))
  refine r_iconst (pc := 0) O d_U_fillL_0 ic_0 ?_
  refine r_istore_n (lv' := [(3, .int 0), (0, .ref 40), (1, .long p1)]) (pc := 1) O d_U_fillL_1 rfl (by decide) rfl ?_
  refine r_aload_n (pc := 2) O d_U_fillL_2 1 rfl ?_
  refine r_alen (pc := 3) O rfl (by decide) nc_3 d_U_fillL_3 ?_
  refine r_istore (lv' := [(4, .int 3), (3, .int 0), (0, .ref 40), (1, .long p1)]) (pc := 4) O d_U_fillL_4 (by decide) rfl ?_
  exact r_lv [2, 3, 1, 0] rfl (hL6 3 (0, h))
def J_A_isHopeful (n : Nat) (p1 : Int32) (h : sHp) : Option Int32 :=
  sGd (sIn (p1 / 64) 3) (if (lg_cmp ((jLushr (h.2 40 (ix (p1 / 64))) (jRem p1 64)) &&& 1) 0) = 0 then (some 0) else (some 1))
set_option maxRecDepth 20000 in
set_option maxHeartbeats 4000000 in
theorem R_A_isHopeful (n : Nat) (p1 : Int32) (h : sHp) : sM Zc (sPi h) y_A_isHopeful prog_2_method_14_code 2 (some .boolean) rm_A_isHopeful [.ref 6, .int p1] h (J_A_isHopeful n p1 h) := by
  refine sM_of (own := "StoryStates$Atlas") rfl (by decide) (Nat.le_of_ble_eq_true rfl) (fun M V O => ?_)
  unfold J_A_isHopeful
  refine r_lv (lv' := [(0, .ref 6), (1, .int p1)]) [0, 1] rfl ?_
  refine r_aload_n (pc := 0) O d_A_isHopeful_0 0 rfl ?_
  refine r_getR (pc := 1) O gf_c_A_31_6 d_A_isHopeful_1 ?_
  refine r_iload_n (pc := 4) O d_A_isHopeful_4 1 rfl ?_
  refine r_bipush (pc := 5) O d_A_isHopeful_5 bc_64 ?_
  refine r_idiv (pc := 7) O d_A_isHopeful_7 (by decide) ?_
  refine r_lald (x := (h.2 40 (ix (p1 / 64)))) (pc := 8) O rfl d_A_isHopeful_8 rfl ?_
  refine r_iload_n (pc := 9) O d_A_isHopeful_9 1 rfl ?_
  refine r_bipush (pc := 10) O d_A_isHopeful_10 bc_64 ?_
  refine r_irem (pc := 12) O d_A_isHopeful_12 (by decide) ?_
  refine r_lushr (pc := 13) O d_A_isHopeful_13 ?_
  refine r_lconst (pc := 14) O d_A_isHopeful_14 lc_1 ?_
  refine r_land (pc := 15) O d_A_isHopeful_15 ?_
  refine r_lconst (pc := 16) O d_A_isHopeful_16 lc_0 ?_
  refine r_lcmp (pc := 17) O d_A_isHopeful_17 ?_
  refine r_if_eq (tgt := 25) (pc := 18) O d_A_isHopeful_18 (by decide) (fun q18 => ?_) (fun q18 => ?_)
  · refine r_iconst (pc := 25) O d_A_isHopeful_25 ic_0 ?_
    exact r_zret (pc := 26) O rfl d_A_isHopeful_26 nb_0
  · refine r_iconst (pc := 21) O d_A_isHopeful_21 ic_1 ?_
    refine r_goto (pc := 22) O d_A_isHopeful_22 (tgt := 26) (by decide) ?_
    exact r_zret (pc := 26) O rfl d_A_isHopeful_26 nb_1
def J_A_isWon (n : Nat) (p1 : Int32) (h : sHp) : Option Int32 :=
  sGd (sIn p1 160) ((J_B_endingOf n (h.2 35 (ix p1)) h).bind fun v6 =>
  (J_W_hasEnding n v6 h).bind fun v12 =>
  if v12 = 0 then (some 0) else (sGd (sIn v6 4) (if (h.1 16 (ix v6)) = 0 then (some 0) else (some 1))))
set_option maxRecDepth 20000 in
set_option maxHeartbeats 4000000 in
theorem R_A_isWon (n : Nat) (p1 : Int32) (h : sHp) : sM Zc (sPi h) y_A_isWon prog_2_method_12_code 4 (some .boolean) rm_A_isWon [.ref 6, .int p1, .ref 2] h (J_A_isWon n p1 h) := by
  refine sM_of (own := "StoryStates$Atlas") rfl (by decide) (Nat.le_of_ble_eq_true rfl) (fun M V O => ?_)
  unfold J_A_isWon
  refine r_lv (lv' := [(0, .ref 6), (1, .int p1), (2, .ref 2)]) [0, 1, 2] rfl ?_
  refine r_aload_n (pc := 0) O d_A_isWon_0 0 rfl ?_
  refine r_getR (pc := 1) O gf_c_A_15_6 d_A_isWon_1 ?_
  refine r_iload_n (pc := 4) O d_A_isWon_4 1 rfl ?_
  refine r_lald (x := (h.2 35 (ix p1))) (pc := 5) O rfl d_A_isWon_5 rfl ?_
  refine r_callSip (pc := 6) O [.long (h.2 35 (ix p1))] (R_B_endingOf n (h.2 35 (ix p1)) h) cw_A_isWon_6 wm_604 rfl (Nat.le_of_ble_eq_true rfl) d_A_isWon_6 rfl (fun v6 => ?_)
  refine r_istore_n (lv' := [(3, .int v6), (0, .ref 6), (1, .int p1), (2, .ref 2)]) (pc := 9) O d_A_isWon_9 rfl (by decide) rfl ?_
  refine r_aload_n (pc := 10) O d_A_isWon_10 3 rfl ?_
  refine r_iload_n (pc := 11) O d_A_isWon_11 0 rfl ?_
  refine r_callVip (pc := 12) O [.int v6] rfl rfl (R_W_hasEnding n v6 h) cw_A_isWon_12 wm_550 wm_551 rfl (Nat.le_of_ble_eq_true rfl) d_A_isWon_12 rfl (fun v12 => ?_)
  refine r_if_eq (tgt := 31) (pc := 15) O d_A_isWon_15 (by decide) (fun q15 => ?_) (fun q15 => ?_)
  · refine r_iconst (pc := 31) O d_A_isWon_31 ic_0 ?_
    exact r_zret (pc := 32) O rfl d_A_isWon_32 nb_0
  · refine r_aload_n (pc := 18) O d_A_isWon_18 3 rfl ?_
    refine r_getR (pc := 19) O gf_c_A_152_2 d_A_isWon_19 ?_
    refine r_iload_n (pc := 22) O d_A_isWon_22 0 rfl ?_
    refine r_zald (x := (h.1 16 (ix v6))) (pc := 23) O rfl d_A_isWon_23 rfl ?_
    refine r_if_eq (tgt := 31) (pc := 24) O d_A_isWon_24 (by decide) (fun q24 => ?_) (fun q24 => ?_)
    · refine r_iconst (pc := 31) O d_A_isWon_31 ic_0 ?_
      exact r_zret (pc := 32) O rfl d_A_isWon_32 nb_0
    · refine r_iconst (pc := 27) O d_A_isWon_27 ic_1 ?_
      refine r_goto (pc := 28) O d_A_isWon_28 (tgt := 32) (by decide) ?_
      exact r_zret (pc := 32) O rfl d_A_isWon_32 nb_1
def F_A_leadsToHope_2 (n : Nat) (p1 : Int32) (h : sHp) (rec2 : Int32 → Option Int32) (q : Int32) : Option Int32 :=
  if 3 ≤ q then (some 0) else (sGd (sIn ((p1 * 3) + q) 480) (sGd (sIn q 3) (if (lg_cmp ((h.2 39 (ix ((p1 * 3) + q))) &&& (h.2 40 (ix q))) 0) = 0 then (rec2 (q + 1)) else (some 1))))
def J_A_leadsToHope (n : Nat) (p1 : Int32) (h : sHp) : Option Int32 :=
  sFx (F_A_leadsToHope_2 n p1 h ) n 0
set_option maxRecDepth 20000 in
set_option maxHeartbeats 4000000 in
theorem R_A_leadsToHope (n : Nat) (p1 : Int32) (h : sHp) : sM Zc (sPi h) y_A_leadsToHope prog_2_method_13_code 3 (some .boolean) rm_A_leadsToHope [.ref 6, .int p1] h (J_A_leadsToHope n p1 h) := by
  refine sM_of (own := "StoryStates$Atlas") rfl (by decide) (Nat.le_of_ble_eq_true rfl) (fun M V O => ?_)
  unfold J_A_leadsToHope
  refine r_lv (lv' := [(0, .ref 6), (1, .int p1)]) [0, 1] rfl ?_
  have hL2 : ∀ (q : Int32), sS Zc M V (sEb (sPi h)) 2 [(0, .ref 6), (1, .int p1), (2, .int q)] [] h (sFx (F_A_leadsToHope_2 n p1 h ) n q) := by
    skip
    refine r_fx (fun q => [(0, .ref 6), (1, .int p1), (2, .int q)]) (fun q => h) (F_A_leadsToHope_2 n p1 h ) (fun rec2 hrec2 q => ?_) n
    skip
    show sS Zc M V (sEb (sPi h)) 2 [(0, .ref 6), (1, .int p1), (2, .int q)] [] h _
    unfold F_A_leadsToHope_2
    try dsimp only
    refine r_iload_n (pc := 2) O d_A_leadsToHope_2 2 rfl ?_
    refine r_iconst (pc := 3) O d_A_leadsToHope_3 ic_3 ?_
    refine r_icmp_ge (tgt := 37) (pc := 4) O d_A_leadsToHope_4 (by decide) (fun q4 => ?_) (fun q4 => ?_)
    · refine r_iconst (pc := 37) O d_A_leadsToHope_37 ic_0 ?_
      exact r_zret (pc := 38) O rfl d_A_leadsToHope_38 nb_0
    · refine r_aload_n (pc := 7) O d_A_leadsToHope_7 0 rfl ?_
      refine r_getR (pc := 8) O gf_c_A_28_6 d_A_leadsToHope_8 ?_
      refine r_iload_n (pc := 11) O d_A_leadsToHope_11 1 rfl ?_
      refine r_iconst (pc := 12) O d_A_leadsToHope_12 ic_3 ?_
      refine r_imul (pc := 13) O d_A_leadsToHope_13 ?_
      refine r_iload_n (pc := 14) O d_A_leadsToHope_14 2 rfl ?_
      refine r_iadd (pc := 15) O d_A_leadsToHope_15 ?_
      refine r_lald (x := (h.2 39 (ix ((p1 * 3) + q)))) (pc := 16) O rfl d_A_leadsToHope_16 rfl ?_
      refine r_aload_n (pc := 17) O d_A_leadsToHope_17 0 rfl ?_
      refine r_getR (pc := 18) O gf_c_A_31_6 d_A_leadsToHope_18 ?_
      refine r_iload_n (pc := 21) O d_A_leadsToHope_21 2 rfl ?_
      refine r_lald (x := (h.2 40 (ix q))) (pc := 22) O rfl d_A_leadsToHope_22 rfl ?_
      refine r_land (pc := 23) O d_A_leadsToHope_23 ?_
      refine r_lconst (pc := 24) O d_A_leadsToHope_24 lc_0 ?_
      refine r_lcmp (pc := 25) O d_A_leadsToHope_25 ?_
      refine r_if_eq (tgt := 31) (pc := 26) O d_A_leadsToHope_26 (by decide) (fun q26 => ?_) (fun q26 => ?_)
      · refine r_iinc (lv' := [(2, .int (q + 1)), (0, .ref 6), (1, .int p1)]) (pc := 31) O d_A_leadsToHope_31 2 rfl (congrArg (HAdd.hAdd _) ic_1) (by decide) rfl ?_
        refine r_goto (pc := 34) O d_A_leadsToHope_34 (tgt := 2) (by decide) ?_
        exact r_lv [1, 2, 0] rfl (hrec2 (q + 1))
      · refine r_iconst (pc := 29) O d_A_leadsToHope_29 ic_1 ?_
        exact r_zret (pc := 30) O rfl d_A_leadsToHope_30 nb_1
  refine r_iconst (pc := 0) O d_A_leadsToHope_0 ic_0 ?_
  refine r_istore_n (lv' := [(2, .int 0), (0, .ref 6), (1, .int p1)]) (pc := 1) O d_A_leadsToHope_1 rfl (by decide) rfl ?_
  exact r_lv [1, 2, 0] rfl (hL2 0)
def J_A_addTo_1 (n : Nat) (p1 : Int32) (p2 : Int32) (h : sHp) : Option sHp :=
  sGd (sIn (p1 + (p2 / 64)) 3) (sGd (sIn (p1 + (p2 / 64)) 3) (some (pL h 40 (ix (p1 + (p2 / 64))) ((h.2 40 (ix (p1 + (p2 / 64)))) ||| (jLshl 1 (jRem p2 64))))))
set_option maxRecDepth 20000 in
set_option maxHeartbeats 4000000 in
theorem R_A_addTo_1 (n : Nat) (p1 : Int32) (p2 : Int32) (h : sHp) : sM Zc sOv y_A_addTo prog_2_method_15_code 3 none rm_A_addTo_1 [.ref 40, .int p1, .int p2] h (J_A_addTo_1 n p1 p2 h) := by
  refine sM_of (own := "StoryStates$Atlas") rfl (by decide) (Nat.le_of_ble_eq_true rfl) (fun M V O => ?_)
  unfold J_A_addTo_1
  refine r_lv (lv' := [(0, .ref 40), (1, .int p1), (2, .int p2)]) [0, 1, 2] rfl ?_
  refine r_aload_n (pc := 0) O d_A_addTo_0 0 rfl ?_
  refine r_iload_n (pc := 1) O d_A_addTo_1 1 rfl ?_
  refine r_iload_n (pc := 2) O d_A_addTo_2 2 rfl ?_
  refine r_bipush (pc := 3) O d_A_addTo_3 bc_64 ?_
  refine r_idiv (pc := 5) O d_A_addTo_5 (by decide) ?_
  refine r_iadd (pc := 6) O d_A_addTo_6 ?_
  refine r_dup2_11 (pc := 7) O d_A_addTo_7 rfl rfl ?_
  refine r_lald (x := (h.2 40 (ix (p1 + (p2 / 64))))) (pc := 8) O rfl d_A_addTo_8 rfl ?_
  refine r_lconst (pc := 9) O d_A_addTo_9 lc_1 ?_
  refine r_iload_n (pc := 10) O d_A_addTo_10 2 rfl ?_
  refine r_bipush (pc := 11) O d_A_addTo_11 bc_64 ?_
  refine r_irem (pc := 13) O d_A_addTo_13 (by decide) ?_
  refine r_lshl (pc := 14) O d_A_addTo_14 ?_
  refine r_lor (pc := 15) O d_A_addTo_15 ?_
  refine r_last (pc := 16) O rfl d_A_addTo_16 ?_
  exact r_vret (pc := 17) O rfl d_A_addTo_17
def K_A_findHope_66 (n : Nat) (rec12 : (Int32 × Int32 × sHp → Option sHp)) (rec33 : (Int32 × Int32 × sHp → Option sHp)) (x3 : Int32) (x4 : Int32) (h : sHp) : Option sHp :=
  (J_A_addTo_1 n 0 x4 h).bind fun v73 =>
  rec33 (1, (x4 + (-1)), v73)
def F_A_findHope_33 (n : Nat) (rec12 : (Int32 × Int32 × sHp → Option sHp)) (x3 : Int32) (rec33 : Int32 × Int32 × sHp → Option sHp) (q : Int32 × Int32 × sHp) : Option sHp :=
  if q.2.1 < 0 then (rec12 (q.1, (x3 + 1), q.2.2)) else ((J_A_isHopeful n q.2.1 q.2.2).bind fun v41 =>
  if v41 = 0 then ((J_A_isWon n q.2.1 q.2.2).bind fun v51 =>
  if v51 = 0 then ((J_A_leadsToHope n q.2.1 q.2.2).bind fun v60 =>
  if v60 = 0 then (rec33 (q.1, (q.2.1 + (-1)), q.2.2)) else (K_A_findHope_66 n rec12 rec33 x3 q.2.1 q.2.2)) else (K_A_findHope_66 n rec12 rec33 x3 q.2.1 q.2.2)) else (rec33 (q.1, (q.2.1 + (-1)), q.2.2)))
def F_A_findHope_12 (n : Nat) (rec12 : Int32 × Int32 × sHp → Option sHp) (q : Int32 × Int32 × sHp) : Option sHp :=
  if 160 < q.2.1 then (some q.2.2) else (if q.1 = 0 then (some q.2.2) else (sFx (F_A_findHope_33 n rec12 q.2.1) n (0, ((q.2.2.1 6 10) - 1), q.2.2)))
def J_A_findHope (n : Nat)  (h : sHp) : Option sHp :=
  (J_U_fillL n 0 h).bind fun v5 =>
  sFx (F_A_findHope_12 n ) n (1, 0, v5)
set_option maxRecDepth 20000 in
set_option maxHeartbeats 4000000 in
theorem R_A_findHope (n : Nat)  (h : sHp) : sM Zc sOv y_A_findHope prog_2_method_11_code 5 none rm_A_findHope [.ref 6, .ref 2] h (J_A_findHope n  h) := by
  refine sM_of (own := "StoryStates$Atlas") rfl (by decide) (Nat.le_of_ble_eq_true rfl) (fun M V O => ?_)
  unfold J_A_findHope
  refine r_lv (lv' := [(0, .ref 6), (1, .ref 2)]) [0, 1] rfl ?_
  have hL12 : ∀ (q : Int32 × Int32 × sHp), sS Zc M V (sEb sOv) 12 [(0, .ref 6), (1, .ref 2), (2, .int q.1), (3, .int q.2.1)] [] q.2.2 (sFx (F_A_findHope_12 n ) n q) := by
    skip
    refine r_fx (fun q => [(0, .ref 6), (1, .ref 2), (2, .int q.1), (3, .int q.2.1)]) (fun q => q.2.2) (F_A_findHope_12 n ) (fun rec12 hrec12 q => ?_) n
    obtain ⟨qv0, qv1, qv2⟩ := q
    show sS Zc M V (sEb sOv) 12 [(0, .ref 6), (1, .ref 2), (2, .int qv0), (3, .int qv1)] [] qv2 _
    unfold F_A_findHope_12
    try dsimp only
    have hL33 : ∀ (x3 : Int32) (q : Int32 × Int32 × sHp), sS Zc M V (sEb sOv) 33 [(0, .ref 6), (1, .ref 2), (2, .int q.1), (3, .int x3), (4, .int q.2.1)] [] q.2.2 (sFx (F_A_findHope_33 n rec12 x3) n q) := by
      intro x3
      refine r_fx (fun q => [(0, .ref 6), (1, .ref 2), (2, .int q.1), (3, .int x3), (4, .int q.2.1)]) (fun q => q.2.2) (F_A_findHope_33 n rec12 x3) (fun rec33 hrec33 q => ?_) n
      obtain ⟨qv0, qv1, qv2⟩ := q
      show sS Zc M V (sEb sOv) 33 [(0, .ref 6), (1, .ref 2), (2, .int qv0), (3, .int x3), (4, .int qv1)] [] qv2 _
      unfold F_A_findHope_33
      try dsimp only
      have hK66 : ∀ (x4 : Int32) (h : sHp), sS Zc M V (sEb sOv) 66 [(0, .ref 6), (1, .ref 2), (3, .int x3), (4, .int x4)] [] h (K_A_findHope_66 n rec12 rec33 x3 x4 h) := by
        intro x4 h
        unfold K_A_findHope_66
        refine r_aload_n (pc := 66) O d_A_findHope_66 0 rfl ?_
        refine r_getR (pc := 67) O gf_c_A_31_6 d_A_findHope_67 ?_
        refine r_iconst (pc := 70) O d_A_findHope_70 ic_0 ?_
        refine r_iload (pc := 71) O d_A_findHope_71 3 rfl ?_
        refine r_callSv (pc := 73) O [.ref 40, .int 0, .int x4] (R_A_addTo_1 n 0 x4 h) cw_A_findHope_73 wm_806 rfl (Nat.le_of_ble_eq_true rfl) d_A_findHope_73 rfl (fun v73 => ?_)
        refine r_iconst (pc := 76) O d_A_findHope_76 ic_1 ?_
        refine r_istore_n (lv' := [(2, .int 1), (0, .ref 6), (1, .ref 2), (3, .int x3), (4, .int x4)]) (pc := 77) O d_A_findHope_77 rfl (by decide) rfl ?_
        refine r_iinc (lv' := [(4, .int (x4 + (-1))), (2, .int 1), (0, .ref 6), (1, .ref 2), (3, .int x3)]) (pc := 78) O d_A_findHope_78 4 rfl (congrArg (HAdd.hAdd _) ic_m1) (by decide) rfl ?_
        refine r_goto (pc := 81) O d_A_findHope_81 (tgt := 33) (by decide) ?_
        exact r_lv [2, 3, 1, 4, 0] rfl (hrec33 (1, (x4 + (-1)), v73))
      refine r_iload (pc := 33) O d_A_findHope_33 4 rfl ?_
      refine r_if_lt (tgt := 84) (pc := 35) O d_A_findHope_35 (by decide) (fun q35 => ?_) (fun q35 => ?_)
      · refine r_iinc (lv' := [(3, .int (x3 + 1)), (0, .ref 6), (1, .ref 2), (2, .int qv0), (4, .int qv1)]) (pc := 84) O d_A_findHope_84 3 rfl (congrArg (HAdd.hAdd _) ic_1) (by decide) rfl ?_
        refine r_goto (pc := 87) O d_A_findHope_87 (tgt := 12) (by decide) ?_
        exact r_lv [1, 2, 3, 0] rfl (hrec12 (qv0, (x3 + 1), qv2))
      · refine r_aload_n (pc := 38) O d_A_findHope_38 0 rfl ?_
        refine r_iload (pc := 39) O d_A_findHope_39 4 rfl ?_
        refine r_callVip (pc := 41) O [.int qv1] rfl rfl (R_A_isHopeful n qv1 qv2) cw_A_findHope_41 wm_821 ws_A_isHopeful rfl (Nat.le_of_ble_eq_true rfl) d_A_findHope_41 rfl (fun v41 => ?_)
        refine r_if_ne (tgt := 78) (pc := 44) O d_A_findHope_44 (by decide) (fun q44 => ?_) (fun q44 => ?_)
        · refine r_iinc (lv' := [(4, .int (qv1 + (-1))), (0, .ref 6), (1, .ref 2), (2, .int qv0), (3, .int x3)]) (pc := 78) O d_A_findHope_78 4 rfl (congrArg (HAdd.hAdd _) ic_m1) (by decide) rfl ?_
          refine r_goto (pc := 81) O d_A_findHope_81 (tgt := 33) (by decide) ?_
          exact r_lv [1, 2, 3, 4, 0] rfl (hrec33 (qv0, (qv1 + (-1)), qv2))
        · refine r_aload_n (pc := 47) O d_A_findHope_47 0 rfl ?_
          refine r_iload (pc := 48) O d_A_findHope_48 4 rfl ?_
          refine r_aload_n (pc := 50) O d_A_findHope_50 1 rfl ?_
          refine r_callVip (pc := 51) O [.int qv1, .ref 2] rfl rfl (R_A_isWon n qv1 qv2) cw_A_findHope_51 wm_825 ws_A_isWon rfl (Nat.le_of_ble_eq_true rfl) d_A_findHope_51 rfl (fun v51 => ?_)
          refine r_if_ne (tgt := 66) (pc := 54) O d_A_findHope_54 (by decide) (fun q54 => ?_) (fun q54 => ?_)
          · exact r_lv [0, 1, 3, 4] rfl (hK66 qv1 qv2)
          · refine r_aload_n (pc := 57) O d_A_findHope_57 0 rfl ?_
            refine r_iload (pc := 58) O d_A_findHope_58 4 rfl ?_
            refine r_callVip (pc := 60) O [.int qv1] rfl rfl (R_A_leadsToHope n qv1 qv2) cw_A_findHope_60 wm_831 ws_A_leadsToHope rfl (Nat.le_of_ble_eq_true rfl) d_A_findHope_60 rfl (fun v60 => ?_)
            refine r_if_eq (tgt := 78) (pc := 63) O d_A_findHope_63 (by decide) (fun q63 => ?_) (fun q63 => ?_)
            · refine r_iinc (lv' := [(4, .int (qv1 + (-1))), (0, .ref 6), (1, .ref 2), (2, .int qv0), (3, .int x3)]) (pc := 78) O d_A_findHope_78 4 rfl (congrArg (HAdd.hAdd _) ic_m1) (by decide) rfl ?_
              refine r_goto (pc := 81) O d_A_findHope_81 (tgt := 33) (by decide) ?_
              exact r_lv [1, 2, 3, 4, 0] rfl (hrec33 (qv0, (qv1 + (-1)), qv2))
            · exact r_lv [0, 1, 3, 4] rfl (hK66 qv1 qv2)
    refine r_iload_n (pc := 12) O d_A_findHope_12 3 rfl ?_
    refine r_sipush (pc := 13) O d_A_findHope_13 sc_160 ?_
    refine r_icmp_gt (tgt := 90) (pc := 16) O d_A_findHope_16 (by decide) (fun q16 => ?_) (fun q16 => ?_)
    · exact r_vret (pc := 90) O rfl d_A_findHope_90
    · refine r_iload_n (pc := 19) O d_A_findHope_19 2 rfl ?_
      refine r_if_eq (tgt := 90) (pc := 20) O d_A_findHope_20 (by decide) (fun q20 => ?_) (fun q20 => ?_)
      · exact r_vret (pc := 90) O rfl d_A_findHope_90
      · refine r_iconst (pc := 23) O d_A_findHope_23 ic_0 ?_
        refine r_istore_n (lv' := [(2, .int 0), (0, .ref 6), (1, .ref 2), (3, .int qv1)]) (pc := 24) O d_A_findHope_24 rfl (by decide) rfl ?_
        refine r_aload_n (pc := 25) O d_A_findHope_25 1 rfl ?_
        refine r_getI (x := (qv2.1 6 10)) (pc := 26) O gf_c_A_34_6 d_A_findHope_26 rfl ?_
        refine r_iconst (pc := 29) O d_A_findHope_29 ic_1 ?_
        refine r_isub (pc := 30) O d_A_findHope_30 ?_
        refine r_istore (lv' := [(4, .int ((qv2.1 6 10) - 1)), (2, .int 0), (0, .ref 6), (1, .ref 2), (3, .int qv1)]) (pc := 31) O d_A_findHope_31 (by decide) rfl ?_
        exact r_lv [2, 3, 1, 4, 0] rfl (hL33 qv1 (0, ((qv2.1 6 10) - 1), qv2))
  refine r_aload_n (pc := 0) O d_A_findHope_0 0 rfl ?_
  refine r_getR (pc := 1) O gf_c_A_31_6 d_A_findHope_1 ?_
  refine r_lconst (pc := 4) O d_A_findHope_4 lc_0 ?_
  refine r_callSv (pc := 5) O [.ref 40, .long 0] (R_U_fillL n 0 h) cw_A_findHope_5 wm_817 rfl (Nat.le_of_ble_eq_true rfl) d_A_findHope_5 rfl (fun v5 => ?_)
  refine r_iconst (pc := 8) O d_A_findHope_8 ic_1 ?_
  refine r_istore_n (lv' := [(2, .int 1), (0, .ref 6), (1, .ref 2)]) (pc := 9) O d_A_findHope_9 rfl (by decide) rfl ?_
  refine r_iconst (pc := 10) O d_A_findHope_10 ic_0 ?_
  refine r_istore_n (lv' := [(3, .int 0), (2, .int 1), (0, .ref 6), (1, .ref 2)]) (pc := 11) O d_A_findHope_11 rfl (by decide) rfl ?_
  exact r_lv [2, 3, 1, 0] rfl (hL12 (1, 0, v5))
def K_A_goThroughNext_110 (n : Nat) (h : sHp) : Option sHp :=
  if (h.1 6 11) = 0 then ((J_A_isFinished n (pI h 6 9 ((h.1 6 9) + 1))).bind fun v128 =>
  if v128 = 0 then (some (pI h 6 9 ((h.1 6 9) + 1))) else ((J_A_findHope n (pI h 6 9 ((h.1 6 9) + 1))).bind fun v139 =>
  some v139)) else ((J_A_isFinished n h).bind fun v128 =>
  if v128 = 0 then (some h) else ((J_A_findHope n h).bind fun v139 =>
  some v139))
def F_A_goThroughNext_38 (n : Nat) (x2 : Int64) (x4 : Int32) (rec38 : Int32 × sHp → Option sHp) (q : Int32 × sHp) : Option sHp :=
  if x4 ≤ q.1 then (K_A_goThroughNext_110 n q.2) else (if (q.2.1 6 11) = 0 then (sGd (sIn q.1 163) ((J_D_verbOf n (q.2.1 34 (ix q.1)) q.2).bind fun v65 =>
  (J_D_firstOf n (q.2.1 34 (ix q.1)) q.2).bind fun v70 =>
  (J_D_secondOf n (q.2.1 34 (ix q.1)) q.2).bind fun v75 =>
  (J_E_take n x2 v65 v70 v75 q.2).bind fun v78 =>
  (J_A_note n v78.1 (q.2.1 34 (ix q.1)) (pI v78.2 6 8 ((v78.2.1 6 8) ||| (v78.2.1 1 3)))).bind fun v101 =>
  rec38 ((q.1 + 1), v101))) else (K_A_goThroughNext_110 n q.2))
def K_A_goThroughNext_33 (n : Nat) (x2 : Int64) (t0 : Int32) (h : sHp) : Option sHp :=
  sFx (F_A_goThroughNext_38 n x2 t0) n (0, h)
def J_A_goThroughNext (n : Nat)  (h : sHp) : Option sHp :=
  (J_A_hasMore n h).bind fun v1 =>
  if v1 = 0 then (some h) else (sGd (sIn (h.1 6 9) 160) ((J_B_isOver n (h.2 35 (ix (h.1 6 9))) h).bind fun v19 =>
  if v19 = 0 then (K_A_goThroughNext_33 n (h.2 35 (ix (h.1 6 9))) (h.1 6 1) h) else (K_A_goThroughNext_33 n (h.2 35 (ix (h.1 6 9))) 0 h)))
set_option maxRecDepth 20000 in
set_option maxHeartbeats 4000000 in
theorem R_A_goThroughNext (n : Nat)  (h : sHp) : sM Zc sOv y_A_goThroughNext prog_2_method_7_code 9 none rm_A_goThroughNext [.ref 6, .ref 1] h (J_A_goThroughNext n  h) := by
  refine sM_of (own := "StoryStates$Atlas") rfl (by decide) (Nat.le_of_ble_eq_true rfl) (fun M V O => ?_)
  unfold J_A_goThroughNext
  refine r_lv (lv' := [(0, .ref 6), (1, .ref 1)]) [0, 1] rfl ?_
  have hK110 : ∀ (h : sHp), sS Zc M V (sEb sOv) 110 [(0, .ref 6), (1, .ref 1)] [] h (K_A_goThroughNext_110 n h) := by
    intro h
    unfold K_A_goThroughNext_110
    refine r_aload_n (pc := 110) O d_A_goThroughNext_110 0 rfl ?_
    refine r_getI (x := (h.1 6 11)) (pc := 111) O gf_c_A_41_6 d_A_goThroughNext_111 rfl ?_
    refine r_if_ne (tgt := 127) (pc := 114) O d_A_goThroughNext_114 (by decide) (fun q114 => ?_) (fun q114 => ?_)
    · refine r_aload_n (pc := 127) O d_A_goThroughNext_127 0 rfl ?_
      refine r_callVip (pc := 128) O [] rfl rfl (R_A_isFinished n  h) cw_A_goThroughNext_128 wm_809 wm_810 rfl (Nat.le_of_ble_eq_true rfl) d_A_goThroughNext_128 rfl (fun v128 => ?_)
      refine r_if_eq (tgt := 142) (pc := 131) O d_A_goThroughNext_131 (by decide) (fun q131 => ?_) (fun q131 => ?_)
      · exact r_vret (pc := 142) O rfl d_A_goThroughNext_142
      · refine r_aload_n (pc := 134) O d_A_goThroughNext_134 0 rfl ?_
        refine r_aload_n (pc := 135) O d_A_goThroughNext_135 1 rfl ?_
        refine r_getR (pc := 136) O gf_c_A_119_1 d_A_goThroughNext_136 ?_
        refine r_callVv (pc := 139) O [.ref 2] rfl rfl (R_A_findHope n  h) cw_A_goThroughNext_139 wm_814 ws_A_findHope rfl (Nat.le_of_ble_eq_true rfl) d_A_goThroughNext_139 rfl (fun v139 => ?_)
        exact r_vret (pc := 142) O rfl d_A_goThroughNext_142
    · refine r_aload_n (pc := 117) O d_A_goThroughNext_117 0 rfl ?_
      refine r_dup (pc := 118) O d_A_goThroughNext_118 rfl ?_
      refine r_getI (x := (h.1 6 9)) (pc := 119) O gf_c_A_38_6 d_A_goThroughNext_119 rfl ?_
      refine r_iconst (pc := 122) O d_A_goThroughNext_122 ic_1 ?_
      refine r_iadd (pc := 123) O d_A_goThroughNext_123 ?_
      refine r_putI (pc := 124) O pf_c_A_38_6 d_A_goThroughNext_124 ?_
      refine r_aload_n (pc := 127) O d_A_goThroughNext_127 0 rfl ?_
      refine r_callVip (pc := 128) O [] rfl rfl (R_A_isFinished n  (pI h 6 9 ((h.1 6 9) + 1))) cw_A_goThroughNext_128 wm_809 wm_810 rfl (Nat.le_of_ble_eq_true rfl) d_A_goThroughNext_128 rfl (fun v128 => ?_)
      refine r_if_eq (tgt := 142) (pc := 131) O d_A_goThroughNext_131 (by decide) (fun q131 => ?_) (fun q131 => ?_)
      · exact r_vret (pc := 142) O rfl d_A_goThroughNext_142
      · refine r_aload_n (pc := 134) O d_A_goThroughNext_134 0 rfl ?_
        refine r_aload_n (pc := 135) O d_A_goThroughNext_135 1 rfl ?_
        refine r_getR (pc := 136) O gf_c_A_119_1 d_A_goThroughNext_136 ?_
        refine r_callVv (pc := 139) O [.ref 2] rfl rfl (R_A_findHope n  (pI h 6 9 ((h.1 6 9) + 1))) cw_A_goThroughNext_139 wm_814 ws_A_findHope rfl (Nat.le_of_ble_eq_true rfl) d_A_goThroughNext_139 rfl (fun v139 => ?_)
        exact r_vret (pc := 142) O rfl d_A_goThroughNext_142
  have hL38 : ∀ (x2 : Int64) (x4 : Int32) (q : Int32 × sHp), sS Zc M V (sEb sOv) 38 [(0, .ref 6), (1, .ref 1), (2, .long x2), (4, .int x4), (5, .int q.1)] [] q.2 (sFx (F_A_goThroughNext_38 n x2 x4) n q) := by
    intro x2 x4
    refine r_fx (fun q => [(0, .ref 6), (1, .ref 1), (2, .long x2), (4, .int x4), (5, .int q.1)]) (fun q => q.2) (F_A_goThroughNext_38 n x2 x4) (fun rec38 hrec38 q => ?_) n
    obtain ⟨qv0, qv1⟩ := q
    show sS Zc M V (sEb sOv) 38 [(0, .ref 6), (1, .ref 1), (2, .long x2), (4, .int x4), (5, .int qv0)] [] qv1 _
    unfold F_A_goThroughNext_38
    try dsimp only
    refine r_iload (pc := 38) O d_A_goThroughNext_38 4 rfl ?_
    refine r_iload (pc := 40) O d_A_goThroughNext_40 3 rfl ?_
    refine r_icmp_ge (tgt := 110) (pc := 42) O d_A_goThroughNext_42 (by decide) (fun q42 => ?_) (fun q42 => ?_)
    · exact r_lv [0, 1] rfl (hK110 qv1)
    · refine r_aload_n (pc := 45) O d_A_goThroughNext_45 0 rfl ?_
      refine r_getI (x := (qv1.1 6 11)) (pc := 46) O gf_c_A_41_6 d_A_goThroughNext_46 rfl ?_
      refine r_if_ne (tgt := 110) (pc := 49) O d_A_goThroughNext_49 (by decide) (fun q49 => ?_) (fun q49 => ?_)
      · exact r_lv [0, 1] rfl (hK110 qv1)
      · refine r_aload_n (pc := 52) O d_A_goThroughNext_52 0 rfl ?_
        refine r_getR (pc := 53) O gf_c_A_11_6 d_A_goThroughNext_53 ?_
        refine r_iload (pc := 56) O d_A_goThroughNext_56 4 rfl ?_
        refine r_iald (x := (qv1.1 34 (ix qv0))) (pc := 58) O rfl d_A_goThroughNext_58 rfl ?_
        refine r_istore (lv' := [(6, .int (qv1.1 34 (ix qv0))), (0, .ref 6), (1, .ref 1), (2, .long x2), (4, .int x4), (5, .int qv0)]) (pc := 59) O d_A_goThroughNext_59 (by decide) rfl ?_
        refine r_aload_n (pc := 61) O d_A_goThroughNext_61 2 rfl ?_
        refine r_lload_n (pc := 62) O d_A_goThroughNext_62 3 rfl ?_
        refine r_iload (pc := 63) O d_A_goThroughNext_63 0 rfl ?_
        refine r_callSip (pc := 65) O [.int (qv1.1 34 (ix qv0))] (R_D_verbOf n (qv1.1 34 (ix qv0)) qv1) cw_A_goThroughNext_65 wm_792 rfl (Nat.le_of_ble_eq_true rfl) d_A_goThroughNext_65 rfl (fun v65 => ?_)
        refine r_iload (pc := 68) O d_A_goThroughNext_68 0 rfl ?_
        refine r_callSip (pc := 70) O [.int (qv1.1 34 (ix qv0))] (R_D_firstOf n (qv1.1 34 (ix qv0)) qv1) cw_A_goThroughNext_70 wm_795 rfl (Nat.le_of_ble_eq_true rfl) d_A_goThroughNext_70 rfl (fun v70 => ?_)
        refine r_iload (pc := 73) O d_A_goThroughNext_73 0 rfl ?_
        refine r_callSip (pc := 75) O [.int (qv1.1 34 (ix qv0))] (R_D_secondOf n (qv1.1 34 (ix qv0)) qv1) cw_A_goThroughNext_75 wm_798 rfl (Nat.le_of_ble_eq_true rfl) d_A_goThroughNext_75 rfl (fun v75 => ?_)
        refine r_callVl (pc := 78) O [.long x2, .int v65, .int v70, .int v75] rfl rfl (R_E_take n x2 v65 v70 v75 qv1) cw_A_goThroughNext_78 wm_607 wm_608 rfl (Nat.le_of_ble_eq_true rfl) d_A_goThroughNext_78 rfl (fun v78 => ?_)
        refine r_lstore (lv' := [(7, .long v78.1), (6, .int (qv1.1 34 (ix qv0))), (0, .ref 6), (1, .ref 1), (2, .long x2), (4, .int x4), (5, .int qv0)]) (pc := 81) O d_A_goThroughNext_81 (by decide) rfl ?_
        refine r_aload_n (pc := 83) O d_A_goThroughNext_83 2 rfl ?_
        refine r_dup (pc := 84) O d_A_goThroughNext_84 rfl ?_
        refine r_getI (x := (v78.2.1 6 8)) (pc := 85) O gf_c_A_45_6 d_A_goThroughNext_85 rfl ?_
        refine r_aload_n (pc := 88) O d_A_goThroughNext_88 3 rfl ?_
        refine r_getI (x := (v78.2.1 1 3)) (pc := 89) O gf_c_A_111_1 d_A_goThroughNext_89 rfl ?_
        refine r_ior (pc := 92) O d_A_goThroughNext_92 ?_
        refine r_putI (pc := 93) O pf_c_A_45_6 d_A_goThroughNext_93 ?_
        refine r_aload_n (pc := 96) O d_A_goThroughNext_96 2 rfl ?_
        refine r_lload (pc := 97) O d_A_goThroughNext_97 0 rfl ?_
        refine r_iload (pc := 99) O d_A_goThroughNext_99 1 rfl ?_
        refine r_callVv (pc := 101) O [.long v78.1, .int (qv1.1 34 (ix qv0))] rfl rfl (R_A_note n v78.1 (qv1.1 34 (ix qv0)) (pI v78.2 6 8 ((v78.2.1 6 8) ||| (v78.2.1 1 3)))) cw_A_goThroughNext_101 wm_803 ws_A_note rfl (Nat.le_of_ble_eq_true rfl) d_A_goThroughNext_101 rfl (fun v101 => ?_)
        refine r_iinc (lv' := [(5, .int (qv0 + 1)), (7, .long v78.1), (6, .int (qv1.1 34 (ix qv0))), (0, .ref 6), (1, .ref 1), (2, .long x2), (4, .int x4)]) (pc := 104) O d_A_goThroughNext_104 6 rfl (congrArg (HAdd.hAdd _) ic_1) (by decide) rfl ?_
        refine r_goto (pc := 107) O d_A_goThroughNext_107 (tgt := 38) (by decide) ?_
        exact r_lv [3, 4, 5, 6, 0] rfl (hrec38 ((qv0 + 1), v101))
  have hK33 : ∀ (x2 : Int64) (t0 : Int32) (h : sHp), sS Zc M V (sEb sOv) 33 [(0, .ref 6), (1, .ref 1), (2, .long x2)] [.int t0] h (K_A_goThroughNext_33 n x2 t0 h) := by
    intro x2 t0 h
    unfold K_A_goThroughNext_33
    refine r_istore (lv' := [(4, .int t0), (0, .ref 6), (1, .ref 1), (2, .long x2)]) (pc := 33) O d_A_goThroughNext_33 (by decide) rfl ?_
    refine r_iconst (pc := 35) O d_A_goThroughNext_35 ic_0 ?_
    refine r_istore (lv' := [(5, .int 0), (4, .int t0), (0, .ref 6), (1, .ref 1), (2, .long x2)]) (pc := 36) O d_A_goThroughNext_36 (by decide) rfl ?_
    exact r_lv [2, 3, 4, 1, 0] rfl (hL38 x2 t0 (0, h))
  refine r_aload_n (pc := 0) O d_A_goThroughNext_0 0 rfl ?_
  refine r_callVip (pc := 1) O [] rfl rfl (R_A_hasMore n  h) cw_A_goThroughNext_1 wm_782 wm_783 rfl (Nat.le_of_ble_eq_true rfl) d_A_goThroughNext_1 rfl (fun v1 => ?_)
  refine r_if_ne (tgt := 8) (pc := 4) O d_A_goThroughNext_4 (by decide) (fun q4 => ?_) (fun q4 => ?_)
  · refine r_aload_n (pc := 8) O d_A_goThroughNext_8 0 rfl ?_
    refine r_getR (pc := 9) O gf_c_A_15_6 d_A_goThroughNext_9 ?_
    refine r_aload_n (pc := 12) O d_A_goThroughNext_12 0 rfl ?_
    refine r_getI (x := (h.1 6 9)) (pc := 13) O gf_c_A_38_6 d_A_goThroughNext_13 rfl ?_
    refine r_lald (x := (h.2 35 (ix (h.1 6 9)))) (pc := 16) O rfl d_A_goThroughNext_16 rfl ?_
    refine r_lstore_n (lv' := [(2, .long (h.2 35 (ix (h.1 6 9)))), (0, .ref 6), (1, .ref 1)]) (pc := 17) O d_A_goThroughNext_17 rfl (by decide) rfl ?_
    refine r_lload_n (pc := 18) O d_A_goThroughNext_18 0 rfl ?_
    refine r_callSip (pc := 19) O [.long (h.2 35 (ix (h.1 6 9)))] (R_B_isOver n (h.2 35 (ix (h.1 6 9))) h) cw_A_goThroughNext_19 wm_601 rfl (Nat.le_of_ble_eq_true rfl) d_A_goThroughNext_19 rfl (fun v19 => ?_)
    refine r_if_eq (tgt := 29) (pc := 22) O d_A_goThroughNext_22 (by decide) (fun q22 => ?_) (fun q22 => ?_)
    · refine r_aload_n (pc := 29) O d_A_goThroughNext_29 1 rfl ?_
      refine r_getI (x := (h.1 6 1)) (pc := 30) O gf_c_A_72_6 d_A_goThroughNext_30 rfl ?_
      exact r_lv [1, 2, 0] rfl (hK33 (h.2 35 (ix (h.1 6 9))) (h.1 6 1) h)
    · refine r_iconst (pc := 25) O d_A_goThroughNext_25 ic_0 ?_
      refine r_goto (pc := 26) O d_A_goThroughNext_26 (tgt := 33) (by decide) ?_
      exact r_lv [1, 2, 0] rfl (hK33 (h.2 35 (ix (h.1 6 9))) 0 h)
  · exact r_vret (pc := 7) O rfl d_A_goThroughNext_7
def J_A_isHopeless (n : Nat) (p1 : Int64) (h : sHp) : Option Int32 :=
  (J_A_slotOf n p1 h).bind fun v6 =>
  sGd (sIn v6 512) (if ((h.1 38 (ix v6)) - 1) = (-1) then (some 1) else ((J_A_isHopeful n ((h.1 38 (ix v6)) - 1) h).bind fun v20 =>
  if v20 = 0 then (some 1) else (some 0)))
set_option maxRecDepth 20000 in
set_option maxHeartbeats 4000000 in
theorem R_A_isHopeless (n : Nat) (p1 : Int64) (h : sHp) : sM Zc (sPi h) y_A_isHopeless prog_2_method_16_code 4 (some .boolean) rm_A_isHopeless [.ref 6, .long p1] h (J_A_isHopeless n p1 h) := by
  refine sM_of (own := "StoryStates$Atlas") rfl (by decide) (Nat.le_of_ble_eq_true rfl) (fun M V O => ?_)
  unfold J_A_isHopeless
  refine r_lv (lv' := [(0, .ref 6), (1, .long p1)]) [0, 1] rfl ?_
  refine r_aload_n (pc := 0) O d_A_isHopeless_0 0 rfl ?_
  refine r_getR (pc := 1) O gf_c_A_25_6 d_A_isHopeless_1 ?_
  refine r_aload_n (pc := 4) O d_A_isHopeless_4 0 rfl ?_
  refine r_lload_n (pc := 5) O d_A_isHopeless_5 1 rfl ?_
  refine r_callVip (pc := 6) O [.long p1] rfl rfl (R_A_slotOf n p1 h) cw_A_isHopeless_6 wm_774 ws_A_slotOf rfl (Nat.le_of_ble_eq_true rfl) d_A_isHopeless_6 rfl (fun v6 => ?_)
  refine r_iald (x := (h.1 38 (ix v6))) (pc := 9) O rfl d_A_isHopeless_9 rfl ?_
  refine r_iconst (pc := 10) O d_A_isHopeless_10 ic_1 ?_
  refine r_isub (pc := 11) O d_A_isHopeless_11 ?_
  refine r_istore_n (lv' := [(3, .int ((h.1 38 (ix v6)) - 1)), (0, .ref 6), (1, .long p1)]) (pc := 12) O d_A_isHopeless_12 rfl (by decide) rfl ?_
  refine r_iload_n (pc := 13) O d_A_isHopeless_13 0 rfl ?_
  refine r_iconst (pc := 14) O d_A_isHopeless_14 ic_m1 ?_
  refine r_icmp_eq (tgt := 26) (pc := 15) O d_A_isHopeless_15 (by decide) (fun q15 => ?_) (fun q15 => ?_)
  · refine r_iconst (pc := 26) O d_A_isHopeless_26 ic_1 ?_
    refine r_goto (pc := 27) O d_A_isHopeless_27 (tgt := 31) (by decide) ?_
    exact r_zret (pc := 31) O rfl d_A_isHopeless_31 nb_1
  · refine r_aload_n (pc := 18) O d_A_isHopeless_18 1 rfl ?_
    refine r_iload_n (pc := 19) O d_A_isHopeless_19 0 rfl ?_
    refine r_callVip (pc := 20) O [.int ((h.1 38 (ix v6)) - 1)] rfl rfl (R_A_isHopeful n ((h.1 38 (ix v6)) - 1) h) cw_A_isHopeless_20 wm_821 ws_A_isHopeful rfl (Nat.le_of_ble_eq_true rfl) d_A_isHopeless_20 rfl (fun v20 => ?_)
    refine r_if_ne (tgt := 30) (pc := 23) O d_A_isHopeless_23 (by decide) (fun q23 => ?_) (fun q23 => ?_)
    · refine r_iconst (pc := 30) O d_A_isHopeless_30 ic_0 ?_
      exact r_zret (pc := 31) O rfl d_A_isHopeless_31 nb_0
    · refine r_iconst (pc := 26) O d_A_isHopeless_26 ic_1 ?_
      refine r_goto (pc := 27) O d_A_isHopeless_27 (tgt := 31) (by decide) ?_
      exact r_zret (pc := 31) O rfl d_A_isHopeless_31 nb_1
def K_A_leadsOnlyToItself_25 (n : Nat) (p1 : Int32) (h : sHp) (rec2 : (Int32 → Option Int32)) (x2 : Int32) (t0 : Int64) : Option Int32 :=
  sGd (sIn ((p1 * 3) + x2) 480) (if (lg_cmp (h.2 39 (ix ((p1 * 3) + x2))) t0) = 0 then (rec2 (x2 + 1)) else (some 0))
def F_A_leadsOnlyToItself_2 (n : Nat) (p1 : Int32) (h : sHp) (rec2 : Int32 → Option Int32) (q : Int32) : Option Int32 :=
  if 3 ≤ q then (some 1) else (if q = (p1 / 64) then (K_A_leadsOnlyToItself_25 n p1 h rec2 q (jLshl 1 (jRem p1 64))) else (K_A_leadsOnlyToItself_25 n p1 h rec2 q 0))
def J_A_leadsOnlyToItself (n : Nat) (p1 : Int32) (h : sHp) : Option Int32 :=
  sFx (F_A_leadsOnlyToItself_2 n p1 h ) n 0
set_option maxRecDepth 20000 in
set_option maxHeartbeats 4000000 in
theorem R_A_leadsOnlyToItself (n : Nat) (p1 : Int32) (h : sHp) : sM Zc (sPi h) y_A_leadsOnlyToItself prog_2_method_18_code 5 (some .boolean) rm_A_leadsOnlyToItself [.ref 6, .int p1] h (J_A_leadsOnlyToItself n p1 h) := by
  refine sM_of (own := "StoryStates$Atlas") rfl (by decide) (Nat.le_of_ble_eq_true rfl) (fun M V O => ?_)
  unfold J_A_leadsOnlyToItself
  refine r_lv (lv' := [(0, .ref 6), (1, .int p1)]) [0, 1] rfl ?_
  have hL2 : ∀ (q : Int32), sS Zc M V (sEb (sPi h)) 2 [(0, .ref 6), (1, .int p1), (2, .int q)] [] h (sFx (F_A_leadsOnlyToItself_2 n p1 h ) n q) := by
    skip
    refine r_fx (fun q => [(0, .ref 6), (1, .int p1), (2, .int q)]) (fun q => h) (F_A_leadsOnlyToItself_2 n p1 h ) (fun rec2 hrec2 q => ?_) n
    skip
    show sS Zc M V (sEb (sPi h)) 2 [(0, .ref 6), (1, .int p1), (2, .int q)] [] h _
    unfold F_A_leadsOnlyToItself_2
    try dsimp only
    have hK25 : ∀ (x2 : Int32) (t0 : Int64), sS Zc M V (sEb (sPi h)) 25 [(0, .ref 6), (1, .int p1), (2, .int x2)] [.long t0] h (K_A_leadsOnlyToItself_25 n p1 h rec2 x2 t0) := by
      intro x2 t0
      unfold K_A_leadsOnlyToItself_25
      refine r_lstore_n (lv' := [(3, .long t0), (0, .ref 6), (1, .int p1), (2, .int x2)]) (pc := 25) O d_A_leadsOnlyToItself_25 rfl (by decide) rfl ?_
      refine r_aload_n (pc := 26) O d_A_leadsOnlyToItself_26 1 rfl ?_
      refine r_getR (pc := 27) O gf_c_A_28_6 d_A_leadsOnlyToItself_27 ?_
      refine r_iload_n (pc := 30) O d_A_leadsOnlyToItself_30 2 rfl ?_
      refine r_iconst (pc := 31) O d_A_leadsOnlyToItself_31 ic_3 ?_
      refine r_imul (pc := 32) O d_A_leadsOnlyToItself_32 ?_
      refine r_iload_n (pc := 33) O d_A_leadsOnlyToItself_33 3 rfl ?_
      refine r_iadd (pc := 34) O d_A_leadsOnlyToItself_34 ?_
      refine r_lald (x := (h.2 39 (ix ((p1 * 3) + x2)))) (pc := 35) O rfl d_A_leadsOnlyToItself_35 rfl ?_
      refine r_lload_n (pc := 36) O d_A_leadsOnlyToItself_36 0 rfl ?_
      refine r_lcmp (pc := 37) O d_A_leadsOnlyToItself_37 ?_
      refine r_if_eq (tgt := 43) (pc := 38) O d_A_leadsOnlyToItself_38 (by decide) (fun q38 => ?_) (fun q38 => ?_)
      · refine r_iinc (lv' := [(2, .int (x2 + 1)), (3, .long t0), (0, .ref 6), (1, .int p1)]) (pc := 43) O d_A_leadsOnlyToItself_43 3 rfl (congrArg (HAdd.hAdd _) ic_1) (by decide) rfl ?_
        refine r_goto (pc := 46) O d_A_leadsOnlyToItself_46 (tgt := 2) (by decide) ?_
        exact r_lv [2, 3, 0] rfl (hrec2 (x2 + 1))
      · refine r_iconst (pc := 41) O d_A_leadsOnlyToItself_41 ic_0 ?_
        exact r_zret (pc := 42) O rfl d_A_leadsOnlyToItself_42 nb_0
    refine r_iload_n (pc := 2) O d_A_leadsOnlyToItself_2 2 rfl ?_
    refine r_iconst (pc := 3) O d_A_leadsOnlyToItself_3 ic_3 ?_
    refine r_icmp_ge (tgt := 49) (pc := 4) O d_A_leadsOnlyToItself_4 (by decide) (fun q4 => ?_) (fun q4 => ?_)
    · refine r_iconst (pc := 49) O d_A_leadsOnlyToItself_49 ic_1 ?_
      exact r_zret (pc := 50) O rfl d_A_leadsOnlyToItself_50 nb_1
    · refine r_iload_n (pc := 7) O d_A_leadsOnlyToItself_7 2 rfl ?_
      refine r_iload_n (pc := 8) O d_A_leadsOnlyToItself_8 1 rfl ?_
      refine r_bipush (pc := 9) O d_A_leadsOnlyToItself_9 bc_64 ?_
      refine r_idiv (pc := 11) O d_A_leadsOnlyToItself_11 (by decide) ?_
      refine r_icmp_ne (tgt := 24) (pc := 12) O d_A_leadsOnlyToItself_12 (by decide) (fun q12 => ?_) (fun q12 => ?_)
      · refine r_lconst (pc := 24) O d_A_leadsOnlyToItself_24 lc_0 ?_
        exact (hK25 q 0)
      · refine r_lconst (pc := 15) O d_A_leadsOnlyToItself_15 lc_1 ?_
        refine r_iload_n (pc := 16) O d_A_leadsOnlyToItself_16 1 rfl ?_
        refine r_bipush (pc := 17) O d_A_leadsOnlyToItself_17 bc_64 ?_
        refine r_irem (pc := 19) O d_A_leadsOnlyToItself_19 (by decide) ?_
        refine r_lshl (pc := 20) O d_A_leadsOnlyToItself_20 ?_
        refine r_goto (pc := 21) O d_A_leadsOnlyToItself_21 (tgt := 25) (by decide) ?_
        exact (hK25 q (jLshl 1 (jRem p1 64)))
  refine r_iconst (pc := 0) O d_A_leadsOnlyToItself_0 ic_0 ?_
  refine r_istore_n (lv' := [(2, .int 0), (0, .ref 6), (1, .int p1)]) (pc := 1) O d_A_leadsOnlyToItself_1 rfl (by decide) rfl ?_
  exact r_lv [1, 2, 0] rfl (hL2 0)
def F_A_countStuck_4 (n : Nat) (h : sHp) (rec4 : Int32 × Int32 → Option Int32) (q : Int32 × Int32) : Option Int32 :=
  if (h.1 6 10) ≤ q.2 then (some q.1) else (sGd (sIn q.2 160) ((J_B_isOver n (h.2 35 (ix q.2)) h).bind fun v18 =>
  if v18 = 0 then ((J_A_leadsOnlyToItself n q.2 h).bind fun v26 =>
  if v26 = 0 then (rec4 (q.1, (q.2 + 1))) else (rec4 ((q.1 + 1), (q.2 + 1)))) else (rec4 (q.1, (q.2 + 1)))))
def J_A_countStuck (n : Nat)  (h : sHp) : Option Int32 :=
  sFx (F_A_countStuck_4 n h ) n (0, 0)
set_option maxRecDepth 20000 in
set_option maxHeartbeats 4000000 in
theorem R_A_countStuck (n : Nat)  (h : sHp) : sM Zc (sPi h) y_A_countStuck prog_2_method_17_code 3 (some .int) rm_A_countStuck [.ref 6] h (J_A_countStuck n  h) := by
  refine sM_of (own := "StoryStates$Atlas") rfl (by decide) (Nat.le_of_ble_eq_true rfl) (fun M V O => ?_)
  unfold J_A_countStuck
  refine r_lv (lv' := [(0, .ref 6)]) [0] rfl ?_
  have hL4 : ∀ (q : Int32 × Int32), sS Zc M V (sEb (sPi h)) 4 [(0, .ref 6), (1, .int q.1), (2, .int q.2)] [] h (sFx (F_A_countStuck_4 n h ) n q) := by
    skip
    refine r_fx (fun q => [(0, .ref 6), (1, .int q.1), (2, .int q.2)]) (fun q => h) (F_A_countStuck_4 n h ) (fun rec4 hrec4 q => ?_) n
    obtain ⟨qv0, qv1⟩ := q
    show sS Zc M V (sEb (sPi h)) 4 [(0, .ref 6), (1, .int qv0), (2, .int qv1)] [] h _
    unfold F_A_countStuck_4
    try dsimp only
    refine r_iload_n (pc := 4) O d_A_countStuck_4 2 rfl ?_
    refine r_aload_n (pc := 5) O d_A_countStuck_5 0 rfl ?_
    refine r_getI (x := (h.1 6 10)) (pc := 6) O gf_c_A_34_6 d_A_countStuck_6 rfl ?_
    refine r_icmp_ge (tgt := 41) (pc := 9) O d_A_countStuck_9 (by decide) (fun q9 => ?_) (fun q9 => ?_)
    · refine r_iload_n (pc := 41) O d_A_countStuck_41 1 rfl ?_
      exact r_iret (pc := 42) O rfl d_A_countStuck_42
    · refine r_aload_n (pc := 12) O d_A_countStuck_12 0 rfl ?_
      refine r_getR (pc := 13) O gf_c_A_15_6 d_A_countStuck_13 ?_
      refine r_iload_n (pc := 16) O d_A_countStuck_16 2 rfl ?_
      refine r_lald (x := (h.2 35 (ix qv1))) (pc := 17) O rfl d_A_countStuck_17 rfl ?_
      refine r_callSip (pc := 18) O [.long (h.2 35 (ix qv1))] (R_B_isOver n (h.2 35 (ix qv1)) h) cw_A_countStuck_18 wm_601 rfl (Nat.le_of_ble_eq_true rfl) d_A_countStuck_18 rfl (fun v18 => ?_)
      refine r_if_ne (tgt := 35) (pc := 21) O d_A_countStuck_21 (by decide) (fun q21 => ?_) (fun q21 => ?_)
      · refine r_iinc (lv' := [(2, .int (qv1 + 1)), (0, .ref 6), (1, .int qv0)]) (pc := 35) O d_A_countStuck_35 2 rfl (congrArg (HAdd.hAdd _) ic_1) (by decide) rfl ?_
        refine r_goto (pc := 38) O d_A_countStuck_38 (tgt := 4) (by decide) ?_
        exact r_lv [1, 2, 0] rfl (hrec4 (qv0, (qv1 + 1)))
      · refine r_aload_n (pc := 24) O d_A_countStuck_24 0 rfl ?_
        refine r_iload_n (pc := 25) O d_A_countStuck_25 2 rfl ?_
        refine r_callVip (pc := 26) O [.int qv1] rfl rfl (R_A_leadsOnlyToItself n qv1 h) cw_A_countStuck_26 wm_886 ws_A_leadsOnlyToItself rfl (Nat.le_of_ble_eq_true rfl) d_A_countStuck_26 rfl (fun v26 => ?_)
        refine r_if_eq (tgt := 35) (pc := 29) O d_A_countStuck_29 (by decide) (fun q29 => ?_) (fun q29 => ?_)
        · refine r_iinc (lv' := [(2, .int (qv1 + 1)), (0, .ref 6), (1, .int qv0)]) (pc := 35) O d_A_countStuck_35 2 rfl (congrArg (HAdd.hAdd _) ic_1) (by decide) rfl ?_
          refine r_goto (pc := 38) O d_A_countStuck_38 (tgt := 4) (by decide) ?_
          exact r_lv [1, 2, 0] rfl (hrec4 (qv0, (qv1 + 1)))
        · refine r_iinc (lv' := [(1, .int (qv0 + 1)), (0, .ref 6), (2, .int qv1)]) (pc := 32) O d_A_countStuck_32 1 rfl (congrArg (HAdd.hAdd _) ic_1) (by decide) rfl ?_
          refine r_iinc (lv' := [(2, .int (qv1 + 1)), (1, .int (qv0 + 1)), (0, .ref 6)]) (pc := 35) O d_A_countStuck_35 2 rfl (congrArg (HAdd.hAdd _) ic_1) (by decide) rfl ?_
          refine r_goto (pc := 38) O d_A_countStuck_38 (tgt := 4) (by decide) ?_
          exact r_lv [2, 1, 0] rfl (hrec4 ((qv0 + 1), (qv1 + 1)))
  refine r_iconst (pc := 0) O d_A_countStuck_0 ic_0 ?_
  refine r_istore_n (lv' := [(1, .int 0), (0, .ref 6)]) (pc := 1) O d_A_countStuck_1 rfl (by decide) rfl ?_
  refine r_iconst (pc := 2) O d_A_countStuck_2 ic_0 ?_
  refine r_istore_n (lv' := [(2, .int 0), (1, .int 0), (0, .ref 6)]) (pc := 3) O d_A_countStuck_3 rfl (by decide) rfl ?_
  exact r_lv [2, 1, 0] rfl (hL4 (0, 0))
def F_A_idleRule_5 (n : Nat) (p1 : Int32) (p2 : Int32) (h : sHp) (rec5 : Int32 × Int32 → Option Int32) (q : Int32 × Int32) : Option Int32 :=
  if p2 ≤ q.2 then (some (-1)) else (if ((jIshr (h.1 6 8) q.2) &&& 1) = 0 then (if q.1 = p1 then (some q.2) else (rec5 ((q.1 + 1), (q.2 + 1)))) else (rec5 (q.1, (q.2 + 1))))
def J_A_idleRule (n : Nat) (p1 : Int32) (p2 : Int32) (h : sHp) : Option Int32 :=
  sFx (F_A_idleRule_5 n p1 p2 h ) n (0, 0)
set_option maxRecDepth 20000 in
set_option maxHeartbeats 4000000 in
theorem R_A_idleRule (n : Nat) (p1 : Int32) (p2 : Int32) (h : sHp) : sM Zc (sPi h) y_A_idleRule prog_2_method_19_code 5 (some .int) rm_A_idleRule [.ref 6, .int p1, .int p2] h (J_A_idleRule n p1 p2 h) := by
  refine sM_of (own := "StoryStates$Atlas") rfl (by decide) (Nat.le_of_ble_eq_true rfl) (fun M V O => ?_)
  unfold J_A_idleRule
  refine r_lv (lv' := [(0, .ref 6), (1, .int p1), (2, .int p2)]) [0, 1, 2] rfl ?_
  have hL5 : ∀ (q : Int32 × Int32), sS Zc M V (sEb (sPi h)) 5 [(0, .ref 6), (1, .int p1), (2, .int p2), (3, .int q.1), (4, .int q.2)] [] h (sFx (F_A_idleRule_5 n p1 p2 h ) n q) := by
    skip
    refine r_fx (fun q => [(0, .ref 6), (1, .int p1), (2, .int p2), (3, .int q.1), (4, .int q.2)]) (fun q => h) (F_A_idleRule_5 n p1 p2 h ) (fun rec5 hrec5 q => ?_) n
    obtain ⟨qv0, qv1⟩ := q
    show sS Zc M V (sEb (sPi h)) 5 [(0, .ref 6), (1, .int p1), (2, .int p2), (3, .int qv0), (4, .int qv1)] [] h _
    unfold F_A_idleRule_5
    try dsimp only
    refine r_iload (pc := 5) O d_A_idleRule_5 4 rfl ?_
    refine r_iload_n (pc := 7) O d_A_idleRule_7 2 rfl ?_
    refine r_icmp_ge (tgt := 40) (pc := 8) O d_A_idleRule_8 (by decide) (fun q8 => ?_) (fun q8 => ?_)
    · refine r_iconst (pc := 40) O d_A_idleRule_40 ic_m1 ?_
      exact r_iret (pc := 41) O rfl d_A_idleRule_41
    · refine r_aload_n (pc := 11) O d_A_idleRule_11 0 rfl ?_
      refine r_getI (x := (h.1 6 8)) (pc := 12) O gf_c_A_45_6 d_A_idleRule_12 rfl ?_
      refine r_iload (pc := 15) O d_A_idleRule_15 4 rfl ?_
      refine r_ishr (pc := 17) O d_A_idleRule_17 ?_
      refine r_iconst (pc := 18) O d_A_idleRule_18 ic_1 ?_
      refine r_iand (pc := 19) O d_A_idleRule_19 ?_
      refine r_if_ne (tgt := 34) (pc := 20) O d_A_idleRule_20 (by decide) (fun q20 => ?_) (fun q20 => ?_)
      · refine r_iinc (lv' := [(4, .int (qv1 + 1)), (0, .ref 6), (1, .int p1), (2, .int p2), (3, .int qv0)]) (pc := 34) O d_A_idleRule_34 4 rfl (congrArg (HAdd.hAdd _) ic_1) (by decide) rfl ?_
        refine r_goto (pc := 37) O d_A_idleRule_37 (tgt := 5) (by decide) ?_
        exact r_lv [1, 2, 3, 4, 0] rfl (hrec5 (qv0, (qv1 + 1)))
      · refine r_iload_n (pc := 23) O d_A_idleRule_23 3 rfl ?_
        refine r_iload_n (pc := 24) O d_A_idleRule_24 1 rfl ?_
        refine r_icmp_ne (tgt := 31) (pc := 25) O d_A_idleRule_25 (by decide) (fun q25 => ?_) (fun q25 => ?_)
        · refine r_iinc (lv' := [(3, .int (qv0 + 1)), (0, .ref 6), (1, .int p1), (2, .int p2), (4, .int qv1)]) (pc := 31) O d_A_idleRule_31 3 rfl (congrArg (HAdd.hAdd _) ic_1) (by decide) rfl ?_
          refine r_iinc (lv' := [(4, .int (qv1 + 1)), (3, .int (qv0 + 1)), (0, .ref 6), (1, .int p1), (2, .int p2)]) (pc := 34) O d_A_idleRule_34 4 rfl (congrArg (HAdd.hAdd _) ic_1) (by decide) rfl ?_
          refine r_goto (pc := 37) O d_A_idleRule_37 (tgt := 5) (by decide) ?_
          exact r_lv [2, 3, 4, 1, 0] rfl (hrec5 ((qv0 + 1), (qv1 + 1)))
        · refine r_iload (pc := 28) O d_A_idleRule_28 4 rfl ?_
          exact r_iret (pc := 30) O rfl d_A_idleRule_30
  refine r_iconst (pc := 0) O d_A_idleRule_0 ic_0 ?_
  refine r_istore_n (lv' := [(3, .int 0), (0, .ref 6), (1, .int p1), (2, .int p2)]) (pc := 1) O d_A_idleRule_1 rfl (by decide) rfl ?_
  refine r_iconst (pc := 2) O d_A_idleRule_2 ic_0 ?_
  refine r_istore (lv' := [(4, .int 0), (3, .int 0), (0, .ref 6), (1, .int p1), (2, .int p2)]) (pc := 3) O d_A_idleRule_3 (by decide) rfl ?_
  exact r_lv [2, 3, 4, 1, 0] rfl (hL5 (0, 0))
def F_A_firstOverWith_2 (n : Nat) (p1 : Int32) (h : sHp) (rec2 : Int32 → Option Int32) (q : Int32) : Option Int32 :=
  if (h.1 6 10) ≤ q then (some (-1)) else (sGd (sIn q 160) ((J_B_endingOf n (h.2 35 (ix q)) h).bind fun v16 =>
  if v16 = p1 then (some q) else (rec2 (q + 1))))
def J_A_firstOverWith (n : Nat) (p1 : Int32) (h : sHp) : Option Int32 :=
  sFx (F_A_firstOverWith_2 n p1 h ) n 0
set_option maxRecDepth 20000 in
set_option maxHeartbeats 4000000 in
theorem R_A_firstOverWith (n : Nat) (p1 : Int32) (h : sHp) : sM Zc (sPi h) y_A_firstOverWith prog_2_method_20_code 3 (some .int) rm_A_firstOverWith [.ref 6, .int p1] h (J_A_firstOverWith n p1 h) := by
  refine sM_of (own := "StoryStates$Atlas") rfl (by decide) (Nat.le_of_ble_eq_true rfl) (fun M V O => ?_)
  unfold J_A_firstOverWith
  refine r_lv (lv' := [(0, .ref 6), (1, .int p1)]) [0, 1] rfl ?_
  have hL2 : ∀ (q : Int32), sS Zc M V (sEb (sPi h)) 2 [(0, .ref 6), (1, .int p1), (2, .int q)] [] h (sFx (F_A_firstOverWith_2 n p1 h ) n q) := by
    skip
    refine r_fx (fun q => [(0, .ref 6), (1, .int p1), (2, .int q)]) (fun q => h) (F_A_firstOverWith_2 n p1 h ) (fun rec2 hrec2 q => ?_) n
    skip
    show sS Zc M V (sEb (sPi h)) 2 [(0, .ref 6), (1, .int p1), (2, .int q)] [] h _
    unfold F_A_firstOverWith_2
    try dsimp only
    refine r_iload_n (pc := 2) O d_A_firstOverWith_2 2 rfl ?_
    refine r_aload_n (pc := 3) O d_A_firstOverWith_3 0 rfl ?_
    refine r_getI (x := (h.1 6 10)) (pc := 4) O gf_c_A_34_6 d_A_firstOverWith_4 rfl ?_
    refine r_icmp_ge (tgt := 31) (pc := 7) O d_A_firstOverWith_7 (by decide) (fun q7 => ?_) (fun q7 => ?_)
    · refine r_iconst (pc := 31) O d_A_firstOverWith_31 ic_m1 ?_
      exact r_iret (pc := 32) O rfl d_A_firstOverWith_32
    · refine r_aload_n (pc := 10) O d_A_firstOverWith_10 0 rfl ?_
      refine r_getR (pc := 11) O gf_c_A_15_6 d_A_firstOverWith_11 ?_
      refine r_iload_n (pc := 14) O d_A_firstOverWith_14 2 rfl ?_
      refine r_lald (x := (h.2 35 (ix q))) (pc := 15) O rfl d_A_firstOverWith_15 rfl ?_
      refine r_callSip (pc := 16) O [.long (h.2 35 (ix q))] (R_B_endingOf n (h.2 35 (ix q)) h) cw_A_firstOverWith_16 wm_604 rfl (Nat.le_of_ble_eq_true rfl) d_A_firstOverWith_16 rfl (fun v16 => ?_)
      refine r_iload_n (pc := 19) O d_A_firstOverWith_19 1 rfl ?_
      refine r_icmp_ne (tgt := 25) (pc := 20) O d_A_firstOverWith_20 (by decide) (fun q20 => ?_) (fun q20 => ?_)
      · refine r_iinc (lv' := [(2, .int (q + 1)), (0, .ref 6), (1, .int p1)]) (pc := 25) O d_A_firstOverWith_25 2 rfl (congrArg (HAdd.hAdd _) ic_1) (by decide) rfl ?_
        refine r_goto (pc := 28) O d_A_firstOverWith_28 (tgt := 2) (by decide) ?_
        exact r_lv [1, 2, 0] rfl (hrec2 (q + 1))
      · refine r_iload_n (pc := 23) O d_A_firstOverWith_23 2 rfl ?_
        exact r_iret (pc := 24) O rfl d_A_firstOverWith_24
  refine r_iconst (pc := 0) O d_A_firstOverWith_0 ic_0 ?_
  refine r_istore_n (lv' := [(2, .int 0), (0, .ref 6), (1, .int p1)]) (pc := 1) O d_A_firstOverWith_1 rfl (by decide) rfl ?_
  exact r_lv [1, 2, 0] rfl (hL2 0)
def F_A_depthOf_4 (n : Nat) (p1 : Int32) (h : sHp) (rec4 : Int32 × Int32 → Option Int32) (q : Int32 × Int32) : Option Int32 :=
  if q.2 ≤ 0 then (some q.1) else (if 160 ≤ q.1 then (some q.1) else (sGd (sIn q.2 160) (rec4 ((q.1 + 1), (h.1 36 (ix q.2))))))
def J_A_depthOf (n : Nat) (p1 : Int32) (h : sHp) : Option Int32 :=
  sFx (F_A_depthOf_4 n p1 h ) n (0, p1)
set_option maxRecDepth 20000 in
set_option maxHeartbeats 4000000 in
theorem R_A_depthOf (n : Nat) (p1 : Int32) (h : sHp) : sM Zc (sPi h) y_A_depthOf prog_2_method_21_code 4 (some .int) rm_A_depthOf [.ref 6, .int p1] h (J_A_depthOf n p1 h) := by
  refine sM_of (own := "StoryStates$Atlas") rfl (by decide) (Nat.le_of_ble_eq_true rfl) (fun M V O => ?_)
  unfold J_A_depthOf
  refine r_lv (lv' := [(0, .ref 6), (1, .int p1)]) [0, 1] rfl ?_
  have hL4 : ∀ (q : Int32 × Int32), sS Zc M V (sEb (sPi h)) 4 [(0, .ref 6), (2, .int q.1), (3, .int q.2)] [] h (sFx (F_A_depthOf_4 n p1 h ) n q) := by
    skip
    refine r_fx (fun q => [(0, .ref 6), (2, .int q.1), (3, .int q.2)]) (fun q => h) (F_A_depthOf_4 n p1 h ) (fun rec4 hrec4 q => ?_) n
    obtain ⟨qv0, qv1⟩ := q
    show sS Zc M V (sEb (sPi h)) 4 [(0, .ref 6), (2, .int qv0), (3, .int qv1)] [] h _
    unfold F_A_depthOf_4
    try dsimp only
    refine r_iload_n (pc := 4) O d_A_depthOf_4 2 rfl ?_
    refine r_if_le (tgt := 28) (pc := 5) O d_A_depthOf_5 (by decide) (fun q5 => ?_) (fun q5 => ?_)
    · refine r_iload_n (pc := 28) O d_A_depthOf_28 1 rfl ?_
      exact r_iret (pc := 29) O rfl d_A_depthOf_29
    · refine r_iload_n (pc := 8) O d_A_depthOf_8 1 rfl ?_
      refine r_sipush (pc := 9) O d_A_depthOf_9 sc_160 ?_
      refine r_icmp_ge (tgt := 28) (pc := 12) O d_A_depthOf_12 (by decide) (fun q12 => ?_) (fun q12 => ?_)
      · refine r_iload_n (pc := 28) O d_A_depthOf_28 1 rfl ?_
        exact r_iret (pc := 29) O rfl d_A_depthOf_29
      · refine r_iinc (lv' := [(2, .int (qv0 + 1)), (0, .ref 6), (3, .int qv1)]) (pc := 15) O d_A_depthOf_15 1 rfl (congrArg (HAdd.hAdd _) ic_1) (by decide) rfl ?_
        refine r_aload_n (pc := 18) O d_A_depthOf_18 1 rfl ?_
        refine r_getR (pc := 19) O gf_c_A_19_6 d_A_depthOf_19 ?_
        refine r_iload_n (pc := 22) O d_A_depthOf_22 2 rfl ?_
        refine r_iald (x := (h.1 36 (ix qv1))) (pc := 23) O rfl d_A_depthOf_23 rfl ?_
        refine r_istore_n (lv' := [(3, .int (h.1 36 (ix qv1))), (2, .int (qv0 + 1)), (0, .ref 6)]) (pc := 24) O d_A_depthOf_24 rfl (by decide) rfl ?_
        refine r_goto (pc := 25) O d_A_depthOf_25 (tgt := 4) (by decide) ?_
        exact r_lv [2, 1, 0] rfl (hrec4 ((qv0 + 1), (h.1 36 (ix qv1))))
  refine r_iconst (pc := 0) O d_A_depthOf_0 ic_0 ?_
  refine r_istore_n (lv' := [(2, .int 0), (0, .ref 6), (1, .int p1)]) (pc := 1) O d_A_depthOf_1 rfl (by decide) rfl ?_
  refine r_iload_n (pc := 2) O d_A_depthOf_2 2 rfl ?_
  refine r_istore_n (lv' := [(3, .int p1), (2, .int 0), (0, .ref 6), (1, .int p1)]) (pc := 3) O d_A_depthOf_3 rfl (by decide) rfl ?_
  exact r_lv [2, 1, 0] rfl (hL4 (0, p1))
def F_A_codeOnWay_11 (n : Nat) (p1 : Int32) (p2 : Int32) (h : sHp) (rec11 : Int32 × Int32 → Option Int32) (q : Int32 × Int32) : Option Int32 :=
  if q.2 ≤ p2 then (sGd (sIn q.1 160) (some (h.1 37 (ix q.1)))) else (sGd (sIn q.1 160) (rec11 ((h.1 36 (ix q.1)), (q.2 + (-1)))))
def J_A_codeOnWay (n : Nat) (p1 : Int32) (p2 : Int32) (h : sHp) : Option Int32 :=
  (J_A_depthOf n p1 h).bind fun v4 =>
  sFx (F_A_codeOnWay_11 n p1 p2 h ) n (p1, (v4 - 1))
set_option maxRecDepth 20000 in
set_option maxHeartbeats 4000000 in
theorem R_A_codeOnWay (n : Nat) (p1 : Int32) (p2 : Int32) (h : sHp) : sM Zc (sPi h) y_A_codeOnWay prog_2_method_22_code 5 (some .int) rm_A_codeOnWay [.ref 6, .int p1, .int p2] h (J_A_codeOnWay n p1 p2 h) := by
  refine sM_of (own := "StoryStates$Atlas") rfl (by decide) (Nat.le_of_ble_eq_true rfl) (fun M V O => ?_)
  unfold J_A_codeOnWay
  refine r_lv (lv' := [(0, .ref 6), (1, .int p1), (2, .int p2)]) [0, 1, 2] rfl ?_
  have hL11 : ∀ (q : Int32 × Int32), sS Zc M V (sEb (sPi h)) 11 [(0, .ref 6), (2, .int p2), (3, .int q.1), (4, .int q.2)] [] h (sFx (F_A_codeOnWay_11 n p1 p2 h ) n q) := by
    skip
    refine r_fx (fun q => [(0, .ref 6), (2, .int p2), (3, .int q.1), (4, .int q.2)]) (fun q => h) (F_A_codeOnWay_11 n p1 p2 h ) (fun rec11 hrec11 q => ?_) n
    obtain ⟨qv0, qv1⟩ := q
    show sS Zc M V (sEb (sPi h)) 11 [(0, .ref 6), (2, .int p2), (3, .int qv0), (4, .int qv1)] [] h _
    unfold F_A_codeOnWay_11
    try dsimp only
    refine r_iload (pc := 11) O d_A_codeOnWay_11 3 rfl ?_
    refine r_iload_n (pc := 13) O d_A_codeOnWay_13 1 rfl ?_
    refine r_icmp_le (tgt := 30) (pc := 14) O d_A_codeOnWay_14 (by decide) (fun q14 => ?_) (fun q14 => ?_)
    · refine r_aload_n (pc := 30) O d_A_codeOnWay_30 0 rfl ?_
      refine r_getR (pc := 31) O gf_c_A_22_6 d_A_codeOnWay_31 ?_
      refine r_iload_n (pc := 34) O d_A_codeOnWay_34 2 rfl ?_
      refine r_iald (x := (h.1 37 (ix qv0))) (pc := 35) O rfl d_A_codeOnWay_35 rfl ?_
      exact r_iret (pc := 36) O rfl d_A_codeOnWay_36
    · refine r_aload_n (pc := 17) O d_A_codeOnWay_17 0 rfl ?_
      refine r_getR (pc := 18) O gf_c_A_19_6 d_A_codeOnWay_18 ?_
      refine r_iload_n (pc := 21) O d_A_codeOnWay_21 2 rfl ?_
      refine r_iald (x := (h.1 36 (ix qv0))) (pc := 22) O rfl d_A_codeOnWay_22 rfl ?_
      refine r_istore_n (lv' := [(3, .int (h.1 36 (ix qv0))), (0, .ref 6), (2, .int p2), (4, .int qv1)]) (pc := 23) O d_A_codeOnWay_23 rfl (by decide) rfl ?_
      refine r_iinc (lv' := [(4, .int (qv1 + (-1))), (3, .int (h.1 36 (ix qv0))), (0, .ref 6), (2, .int p2)]) (pc := 24) O d_A_codeOnWay_24 3 rfl (congrArg (HAdd.hAdd _) ic_m1) (by decide) rfl ?_
      refine r_goto (pc := 27) O d_A_codeOnWay_27 (tgt := 11) (by decide) ?_
      exact r_lv [2, 3, 1, 0] rfl (hrec11 ((h.1 36 (ix qv0)), (qv1 + (-1))))
  refine r_iload_n (pc := 0) O d_A_codeOnWay_0 1 rfl ?_
  refine r_istore_n (lv' := [(3, .int p1), (0, .ref 6), (1, .int p1), (2, .int p2)]) (pc := 1) O d_A_codeOnWay_1 rfl (by decide) rfl ?_
  refine r_aload_n (pc := 2) O d_A_codeOnWay_2 1 rfl ?_
  refine r_iload_n (pc := 3) O d_A_codeOnWay_3 2 rfl ?_
  refine r_callVip (pc := 4) O [.int p1] rfl rfl (R_A_depthOf n p1 h) cw_A_codeOnWay_4 wm_846 wm_847 rfl (Nat.le_of_ble_eq_true rfl) d_A_codeOnWay_4 rfl (fun v4 => ?_)
  refine r_iconst (pc := 7) O d_A_codeOnWay_7 ic_1 ?_
  refine r_isub (pc := 8) O d_A_codeOnWay_8 ?_
  refine r_istore (lv' := [(4, .int (v4 - 1)), (3, .int p1), (0, .ref 6), (1, .int p1), (2, .int p2)]) (pc := 9) O d_A_codeOnWay_9 (by decide) rfl ?_
  exact r_lv [2, 4, 1, 0] rfl (hL11 (p1, (v4 - 1)))
