def J_C_hasSpace (n : Nat) (p1 : Int32) (h : sHp) : Option Int32 :=
  sGd (sIn p1 12) (if 3 ≤ (h.1 26 (ix p1)) then (some 0) else (some 1))
set_option maxRecDepth 20000 in
set_option maxHeartbeats 4000000 in
theorem R_C_hasSpace (n : Nat) (p1 : Int32) (h : sHp) : sM Zc (sPi h) y_C_hasSpace prog_4_method_2_code 2 (some .boolean) rm_C_hasSpace [.ref 4, .int p1] h (J_C_hasSpace n p1 h) := by
  refine sM_of (own := "StoryStates$Clauses") rfl (by decide) (Nat.le_of_ble_eq_true rfl) (fun M V O => ?_)
  unfold J_C_hasSpace
  refine r_lv (lv' := [(0, .ref 4), (1, .int p1)]) [0, 1] rfl ?_
  refine r_aload_n (pc := 0) O d_C_hasSpace_0 0 rfl ?_
  refine r_getR (pc := 1) O gf_c_C_9_4 d_C_hasSpace_1 ?_
  refine r_iload_n (pc := 4) O d_C_hasSpace_4 1 rfl ?_
  refine r_iald (x := (h.1 26 (ix p1))) (pc := 5) O rfl d_C_hasSpace_5 rfl ?_
  refine r_iconst (pc := 6) O d_C_hasSpace_6 ic_3 ?_
  refine r_icmp_ge (tgt := 14) (pc := 7) O d_C_hasSpace_7 (by decide) (fun q7 => ?_) (fun q7 => ?_)
  · refine r_iconst (pc := 14) O d_C_hasSpace_14 ic_0 ?_
    exact r_zret (pc := 15) O rfl d_C_hasSpace_15 nb_0
  · refine r_iconst (pc := 10) O d_C_hasSpace_10 ic_1 ?_
    refine r_goto (pc := 11) O d_C_hasSpace_11 (tgt := 15) (by decide) ?_
    exact r_zret (pc := 15) O rfl d_C_hasSpace_15 nb_1
def J_C_hasSpace_1 (n : Nat) (p1 : Int32) (h : sHp) : Option Int32 :=
  sGd (sIn p1 12) (if 3 ≤ (h.1 30 (ix p1)) then (some 0) else (some 1))
set_option maxRecDepth 20000 in
set_option maxHeartbeats 4000000 in
theorem R_C_hasSpace_1 (n : Nat) (p1 : Int32) (h : sHp) : sM Zc (sPi h) y_C_hasSpace prog_4_method_2_code 2 (some .boolean) rm_C_hasSpace_1 [.ref 5, .int p1] h (J_C_hasSpace_1 n p1 h) := by
  refine sM_of (own := "StoryStates$Clauses") rfl (by decide) (Nat.le_of_ble_eq_true rfl) (fun M V O => ?_)
  unfold J_C_hasSpace_1
  refine r_lv (lv' := [(0, .ref 5), (1, .int p1)]) [0, 1] rfl ?_
  refine r_aload_n (pc := 0) O d_C_hasSpace_0 0 rfl ?_
  refine r_getR (pc := 1) O gf_c_C_9_5 d_C_hasSpace_1 ?_
  refine r_iload_n (pc := 4) O d_C_hasSpace_4 1 rfl ?_
  refine r_iald (x := (h.1 30 (ix p1))) (pc := 5) O rfl d_C_hasSpace_5 rfl ?_
  refine r_iconst (pc := 6) O d_C_hasSpace_6 ic_3 ?_
  refine r_icmp_ge (tgt := 14) (pc := 7) O d_C_hasSpace_7 (by decide) (fun q7 => ?_) (fun q7 => ?_)
  · refine r_iconst (pc := 14) O d_C_hasSpace_14 ic_0 ?_
    exact r_zret (pc := 15) O rfl d_C_hasSpace_15 nb_0
  · refine r_iconst (pc := 10) O d_C_hasSpace_10 ic_1 ?_
    refine r_goto (pc := 11) O d_C_hasSpace_11 (tgt := 15) (by decide) ?_
    exact r_zret (pc := 15) O rfl d_C_hasSpace_15 nb_1
def J_C_endOf (n : Nat) (p1 : Int32) (h : sHp) : Option Int32 :=
  sGd (sIn p1 12) (some ((p1 * 3) + (h.1 26 (ix p1))))
set_option maxRecDepth 20000 in
set_option maxHeartbeats 4000000 in
theorem R_C_endOf (n : Nat) (p1 : Int32) (h : sHp) : sM Zc (sPi h) y_C_endOf prog_4_method_4_code 2 (some .int) rm_C_endOf [.ref 4, .int p1] h (J_C_endOf n p1 h) := by
  refine sM_of (own := "StoryStates$Clauses") rfl (by decide) (Nat.le_of_ble_eq_true rfl) (fun M V O => ?_)
  unfold J_C_endOf
  refine r_lv (lv' := [(0, .ref 4), (1, .int p1)]) [0, 1] rfl ?_
  refine r_iload_n (pc := 0) O d_C_endOf_0 1 rfl ?_
  refine r_iconst (pc := 1) O d_C_endOf_1 ic_3 ?_
  refine r_imul (pc := 2) O d_C_endOf_2 ?_
  refine r_aload_n (pc := 3) O d_C_endOf_3 0 rfl ?_
  refine r_getR (pc := 4) O gf_c_C_9_4 d_C_endOf_4 ?_
  refine r_iload_n (pc := 7) O d_C_endOf_7 1 rfl ?_
  refine r_iald (x := (h.1 26 (ix p1))) (pc := 8) O rfl d_C_endOf_8 rfl ?_
  refine r_iadd (pc := 9) O d_C_endOf_9 ?_
  exact r_iret (pc := 10) O rfl d_C_endOf_10
def J_C_append (n : Nat) (p1 : Int32) (p2 : Int32) (p3 : Int32) (p4 : Int32) (h : sHp) : Option sHp :=
  (J_C_endOf n p1 h).bind fun v2 =>
  sGd (sIn v2 36) (sGd (sIn v2 36) (sGd (sIn v2 36) (sGd (sIn p1 12) (sGd (sIn p1 12) (some (pI (pI (pI (pI h 27 (ix v2) p2) 28 (ix v2) p3) 29 (ix v2) p4) 26 (ix p1) ((h.1 26 (ix p1)) + 1)))))))
set_option maxRecDepth 20000 in
set_option maxHeartbeats 4000000 in
theorem R_C_append (n : Nat) (p1 : Int32) (p2 : Int32) (p3 : Int32) (p4 : Int32) (h : sHp) : sM Zc sOv y_C_append prog_4_method_5_code 6 none rm_C_append [.ref 4, .int p1, .int p2, .int p3, .int p4] h (J_C_append n p1 p2 p3 p4 h) := by
  refine sM_of (own := "StoryStates$Clauses") rfl (by decide) (Nat.le_of_ble_eq_true rfl) (fun M V O => ?_)
  unfold J_C_append
  refine r_lv (lv' := [(0, .ref 4), (1, .int p1), (2, .int p2), (3, .int p3), (4, .int p4)]) [0, 1, 2, 3, 4] rfl ?_
  refine r_aload_n (pc := 0) O d_C_append_0 0 rfl ?_
  refine r_iload_n (pc := 1) O d_C_append_1 1 rfl ?_
  refine r_callVip (pc := 2) O [.int p1] rfl rfl (R_C_endOf n p1 h) cw_C_append_2 wm_539 wm_540 rfl (Nat.le_of_ble_eq_true rfl) d_C_append_2 rfl (fun v2 => ?_)
  refine r_istore (lv' := [(5, .int v2), (0, .ref 4), (1, .int p1), (2, .int p2), (3, .int p3), (4, .int p4)]) (pc := 5) O d_C_append_5 (by decide) rfl ?_
  refine r_aload_n (pc := 7) O d_C_append_7 1 rfl ?_
  refine r_getR (pc := 8) O gf_c_C_15_4 d_C_append_8 ?_
  refine r_iload (pc := 11) O d_C_append_11 0 rfl ?_
  refine r_iload_n (pc := 13) O d_C_append_13 3 rfl ?_
  refine r_iast (pc := 14) O rfl d_C_append_14 ?_
  refine r_aload_n (pc := 15) O d_C_append_15 1 rfl ?_
  refine r_getR (pc := 16) O gf_c_C_18_4 d_C_append_16 ?_
  refine r_iload (pc := 19) O d_C_append_19 0 rfl ?_
  refine r_iload_n (pc := 21) O d_C_append_21 4 rfl ?_
  refine r_iast (pc := 22) O rfl d_C_append_22 ?_
  refine r_aload_n (pc := 23) O d_C_append_23 1 rfl ?_
  refine r_getR (pc := 24) O gf_c_C_21_4 d_C_append_24 ?_
  refine r_iload (pc := 27) O d_C_append_27 0 rfl ?_
  refine r_iload (pc := 29) O d_C_append_29 5 rfl ?_
  refine r_iast (pc := 31) O rfl d_C_append_31 ?_
  refine r_aload_n (pc := 32) O d_C_append_32 1 rfl ?_
  refine r_getR (pc := 33) O gf_c_C_9_4 d_C_append_33 ?_
  refine r_iload_n (pc := 36) O d_C_append_36 2 rfl ?_
  refine r_dup2_11 (pc := 37) O d_C_append_37 rfl rfl ?_
  refine r_iald (x := (h.1 26 (ix p1))) (pc := 38) O rfl d_C_append_38 rfl ?_
  refine r_iconst (pc := 39) O d_C_append_39 ic_1 ?_
  refine r_iadd (pc := 40) O d_C_append_40 ?_
  refine r_iast (pc := 41) O rfl d_C_append_41 ?_
  exact r_vret (pc := 42) O rfl d_C_append_42
def J_C_endOf_1 (n : Nat) (p1 : Int32) (h : sHp) : Option Int32 :=
  sGd (sIn p1 12) (some ((p1 * 3) + (h.1 30 (ix p1))))
set_option maxRecDepth 20000 in
set_option maxHeartbeats 4000000 in
theorem R_C_endOf_1 (n : Nat) (p1 : Int32) (h : sHp) : sM Zc (sPi h) y_C_endOf prog_4_method_4_code 2 (some .int) rm_C_endOf_1 [.ref 5, .int p1] h (J_C_endOf_1 n p1 h) := by
  refine sM_of (own := "StoryStates$Clauses") rfl (by decide) (Nat.le_of_ble_eq_true rfl) (fun M V O => ?_)
  unfold J_C_endOf_1
  refine r_lv (lv' := [(0, .ref 5), (1, .int p1)]) [0, 1] rfl ?_
  refine r_iload_n (pc := 0) O d_C_endOf_0 1 rfl ?_
  refine r_iconst (pc := 1) O d_C_endOf_1 ic_3 ?_
  refine r_imul (pc := 2) O d_C_endOf_2 ?_
  refine r_aload_n (pc := 3) O d_C_endOf_3 0 rfl ?_
  refine r_getR (pc := 4) O gf_c_C_9_5 d_C_endOf_4 ?_
  refine r_iload_n (pc := 7) O d_C_endOf_7 1 rfl ?_
  refine r_iald (x := (h.1 30 (ix p1))) (pc := 8) O rfl d_C_endOf_8 rfl ?_
  refine r_iadd (pc := 9) O d_C_endOf_9 ?_
  exact r_iret (pc := 10) O rfl d_C_endOf_10
def J_C_append_1 (n : Nat) (p1 : Int32) (p2 : Int32) (p3 : Int32) (p4 : Int32) (h : sHp) : Option sHp :=
  (J_C_endOf_1 n p1 h).bind fun v2 =>
  sGd (sIn v2 36) (sGd (sIn v2 36) (sGd (sIn v2 36) (sGd (sIn p1 12) (sGd (sIn p1 12) (some (pI (pI (pI (pI h 31 (ix v2) p2) 32 (ix v2) p3) 33 (ix v2) p4) 30 (ix p1) ((h.1 30 (ix p1)) + 1)))))))
set_option maxRecDepth 20000 in
set_option maxHeartbeats 4000000 in
theorem R_C_append_1 (n : Nat) (p1 : Int32) (p2 : Int32) (p3 : Int32) (p4 : Int32) (h : sHp) : sM Zc sOv y_C_append prog_4_method_5_code 6 none rm_C_append_1 [.ref 5, .int p1, .int p2, .int p3, .int p4] h (J_C_append_1 n p1 p2 p3 p4 h) := by
  refine sM_of (own := "StoryStates$Clauses") rfl (by decide) (Nat.le_of_ble_eq_true rfl) (fun M V O => ?_)
  unfold J_C_append_1
  refine r_lv (lv' := [(0, .ref 5), (1, .int p1), (2, .int p2), (3, .int p3), (4, .int p4)]) [0, 1, 2, 3, 4] rfl ?_
  refine r_aload_n (pc := 0) O d_C_append_0 0 rfl ?_
  refine r_iload_n (pc := 1) O d_C_append_1 1 rfl ?_
  refine r_callVip (pc := 2) O [.int p1] rfl rfl (R_C_endOf_1 n p1 h) cw_C_append_1_2 wm_539 wm_540 rfl (Nat.le_of_ble_eq_true rfl) d_C_append_2 rfl (fun v2 => ?_)
  refine r_istore (lv' := [(5, .int v2), (0, .ref 5), (1, .int p1), (2, .int p2), (3, .int p3), (4, .int p4)]) (pc := 5) O d_C_append_5 (by decide) rfl ?_
  refine r_aload_n (pc := 7) O d_C_append_7 1 rfl ?_
  refine r_getR (pc := 8) O gf_c_C_15_5 d_C_append_8 ?_
  refine r_iload (pc := 11) O d_C_append_11 0 rfl ?_
  refine r_iload_n (pc := 13) O d_C_append_13 3 rfl ?_
  refine r_iast (pc := 14) O rfl d_C_append_14 ?_
  refine r_aload_n (pc := 15) O d_C_append_15 1 rfl ?_
  refine r_getR (pc := 16) O gf_c_C_18_5 d_C_append_16 ?_
  refine r_iload (pc := 19) O d_C_append_19 0 rfl ?_
  refine r_iload_n (pc := 21) O d_C_append_21 4 rfl ?_
  refine r_iast (pc := 22) O rfl d_C_append_22 ?_
  refine r_aload_n (pc := 23) O d_C_append_23 1 rfl ?_
  refine r_getR (pc := 24) O gf_c_C_21_5 d_C_append_24 ?_
  refine r_iload (pc := 27) O d_C_append_27 0 rfl ?_
  refine r_iload (pc := 29) O d_C_append_29 5 rfl ?_
  refine r_iast (pc := 31) O rfl d_C_append_31 ?_
  refine r_aload_n (pc := 32) O d_C_append_32 1 rfl ?_
  refine r_getR (pc := 33) O gf_c_C_9_5 d_C_append_33 ?_
  refine r_iload_n (pc := 36) O d_C_append_36 2 rfl ?_
  refine r_dup2_11 (pc := 37) O d_C_append_37 rfl rfl ?_
  refine r_iald (x := (h.1 30 (ix p1))) (pc := 38) O rfl d_C_append_38 rfl ?_
  refine r_iconst (pc := 39) O d_C_append_39 ic_1 ?_
  refine r_iadd (pc := 40) O d_C_append_40 ?_
  refine r_iast (pc := 41) O rfl d_C_append_41 ?_
  exact r_vret (pc := 42) O rfl d_C_append_42
def J_B_placeOf (n : Nat) (p0 : Int64) (p2 : Int32) (h : sHp) : Option Int32 :=
  some ((Int64.toInt32 (jLushr p0 (3 + (4 * p2)))) &&& 15)
set_option maxRecDepth 20000 in
set_option maxHeartbeats 4000000 in
theorem R_B_placeOf (n : Nat) (p0 : Int64) (p2 : Int32) (h : sHp) : sM Zc (sPi h) y_B_placeOf prog_3_method_4_code 3 (some .int) rm_B_placeOf [.long p0, .int p2] h (J_B_placeOf n p0 p2 h) := by
  refine sM_of (own := "StoryStates$Bits") rfl (by decide) (Nat.le_of_ble_eq_true rfl) (fun M V O => ?_)
  unfold J_B_placeOf
  refine r_lv (lv' := [(0, .long p0), (2, .int p2)]) [0, 1] rfl ?_
  refine r_lload_n (pc := 0) O d_B_placeOf_0 0 rfl ?_
  refine r_iconst (pc := 1) O d_B_placeOf_1 ic_3 ?_
  refine r_iconst (pc := 2) O d_B_placeOf_2 ic_4 ?_
  refine r_iload_n (pc := 3) O d_B_placeOf_3 1 rfl ?_
  refine r_imul (pc := 4) O d_B_placeOf_4 ?_
  refine r_iadd (pc := 5) O d_B_placeOf_5 ?_
  refine r_lushr (pc := 6) O d_B_placeOf_6 ?_
  refine r_l2i (pc := 7) O d_B_placeOf_7 ?_
  refine r_bipush (pc := 8) O d_B_placeOf_8 bc_15 ?_
  refine r_iand (pc := 10) O d_B_placeOf_10 ?_
  exact r_iret (pc := 11) O rfl d_B_placeOf_11
def J_B_isOpen (n : Nat) (p0 : Int64) (p2 : Int32) (h : sHp) : Option Int32 :=
  if (lg_cmp ((jLushr p0 (27 + p2)) &&& 1) 0) = 0 then (some 0) else (some 1)
set_option maxRecDepth 20000 in
set_option maxHeartbeats 4000000 in
theorem R_B_isOpen (n : Nat) (p0 : Int64) (p2 : Int32) (h : sHp) : sM Zc (sPi h) y_B_isOpen prog_3_method_6_code 3 (some .boolean) rm_B_isOpen [.long p0, .int p2] h (J_B_isOpen n p0 p2 h) := by
  refine sM_of (own := "StoryStates$Bits") rfl (by decide) (Nat.le_of_ble_eq_true rfl) (fun M V O => ?_)
  unfold J_B_isOpen
  refine r_lv (lv' := [(0, .long p0), (2, .int p2)]) [0, 1] rfl ?_
  refine r_lload_n (pc := 0) O d_B_isOpen_0 0 rfl ?_
  refine r_bipush (pc := 1) O d_B_isOpen_1 bc_27 ?_
  refine r_iload_n (pc := 3) O d_B_isOpen_3 1 rfl ?_
  refine r_iadd (pc := 4) O d_B_isOpen_4 ?_
  refine r_lushr (pc := 5) O d_B_isOpen_5 ?_
  refine r_lconst (pc := 6) O d_B_isOpen_6 lc_1 ?_
  refine r_land (pc := 7) O d_B_isOpen_7 ?_
  refine r_lconst (pc := 8) O d_B_isOpen_8 lc_0 ?_
  refine r_lcmp (pc := 9) O d_B_isOpen_9 ?_
  refine r_if_eq (tgt := 17) (pc := 10) O d_B_isOpen_10 (by decide) (fun q10 => ?_) (fun q10 => ?_)
  · refine r_iconst (pc := 17) O d_B_isOpen_17 ic_0 ?_
    exact r_zret (pc := 18) O rfl d_B_isOpen_18 nb_0
  · refine r_iconst (pc := 13) O d_B_isOpen_13 ic_1 ?_
    refine r_goto (pc := 14) O d_B_isOpen_14 (tgt := 18) (by decide) ?_
    exact r_zret (pc := 18) O rfl d_B_isOpen_18 nb_1
def J_B_roomOf (n : Nat) (p0 : Int64) (h : sHp) : Option Int32 :=
  some ((Int64.toInt32 p0) &&& 7)
set_option maxRecDepth 20000 in
set_option maxHeartbeats 4000000 in
theorem R_B_roomOf (n : Nat) (p0 : Int64) (h : sHp) : sM Zc (sPi h) y_B_roomOf prog_3_method_2_code 2 (some .int) rm_B_roomOf [.long p0] h (J_B_roomOf n p0 h) := by
  refine sM_of (own := "StoryStates$Bits") rfl (by decide) (Nat.le_of_ble_eq_true rfl) (fun M V O => ?_)
  unfold J_B_roomOf
  refine r_lv (lv' := [(0, .long p0)]) [0] rfl ?_
  refine r_lload_n (pc := 0) O d_B_roomOf_0 0 rfl ?_
  refine r_l2i (pc := 1) O d_B_roomOf_1 ?_
  refine r_bipush (pc := 2) O d_B_roomOf_2 bc_7 ?_
  refine r_iand (pc := 4) O d_B_roomOf_4 ?_
  exact r_iret (pc := 5) O rfl d_B_roomOf_5
def K_B_isSeen_50 (n : Nat) (p0 : Int64) (p2 : Int32) (h : sHp) (x3 : Int32) : Option Int32 :=
  if x3 = 6 then (some 1) else ((J_B_roomOf n p0 h).bind fun v58 =>
  if x3 = v58 then (some 1) else (some 0))
def F_B_isSeen_9 (n : Nat) (p0 : Int64) (p2 : Int32) (h : sHp) (rec9 : Int32 × Int32 → Option Int32) (q : Int32 × Int32) : Option Int32 :=
  if 6 ≤ q.2 then (K_B_isSeen_50 n p0 p2 h q.1) else (if q.1 < 7 then (K_B_isSeen_50 n p0 p2 h q.1) else ((J_B_isOpen n p0 (q.1 - 7) h).bind fun v27 =>
  if v27 = 0 then (some 0) else ((J_B_placeOf n p0 (q.1 - 7) h).bind fun v40 =>
  rec9 (v40, (q.2 + 1)))))
def J_B_isSeen (n : Nat) (p0 : Int64) (p2 : Int32) (h : sHp) : Option Int32 :=
  (J_B_placeOf n p0 p2 h).bind fun v2 =>
  sFx (F_B_isSeen_9 n p0 p2 h ) n (v2, 0)
set_option maxRecDepth 20000 in
set_option maxHeartbeats 4000000 in
theorem R_B_isSeen (n : Nat) (p0 : Int64) (p2 : Int32) (h : sHp) : sM Zc (sPi h) y_B_isSeen prog_3_method_17_code 5 (some .boolean) rm_B_isSeen [.long p0, .int p2] h (J_B_isSeen n p0 p2 h) := by
  refine sM_of (own := "StoryStates$Bits") rfl (by decide) (Nat.le_of_ble_eq_true rfl) (fun M V O => ?_)
  unfold J_B_isSeen
  refine r_lv (lv' := [(0, .long p0), (2, .int p2)]) [0, 1] rfl ?_
  have hK50 : ∀ (x3 : Int32), sS Zc M V (sEb (sPi h)) 50 [(0, .long p0), (3, .int x3)] [] h (K_B_isSeen_50 n p0 p2 h x3) := by
    intro x3
    unfold K_B_isSeen_50
    refine r_iload_n (pc := 50) O d_B_isSeen_50 1 rfl ?_
    refine r_bipush (pc := 51) O d_B_isSeen_51 bc_6 ?_
    refine r_icmp_eq (tgt := 64) (pc := 53) O d_B_isSeen_53 (by decide) (fun q53 => ?_) (fun q53 => ?_)
    · refine r_iconst (pc := 64) O d_B_isSeen_64 ic_1 ?_
      refine r_goto (pc := 65) O d_B_isSeen_65 (tgt := 69) (by decide) ?_
      exact r_zret (pc := 69) O rfl d_B_isSeen_69 nb_1
    · refine r_iload_n (pc := 56) O d_B_isSeen_56 1 rfl ?_
      refine r_lload_n (pc := 57) O d_B_isSeen_57 0 rfl ?_
      refine r_callSip (pc := 58) O [.long p0] (R_B_roomOf n p0 h) cw_B_isSeen_58 wm_628 rfl (Nat.le_of_ble_eq_true rfl) d_B_isSeen_58 rfl (fun v58 => ?_)
      refine r_icmp_ne (tgt := 68) (pc := 61) O d_B_isSeen_61 (by decide) (fun q61 => ?_) (fun q61 => ?_)
      · refine r_iconst (pc := 68) O d_B_isSeen_68 ic_0 ?_
        exact r_zret (pc := 69) O rfl d_B_isSeen_69 nb_0
      · refine r_iconst (pc := 64) O d_B_isSeen_64 ic_1 ?_
        refine r_goto (pc := 65) O d_B_isSeen_65 (tgt := 69) (by decide) ?_
        exact r_zret (pc := 69) O rfl d_B_isSeen_69 nb_1
  have hL9 : ∀ (q : Int32 × Int32), sS Zc M V (sEb (sPi h)) 9 [(0, .long p0), (3, .int q.1), (4, .int q.2)] [] h (sFx (F_B_isSeen_9 n p0 p2 h ) n q) := by
    skip
    refine r_fx (fun q => [(0, .long p0), (3, .int q.1), (4, .int q.2)]) (fun q => h) (F_B_isSeen_9 n p0 p2 h ) (fun rec9 hrec9 q => ?_) n
    obtain ⟨qv0, qv1⟩ := q
    show sS Zc M V (sEb (sPi h)) 9 [(0, .long p0), (3, .int qv0), (4, .int qv1)] [] h _
    unfold F_B_isSeen_9
    try dsimp only
    refine r_iload (pc := 9) O d_B_isSeen_9 2 rfl ?_
    refine r_bipush (pc := 11) O d_B_isSeen_11 bc_6 ?_
    refine r_icmp_ge (tgt := 50) (pc := 13) O d_B_isSeen_13 (by decide) (fun q13 => ?_) (fun q13 => ?_)
    · exact r_lv [0, 1] rfl (hK50 qv0)
    · refine r_iload_n (pc := 16) O d_B_isSeen_16 1 rfl ?_
      refine r_bipush (pc := 17) O d_B_isSeen_17 bc_7 ?_
      refine r_icmp_lt (tgt := 50) (pc := 19) O d_B_isSeen_19 (by decide) (fun q19 => ?_) (fun q19 => ?_)
      · exact r_lv [0, 1] rfl (hK50 qv0)
      · refine r_lload_n (pc := 22) O d_B_isSeen_22 0 rfl ?_
        refine r_iload_n (pc := 23) O d_B_isSeen_23 1 rfl ?_
        refine r_bipush (pc := 24) O d_B_isSeen_24 bc_7 ?_
        refine r_isub (pc := 26) O d_B_isSeen_26 ?_
        refine r_callSip (pc := 27) O [.long p0, .int (qv0 - 7)] (R_B_isOpen n p0 (qv0 - 7) h) cw_B_isSeen_27 wm_625 rfl (Nat.le_of_ble_eq_true rfl) d_B_isSeen_27 rfl (fun v27 => ?_)
        refine r_if_ne (tgt := 35) (pc := 30) O d_B_isSeen_30 (by decide) (fun q30 => ?_) (fun q30 => ?_)
        · refine r_lload_n (pc := 35) O d_B_isSeen_35 0 rfl ?_
          refine r_iload_n (pc := 36) O d_B_isSeen_36 1 rfl ?_
          refine r_bipush (pc := 37) O d_B_isSeen_37 bc_7 ?_
          refine r_isub (pc := 39) O d_B_isSeen_39 ?_
          refine r_callSip (pc := 40) O [.long p0, .int (qv0 - 7)] (R_B_placeOf n p0 (qv0 - 7) h) cw_B_isSeen_40 wm_622 rfl (Nat.le_of_ble_eq_true rfl) d_B_isSeen_40 rfl (fun v40 => ?_)
          refine r_istore_n (lv' := [(3, .int v40), (0, .long p0), (4, .int qv1)]) (pc := 43) O d_B_isSeen_43 rfl (by decide) rfl ?_
          refine r_iinc (lv' := [(4, .int (qv1 + 1)), (3, .int v40), (0, .long p0)]) (pc := 44) O d_B_isSeen_44 2 rfl (congrArg (HAdd.hAdd _) ic_1) (by decide) rfl ?_
          refine r_goto (pc := 47) O d_B_isSeen_47 (tgt := 9) (by decide) ?_
          exact r_lv [2, 1, 0] rfl (hrec9 (v40, (qv1 + 1)))
        · refine r_iconst (pc := 33) O d_B_isSeen_33 ic_0 ?_
          exact r_zret (pc := 34) O rfl d_B_isSeen_34 nb_0
  refine r_lload_n (pc := 0) O d_B_isSeen_0 0 rfl ?_
  refine r_iload_n (pc := 1) O d_B_isSeen_1 1 rfl ?_
  refine r_callSip (pc := 2) O [.long p0, .int p2] (R_B_placeOf n p0 p2 h) cw_B_isSeen_2 wm_622 rfl (Nat.le_of_ble_eq_true rfl) d_B_isSeen_2 rfl (fun v2 => ?_)
  refine r_istore_n (lv' := [(3, .int v2), (0, .long p0), (2, .int p2)]) (pc := 5) O d_B_isSeen_5 rfl (by decide) rfl ?_
  refine r_iconst (pc := 6) O d_B_isSeen_6 ic_0 ?_
  refine r_istore (lv' := [(4, .int 0), (3, .int v2), (0, .long p0), (2, .int p2)]) (pc := 7) O d_B_isSeen_7 (by decide) rfl ?_
  exact r_lv [2, 1, 0] rfl (hL9 (v2, 0))
def J_E_isSeenOrNone (n : Nat) (p1 : Int32) (h : sHp) : Option Int32 :=
  if p1 = (-1) then (some 1) else ((J_B_isSeen n (h.2 1 4) p1 h).bind fun v10 =>
  if v10 = 0 then (some 0) else (some 1))
set_option maxRecDepth 20000 in
set_option maxHeartbeats 4000000 in
theorem R_E_isSeenOrNone (n : Nat) (p1 : Int32) (h : sHp) : sM Zc (sPi h) y_E_isSeenOrNone prog_6_method_4_code 2 (some .boolean) rm_E_isSeenOrNone [.ref 1, .int p1] h (J_E_isSeenOrNone n p1 h) := by
  refine sM_of (own := "StoryStates$Engine") rfl (by decide) (Nat.le_of_ble_eq_true rfl) (fun M V O => ?_)
  unfold J_E_isSeenOrNone
  refine r_lv (lv' := [(0, .ref 1), (1, .int p1)]) [0, 1] rfl ?_
  refine r_iload_n (pc := 0) O d_E_isSeenOrNone_0 1 rfl ?_
  refine r_iconst (pc := 1) O d_E_isSeenOrNone_1 ic_m1 ?_
  refine r_icmp_eq (tgt := 16) (pc := 2) O d_E_isSeenOrNone_2 (by decide) (fun q2 => ?_) (fun q2 => ?_)
  · refine r_iconst (pc := 16) O d_E_isSeenOrNone_16 ic_1 ?_
    refine r_goto (pc := 17) O d_E_isSeenOrNone_17 (tgt := 21) (by decide) ?_
    exact r_zret (pc := 21) O rfl d_E_isSeenOrNone_21 nb_1
  · refine r_aload_n (pc := 5) O d_E_isSeenOrNone_5 0 rfl ?_
    refine r_getL (x := (h.2 1 4)) (pc := 6) O gf_c_E_22_1 d_E_isSeenOrNone_6 rfl ?_
    refine r_iload_n (pc := 9) O d_E_isSeenOrNone_9 1 rfl ?_
    refine r_callSip (pc := 10) O [.long (h.2 1 4), .int p1] (R_B_isSeen n (h.2 1 4) p1 h) cw_E_isSeenOrNone_10 wm_619 rfl (Nat.le_of_ble_eq_true rfl) d_E_isSeenOrNone_10 rfl (fun v10 => ?_)
    refine r_if_eq (tgt := 20) (pc := 13) O d_E_isSeenOrNone_13 (by decide) (fun q13 => ?_) (fun q13 => ?_)
    · refine r_iconst (pc := 20) O d_E_isSeenOrNone_20 ic_0 ?_
      exact r_zret (pc := 21) O rfl d_E_isSeenOrNone_21 nb_0
    · refine r_iconst (pc := 16) O d_E_isSeenOrNone_16 ic_1 ?_
      refine r_goto (pc := 17) O d_E_isSeenOrNone_17 (tgt := 21) (by decide) ?_
      exact r_zret (pc := 21) O rfl d_E_isSeenOrNone_21 nb_1
def K_R_answers_53 (n : Nat) (p1 : Int32) (p2 : Int32) (p3 : Int32) (p4 : Int32) (h : sHp) : Option Int32 :=
  sGd (sIn p1 12) (if (h.1 25 (ix p1)) = 0 then (some 1) else (some 0))
def K_R_answers_31 (n : Nat) (p1 : Int32) (p2 : Int32) (p3 : Int32) (p4 : Int32) (h : sHp) : Option Int32 :=
  sGd (sIn p1 12) (if (h.1 23 (ix p1)) = (-2) then (K_R_answers_53 n p1 p2 p3 p4 h) else (sGd (sIn p1 12) (if (h.1 23 (ix p1)) = p4 then (K_R_answers_53 n p1 p2 p3 p4 h) else (some 0))))
def J_R_answers (n : Nat) (p1 : Int32) (p2 : Int32) (p3 : Int32) (p4 : Int32) (h : sHp) : Option Int32 :=
  sGd (sIn p1 12) (if (h.1 21 (ix p1)) = p2 then (sGd (sIn p1 12) (if (h.1 22 (ix p1)) = (-2) then (K_R_answers_31 n p1 p2 p3 p4 h) else (sGd (sIn p1 12) (if (h.1 22 (ix p1)) = p3 then (K_R_answers_31 n p1 p2 p3 p4 h) else (some 0))))) else (some 0))
set_option maxRecDepth 20000 in
set_option maxHeartbeats 4000000 in
theorem R_R_answers (n : Nat) (p1 : Int32) (p2 : Int32) (p3 : Int32) (p4 : Int32) (h : sHp) : sM Zc (sPi h) y_R_answers prog_7_method_3_code 5 (some .boolean) rm_R_answers [.ref 3, .int p1, .int p2, .int p3, .int p4] h (J_R_answers n p1 p2 p3 p4 h) := by
  refine sM_of (own := "StoryStates$Rules") rfl (by decide) (Nat.le_of_ble_eq_true rfl) (fun M V O => ?_)
  unfold J_R_answers
  refine r_lv (lv' := [(0, .ref 3), (1, .int p1), (2, .int p2), (3, .int p3), (4, .int p4)]) [0, 1, 2, 3, 4] rfl ?_
  have hK53 : sS Zc M V (sEb (sPi h)) 53 [(0, .ref 3), (1, .int p1)] [] h (K_R_answers_53 n p1 p2 p3 p4 h ) := by
    skip
    unfold K_R_answers_53
    refine r_aload_n (pc := 53) O d_R_answers_53 0 rfl ?_
    refine r_getR (pc := 54) O gf_c_R_24_3 d_R_answers_54 ?_
    refine r_iload_n (pc := 57) O d_R_answers_57 1 rfl ?_
    refine r_zald (x := (h.1 25 (ix p1))) (pc := 58) O rfl d_R_answers_58 rfl ?_
    refine r_if_ne (tgt := 66) (pc := 59) O d_R_answers_59 (by decide) (fun q59 => ?_) (fun q59 => ?_)
    · refine r_iconst (pc := 66) O d_R_answers_66 ic_0 ?_
      exact r_zret (pc := 67) O rfl d_R_answers_67 nb_0
    · refine r_iconst (pc := 62) O d_R_answers_62 ic_1 ?_
      refine r_goto (pc := 63) O d_R_answers_63 (tgt := 67) (by decide) ?_
      exact r_zret (pc := 67) O rfl d_R_answers_67 nb_1
  have hK31 : sS Zc M V (sEb (sPi h)) 31 [(0, .ref 3), (1, .int p1), (4, .int p4)] [] h (K_R_answers_31 n p1 p2 p3 p4 h ) := by
    skip
    unfold K_R_answers_31
    refine r_aload_n (pc := 31) O d_R_answers_31 0 rfl ?_
    refine r_getR (pc := 32) O gf_c_R_18_3 d_R_answers_32 ?_
    refine r_iload_n (pc := 35) O d_R_answers_35 1 rfl ?_
    refine r_iald (x := (h.1 23 (ix p1))) (pc := 36) O rfl d_R_answers_36 rfl ?_
    refine r_bipush (pc := 37) O d_R_answers_37 bc_m2 ?_
    refine r_icmp_eq (tgt := 53) (pc := 39) O d_R_answers_39 (by decide) (fun q39 => ?_) (fun q39 => ?_)
    · exact r_lv [0, 1] rfl (hK53 )
    · refine r_aload_n (pc := 42) O d_R_answers_42 0 rfl ?_
      refine r_getR (pc := 43) O gf_c_R_18_3 d_R_answers_43 ?_
      refine r_iload_n (pc := 46) O d_R_answers_46 1 rfl ?_
      refine r_iald (x := (h.1 23 (ix p1))) (pc := 47) O rfl d_R_answers_47 rfl ?_
      refine r_iload (pc := 48) O d_R_answers_48 2 rfl ?_
      refine r_icmp_ne (tgt := 66) (pc := 50) O d_R_answers_50 (by decide) (fun q50 => ?_) (fun q50 => ?_)
      · refine r_iconst (pc := 66) O d_R_answers_66 ic_0 ?_
        exact r_zret (pc := 67) O rfl d_R_answers_67 nb_0
      · exact r_lv [0, 1] rfl (hK53 )
  refine r_aload_n (pc := 0) O d_R_answers_0 0 rfl ?_
  refine r_getR (pc := 1) O gf_c_R_9_3 d_R_answers_1 ?_
  refine r_iload_n (pc := 4) O d_R_answers_4 1 rfl ?_
  refine r_iald (x := (h.1 21 (ix p1))) (pc := 5) O rfl d_R_answers_5 rfl ?_
  refine r_iload_n (pc := 6) O d_R_answers_6 2 rfl ?_
  refine r_icmp_ne (tgt := 66) (pc := 7) O d_R_answers_7 (by decide) (fun q7 => ?_) (fun q7 => ?_)
  · refine r_iconst (pc := 66) O d_R_answers_66 ic_0 ?_
    exact r_zret (pc := 67) O rfl d_R_answers_67 nb_0
  · refine r_aload_n (pc := 10) O d_R_answers_10 0 rfl ?_
    refine r_getR (pc := 11) O gf_c_R_15_3 d_R_answers_11 ?_
    refine r_iload_n (pc := 14) O d_R_answers_14 1 rfl ?_
    refine r_iald (x := (h.1 22 (ix p1))) (pc := 15) O rfl d_R_answers_15 rfl ?_
    refine r_bipush (pc := 16) O d_R_answers_16 bc_m2 ?_
    refine r_icmp_eq (tgt := 31) (pc := 18) O d_R_answers_18 (by decide) (fun q18 => ?_) (fun q18 => ?_)
    · exact r_lv [0, 1, 4] rfl (hK31 )
    · refine r_aload_n (pc := 21) O d_R_answers_21 0 rfl ?_
      refine r_getR (pc := 22) O gf_c_R_15_3 d_R_answers_22 ?_
      refine r_iload_n (pc := 25) O d_R_answers_25 1 rfl ?_
      refine r_iald (x := (h.1 22 (ix p1))) (pc := 26) O rfl d_R_answers_26 rfl ?_
      refine r_iload_n (pc := 27) O d_R_answers_27 3 rfl ?_
      refine r_icmp_ne (tgt := 66) (pc := 28) O d_R_answers_28 (by decide) (fun q28 => ?_) (fun q28 => ?_)
      · refine r_iconst (pc := 66) O d_R_answers_66 ic_0 ?_
        exact r_zret (pc := 67) O rfl d_R_answers_67 nb_0
      · exact r_lv [0, 1, 4] rfl (hK31 )
def J_C_startOf (n : Nat) (p1 : Int32) (h : sHp) : Option Int32 :=
  some (p1 * 3)
set_option maxRecDepth 20000 in
set_option maxHeartbeats 4000000 in
theorem R_C_startOf (n : Nat) (p1 : Int32) (h : sHp) : sM Zc (sPi h) y_C_startOf prog_4_method_3_code 2 (some .int) rm_C_startOf [.ref 4, .int p1] h (J_C_startOf n p1 h) := by
  refine sM_of (own := "StoryStates$Clauses") rfl (by decide) (Nat.le_of_ble_eq_true rfl) (fun M V O => ?_)
  unfold J_C_startOf
  refine r_lv (lv' := [(1, .int p1)]) [1] rfl ?_
  refine r_iload_n (pc := 0) O d_C_startOf_0 0 rfl ?_
  refine r_iconst (pc := 1) O d_C_startOf_1 ic_3 ?_
  refine r_imul (pc := 2) O d_C_startOf_2 ?_
  exact r_iret (pc := 3) O rfl d_C_startOf_3
def J_B_amountOf (n : Nat) (p0 : Int64) (p2 : Int32) (h : sHp) : Option Int32 :=
  some ((Int64.toInt32 (jLushr p0 (33 + (3 * p2)))) &&& 7)
set_option maxRecDepth 20000 in
set_option maxHeartbeats 4000000 in
theorem R_B_amountOf (n : Nat) (p0 : Int64) (p2 : Int32) (h : sHp) : sM Zc (sPi h) y_B_amountOf prog_3_method_8_code 3 (some .int) rm_B_amountOf [.long p0, .int p2] h (J_B_amountOf n p0 p2 h) := by
  refine sM_of (own := "StoryStates$Bits") rfl (by decide) (Nat.le_of_ble_eq_true rfl) (fun M V O => ?_)
  unfold J_B_amountOf
  refine r_lv (lv' := [(0, .long p0), (2, .int p2)]) [0, 1] rfl ?_
  refine r_lload_n (pc := 0) O d_B_amountOf_0 0 rfl ?_
  refine r_bipush (pc := 1) O d_B_amountOf_1 bc_33 ?_
  refine r_iconst (pc := 3) O d_B_amountOf_3 ic_3 ?_
  refine r_iload_n (pc := 4) O d_B_amountOf_4 1 rfl ?_
  refine r_imul (pc := 5) O d_B_amountOf_5 ?_
  refine r_iadd (pc := 6) O d_B_amountOf_6 ?_
  refine r_lushr (pc := 7) O d_B_amountOf_7 ?_
  refine r_l2i (pc := 8) O d_B_amountOf_8 ?_
  refine r_bipush (pc := 9) O d_B_amountOf_9 bc_7 ?_
  refine r_iand (pc := 11) O d_B_amountOf_11 ?_
  exact r_iret (pc := 12) O rfl d_B_amountOf_12
def J_E_holds (n : Nat) (p1 : Int32) (p2 : Int32) (p3 : Int32) (h : sHp) : Option Int32 :=
  if p1 = 0 then ((J_B_roomOf n (h.2 1 4) h).bind fun v36 =>
  if v36 = p2 then (some 1) else (some 0)) else (if p1 = 1 then ((J_B_placeOf n (h.2 1 4) p2 h).bind fun v54 =>
  if v54 = p3 then (some 1) else (some 0)) else (if p1 = 2 then ((J_B_isOpen n (h.2 1 4) p2 h).bind fun v72 =>
  if p3 = 1 then (if v72 = 1 then (some 1) else (some 0)) else (if v72 = 0 then (some 1) else (some 0))) else (if p1 = 3 then ((J_B_amountOf n (h.2 1 4) p2 h).bind fun v99 =>
  if v99 < p3 then (some 0) else (some 1)) else ((J_B_amountOf n (h.2 1 4) p2 h).bind fun v117 =>
  if p3 < v117 then (some 0) else (some 1)))))
set_option maxRecDepth 20000 in
set_option maxHeartbeats 4000000 in
theorem R_E_holds (n : Nat) (p1 : Int32) (p2 : Int32) (p3 : Int32) (h : sHp) : sM Zc (sPi h) y_E_holds prog_6_method_6_code 4 (some .boolean) rm_E_holds [.ref 1, .int p1, .int p2, .int p3] h (J_E_holds n p1 p2 p3 h) := by
  refine sM_of (own := "StoryStates$Engine") rfl (by decide) (Nat.le_of_ble_eq_true rfl) (fun M V O => ?_)
  unfold J_E_holds
  refine r_lv (lv' := [(0, .ref 1), (1, .int p1), (2, .int p2), (3, .int p3)]) [0, 1, 2, 3] rfl ?_
  refine r_iload_n (pc := 0) O d_E_holds_0 1 rfl ?_
  refine r_ite (fun q1_0 => ?_) (fun q1_0 => ?_)
  · refine r_tin (tgt := 32) (pc := 1) O d_E_holds_1 (by rw [q1_0] <;> decide) (by rw [q1_0] <;> decide) (by rw [q1_0] <;> rfl) (by decide) ?_
    refine r_aload_n (pc := 32) O d_E_holds_32 0 rfl ?_
    refine r_getL (x := (h.2 1 4)) (pc := 33) O gf_c_E_22_1 d_E_holds_33 rfl ?_
    refine r_callSip (pc := 36) O [.long (h.2 1 4)] (R_B_roomOf n (h.2 1 4) h) cw_E_holds_36 wm_628 rfl (Nat.le_of_ble_eq_true rfl) d_E_holds_36 rfl (fun v36 => ?_)
    refine r_iload_n (pc := 39) O d_E_holds_39 2 rfl ?_
    refine r_icmp_ne (tgt := 47) (pc := 40) O d_E_holds_40 (by decide) (fun q40 => ?_) (fun q40 => ?_)
    · refine r_iconst (pc := 47) O d_E_holds_47 ic_0 ?_
      exact r_zret (pc := 48) O rfl d_E_holds_48 nb_0
    · refine r_iconst (pc := 43) O d_E_holds_43 ic_1 ?_
      refine r_goto (pc := 44) O d_E_holds_44 (tgt := 48) (by decide) ?_
      exact r_zret (pc := 48) O rfl d_E_holds_48 nb_1
  · refine r_ite (fun q1_1 => ?_) (fun q1_1 => ?_)
    · refine r_tin (tgt := 49) (pc := 1) O d_E_holds_1 (by rw [q1_1] <;> decide) (by rw [q1_1] <;> decide) (by rw [q1_1] <;> rfl) (by decide) ?_
      refine r_aload_n (pc := 49) O d_E_holds_49 0 rfl ?_
      refine r_getL (x := (h.2 1 4)) (pc := 50) O gf_c_E_22_1 d_E_holds_50 rfl ?_
      refine r_iload_n (pc := 53) O d_E_holds_53 2 rfl ?_
      refine r_callSip (pc := 54) O [.long (h.2 1 4), .int p2] (R_B_placeOf n (h.2 1 4) p2 h) cw_E_holds_54 wm_622 rfl (Nat.le_of_ble_eq_true rfl) d_E_holds_54 rfl (fun v54 => ?_)
      refine r_iload_n (pc := 57) O d_E_holds_57 3 rfl ?_
      refine r_icmp_ne (tgt := 65) (pc := 58) O d_E_holds_58 (by decide) (fun q58 => ?_) (fun q58 => ?_)
      · refine r_iconst (pc := 65) O d_E_holds_65 ic_0 ?_
        exact r_zret (pc := 66) O rfl d_E_holds_66 nb_0
      · refine r_iconst (pc := 61) O d_E_holds_61 ic_1 ?_
        refine r_goto (pc := 62) O d_E_holds_62 (tgt := 66) (by decide) ?_
        exact r_zret (pc := 66) O rfl d_E_holds_66 nb_1
    · refine r_ite (fun q1_2 => ?_) (fun q1_2 => ?_)
      · refine r_tin (tgt := 67) (pc := 1) O d_E_holds_1 (by rw [q1_2] <;> decide) (by rw [q1_2] <;> decide) (by rw [q1_2] <;> rfl) (by decide) ?_
        refine r_aload_n (pc := 67) O d_E_holds_67 0 rfl ?_
        refine r_getL (x := (h.2 1 4)) (pc := 68) O gf_c_E_22_1 d_E_holds_68 rfl ?_
        refine r_iload_n (pc := 71) O d_E_holds_71 2 rfl ?_
        refine r_callSip (pc := 72) O [.long (h.2 1 4), .int p2] (R_B_isOpen n (h.2 1 4) p2 h) cw_E_holds_72 wm_625 rfl (Nat.le_of_ble_eq_true rfl) d_E_holds_72 rfl (fun v72 => ?_)
        refine r_iload_n (pc := 75) O d_E_holds_75 3 rfl ?_
        refine r_iconst (pc := 76) O d_E_holds_76 ic_1 ?_
        refine r_icmp_ne (tgt := 84) (pc := 77) O d_E_holds_77 (by decide) (fun q77 => ?_) (fun q77 => ?_)
        · refine r_iconst (pc := 84) O d_E_holds_84 ic_0 ?_
          refine r_icmp_ne (tgt := 92) (pc := 85) O d_E_holds_85 (by decide) (fun q85 => ?_) (fun q85 => ?_)
          · refine r_iconst (pc := 92) O d_E_holds_92 ic_0 ?_
            exact r_zret (pc := 93) O rfl d_E_holds_93 nb_0
          · refine r_iconst (pc := 88) O d_E_holds_88 ic_1 ?_
            refine r_goto (pc := 89) O d_E_holds_89 (tgt := 93) (by decide) ?_
            exact r_zret (pc := 93) O rfl d_E_holds_93 nb_1
        · refine r_iconst (pc := 80) O d_E_holds_80 ic_1 ?_
          refine r_goto (pc := 81) O d_E_holds_81 (tgt := 85) (by decide) ?_
          refine r_icmp_ne (tgt := 92) (pc := 85) O d_E_holds_85 (by decide) (fun q85 => ?_) (fun q85 => ?_)
          · refine r_iconst (pc := 92) O d_E_holds_92 ic_0 ?_
            exact r_zret (pc := 93) O rfl d_E_holds_93 nb_0
          · refine r_iconst (pc := 88) O d_E_holds_88 ic_1 ?_
            refine r_goto (pc := 89) O d_E_holds_89 (tgt := 93) (by decide) ?_
            exact r_zret (pc := 93) O rfl d_E_holds_93 nb_1
      · refine r_ite (fun q1_3 => ?_) (fun q1_3 => ?_)
        · refine r_tin (tgt := 94) (pc := 1) O d_E_holds_1 (by rw [q1_3] <;> decide) (by rw [q1_3] <;> decide) (by rw [q1_3] <;> rfl) (by decide) ?_
          refine r_aload_n (pc := 94) O d_E_holds_94 0 rfl ?_
          refine r_getL (x := (h.2 1 4)) (pc := 95) O gf_c_E_22_1 d_E_holds_95 rfl ?_
          refine r_iload_n (pc := 98) O d_E_holds_98 2 rfl ?_
          refine r_callSip (pc := 99) O [.long (h.2 1 4), .int p2] (R_B_amountOf n (h.2 1 4) p2 h) cw_E_holds_99 wm_651 rfl (Nat.le_of_ble_eq_true rfl) d_E_holds_99 rfl (fun v99 => ?_)
          refine r_iload_n (pc := 102) O d_E_holds_102 3 rfl ?_
          refine r_icmp_lt (tgt := 110) (pc := 103) O d_E_holds_103 (by decide) (fun q103 => ?_) (fun q103 => ?_)
          · refine r_iconst (pc := 110) O d_E_holds_110 ic_0 ?_
            exact r_zret (pc := 111) O rfl d_E_holds_111 nb_0
          · refine r_iconst (pc := 106) O d_E_holds_106 ic_1 ?_
            refine r_goto (pc := 107) O d_E_holds_107 (tgt := 111) (by decide) ?_
            exact r_zret (pc := 111) O rfl d_E_holds_111 nb_1
        · refine r_tout (tgt := 112) (pc := 1) O d_E_holds_1 (by have z0 := lv_neT (a := 0) q1_0 (by decide); have z1 := lv_neT (a := 1) q1_1 (by decide); have z2 := lv_neT (a := 2) q1_2 (by decide); have z3 := lv_neT (a := 3) q1_3 (by decide); omega) (by decide) ?_
          refine r_aload_n (pc := 112) O d_E_holds_112 0 rfl ?_
          refine r_getL (x := (h.2 1 4)) (pc := 113) O gf_c_E_22_1 d_E_holds_113 rfl ?_
          refine r_iload_n (pc := 116) O d_E_holds_116 2 rfl ?_
          refine r_callSip (pc := 117) O [.long (h.2 1 4), .int p2] (R_B_amountOf n (h.2 1 4) p2 h) cw_E_holds_117 wm_651 rfl (Nat.le_of_ble_eq_true rfl) d_E_holds_117 rfl (fun v117 => ?_)
          refine r_iload_n (pc := 120) O d_E_holds_120 3 rfl ?_
          refine r_icmp_gt (tgt := 128) (pc := 121) O d_E_holds_121 (by decide) (fun q121 => ?_) (fun q121 => ?_)
          · refine r_iconst (pc := 128) O d_E_holds_128 ic_0 ?_
            exact r_zret (pc := 129) O rfl d_E_holds_129 nb_0
          · refine r_iconst (pc := 124) O d_E_holds_124 ic_1 ?_
            refine r_goto (pc := 125) O d_E_holds_125 (tgt := 129) (by decide) ?_
            exact r_zret (pc := 129) O rfl d_E_holds_129 nb_1
def F_E_conditionsHold_24 (n : Nat) (p1 : Int32) (h : sHp) (x3 : Int32) (rec24 : Int32 → Option Int32) (q : Int32) : Option Int32 :=
  if x3 ≤ q then (some 1) else (sGd (sIn q 36) (sGd (sIn q 36) (sGd (sIn q 36) ((J_E_holds n (h.1 27 (ix q)) (h.1 28 (ix q)) (h.1 29 (ix q)) h).bind fun v52 =>
  if v52 = 0 then (some 0) else (rec24 (q + 1))))))
def J_E_conditionsHold (n : Nat) (p1 : Int32) (h : sHp) : Option Int32 :=
  (J_C_endOf n p1 h).bind fun v13 =>
  (J_C_startOf n p1 h).bind fun v19 =>
  sFx (F_E_conditionsHold_24 n p1 h v13) n v19
set_option maxRecDepth 20000 in
set_option maxHeartbeats 4000000 in
theorem R_E_conditionsHold (n : Nat) (p1 : Int32) (h : sHp) : sM Zc (sPi h) y_E_conditionsHold prog_6_method_5_code 5 (some .boolean) rm_E_conditionsHold [.ref 1, .int p1] h (J_E_conditionsHold n p1 h) := by
  refine sM_of (own := "StoryStates$Engine") rfl (by decide) (Nat.le_of_ble_eq_true rfl) (fun M V O => ?_)
  unfold J_E_conditionsHold
  refine r_lv (lv' := [(0, .ref 1), (1, .int p1)]) [0, 1] rfl ?_
  have hL24 : ∀ (x3 : Int32) (q : Int32), sS Zc M V (sEb (sPi h)) 24 [(0, .ref 1), (2, .ref 4), (3, .int x3), (4, .int q)] [] h (sFx (F_E_conditionsHold_24 n p1 h x3) n q) := by
    intro x3
    refine r_fx (fun q => [(0, .ref 1), (2, .ref 4), (3, .int x3), (4, .int q)]) (fun q => h) (F_E_conditionsHold_24 n p1 h x3) (fun rec24 hrec24 q => ?_) n
    skip
    show sS Zc M V (sEb (sPi h)) 24 [(0, .ref 1), (2, .ref 4), (3, .int x3), (4, .int q)] [] h _
    unfold F_E_conditionsHold_24
    try dsimp only
    refine r_iload (pc := 24) O d_E_conditionsHold_24 3 rfl ?_
    refine r_iload_n (pc := 26) O d_E_conditionsHold_26 2 rfl ?_
    refine r_icmp_ge (tgt := 66) (pc := 27) O d_E_conditionsHold_27 (by decide) (fun q27 => ?_) (fun q27 => ?_)
    · refine r_iconst (pc := 66) O d_E_conditionsHold_66 ic_1 ?_
      exact r_zret (pc := 67) O rfl d_E_conditionsHold_67 nb_1
    · refine r_aload_n (pc := 30) O d_E_conditionsHold_30 0 rfl ?_
      refine r_aload_n (pc := 31) O d_E_conditionsHold_31 1 rfl ?_
      refine r_getR (pc := 32) O gf_c_E_103_4 d_E_conditionsHold_32 ?_
      refine r_iload (pc := 35) O d_E_conditionsHold_35 3 rfl ?_
      refine r_iald (x := (h.1 27 (ix q))) (pc := 37) O rfl d_E_conditionsHold_37 rfl ?_
      refine r_aload_n (pc := 38) O d_E_conditionsHold_38 1 rfl ?_
      refine r_getR (pc := 39) O gf_c_E_106_4 d_E_conditionsHold_39 ?_
      refine r_iload (pc := 42) O d_E_conditionsHold_42 3 rfl ?_
      refine r_iald (x := (h.1 28 (ix q))) (pc := 44) O rfl d_E_conditionsHold_44 rfl ?_
      refine r_aload_n (pc := 45) O d_E_conditionsHold_45 1 rfl ?_
      refine r_getR (pc := 46) O gf_c_E_109_4 d_E_conditionsHold_46 ?_
      refine r_iload (pc := 49) O d_E_conditionsHold_49 3 rfl ?_
      refine r_iald (x := (h.1 29 (ix q))) (pc := 51) O rfl d_E_conditionsHold_51 rfl ?_
      refine r_callVip (pc := 52) O [.int (h.1 27 (ix q)), .int (h.1 28 (ix q)), .int (h.1 29 (ix q))] rfl rfl (R_E_holds n (h.1 27 (ix q)) (h.1 28 (ix q)) (h.1 29 (ix q)) h) cw_E_conditionsHold_52 wm_645 ws_E_holds rfl (Nat.le_of_ble_eq_true rfl) d_E_conditionsHold_52 rfl (fun v52 => ?_)
      refine r_if_ne (tgt := 60) (pc := 55) O d_E_conditionsHold_55 (by decide) (fun q55 => ?_) (fun q55 => ?_)
      · refine r_iinc (lv' := [(4, .int (q + 1)), (0, .ref 1), (2, .ref 4), (3, .int x3)]) (pc := 60) O d_E_conditionsHold_60 3 rfl (congrArg (HAdd.hAdd _) ic_1) (by decide) rfl ?_
        refine r_goto (pc := 63) O d_E_conditionsHold_63 (tgt := 24) (by decide) ?_
        exact r_lv [1, 2, 3, 0] rfl (hrec24 (q + 1))
      · refine r_iconst (pc := 58) O d_E_conditionsHold_58 ic_0 ?_
        exact r_zret (pc := 59) O rfl d_E_conditionsHold_59 nb_0
  refine r_aload_n (pc := 0) O d_E_conditionsHold_0 0 rfl ?_
  refine r_getR (pc := 1) O gf_c_E_12_1 d_E_conditionsHold_1 ?_
  refine r_getR (pc := 4) O gf_c_E_73_2 d_E_conditionsHold_4 ?_
  refine r_getR (pc := 7) O gf_c_E_90_3 d_E_conditionsHold_7 ?_
  refine r_astore_n (lv' := [(2, .ref 4), (0, .ref 1), (1, .int p1)]) (pc := 10) O d_E_conditionsHold_10 rfl (by decide) rfl ?_
  refine r_aload_n (pc := 11) O d_E_conditionsHold_11 0 rfl ?_
  refine r_iload_n (pc := 12) O d_E_conditionsHold_12 2 rfl ?_
  refine r_callVip (pc := 13) O [.int p1] rfl rfl (R_C_endOf n p1 h) cw_E_conditionsHold_13 wm_539 wm_540 rfl (Nat.le_of_ble_eq_true rfl) d_E_conditionsHold_13 rfl (fun v13 => ?_)
  refine r_istore_n (lv' := [(3, .int v13), (2, .ref 4), (0, .ref 1), (1, .int p1)]) (pc := 16) O d_E_conditionsHold_16 rfl (by decide) rfl ?_
  refine r_aload_n (pc := 17) O d_E_conditionsHold_17 1 rfl ?_
  refine r_iload_n (pc := 18) O d_E_conditionsHold_18 3 rfl ?_
  refine r_callVip (pc := 19) O [.int p1] rfl rfl (R_C_startOf n p1 h) cw_E_conditionsHold_19 wm_640 wm_641 rfl (Nat.le_of_ble_eq_true rfl) d_E_conditionsHold_19 rfl (fun v19 => ?_)
  refine r_istore (lv' := [(4, .int v19), (3, .int v13), (2, .ref 4), (0, .ref 1), (1, .int p1)]) (pc := 22) O d_E_conditionsHold_22 (by decide) rfl ?_
  exact r_lv [3, 2, 1, 0] rfl (hL24 v13 v19)
def F_E_fittingRule_25 (n : Nat) (p1 : Int32) (p2 : Int32) (p3 : Int32) (h : sHp) (rec25 : Int32 → Option Int32) (q : Int32) : Option Int32 :=
  if (h.1 3 7) ≤ q then (some (-1)) else ((J_R_answers n q p1 p2 p3 h).bind fun v52 =>
  if v52 = 0 then (rec25 (q + 1)) else ((J_E_conditionsHold n q h).bind fun v61 =>
  if v61 = 0 then (rec25 (q + 1)) else (some q)))
def K_E_fittingRule_22 (n : Nat) (p1 : Int32) (p2 : Int32) (p3 : Int32) (h : sHp) : Option Int32 :=
  sFx (F_E_fittingRule_25 n p1 p2 p3 h ) n 0
def J_E_fittingRule (n : Nat) (p1 : Int32) (p2 : Int32) (p3 : Int32) (h : sHp) : Option Int32 :=
  if p1 = 0 then (K_E_fittingRule_22 n p1 p2 p3 h) else ((J_E_isSeenOrNone n p2 h).bind fun v6 =>
  if v6 = 0 then (some (-1)) else ((J_E_isSeenOrNone n p3 h).bind fun v14 =>
  if v14 = 0 then (some (-1)) else (K_E_fittingRule_22 n p1 p2 p3 h)))
set_option maxRecDepth 20000 in
set_option maxHeartbeats 4000000 in
theorem R_E_fittingRule (n : Nat) (p1 : Int32) (p2 : Int32) (p3 : Int32) (h : sHp) : sM Zc (sPi h) y_E_fittingRule prog_6_method_3_code 5 (some .int) rm_E_fittingRule [.ref 1, .int p1, .int p2, .int p3] h (J_E_fittingRule n p1 p2 p3 h) := by
  refine sM_of (own := "StoryStates$Engine") rfl (by decide) (Nat.le_of_ble_eq_true rfl) (fun M V O => ?_)
  unfold J_E_fittingRule
  refine r_lv (lv' := [(0, .ref 1), (1, .int p1), (2, .int p2), (3, .int p3)]) [0, 1, 2, 3] rfl ?_
  have hL25 : ∀ (q : Int32), sS Zc M V (sEb (sPi h)) 25 [(0, .ref 1), (1, .int p1), (2, .int p2), (3, .int p3), (4, .int q)] [] h (sFx (F_E_fittingRule_25 n p1 p2 p3 h ) n q) := by
    skip
    refine r_fx (fun q => [(0, .ref 1), (1, .int p1), (2, .int p2), (3, .int p3), (4, .int q)]) (fun q => h) (F_E_fittingRule_25 n p1 p2 p3 h ) (fun rec25 hrec25 q => ?_) n
    skip
    show sS Zc M V (sEb (sPi h)) 25 [(0, .ref 1), (1, .int p1), (2, .int p2), (3, .int p3), (4, .int q)] [] h _
    unfold F_E_fittingRule_25
    try dsimp only
    refine r_iload (pc := 25) O d_E_fittingRule_25 4 rfl ?_
    refine r_aload_n (pc := 27) O d_E_fittingRule_27 0 rfl ?_
    refine r_getR (pc := 28) O gf_c_E_12_1 d_E_fittingRule_28 ?_
    refine r_getR (pc := 31) O gf_c_E_73_2 d_E_fittingRule_31 ?_
    refine r_getI (x := (h.1 3 7)) (pc := 34) O gf_c_E_77_3 d_E_fittingRule_34 rfl ?_
    refine r_icmp_ge (tgt := 76) (pc := 37) O d_E_fittingRule_37 (by decide) (fun q37 => ?_) (fun q37 => ?_)
    · refine r_iconst (pc := 76) O d_E_fittingRule_76 ic_m1 ?_
      exact r_iret (pc := 77) O rfl d_E_fittingRule_77
    · refine r_aload_n (pc := 40) O d_E_fittingRule_40 0 rfl ?_
      refine r_getR (pc := 41) O gf_c_E_12_1 d_E_fittingRule_41 ?_
      refine r_getR (pc := 44) O gf_c_E_73_2 d_E_fittingRule_44 ?_
      refine r_iload (pc := 47) O d_E_fittingRule_47 4 rfl ?_
      refine r_iload_n (pc := 49) O d_E_fittingRule_49 1 rfl ?_
      refine r_iload_n (pc := 50) O d_E_fittingRule_50 2 rfl ?_
      refine r_iload_n (pc := 51) O d_E_fittingRule_51 3 rfl ?_
      refine r_callVip (pc := 52) O [.int q, .int p1, .int p2, .int p3] rfl rfl (R_R_answers n q p1 p2 p3 h) cw_E_fittingRule_52 wm_631 wm_632 rfl (Nat.le_of_ble_eq_true rfl) d_E_fittingRule_52 rfl (fun v52 => ?_)
      refine r_if_eq (tgt := 70) (pc := 55) O d_E_fittingRule_55 (by decide) (fun q55 => ?_) (fun q55 => ?_)
      · refine r_iinc (lv' := [(4, .int (q + 1)), (0, .ref 1), (1, .int p1), (2, .int p2), (3, .int p3)]) (pc := 70) O d_E_fittingRule_70 4 rfl (congrArg (HAdd.hAdd _) ic_1) (by decide) rfl ?_
        refine r_goto (pc := 73) O d_E_fittingRule_73 (tgt := 25) (by decide) ?_
        exact r_lv [1, 2, 3, 4, 0] rfl (hrec25 (q + 1))
      · refine r_aload_n (pc := 58) O d_E_fittingRule_58 0 rfl ?_
        refine r_iload (pc := 59) O d_E_fittingRule_59 4 rfl ?_
        refine r_callVip (pc := 61) O [.int q] rfl rfl (R_E_conditionsHold n q h) cw_E_fittingRule_61 wm_636 ws_E_conditionsHold rfl (Nat.le_of_ble_eq_true rfl) d_E_fittingRule_61 rfl (fun v61 => ?_)
        refine r_if_eq (tgt := 70) (pc := 64) O d_E_fittingRule_64 (by decide) (fun q64 => ?_) (fun q64 => ?_)
        · refine r_iinc (lv' := [(4, .int (q + 1)), (0, .ref 1), (1, .int p1), (2, .int p2), (3, .int p3)]) (pc := 70) O d_E_fittingRule_70 4 rfl (congrArg (HAdd.hAdd _) ic_1) (by decide) rfl ?_
          refine r_goto (pc := 73) O d_E_fittingRule_73 (tgt := 25) (by decide) ?_
          exact r_lv [1, 2, 3, 4, 0] rfl (hrec25 (q + 1))
        · refine r_iload (pc := 67) O d_E_fittingRule_67 4 rfl ?_
          exact r_iret (pc := 69) O rfl d_E_fittingRule_69
  have hK22 : sS Zc M V (sEb (sPi h)) 22 [(0, .ref 1), (1, .int p1), (2, .int p2), (3, .int p3)] [] h (K_E_fittingRule_22 n p1 p2 p3 h ) := by
    skip
    unfold K_E_fittingRule_22
    refine r_iconst (pc := 22) O d_E_fittingRule_22 ic_0 ?_
    refine r_istore (lv' := [(4, .int 0), (0, .ref 1), (1, .int p1), (2, .int p2), (3, .int p3)]) (pc := 23) O d_E_fittingRule_23 (by decide) rfl ?_
    exact r_lv [1, 2, 3, 4, 0] rfl (hL25 0)
  refine r_iload_n (pc := 0) O d_E_fittingRule_0 1 rfl ?_
  refine r_if_eq (tgt := 22) (pc := 1) O d_E_fittingRule_1 (by decide) (fun q1 => ?_) (fun q1 => ?_)
  · exact (hK22 )
  · refine r_aload_n (pc := 4) O d_E_fittingRule_4 0 rfl ?_
    refine r_iload_n (pc := 5) O d_E_fittingRule_5 2 rfl ?_
    refine r_callVip (pc := 6) O [.int p2] rfl rfl (R_E_isSeenOrNone n p2 h) cw_E_fittingRule_6 wm_616 ws_E_isSeenOrNone rfl (Nat.le_of_ble_eq_true rfl) d_E_fittingRule_6 rfl (fun v6 => ?_)
    refine r_if_eq (tgt := 20) (pc := 9) O d_E_fittingRule_9 (by decide) (fun q9 => ?_) (fun q9 => ?_)
    · refine r_iconst (pc := 20) O d_E_fittingRule_20 ic_m1 ?_
      exact r_iret (pc := 21) O rfl d_E_fittingRule_21
    · refine r_aload_n (pc := 12) O d_E_fittingRule_12 0 rfl ?_
      refine r_iload_n (pc := 13) O d_E_fittingRule_13 3 rfl ?_
      refine r_callVip (pc := 14) O [.int p3] rfl rfl (R_E_isSeenOrNone n p3 h) cw_E_fittingRule_14 wm_616 ws_E_isSeenOrNone rfl (Nat.le_of_ble_eq_true rfl) d_E_fittingRule_14 rfl (fun v14 => ?_)
      refine r_if_ne (tgt := 22) (pc := 17) O d_E_fittingRule_17 (by decide) (fun q17 => ?_) (fun q17 => ?_)
      · exact (hK22 )
      · refine r_iconst (pc := 20) O d_E_fittingRule_20 ic_m1 ?_
        exact r_iret (pc := 21) O rfl d_E_fittingRule_21
def J_E_say (n : Nat) (p1 : Int32) (h : sHp) : Option sHp :=
  if 3 ≤ (h.1 1 2) then (some h) else (sGd (sIn (h.1 1 2) 3) (some (pI (pI h 9 (ix (h.1 1 2)) p1) 1 2 ((h.1 1 2) + 1))))
set_option maxRecDepth 20000 in
set_option maxHeartbeats 4000000 in
theorem R_E_say (n : Nat) (p1 : Int32) (h : sHp) : sM Zc sOv y_E_say prog_6_method_17_code 2 none rm_E_say [.ref 1, .int p1] h (J_E_say n p1 h) := by
  refine sM_of (own := "StoryStates$Engine") rfl (by decide) (Nat.le_of_ble_eq_true rfl) (fun M V O => ?_)
  unfold J_E_say
  refine r_lv (lv' := [(0, .ref 1), (1, .int p1)]) [0, 1] rfl ?_
  refine r_aload_n (pc := 0) O d_E_say_0 0 rfl ?_
  refine r_getI (x := (h.1 1 2)) (pc := 1) O gf_c_E_26_1 d_E_say_1 rfl ?_
  refine r_iconst (pc := 4) O d_E_say_4 ic_3 ?_
  refine r_icmp_ge (tgt := 28) (pc := 5) O d_E_say_5 (by decide) (fun q5 => ?_) (fun q5 => ?_)
  · exact r_vret (pc := 28) O rfl d_E_say_28
  · refine r_aload_n (pc := 8) O d_E_say_8 0 rfl ?_
    refine r_getR (pc := 9) O gf_c_E_18_1 d_E_say_9 ?_
    refine r_aload_n (pc := 12) O d_E_say_12 0 rfl ?_
    refine r_getI (x := (h.1 1 2)) (pc := 13) O gf_c_E_26_1 d_E_say_13 rfl ?_
    refine r_iload_n (pc := 16) O d_E_say_16 1 rfl ?_
    refine r_iast (pc := 17) O rfl d_E_say_17 ?_
    refine r_aload_n (pc := 18) O d_E_say_18 0 rfl ?_
    refine r_dup (pc := 19) O d_E_say_19 rfl ?_
    refine r_getI (x := (h.1 1 2)) (pc := 20) O gf_c_E_26_1 d_E_say_20 rfl ?_
    refine r_iconst (pc := 23) O d_E_say_23 ic_1 ?_
    refine r_iadd (pc := 24) O d_E_say_24 ?_
    refine r_putI (pc := 25) O pf_c_E_26_1 d_E_say_25 ?_
    exact r_vret (pc := 28) O rfl d_E_say_28
def J_C_startOf_1 (n : Nat) (p1 : Int32) (h : sHp) : Option Int32 :=
  some (p1 * 3)
set_option maxRecDepth 20000 in
set_option maxHeartbeats 4000000 in
theorem R_C_startOf_1 (n : Nat) (p1 : Int32) (h : sHp) : sM Zc (sPi h) y_C_startOf prog_4_method_3_code 2 (some .int) rm_C_startOf_1 [.ref 5, .int p1] h (J_C_startOf_1 n p1 h) := by
  refine sM_of (own := "StoryStates$Clauses") rfl (by decide) (Nat.le_of_ble_eq_true rfl) (fun M V O => ?_)
  unfold J_C_startOf_1
  refine r_lv (lv' := [(1, .int p1)]) [1] rfl ?_
  refine r_iload_n (pc := 0) O d_C_startOf_0 0 rfl ?_
  refine r_iconst (pc := 1) O d_C_startOf_1 ic_3 ?_
  refine r_imul (pc := 2) O d_C_startOf_2 ?_
  exact r_iret (pc := 3) O rfl d_C_startOf_3
def J_B_endingOf (n : Nat) (p0 : Int64) (h : sHp) : Option Int32 :=
  some (((Int64.toInt32 (jLushr p0 54)) &&& 7) - 1)
set_option maxRecDepth 20000 in
set_option maxHeartbeats 4000000 in
theorem R_B_endingOf (n : Nat) (p0 : Int64) (h : sHp) : sM Zc (sPi h) y_B_endingOf prog_3_method_15_code 2 (some .int) rm_B_endingOf [.long p0] h (J_B_endingOf n p0 h) := by
  refine sM_of (own := "StoryStates$Bits") rfl (by decide) (Nat.le_of_ble_eq_true rfl) (fun M V O => ?_)
  unfold J_B_endingOf
  refine r_lv (lv' := [(0, .long p0)]) [0] rfl ?_
  refine r_lload_n (pc := 0) O d_B_endingOf_0 0 rfl ?_
  refine r_bipush (pc := 1) O d_B_endingOf_1 bc_54 ?_
  refine r_lushr (pc := 3) O d_B_endingOf_3 ?_
  refine r_l2i (pc := 4) O d_B_endingOf_4 ?_
  refine r_bipush (pc := 5) O d_B_endingOf_5 bc_7 ?_
  refine r_iand (pc := 7) O d_B_endingOf_7 ?_
  refine r_iconst (pc := 8) O d_B_endingOf_8 ic_1 ?_
  refine r_isub (pc := 9) O d_B_endingOf_9 ?_
  exact r_iret (pc := 10) O rfl d_B_endingOf_10
def J_B_isOver (n : Nat) (p0 : Int64) (h : sHp) : Option Int32 :=
  (J_B_endingOf n p0 h).bind fun v1 =>
  if v1 = (-1) then (some 0) else (some 1)
set_option maxRecDepth 20000 in
set_option maxHeartbeats 4000000 in
theorem R_B_isOver (n : Nat) (p0 : Int64) (h : sHp) : sM Zc (sPi h) y_B_isOver prog_3_method_14_code 2 (some .boolean) rm_B_isOver [.long p0] h (J_B_isOver n p0 h) := by
  refine sM_of (own := "StoryStates$Bits") rfl (by decide) (Nat.le_of_ble_eq_true rfl) (fun M V O => ?_)
  unfold J_B_isOver
  refine r_lv (lv' := [(0, .long p0)]) [0] rfl ?_
  refine r_lload_n (pc := 0) O d_B_isOver_0 0 rfl ?_
  refine r_callSip (pc := 1) O [.long p0] (R_B_endingOf n p0 h) cw_B_isOver_1 wm_604 rfl (Nat.le_of_ble_eq_true rfl) d_B_isOver_1 rfl (fun v1 => ?_)
  refine r_iconst (pc := 4) O d_B_isOver_4 ic_m1 ?_
  refine r_icmp_eq (tgt := 12) (pc := 5) O d_B_isOver_5 (by decide) (fun q5 => ?_) (fun q5 => ?_)
  · refine r_iconst (pc := 12) O d_B_isOver_12 ic_0 ?_
    exact r_zret (pc := 13) O rfl d_B_isOver_13 nb_0
  · refine r_iconst (pc := 8) O d_B_isOver_8 ic_1 ?_
    refine r_goto (pc := 9) O d_B_isOver_9 (tgt := 13) (by decide) ?_
    exact r_zret (pc := 13) O rfl d_B_isOver_13 nb_1
def J_B_withEnding (n : Nat) (p0 : Int64) (p2 : Int32) (h : sHp) : Option Int64 :=
  (J_B_write n p0 54 7 (p2 + 1) h).bind fun v8 =>
  some v8
set_option maxRecDepth 20000 in
set_option maxHeartbeats 4000000 in
theorem R_B_withEnding (n : Nat) (p0 : Int64) (p2 : Int32) (h : sHp) : sM Zc (sPl h) y_B_withEnding prog_3_method_16_code 3 (some .long) rm_B_withEnding [.long p0, .int p2] h (J_B_withEnding n p0 p2 h) := by
  refine sM_of (own := "StoryStates$Bits") rfl (by decide) (Nat.le_of_ble_eq_true rfl) (fun M V O => ?_)
  unfold J_B_withEnding
  refine r_lv (lv' := [(0, .long p0), (2, .int p2)]) [0, 1] rfl ?_
  refine r_lload_n (pc := 0) O d_B_withEnding_0 0 rfl ?_
  refine r_bipush (pc := 1) O d_B_withEnding_1 bc_54 ?_
  refine r_bipush (pc := 3) O d_B_withEnding_3 bc_7 ?_
  refine r_iload_n (pc := 5) O d_B_withEnding_5 1 rfl ?_
  refine r_iconst (pc := 6) O d_B_withEnding_6 ic_1 ?_
  refine r_iadd (pc := 7) O d_B_withEnding_7 ?_
  refine r_callSlp (pc := 8) O [.long p0, .int 54, .int 7, .int (p2 + 1)] (R_B_write n p0 54 7 (p2 + 1) h) cw_B_withEnding_8 wm_291 rfl (Nat.le_of_ble_eq_true rfl) d_B_withEnding_8 rfl (fun v8 => ?_)
  exact r_lret (pc := 11) O rfl d_B_withEnding_11
def F_B_isPartOf_6 (n : Nat) (p0 : Int64) (p2 : Int32) (p3 : Int32) (h : sHp) (rec6 : Int32 × Int32 → Option Int32) (q : Int32 × Int32) : Option Int32 :=
  if 6 ≤ q.2 then (some 0) else (if q.1 < 0 then (some 0) else (if q.1 = p3 then (some 1) else ((J_B_placeOf n p0 q.1 h).bind fun v29 =>
  rec6 ((v29 - 7), (q.2 + 1)))))
def J_B_isPartOf (n : Nat) (p0 : Int64) (p2 : Int32) (p3 : Int32) (h : sHp) : Option Int32 :=
  sFx (F_B_isPartOf_6 n p0 p2 p3 h ) n (p2, 0)
set_option maxRecDepth 20000 in
set_option maxHeartbeats 4000000 in
theorem R_B_isPartOf (n : Nat) (p0 : Int64) (p2 : Int32) (p3 : Int32) (h : sHp) : sM Zc (sPi h) y_B_isPartOf prog_3_method_18_code 6 (some .boolean) rm_B_isPartOf [.long p0, .int p2, .int p3] h (J_B_isPartOf n p0 p2 p3 h) := by
  refine sM_of (own := "StoryStates$Bits") rfl (by decide) (Nat.le_of_ble_eq_true rfl) (fun M V O => ?_)
  unfold J_B_isPartOf
  refine r_lv (lv' := [(0, .long p0), (2, .int p2), (3, .int p3)]) [0, 1, 2] rfl ?_
  have hL6 : ∀ (q : Int32 × Int32), sS Zc M V (sEb (sPi h)) 6 [(0, .long p0), (3, .int p3), (4, .int q.1), (5, .int q.2)] [] h (sFx (F_B_isPartOf_6 n p0 p2 p3 h ) n q) := by
    skip
    refine r_fx (fun q => [(0, .long p0), (3, .int p3), (4, .int q.1), (5, .int q.2)]) (fun q => h) (F_B_isPartOf_6 n p0 p2 p3 h ) (fun rec6 hrec6 q => ?_) n
    obtain ⟨qv0, qv1⟩ := q
    show sS Zc M V (sEb (sPi h)) 6 [(0, .long p0), (3, .int p3), (4, .int qv0), (5, .int qv1)] [] h _
    unfold F_B_isPartOf_6
    try dsimp only
    refine r_iload (pc := 6) O d_B_isPartOf_6 3 rfl ?_
    refine r_bipush (pc := 8) O d_B_isPartOf_8 bc_6 ?_
    refine r_icmp_ge (tgt := 43) (pc := 10) O d_B_isPartOf_10 (by decide) (fun q10 => ?_) (fun q10 => ?_)
    · refine r_iconst (pc := 43) O d_B_isPartOf_43 ic_0 ?_
      exact r_zret (pc := 44) O rfl d_B_isPartOf_44 nb_0
    · refine r_iload (pc := 13) O d_B_isPartOf_13 2 rfl ?_
      refine r_if_lt (tgt := 43) (pc := 15) O d_B_isPartOf_15 (by decide) (fun q15 => ?_) (fun q15 => ?_)
      · refine r_iconst (pc := 43) O d_B_isPartOf_43 ic_0 ?_
        exact r_zret (pc := 44) O rfl d_B_isPartOf_44 nb_0
      · refine r_iload (pc := 18) O d_B_isPartOf_18 2 rfl ?_
        refine r_iload_n (pc := 20) O d_B_isPartOf_20 1 rfl ?_
        refine r_icmp_ne (tgt := 26) (pc := 21) O d_B_isPartOf_21 (by decide) (fun q21 => ?_) (fun q21 => ?_)
        · refine r_lload_n (pc := 26) O d_B_isPartOf_26 0 rfl ?_
          refine r_iload (pc := 27) O d_B_isPartOf_27 2 rfl ?_
          refine r_callSip (pc := 29) O [.long p0, .int qv0] (R_B_placeOf n p0 qv0 h) cw_B_isPartOf_29 wm_622 rfl (Nat.le_of_ble_eq_true rfl) d_B_isPartOf_29 rfl (fun v29 => ?_)
          refine r_bipush (pc := 32) O d_B_isPartOf_32 bc_7 ?_
          refine r_isub (pc := 34) O d_B_isPartOf_34 ?_
          refine r_istore (lv' := [(4, .int (v29 - 7)), (0, .long p0), (3, .int p3), (5, .int qv1)]) (pc := 35) O d_B_isPartOf_35 (by decide) rfl ?_
          refine r_iinc (lv' := [(5, .int (qv1 + 1)), (4, .int (v29 - 7)), (0, .long p0), (3, .int p3)]) (pc := 37) O d_B_isPartOf_37 3 rfl (congrArg (HAdd.hAdd _) ic_1) (by decide) rfl ?_
          refine r_goto (pc := 40) O d_B_isPartOf_40 (tgt := 6) (by decide) ?_
          exact r_lv [2, 3, 1, 0] rfl (hrec6 ((v29 - 7), (qv1 + 1)))
        · refine r_iconst (pc := 24) O d_B_isPartOf_24 ic_1 ?_
          exact r_zret (pc := 25) O rfl d_B_isPartOf_25 nb_1
  refine r_iload_n (pc := 0) O d_B_isPartOf_0 1 rfl ?_
  refine r_istore (lv' := [(4, .int p2), (0, .long p0), (2, .int p2), (3, .int p3)]) (pc := 1) O d_B_isPartOf_1 (by decide) rfl ?_
  refine r_iconst (pc := 3) O d_B_isPartOf_3 ic_0 ?_
  refine r_istore (lv' := [(5, .int 0), (4, .int p2), (0, .long p0), (2, .int p2), (3, .int p3)]) (pc := 4) O d_B_isPartOf_4 (by decide) rfl ?_
  exact r_lv [2, 4, 1, 0] rfl (hL6 (p2, 0))
def J_B_withRoom (n : Nat) (p0 : Int64) (p2 : Int32) (h : sHp) : Option Int64 :=
  (J_B_write n p0 0 7 p2 h).bind fun v5 =>
  some v5
set_option maxRecDepth 20000 in
set_option maxHeartbeats 4000000 in
theorem R_B_withRoom (n : Nat) (p0 : Int64) (p2 : Int32) (h : sHp) : sM Zc (sPl h) y_B_withRoom prog_3_method_3_code 3 (some .long) rm_B_withRoom [.long p0, .int p2] h (J_B_withRoom n p0 p2 h) := by
  refine sM_of (own := "StoryStates$Bits") rfl (by decide) (Nat.le_of_ble_eq_true rfl) (fun M V O => ?_)
  unfold J_B_withRoom
  refine r_lv (lv' := [(0, .long p0), (2, .int p2)]) [0, 1] rfl ?_
  refine r_lload_n (pc := 0) O d_B_withRoom_0 0 rfl ?_
  refine r_iconst (pc := 1) O d_B_withRoom_1 ic_0 ?_
  refine r_bipush (pc := 2) O d_B_withRoom_2 bc_7 ?_
  refine r_iload_n (pc := 4) O d_B_withRoom_4 1 rfl ?_
  refine r_callSlp (pc := 5) O [.long p0, .int 0, .int 7, .int p2] (R_B_write n p0 0 7 p2 h) cw_B_withRoom_5 wm_291 rfl (Nat.le_of_ble_eq_true rfl) d_B_withRoom_5 rfl (fun v5 => ?_)
  exact r_lret (pc := 8) O rfl d_B_withRoom_8
def K_E_doEffect_68 (n : Nat) (p1 : Int32) (p2 : Int32) (p3 : Int32) (h : sHp) : Option sHp :=
  (J_B_withPlace n (h.2 1 4) p2 p3 h).bind fun v75 =>
  some (pL h 1 4 v75)
def J_E_doEffect (n : Nat) (p1 : Int32) (p2 : Int32) (p3 : Int32) (h : sHp) : Option sHp :=
  if p1 = 0 then ((J_B_withRoom n (h.2 1 4) p2 h).bind fun v38 =>
  some (pL h 1 4 v38)) else (if p1 = 1 then (if p3 < 7 then (K_E_doEffect_68 n p1 p2 p3 h) else ((J_B_isPartOf n (h.2 1 4) (p3 - 7) p2 h).bind fun v62 =>
  if v62 = 0 then (K_E_doEffect_68 n p1 p2 p3 h) else (some h))) else (if p1 = 2 then ((J_B_withOpen n (h.2 1 4) p2 p3 h).bind fun v91 =>
  some (pL h 1 4 v91)) else (if p1 = 3 then ((J_B_amountOf n (h.2 1 4) p2 h).bind fun v105 =>
  sGd (sIn p2 3) ((J_B_withAmount n (h.2 1 4) p2 (jMmax 0 (jMmin (v105 + p3) (h.1 15 (ix p2)))) h).bind fun v136 =>
  some (pL h 1 4 v136))) else ((J_B_withEnding n (h.2 1 4) p2 h).bind fun v151 =>
  some (pL h 1 4 v151)))))
set_option maxRecDepth 20000 in
set_option maxHeartbeats 4000000 in
theorem R_E_doEffect (n : Nat) (p1 : Int32) (p2 : Int32) (p3 : Int32) (h : sHp) : sM Zc sOv y_E_doEffect prog_6_method_8_code 5 none rm_E_doEffect [.ref 1, .int p1, .int p2, .int p3] h (J_E_doEffect n p1 p2 p3 h) := by
  refine sM_of (own := "StoryStates$Engine") rfl (by decide) (Nat.le_of_ble_eq_true rfl) (fun M V O => ?_)
  unfold J_E_doEffect
  refine r_lv (lv' := [(0, .ref 1), (1, .int p1), (2, .int p2), (3, .int p3)]) [0, 1, 2, 3] rfl ?_
  have hK68 : ∀ (h : sHp), sS Zc M V (sEb sOv) 68 [(0, .ref 1), (2, .int p2), (3, .int p3)] [] h (K_E_doEffect_68 n p1 p2 p3 h) := by
    intro h
    unfold K_E_doEffect_68
    refine r_aload_n (pc := 68) O d_E_doEffect_68 0 rfl ?_
    refine r_aload_n (pc := 69) O d_E_doEffect_69 0 rfl ?_
    refine r_getL (x := (h.2 1 4)) (pc := 70) O gf_c_E_22_1 d_E_doEffect_70 rfl ?_
    refine r_iload_n (pc := 73) O d_E_doEffect_73 1 rfl ?_
    refine r_iload_n (pc := 74) O d_E_doEffect_74 2 rfl ?_
    refine r_callSlp (pc := 75) O [.long (h.2 1 4), .int p2, .int p3] (R_B_withPlace n (h.2 1 4) p2 p3 h) cw_E_doEffect_75 wm_288 rfl (Nat.le_of_ble_eq_true rfl) d_E_doEffect_75 rfl (fun v75 => ?_)
    refine r_putL (pc := 78) O pf_c_E_22_1 d_E_doEffect_78 ?_
    refine r_goto (pc := 81) O d_E_doEffect_81 (tgt := 157) (by decide) ?_
    exact r_vret (pc := 157) O rfl d_E_doEffect_157
  refine r_iload_n (pc := 0) O d_E_doEffect_0 1 rfl ?_
  refine r_ite (fun q1_0 => ?_) (fun q1_0 => ?_)
  · refine r_tin (tgt := 32) (pc := 1) O d_E_doEffect_1 (by rw [q1_0] <;> decide) (by rw [q1_0] <;> decide) (by rw [q1_0] <;> rfl) (by decide) ?_
    refine r_aload_n (pc := 32) O d_E_doEffect_32 0 rfl ?_
    refine r_aload_n (pc := 33) O d_E_doEffect_33 0 rfl ?_
    refine r_getL (x := (h.2 1 4)) (pc := 34) O gf_c_E_22_1 d_E_doEffect_34 rfl ?_
    refine r_iload_n (pc := 37) O d_E_doEffect_37 2 rfl ?_
    refine r_callSlp (pc := 38) O [.long (h.2 1 4), .int p2] (R_B_withRoom n (h.2 1 4) p2 h) cw_E_doEffect_38 wm_667 rfl (Nat.le_of_ble_eq_true rfl) d_E_doEffect_38 rfl (fun v38 => ?_)
    refine r_putL (pc := 41) O pf_c_E_22_1 d_E_doEffect_41 ?_
    refine r_goto (pc := 44) O d_E_doEffect_44 (tgt := 157) (by decide) ?_
    exact r_vret (pc := 157) O rfl d_E_doEffect_157
  · refine r_ite (fun q1_1 => ?_) (fun q1_1 => ?_)
    · refine r_tin (tgt := 47) (pc := 1) O d_E_doEffect_1 (by rw [q1_1] <;> decide) (by rw [q1_1] <;> decide) (by rw [q1_1] <;> rfl) (by decide) ?_
      refine r_iload_n (pc := 47) O d_E_doEffect_47 3 rfl ?_
      refine r_bipush (pc := 48) O d_E_doEffect_48 bc_7 ?_
      refine r_icmp_lt (tgt := 68) (pc := 50) O d_E_doEffect_50 (by decide) (fun q50 => ?_) (fun q50 => ?_)
      · exact r_lv [0, 2, 3] rfl (hK68 h)
      · refine r_aload_n (pc := 53) O d_E_doEffect_53 0 rfl ?_
        refine r_getL (x := (h.2 1 4)) (pc := 54) O gf_c_E_22_1 d_E_doEffect_54 rfl ?_
        refine r_iload_n (pc := 57) O d_E_doEffect_57 3 rfl ?_
        refine r_bipush (pc := 58) O d_E_doEffect_58 bc_7 ?_
        refine r_isub (pc := 60) O d_E_doEffect_60 ?_
        refine r_iload_n (pc := 61) O d_E_doEffect_61 2 rfl ?_
        refine r_callSip (pc := 62) O [.long (h.2 1 4), .int (p3 - 7), .int p2] (R_B_isPartOf n (h.2 1 4) (p3 - 7) p2 h) cw_E_doEffect_62 wm_670 rfl (Nat.le_of_ble_eq_true rfl) d_E_doEffect_62 rfl (fun v62 => ?_)
        refine r_if_ne (tgt := 157) (pc := 65) O d_E_doEffect_65 (by decide) (fun q65 => ?_) (fun q65 => ?_)
        · exact r_vret (pc := 157) O rfl d_E_doEffect_157
        · exact r_lv [0, 2, 3] rfl (hK68 h)
    · refine r_ite (fun q1_2 => ?_) (fun q1_2 => ?_)
      · refine r_tin (tgt := 84) (pc := 1) O d_E_doEffect_1 (by rw [q1_2] <;> decide) (by rw [q1_2] <;> decide) (by rw [q1_2] <;> rfl) (by decide) ?_
        refine r_aload_n (pc := 84) O d_E_doEffect_84 0 rfl ?_
        refine r_aload_n (pc := 85) O d_E_doEffect_85 0 rfl ?_
        refine r_getL (x := (h.2 1 4)) (pc := 86) O gf_c_E_22_1 d_E_doEffect_86 rfl ?_
        refine r_iload_n (pc := 89) O d_E_doEffect_89 2 rfl ?_
        refine r_iload_n (pc := 90) O d_E_doEffect_90 3 rfl ?_
        refine r_callSlp (pc := 91) O [.long (h.2 1 4), .int p2, .int p3] (R_B_withOpen n (h.2 1 4) p2 p3 h) cw_E_doEffect_91 wm_295 rfl (Nat.le_of_ble_eq_true rfl) d_E_doEffect_91 rfl (fun v91 => ?_)
        refine r_putL (pc := 94) O pf_c_E_22_1 d_E_doEffect_94 ?_
        refine r_goto (pc := 97) O d_E_doEffect_97 (tgt := 157) (by decide) ?_
        exact r_vret (pc := 157) O rfl d_E_doEffect_157
      · refine r_ite (fun q1_3 => ?_) (fun q1_3 => ?_)
        · refine r_tin (tgt := 100) (pc := 1) O d_E_doEffect_1 (by rw [q1_3] <;> decide) (by rw [q1_3] <;> decide) (by rw [q1_3] <;> rfl) (by decide) ?_
          refine r_aload_n (pc := 100) O d_E_doEffect_100 0 rfl ?_
          refine r_getL (x := (h.2 1 4)) (pc := 101) O gf_c_E_22_1 d_E_doEffect_101 rfl ?_
          refine r_iload_n (pc := 104) O d_E_doEffect_104 2 rfl ?_
          refine r_callSip (pc := 105) O [.long (h.2 1 4), .int p2] (R_B_amountOf n (h.2 1 4) p2 h) cw_E_doEffect_105 wm_651 rfl (Nat.le_of_ble_eq_true rfl) d_E_doEffect_105 rfl (fun v105 => ?_)
          refine r_iload_n (pc := 108) O d_E_doEffect_108 3 rfl ?_
          refine r_iadd (pc := 109) O d_E_doEffect_109 ?_
          refine r_istore (lv' := [(4, .int (v105 + p3)), (0, .ref 1), (1, .int p1), (2, .int p2), (3, .int p3)]) (pc := 110) O d_E_doEffect_110 (by decide) rfl ?_
          refine r_aload_n (pc := 112) O d_E_doEffect_112 1 rfl ?_
          refine r_aload_n (pc := 113) O d_E_doEffect_113 1 rfl ?_
          refine r_getL (x := (h.2 1 4)) (pc := 114) O gf_c_E_22_1 d_E_doEffect_114 rfl ?_
          refine r_iload_n (pc := 117) O d_E_doEffect_117 3 rfl ?_
          refine r_iconst (pc := 118) O d_E_doEffect_118 ic_0 ?_
          refine r_iload (pc := 119) O d_E_doEffect_119 0 rfl ?_
          refine r_aload_n (pc := 121) O d_E_doEffect_121 1 rfl ?_
          refine r_getR (pc := 122) O gf_c_E_12_1 d_E_doEffect_122 ?_
          refine r_getR (pc := 125) O gf_c_E_152_2 d_E_doEffect_125 ?_
          refine r_iload_n (pc := 128) O d_E_doEffect_128 3 rfl ?_
          refine r_iald (x := (h.1 15 (ix p2))) (pc := 129) O rfl d_E_doEffect_129 rfl ?_
          refine r_mmin (pc := 130) O d_E_doEffect_130 wm_674 wm_675 wm_15 wm_676 (by decide) (Nat.le_of_ble_eq_true rfl) ?_
          refine r_mmax (pc := 133) O d_E_doEffect_133 wm_677 wm_678 wm_15 wm_679 (by decide) (Nat.le_of_ble_eq_true rfl) ?_
          refine r_callSlp (pc := 136) O [.long (h.2 1 4), .int p2, .int (jMmax 0 (jMmin (v105 + p3) (h.1 15 (ix p2))))] (R_B_withAmount n (h.2 1 4) p2 (jMmax 0 (jMmin (v105 + p3) (h.1 15 (ix p2)))) h) cw_E_doEffect_136 wm_298 rfl (Nat.le_of_ble_eq_true rfl) d_E_doEffect_136 rfl (fun v136 => ?_)
          refine r_putL (pc := 139) O pf_c_E_22_1 d_E_doEffect_139 ?_
          refine r_goto (pc := 142) O d_E_doEffect_142 (tgt := 157) (by decide) ?_
          exact r_vret (pc := 157) O rfl d_E_doEffect_157
        · refine r_tout (tgt := 145) (pc := 1) O d_E_doEffect_1 (by have z0 := lv_neT (a := 0) q1_0 (by decide); have z1 := lv_neT (a := 1) q1_1 (by decide); have z2 := lv_neT (a := 2) q1_2 (by decide); have z3 := lv_neT (a := 3) q1_3 (by decide); omega) (by decide) ?_
          refine r_aload_n (pc := 145) O d_E_doEffect_145 0 rfl ?_
          refine r_aload_n (pc := 146) O d_E_doEffect_146 0 rfl ?_
          refine r_getL (x := (h.2 1 4)) (pc := 147) O gf_c_E_22_1 d_E_doEffect_147 rfl ?_
          refine r_iload_n (pc := 150) O d_E_doEffect_150 2 rfl ?_
          refine r_callSlp (pc := 151) O [.long (h.2 1 4), .int p2] (R_B_withEnding n (h.2 1 4) p2 h) cw_E_doEffect_151 wm_682 rfl (Nat.le_of_ble_eq_true rfl) d_E_doEffect_151 rfl (fun v151 => ?_)
          refine r_putL (pc := 154) O pf_c_E_22_1 d_E_doEffect_154 ?_
          exact r_vret (pc := 157) O rfl d_E_doEffect_157
def F_E_doRule_52 (n : Nat) (p1 : Int32) (x3 : Int32) (rec52 : Int32 × sHp → Option sHp) (q : Int32 × sHp) : Option sHp :=
  if x3 ≤ q.1 then (some q.2) else ((J_B_isOver n (q.2.2 1 4) q.2).bind fun v62 =>
  if v62 = 0 then (sGd (sIn q.1 36) (sGd (sIn q.1 36) (sGd (sIn q.1 36) ((J_E_doEffect n (q.2.1 31 (ix q.1)) (q.2.1 32 (ix q.1)) (q.2.1 33 (ix q.1)) q.2).bind fun v90 =>
  rec52 ((q.1 + 1), v90))))) else (some q.2))
def J_E_doRule (n : Nat) (p1 : Int32) (h : sHp) : Option sHp :=
  sGd (sIn p1 12) ((J_E_say n (h.1 24 (ix p1)) (pI h 1 3 ((h.1 1 3) ||| (jIshl 1 p1)))).bind fun v25 =>
  (J_C_endOf_1 n p1 v25).bind fun v41 =>
  (J_C_startOf_1 n p1 v25).bind fun v47 =>
  sFx (F_E_doRule_52 n p1 v41) n (v47, v25))
set_option maxRecDepth 20000 in
set_option maxHeartbeats 4000000 in
theorem R_E_doRule (n : Nat) (p1 : Int32) (h : sHp) : sM Zc sOv y_E_doRule prog_6_method_7_code 5 none rm_E_doRule [.ref 1, .int p1] h (J_E_doRule n p1 h) := by
  refine sM_of (own := "StoryStates$Engine") rfl (by decide) (Nat.le_of_ble_eq_true rfl) (fun M V O => ?_)
  unfold J_E_doRule
  refine r_lv (lv' := [(0, .ref 1), (1, .int p1)]) [0, 1] rfl ?_
  have hL52 : ∀ (x3 : Int32) (q : Int32 × sHp), sS Zc M V (sEb sOv) 52 [(0, .ref 1), (2, .ref 5), (3, .int x3), (4, .int q.1)] [] q.2 (sFx (F_E_doRule_52 n p1 x3) n q) := by
    intro x3
    refine r_fx (fun q => [(0, .ref 1), (2, .ref 5), (3, .int x3), (4, .int q.1)]) (fun q => q.2) (F_E_doRule_52 n p1 x3) (fun rec52 hrec52 q => ?_) n
    obtain ⟨qv0, qv1⟩ := q
    show sS Zc M V (sEb sOv) 52 [(0, .ref 1), (2, .ref 5), (3, .int x3), (4, .int qv0)] [] qv1 _
    unfold F_E_doRule_52
    try dsimp only
    refine r_iload (pc := 52) O d_E_doRule_52 3 rfl ?_
    refine r_iload_n (pc := 54) O d_E_doRule_54 2 rfl ?_
    refine r_icmp_ge (tgt := 99) (pc := 55) O d_E_doRule_55 (by decide) (fun q55 => ?_) (fun q55 => ?_)
    · exact r_vret (pc := 99) O rfl d_E_doRule_99
    · refine r_aload_n (pc := 58) O d_E_doRule_58 0 rfl ?_
      refine r_getL (x := (qv1.2 1 4)) (pc := 59) O gf_c_E_22_1 d_E_doRule_59 rfl ?_
      refine r_callSip (pc := 62) O [.long (qv1.2 1 4)] (R_B_isOver n (qv1.2 1 4) qv1) cw_E_doRule_62 wm_601 rfl (Nat.le_of_ble_eq_true rfl) d_E_doRule_62 rfl (fun v62 => ?_)
      refine r_if_ne (tgt := 99) (pc := 65) O d_E_doRule_65 (by decide) (fun q65 => ?_) (fun q65 => ?_)
      · exact r_vret (pc := 99) O rfl d_E_doRule_99
      · refine r_aload_n (pc := 68) O d_E_doRule_68 0 rfl ?_
        refine r_aload_n (pc := 69) O d_E_doRule_69 1 rfl ?_
        refine r_getR (pc := 70) O gf_c_E_103_5 d_E_doRule_70 ?_
        refine r_iload (pc := 73) O d_E_doRule_73 3 rfl ?_
        refine r_iald (x := (qv1.1 31 (ix qv0))) (pc := 75) O rfl d_E_doRule_75 rfl ?_
        refine r_aload_n (pc := 76) O d_E_doRule_76 1 rfl ?_
        refine r_getR (pc := 77) O gf_c_E_106_5 d_E_doRule_77 ?_
        refine r_iload (pc := 80) O d_E_doRule_80 3 rfl ?_
        refine r_iald (x := (qv1.1 32 (ix qv0))) (pc := 82) O rfl d_E_doRule_82 rfl ?_
        refine r_aload_n (pc := 83) O d_E_doRule_83 1 rfl ?_
        refine r_getR (pc := 84) O gf_c_E_109_5 d_E_doRule_84 ?_
        refine r_iload (pc := 87) O d_E_doRule_87 3 rfl ?_
        refine r_iald (x := (qv1.1 33 (ix qv0))) (pc := 89) O rfl d_E_doRule_89 rfl ?_
        refine r_callVv (pc := 90) O [.int (qv1.1 31 (ix qv0)), .int (qv1.1 32 (ix qv0)), .int (qv1.1 33 (ix qv0))] rfl rfl (R_E_doEffect n (qv1.1 31 (ix qv0)) (qv1.1 32 (ix qv0)) (qv1.1 33 (ix qv0)) qv1) cw_E_doRule_90 wm_664 ws_E_doEffect rfl (Nat.le_of_ble_eq_true rfl) d_E_doRule_90 rfl (fun v90 => ?_)
        refine r_iinc (lv' := [(4, .int (qv0 + 1)), (0, .ref 1), (2, .ref 5), (3, .int x3)]) (pc := 93) O d_E_doRule_93 3 rfl (congrArg (HAdd.hAdd _) ic_1) (by decide) rfl ?_
        refine r_goto (pc := 96) O d_E_doRule_96 (tgt := 52) (by decide) ?_
        exact r_lv [1, 2, 3, 0] rfl (hrec52 ((qv0 + 1), v90))
  refine r_aload_n (pc := 0) O d_E_doRule_0 0 rfl ?_
  refine r_dup (pc := 1) O d_E_doRule_1 rfl ?_
  refine r_getI (x := (h.1 1 3)) (pc := 2) O gf_c_E_30_1 d_E_doRule_2 rfl ?_
  refine r_iconst (pc := 5) O d_E_doRule_5 ic_1 ?_
  refine r_iload_n (pc := 6) O d_E_doRule_6 1 rfl ?_
  refine r_ishl (pc := 7) O d_E_doRule_7 ?_
  refine r_ior (pc := 8) O d_E_doRule_8 ?_
  refine r_putI (pc := 9) O pf_c_E_30_1 d_E_doRule_9 ?_
  refine r_aload_n (pc := 12) O d_E_doRule_12 0 rfl ?_
  refine r_aload_n (pc := 13) O d_E_doRule_13 0 rfl ?_
  refine r_getR (pc := 14) O gf_c_E_12_1 d_E_doRule_14 ?_
  refine r_getR (pc := 17) O gf_c_E_73_2 d_E_doRule_17 ?_
  refine r_getR (pc := 20) O gf_c_E_129_3 d_E_doRule_20 ?_
  refine r_iload_n (pc := 23) O d_E_doRule_23 1 rfl ?_
  refine r_iald (x := (h.1 24 (ix p1))) (pc := 24) O rfl d_E_doRule_24 rfl ?_
  refine r_callVv (pc := 25) O [.int (h.1 24 (ix p1))] rfl rfl (R_E_say n (h.1 24 (ix p1)) (pI h 1 3 ((h.1 1 3) ||| (jIshl 1 p1)))) cw_E_doRule_25 wm_659 ws_E_say rfl (Nat.le_of_ble_eq_true rfl) d_E_doRule_25 rfl (fun v25 => ?_)
  refine r_aload_n (pc := 28) O d_E_doRule_28 0 rfl ?_
  refine r_getR (pc := 29) O gf_c_E_12_1 d_E_doRule_29 ?_
  refine r_getR (pc := 32) O gf_c_E_73_2 d_E_doRule_32 ?_
  refine r_getR (pc := 35) O gf_c_E_130_3 d_E_doRule_35 ?_
  refine r_astore_n (lv' := [(2, .ref 5), (0, .ref 1), (1, .int p1)]) (pc := 38) O d_E_doRule_38 rfl (by decide) rfl ?_
  refine r_aload_n (pc := 39) O d_E_doRule_39 0 rfl ?_
  refine r_iload_n (pc := 40) O d_E_doRule_40 2 rfl ?_
  refine r_callVip (pc := 41) O [.int p1] rfl rfl (R_C_endOf_1 n p1 v25) cw_E_doRule_41 wm_539 wm_540 rfl (Nat.le_of_ble_eq_true rfl) d_E_doRule_41 rfl (fun v41 => ?_)
  refine r_istore_n (lv' := [(3, .int v41), (2, .ref 5), (0, .ref 1), (1, .int p1)]) (pc := 44) O d_E_doRule_44 rfl (by decide) rfl ?_
  refine r_aload_n (pc := 45) O d_E_doRule_45 1 rfl ?_
  refine r_iload_n (pc := 46) O d_E_doRule_46 3 rfl ?_
  refine r_callVip (pc := 47) O [.int p1] rfl rfl (R_C_startOf_1 n p1 v25) cw_E_doRule_47 wm_640 wm_641 rfl (Nat.le_of_ble_eq_true rfl) d_E_doRule_47 rfl (fun v47 => ?_)
  refine r_istore (lv' := [(4, .int v47), (3, .int v41), (2, .ref 5), (0, .ref 1), (1, .int p1)]) (pc := 50) O d_E_doRule_50 (by decide) rfl ?_
  exact r_lv [3, 2, 1, 0] rfl (hL52 v41 (v47, v25))
