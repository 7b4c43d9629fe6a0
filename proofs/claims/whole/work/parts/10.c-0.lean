def J_W_becomeEmpty (n : Nat)  (h : sHp) : Option sHp :=
  some (pI (pI (pI (pI (pI (pI (pI h 2 12 0) 2 13 0) 2 14 0) 2 15 0) 3 7 0) 2 16 0) 2 17 0)
set_option maxRecDepth 20000 in
set_option maxHeartbeats 4000000 in
theorem R_W_becomeEmpty (n : Nat)  (h : sHp) : sM Zc sOv y_W_becomeEmpty prog_8_method_2_code 1 none rm_W_becomeEmpty [.ref 2] h (J_W_becomeEmpty n  h) := by
  refine sM_of (own := "StoryStates$World") rfl (by decide) (Nat.le_of_ble_eq_true rfl) (fun M V O => ?_)
  unfold J_W_becomeEmpty
  refine r_lv (lv' := [(0, .ref 2)]) [0] rfl ?_
  refine r_aload_n (pc := 0) O d_W_becomeEmpty_0 0 rfl ?_
  refine r_iconst (pc := 1) O d_W_becomeEmpty_1 ic_0 ?_
  refine r_putI (pc := 2) O pf_c_W_53_2 d_W_becomeEmpty_2 ?_
  refine r_aload_n (pc := 5) O d_W_becomeEmpty_5 0 rfl ?_
  refine r_iconst (pc := 6) O d_W_becomeEmpty_6 ic_0 ?_
  refine r_putI (pc := 7) O pf_c_W_57_2 d_W_becomeEmpty_7 ?_
  refine r_aload_n (pc := 10) O d_W_becomeEmpty_10 0 rfl ?_
  refine r_iconst (pc := 11) O d_W_becomeEmpty_11 ic_0 ?_
  refine r_putI (pc := 12) O pf_c_W_60_2 d_W_becomeEmpty_12 ?_
  refine r_aload_n (pc := 15) O d_W_becomeEmpty_15 0 rfl ?_
  refine r_iconst (pc := 16) O d_W_becomeEmpty_16 ic_0 ?_
  refine r_putI (pc := 17) O pf_c_W_63_2 d_W_becomeEmpty_17 ?_
  refine r_aload_n (pc := 20) O d_W_becomeEmpty_20 0 rfl ?_
  refine r_getR (pc := 21) O gf_c_W_37_2 d_W_becomeEmpty_21 ?_
  refine r_iconst (pc := 24) O d_W_becomeEmpty_24 ic_0 ?_
  refine r_putI (pc := 25) O pf_c_W_66_3 d_W_becomeEmpty_25 ?_
  refine r_aload_n (pc := 28) O d_W_becomeEmpty_28 0 rfl ?_
  refine r_iconst (pc := 29) O d_W_becomeEmpty_29 ic_0 ?_
  refine r_putI (pc := 30) O pf_c_W_69_2 d_W_becomeEmpty_30 ?_
  refine r_aload_n (pc := 33) O d_W_becomeEmpty_33 0 rfl ?_
  refine r_iconst (pc := 34) O d_W_becomeEmpty_34 ic_0 ?_
  refine r_putI (pc := 35) O pf_c_W_72_2 d_W_becomeEmpty_35 ?_
  exact r_vret (pc := 38) O rfl d_W_becomeEmpty_38
def J_S_isFrom (n : Nat) (p0 : Int32) (p1 : Int32) (p2 : Int32) (h : sHp) : Option Int32 :=
  if p0 < p1 then (some 0) else (if p2 < p0 then (some 0) else (some 1))
set_option maxRecDepth 20000 in
set_option maxHeartbeats 4000000 in
theorem R_S_isFrom (n : Nat) (p0 : Int32) (p1 : Int32) (p2 : Int32) (h : sHp) : sM Zc (sPi h) y_S_isFrom prog_1_method_29_code 3 (some .boolean) rm_S_isFrom [.int p0, .int p1, .int p2] h (J_S_isFrom n p0 p1 p2 h) := by
  refine sM_of (own := "StoryStates") rfl (by decide) (Nat.le_of_ble_eq_true rfl) (fun M V O => ?_)
  unfold J_S_isFrom
  refine r_lv (lv' := [(0, .int p0), (1, .int p1), (2, .int p2)]) [0, 1, 2] rfl ?_
  refine r_iload_n (pc := 0) O d_S_isFrom_0 0 rfl ?_
  refine r_iload_n (pc := 1) O d_S_isFrom_1 1 rfl ?_
  refine r_icmp_lt (tgt := 14) (pc := 2) O d_S_isFrom_2 (by decide) (fun q2 => ?_) (fun q2 => ?_)
  · refine r_iconst (pc := 14) O d_S_isFrom_14 ic_0 ?_
    exact r_zret (pc := 15) O rfl d_S_isFrom_15 nb_0
  · refine r_iload_n (pc := 5) O d_S_isFrom_5 0 rfl ?_
    refine r_iload_n (pc := 6) O d_S_isFrom_6 2 rfl ?_
    refine r_icmp_gt (tgt := 14) (pc := 7) O d_S_isFrom_7 (by decide) (fun q7 => ?_) (fun q7 => ?_)
    · refine r_iconst (pc := 14) O d_S_isFrom_14 ic_0 ?_
      exact r_zret (pc := 15) O rfl d_S_isFrom_15 nb_0
    · refine r_iconst (pc := 10) O d_S_isFrom_10 ic_1 ?_
      refine r_goto (pc := 11) O d_S_isFrom_11 (tgt := 15) (by decide) ?_
      exact r_zret (pc := 15) O rfl d_S_isFrom_15 nb_1
def J_W_hasRoom (n : Nat) (p1 : Int32) (h : sHp) : Option Int32 :=
  (J_S_isFrom n p1 0 ((h.1 2 12) - 1) h).bind fun v8 =>
  sGd (jB v8) (some v8)
set_option maxRecDepth 20000 in
set_option maxHeartbeats 4000000 in
theorem R_W_hasRoom (n : Nat) (p1 : Int32) (h : sHp) : sM Zc (sPi h) y_W_hasRoom prog_8_method_3_code 2 (some .boolean) rm_W_hasRoom [.ref 2, .int p1] h (J_W_hasRoom n p1 h) := by
  refine sM_of (own := "StoryStates$World") rfl (by decide) (Nat.le_of_ble_eq_true rfl) (fun M V O => ?_)
  unfold J_W_hasRoom
  refine r_lv (lv' := [(0, .ref 2), (1, .int p1)]) [0, 1] rfl ?_
  refine r_iload_n (pc := 0) O d_W_hasRoom_0 1 rfl ?_
  refine r_iconst (pc := 1) O d_W_hasRoom_1 ic_0 ?_
  refine r_aload_n (pc := 2) O d_W_hasRoom_2 0 rfl ?_
  refine r_getI (x := (h.1 2 12)) (pc := 3) O gf_c_W_53_2 d_W_hasRoom_3 rfl ?_
  refine r_iconst (pc := 6) O d_W_hasRoom_6 ic_1 ?_
  refine r_isub (pc := 7) O d_W_hasRoom_7 ?_
  refine r_callSip (pc := 8) O [.int p1, .int 0, .int ((h.1 2 12) - 1)] (R_S_isFrom n p1 0 ((h.1 2 12) - 1) h) cw_W_hasRoom_8 wm_312 rfl (Nat.le_of_ble_eq_true rfl) d_W_hasRoom_8 rfl (fun v8 => ?_)
  exact r_zretg (pc := 11) O rfl d_W_hasRoom_11
def J_W_hasThing (n : Nat) (p1 : Int32) (h : sHp) : Option Int32 :=
  (J_S_isFrom n p1 0 ((h.1 2 13) - 1) h).bind fun v8 =>
  sGd (jB v8) (some v8)
set_option maxRecDepth 20000 in
set_option maxHeartbeats 4000000 in
theorem R_W_hasThing (n : Nat) (p1 : Int32) (h : sHp) : sM Zc (sPi h) y_W_hasThing prog_8_method_4_code 2 (some .boolean) rm_W_hasThing [.ref 2, .int p1] h (J_W_hasThing n p1 h) := by
  refine sM_of (own := "StoryStates$World") rfl (by decide) (Nat.le_of_ble_eq_true rfl) (fun M V O => ?_)
  unfold J_W_hasThing
  refine r_lv (lv' := [(0, .ref 2), (1, .int p1)]) [0, 1] rfl ?_
  refine r_iload_n (pc := 0) O d_W_hasThing_0 1 rfl ?_
  refine r_iconst (pc := 1) O d_W_hasThing_1 ic_0 ?_
  refine r_aload_n (pc := 2) O d_W_hasThing_2 0 rfl ?_
  refine r_getI (x := (h.1 2 13)) (pc := 3) O gf_c_W_57_2 d_W_hasThing_3 rfl ?_
  refine r_iconst (pc := 6) O d_W_hasThing_6 ic_1 ?_
  refine r_isub (pc := 7) O d_W_hasThing_7 ?_
  refine r_callSip (pc := 8) O [.int p1, .int 0, .int ((h.1 2 13) - 1)] (R_S_isFrom n p1 0 ((h.1 2 13) - 1) h) cw_W_hasThing_8 wm_312 rfl (Nat.le_of_ble_eq_true rfl) d_W_hasThing_8 rfl (fun v8 => ?_)
  exact r_zretg (pc := 11) O rfl d_W_hasThing_11
def J_W_hasNumber (n : Nat) (p1 : Int32) (h : sHp) : Option Int32 :=
  (J_S_isFrom n p1 0 ((h.1 2 14) - 1) h).bind fun v8 =>
  sGd (jB v8) (some v8)
set_option maxRecDepth 20000 in
set_option maxHeartbeats 4000000 in
theorem R_W_hasNumber (n : Nat) (p1 : Int32) (h : sHp) : sM Zc (sPi h) y_W_hasNumber prog_8_method_5_code 2 (some .boolean) rm_W_hasNumber [.ref 2, .int p1] h (J_W_hasNumber n p1 h) := by
  refine sM_of (own := "StoryStates$World") rfl (by decide) (Nat.le_of_ble_eq_true rfl) (fun M V O => ?_)
  unfold J_W_hasNumber
  refine r_lv (lv' := [(0, .ref 2), (1, .int p1)]) [0, 1] rfl ?_
  refine r_iload_n (pc := 0) O d_W_hasNumber_0 1 rfl ?_
  refine r_iconst (pc := 1) O d_W_hasNumber_1 ic_0 ?_
  refine r_aload_n (pc := 2) O d_W_hasNumber_2 0 rfl ?_
  refine r_getI (x := (h.1 2 14)) (pc := 3) O gf_c_W_60_2 d_W_hasNumber_3 rfl ?_
  refine r_iconst (pc := 6) O d_W_hasNumber_6 ic_1 ?_
  refine r_isub (pc := 7) O d_W_hasNumber_7 ?_
  refine r_callSip (pc := 8) O [.int p1, .int 0, .int ((h.1 2 14) - 1)] (R_S_isFrom n p1 0 ((h.1 2 14) - 1) h) cw_W_hasNumber_8 wm_312 rfl (Nat.le_of_ble_eq_true rfl) d_W_hasNumber_8 rfl (fun v8 => ?_)
  exact r_zretg (pc := 11) O rfl d_W_hasNumber_11
def J_W_hasEnding (n : Nat) (p1 : Int32) (h : sHp) : Option Int32 :=
  (J_S_isFrom n p1 0 ((h.1 2 15) - 1) h).bind fun v8 =>
  sGd (jB v8) (some v8)
set_option maxRecDepth 20000 in
set_option maxHeartbeats 4000000 in
theorem R_W_hasEnding (n : Nat) (p1 : Int32) (h : sHp) : sM Zc (sPi h) y_W_hasEnding prog_8_method_6_code 2 (some .boolean) rm_W_hasEnding [.ref 2, .int p1] h (J_W_hasEnding n p1 h) := by
  refine sM_of (own := "StoryStates$World") rfl (by decide) (Nat.le_of_ble_eq_true rfl) (fun M V O => ?_)
  unfold J_W_hasEnding
  refine r_lv (lv' := [(0, .ref 2), (1, .int p1)]) [0, 1] rfl ?_
  refine r_iload_n (pc := 0) O d_W_hasEnding_0 1 rfl ?_
  refine r_iconst (pc := 1) O d_W_hasEnding_1 ic_0 ?_
  refine r_aload_n (pc := 2) O d_W_hasEnding_2 0 rfl ?_
  refine r_getI (x := (h.1 2 15)) (pc := 3) O gf_c_W_63_2 d_W_hasEnding_3 rfl ?_
  refine r_iconst (pc := 6) O d_W_hasEnding_6 ic_1 ?_
  refine r_isub (pc := 7) O d_W_hasEnding_7 ?_
  refine r_callSip (pc := 8) O [.int p1, .int 0, .int ((h.1 2 15) - 1)] (R_S_isFrom n p1 0 ((h.1 2 15) - 1) h) cw_W_hasEnding_8 wm_312 rfl (Nat.le_of_ble_eq_true rfl) d_W_hasEnding_8 rfl (fun v8 => ?_)
  exact r_zretg (pc := 11) O rfl d_W_hasEnding_11
def J_W_hasRule (n : Nat) (p1 : Int32) (h : sHp) : Option Int32 :=
  (J_S_isFrom n p1 0 ((h.1 3 7) - 1) h).bind fun v11 =>
  sGd (jB v11) (some v11)
set_option maxRecDepth 20000 in
set_option maxHeartbeats 4000000 in
theorem R_W_hasRule (n : Nat) (p1 : Int32) (h : sHp) : sM Zc (sPi h) y_W_hasRule prog_8_method_7_code 2 (some .boolean) rm_W_hasRule [.ref 2, .int p1] h (J_W_hasRule n p1 h) := by
  refine sM_of (own := "StoryStates$World") rfl (by decide) (Nat.le_of_ble_eq_true rfl) (fun M V O => ?_)
  unfold J_W_hasRule
  refine r_lv (lv' := [(0, .ref 2), (1, .int p1)]) [0, 1] rfl ?_
  refine r_iload_n (pc := 0) O d_W_hasRule_0 1 rfl ?_
  refine r_iconst (pc := 1) O d_W_hasRule_1 ic_0 ?_
  refine r_aload_n (pc := 2) O d_W_hasRule_2 0 rfl ?_
  refine r_getR (pc := 3) O gf_c_W_37_2 d_W_hasRule_3 ?_
  refine r_getI (x := (h.1 3 7)) (pc := 6) O gf_c_W_66_3 d_W_hasRule_6 rfl ?_
  refine r_iconst (pc := 9) O d_W_hasRule_9 ic_1 ?_
  refine r_isub (pc := 10) O d_W_hasRule_10 ?_
  refine r_callSip (pc := 11) O [.int p1, .int 0, .int ((h.1 3 7) - 1)] (R_S_isFrom n p1 0 ((h.1 3 7) - 1) h) cw_W_hasRule_11 wm_312 rfl (Nat.le_of_ble_eq_true rfl) d_W_hasRule_11 rfl (fun v11 => ?_)
  exact r_zretg (pc := 14) O rfl d_W_hasRule_14
def J_W_hasPlace (n : Nat) (p1 : Int32) (h : sHp) : Option Int32 :=
  (J_W_hasRoom n p1 h).bind fun v2 =>
  if v2 = 0 then ((J_S_isFrom n p1 6 ((7 + (h.1 2 13)) - 1) h).bind fun v20 =>
  if v20 = 0 then (some 0) else (some 1)) else (some 1)
set_option maxRecDepth 20000 in
set_option maxHeartbeats 4000000 in
theorem R_W_hasPlace (n : Nat) (p1 : Int32) (h : sHp) : sM Zc (sPi h) y_W_hasPlace prog_8_method_8_code 2 (some .boolean) rm_W_hasPlace [.ref 2, .int p1] h (J_W_hasPlace n p1 h) := by
  refine sM_of (own := "StoryStates$World") rfl (by decide) (Nat.le_of_ble_eq_true rfl) (fun M V O => ?_)
  unfold J_W_hasPlace
  refine r_lv (lv' := [(0, .ref 2), (1, .int p1)]) [0, 1] rfl ?_
  refine r_aload_n (pc := 0) O d_W_hasPlace_0 0 rfl ?_
  refine r_iload_n (pc := 1) O d_W_hasPlace_1 1 rfl ?_
  refine r_callVip (pc := 2) O [.int p1] rfl rfl (R_W_hasRoom n p1 h) cw_W_hasPlace_2 wm_410 wm_411 rfl (Nat.le_of_ble_eq_true rfl) d_W_hasPlace_2 rfl (fun v2 => ?_)
  refine r_if_ne (tgt := 26) (pc := 5) O d_W_hasPlace_5 (by decide) (fun q5 => ?_) (fun q5 => ?_)
  · refine r_iconst (pc := 26) O d_W_hasPlace_26 ic_1 ?_
    refine r_goto (pc := 27) O d_W_hasPlace_27 (tgt := 31) (by decide) ?_
    exact r_zret (pc := 31) O rfl d_W_hasPlace_31 nb_1
  · refine r_iload_n (pc := 8) O d_W_hasPlace_8 1 rfl ?_
    refine r_bipush (pc := 9) O d_W_hasPlace_9 bc_6 ?_
    refine r_bipush (pc := 11) O d_W_hasPlace_11 bc_7 ?_
    refine r_aload_n (pc := 13) O d_W_hasPlace_13 0 rfl ?_
    refine r_getI (x := (h.1 2 13)) (pc := 14) O gf_c_W_57_2 d_W_hasPlace_14 rfl ?_
    refine r_iadd (pc := 17) O d_W_hasPlace_17 ?_
    refine r_iconst (pc := 18) O d_W_hasPlace_18 ic_1 ?_
    refine r_isub (pc := 19) O d_W_hasPlace_19 ?_
    refine r_callSip (pc := 20) O [.int p1, .int 6, .int ((7 + (h.1 2 13)) - 1)] (R_S_isFrom n p1 6 ((7 + (h.1 2 13)) - 1) h) cw_W_hasPlace_20 wm_312 rfl (Nat.le_of_ble_eq_true rfl) d_W_hasPlace_20 rfl (fun v20 => ?_)
    refine r_if_eq (tgt := 30) (pc := 23) O d_W_hasPlace_23 (by decide) (fun q23 => ?_) (fun q23 => ?_)
    · refine r_iconst (pc := 30) O d_W_hasPlace_30 ic_0 ?_
      exact r_zret (pc := 31) O rfl d_W_hasPlace_31 nb_0
    · refine r_iconst (pc := 26) O d_W_hasPlace_26 ic_1 ?_
      refine r_goto (pc := 27) O d_W_hasPlace_27 (tgt := 31) (by decide) ?_
      exact r_zret (pc := 31) O rfl d_W_hasPlace_31 nb_1
def J_W_hasSubject (n : Nat) (p1 : Int32) (p2 : Int32) (h : sHp) : Option Int32 :=
  if p1 = 0 then ((J_W_hasRoom n p2 h).bind fun v30 =>
  sGd (jB v30) (some v30)) else (if p1 = 1 then ((J_W_hasThing n p2 h).bind fun v36 =>
  sGd (jB v36) (some v36)) else (if p1 = 2 then ((J_W_hasThing n p2 h).bind fun v36 =>
  sGd (jB v36) (some v36)) else ((J_W_hasNumber n p2 h).bind fun v42 =>
  sGd (jB v42) (some v42))))
set_option maxRecDepth 20000 in
set_option maxHeartbeats 4000000 in
theorem R_W_hasSubject (n : Nat) (p1 : Int32) (p2 : Int32) (h : sHp) : sM Zc (sPi h) y_W_hasSubject prog_8_method_9_code 3 (some .boolean) rm_W_hasSubject [.ref 2, .int p1, .int p2] h (J_W_hasSubject n p1 p2 h) := by
  refine sM_of (own := "StoryStates$World") rfl (by decide) (Nat.le_of_ble_eq_true rfl) (fun M V O => ?_)
  unfold J_W_hasSubject
  refine r_lv (lv' := [(0, .ref 2), (1, .int p1), (2, .int p2)]) [0, 1, 2] rfl ?_
  refine r_iload_n (pc := 0) O d_W_hasSubject_0 1 rfl ?_
  refine r_ite (fun q1_0 => ?_) (fun q1_0 => ?_)
  · refine r_tin (tgt := 28) (pc := 1) O d_W_hasSubject_1 (by rw [q1_0] <;> decide) (by rw [q1_0] <;> decide) (by rw [q1_0] <;> rfl) (by decide) ?_
    refine r_aload_n (pc := 28) O d_W_hasSubject_28 0 rfl ?_
    refine r_iload_n (pc := 29) O d_W_hasSubject_29 2 rfl ?_
    refine r_callVip (pc := 30) O [.int p2] rfl rfl (R_W_hasRoom n p2 h) cw_W_hasSubject_30 wm_410 wm_411 rfl (Nat.le_of_ble_eq_true rfl) d_W_hasSubject_30 rfl (fun v30 => ?_)
    exact r_zretg (pc := 33) O rfl d_W_hasSubject_33
  · refine r_ite (fun q1_1 => ?_) (fun q1_1 => ?_)
    · refine r_tin (tgt := 34) (pc := 1) O d_W_hasSubject_1 (by rw [q1_1] <;> decide) (by rw [q1_1] <;> decide) (by rw [q1_1] <;> rfl) (by decide) ?_
      refine r_aload_n (pc := 34) O d_W_hasSubject_34 0 rfl ?_
      refine r_iload_n (pc := 35) O d_W_hasSubject_35 2 rfl ?_
      refine r_callVip (pc := 36) O [.int p2] rfl rfl (R_W_hasThing n p2 h) cw_W_hasSubject_36 wm_415 wm_416 rfl (Nat.le_of_ble_eq_true rfl) d_W_hasSubject_36 rfl (fun v36 => ?_)
      exact r_zretg (pc := 39) O rfl d_W_hasSubject_39
    · refine r_ite (fun q1_2 => ?_) (fun q1_2 => ?_)
      · refine r_tin (tgt := 34) (pc := 1) O d_W_hasSubject_1 (by rw [q1_2] <;> decide) (by rw [q1_2] <;> decide) (by rw [q1_2] <;> rfl) (by decide) ?_
        refine r_aload_n (pc := 34) O d_W_hasSubject_34 0 rfl ?_
        refine r_iload_n (pc := 35) O d_W_hasSubject_35 2 rfl ?_
        refine r_callVip (pc := 36) O [.int p2] rfl rfl (R_W_hasThing n p2 h) cw_W_hasSubject_36 wm_415 wm_416 rfl (Nat.le_of_ble_eq_true rfl) d_W_hasSubject_36 rfl (fun v36 => ?_)
        exact r_zretg (pc := 39) O rfl d_W_hasSubject_39
      · refine r_tout (tgt := 40) (pc := 1) O d_W_hasSubject_1 (by have z0 := lv_neT (a := 0) q1_0 (by decide); have z1 := lv_neT (a := 1) q1_1 (by decide); have z2 := lv_neT (a := 2) q1_2 (by decide); omega) (by decide) ?_
        refine r_aload_n (pc := 40) O d_W_hasSubject_40 0 rfl ?_
        refine r_iload_n (pc := 41) O d_W_hasSubject_41 2 rfl ?_
        refine r_callVip (pc := 42) O [.int p2] rfl rfl (R_W_hasNumber n p2 h) cw_W_hasSubject_42 wm_524 wm_525 rfl (Nat.le_of_ble_eq_true rfl) d_W_hasSubject_42 rfl (fun v42 => ?_)
        exact r_zretg (pc := 45) O rfl d_W_hasSubject_45
def K_W_hasCommand_142 (n : Nat) (p1 : Int32) (p2 : Int32) (p3 : Int32) (h : sHp) : Option Int32 :=
  if p3 = (-1) then (some 1) else ((J_W_hasThing n p3 h).bind fun v149 =>
  if v149 = 0 then (some 0) else (some 1))
def J_W_hasCommand (n : Nat) (p1 : Int32) (p2 : Int32) (p3 : Int32) (h : sHp) : Option Int32 :=
  if p1 = 0 then ((J_S_isFrom n p2 0 3 h).bind fun v55 =>
  if v55 = 0 then (some 0) else (if p3 = (-1) then (some 1) else (some 0))) else (if p1 = 1 then ((J_W_hasThing n p2 h).bind fun v74 =>
  if v74 = 0 then (some 0) else (if p3 = (-1) then (some 1) else (some 0))) else (if p1 = 2 then ((J_W_hasThing n p2 h).bind fun v74 =>
  if v74 = 0 then (some 0) else (if p3 = (-1) then (some 1) else (some 0))) else (if p1 = 3 then ((J_W_hasThing n p2 h).bind fun v74 =>
  if v74 = 0 then (some 0) else (if p3 = (-1) then (some 1) else (some 0))) else (if p1 = 4 then ((J_W_hasThing n p2 h).bind fun v74 =>
  if v74 = 0 then (some 0) else (if p3 = (-1) then (some 1) else (some 0))) else (if p1 = 5 then ((J_W_hasThing n p2 h).bind fun v93 =>
  if v93 = 0 then (some 0) else ((J_W_hasThing n p3 h).bind fun v101 =>
  if v101 = 0 then (some 0) else (some 1))) else (if p1 = 6 then (if p2 = (-1) then (if p3 = (-1) then (some 1) else (some 0)) else (some 0)) else (if p1 = 7 then (if p2 = (-1) then (K_W_hasCommand_142 n p1 p2 p3 h) else ((J_W_hasThing n p2 h).bind fun v136 =>
  if v136 = 0 then (some 0) else (K_W_hasCommand_142 n p1 p2 p3 h))) else (if p1 = 8 then (if p2 = (-1) then (K_W_hasCommand_142 n p1 p2 p3 h) else ((J_W_hasThing n p2 h).bind fun v136 =>
  if v136 = 0 then (some 0) else (K_W_hasCommand_142 n p1 p2 p3 h))) else (some 0)))))))))
set_option maxRecDepth 20000 in
set_option maxHeartbeats 4000000 in
theorem R_W_hasCommand (n : Nat) (p1 : Int32) (p2 : Int32) (p3 : Int32) (h : sHp) : sM Zc (sPi h) y_W_hasCommand prog_8_method_10_code 4 (some .boolean) rm_W_hasCommand [.ref 2, .int p1, .int p2, .int p3] h (J_W_hasCommand n p1 p2 p3 h) := by
  refine sM_of (own := "StoryStates$World") rfl (by decide) (Nat.le_of_ble_eq_true rfl) (fun M V O => ?_)
  unfold J_W_hasCommand
  refine r_lv (lv' := [(0, .ref 2), (1, .int p1), (2, .int p2), (3, .int p3)]) [0, 1, 2, 3] rfl ?_
  have hK142 : sS Zc M V (sEb (sPi h)) 142 [(0, .ref 2), (3, .int p3)] [] h (K_W_hasCommand_142 n p1 p2 p3 h ) := by
    skip
    unfold K_W_hasCommand_142
    refine r_iload_n (pc := 142) O d_W_hasCommand_142 1 rfl ?_
    refine r_iconst (pc := 143) O d_W_hasCommand_143 ic_m1 ?_
    refine r_icmp_eq (tgt := 155) (pc := 144) O d_W_hasCommand_144 (by decide) (fun q144 => ?_) (fun q144 => ?_)
    · refine r_iconst (pc := 155) O d_W_hasCommand_155 ic_1 ?_
      refine r_goto (pc := 156) O d_W_hasCommand_156 (tgt := 160) (by decide) ?_
      exact r_zret (pc := 160) O rfl d_W_hasCommand_160 nb_1
    · refine r_aload_n (pc := 147) O d_W_hasCommand_147 0 rfl ?_
      refine r_iload_n (pc := 148) O d_W_hasCommand_148 1 rfl ?_
      refine r_callVip (pc := 149) O [.int p3] rfl rfl (R_W_hasThing n p3 h) cw_W_hasCommand_149 wm_415 wm_416 rfl (Nat.le_of_ble_eq_true rfl) d_W_hasCommand_149 rfl (fun v149 => ?_)
      refine r_if_eq (tgt := 159) (pc := 152) O d_W_hasCommand_152 (by decide) (fun q152 => ?_) (fun q152 => ?_)
      · refine r_iconst (pc := 159) O d_W_hasCommand_159 ic_0 ?_
        exact r_zret (pc := 160) O rfl d_W_hasCommand_160 nb_0
      · refine r_iconst (pc := 155) O d_W_hasCommand_155 ic_1 ?_
        refine r_goto (pc := 156) O d_W_hasCommand_156 (tgt := 160) (by decide) ?_
        exact r_zret (pc := 160) O rfl d_W_hasCommand_160 nb_1
  refine r_iload_n (pc := 0) O d_W_hasCommand_0 1 rfl ?_
  refine r_ite (fun q1_0 => ?_) (fun q1_0 => ?_)
  · refine r_tin (tgt := 52) (pc := 1) O d_W_hasCommand_1 (by rw [q1_0] <;> decide) (by rw [q1_0] <;> decide) (by rw [q1_0] <;> rfl) (by decide) ?_
    refine r_iload_n (pc := 52) O d_W_hasCommand_52 2 rfl ?_
    refine r_iconst (pc := 53) O d_W_hasCommand_53 ic_0 ?_
    refine r_iconst (pc := 54) O d_W_hasCommand_54 ic_3 ?_
    refine r_callSip (pc := 55) O [.int p2, .int 0, .int 3] (R_S_isFrom n p2 0 3 h) cw_W_hasCommand_55 wm_312 rfl (Nat.le_of_ble_eq_true rfl) d_W_hasCommand_55 rfl (fun v55 => ?_)
    refine r_if_eq (tgt := 70) (pc := 58) O d_W_hasCommand_58 (by decide) (fun q58 => ?_) (fun q58 => ?_)
    · refine r_iconst (pc := 70) O d_W_hasCommand_70 ic_0 ?_
      exact r_zret (pc := 71) O rfl d_W_hasCommand_71 nb_0
    · refine r_iload_n (pc := 61) O d_W_hasCommand_61 3 rfl ?_
      refine r_iconst (pc := 62) O d_W_hasCommand_62 ic_m1 ?_
      refine r_icmp_ne (tgt := 70) (pc := 63) O d_W_hasCommand_63 (by decide) (fun q63 => ?_) (fun q63 => ?_)
      · refine r_iconst (pc := 70) O d_W_hasCommand_70 ic_0 ?_
        exact r_zret (pc := 71) O rfl d_W_hasCommand_71 nb_0
      · refine r_iconst (pc := 66) O d_W_hasCommand_66 ic_1 ?_
        refine r_goto (pc := 67) O d_W_hasCommand_67 (tgt := 71) (by decide) ?_
        exact r_zret (pc := 71) O rfl d_W_hasCommand_71 nb_1
  · refine r_ite (fun q1_1 => ?_) (fun q1_1 => ?_)
    · refine r_tin (tgt := 72) (pc := 1) O d_W_hasCommand_1 (by rw [q1_1] <;> decide) (by rw [q1_1] <;> decide) (by rw [q1_1] <;> rfl) (by decide) ?_
      refine r_aload_n (pc := 72) O d_W_hasCommand_72 0 rfl ?_
      refine r_iload_n (pc := 73) O d_W_hasCommand_73 2 rfl ?_
      refine r_callVip (pc := 74) O [.int p2] rfl rfl (R_W_hasThing n p2 h) cw_W_hasCommand_74 wm_415 wm_416 rfl (Nat.le_of_ble_eq_true rfl) d_W_hasCommand_74 rfl (fun v74 => ?_)
      refine r_if_eq (tgt := 89) (pc := 77) O d_W_hasCommand_77 (by decide) (fun q77 => ?_) (fun q77 => ?_)
      · refine r_iconst (pc := 89) O d_W_hasCommand_89 ic_0 ?_
        exact r_zret (pc := 90) O rfl d_W_hasCommand_90 nb_0
      · refine r_iload_n (pc := 80) O d_W_hasCommand_80 3 rfl ?_
        refine r_iconst (pc := 81) O d_W_hasCommand_81 ic_m1 ?_
        refine r_icmp_ne (tgt := 89) (pc := 82) O d_W_hasCommand_82 (by decide) (fun q82 => ?_) (fun q82 => ?_)
        · refine r_iconst (pc := 89) O d_W_hasCommand_89 ic_0 ?_
          exact r_zret (pc := 90) O rfl d_W_hasCommand_90 nb_0
        · refine r_iconst (pc := 85) O d_W_hasCommand_85 ic_1 ?_
          refine r_goto (pc := 86) O d_W_hasCommand_86 (tgt := 90) (by decide) ?_
          exact r_zret (pc := 90) O rfl d_W_hasCommand_90 nb_1
    · refine r_ite (fun q1_2 => ?_) (fun q1_2 => ?_)
      · refine r_tin (tgt := 72) (pc := 1) O d_W_hasCommand_1 (by rw [q1_2] <;> decide) (by rw [q1_2] <;> decide) (by rw [q1_2] <;> rfl) (by decide) ?_
        refine r_aload_n (pc := 72) O d_W_hasCommand_72 0 rfl ?_
        refine r_iload_n (pc := 73) O d_W_hasCommand_73 2 rfl ?_
        refine r_callVip (pc := 74) O [.int p2] rfl rfl (R_W_hasThing n p2 h) cw_W_hasCommand_74 wm_415 wm_416 rfl (Nat.le_of_ble_eq_true rfl) d_W_hasCommand_74 rfl (fun v74 => ?_)
        refine r_if_eq (tgt := 89) (pc := 77) O d_W_hasCommand_77 (by decide) (fun q77 => ?_) (fun q77 => ?_)
        · refine r_iconst (pc := 89) O d_W_hasCommand_89 ic_0 ?_
          exact r_zret (pc := 90) O rfl d_W_hasCommand_90 nb_0
        · refine r_iload_n (pc := 80) O d_W_hasCommand_80 3 rfl ?_
          refine r_iconst (pc := 81) O d_W_hasCommand_81 ic_m1 ?_
          refine r_icmp_ne (tgt := 89) (pc := 82) O d_W_hasCommand_82 (by decide) (fun q82 => ?_) (fun q82 => ?_)
          · refine r_iconst (pc := 89) O d_W_hasCommand_89 ic_0 ?_
            exact r_zret (pc := 90) O rfl d_W_hasCommand_90 nb_0
          · refine r_iconst (pc := 85) O d_W_hasCommand_85 ic_1 ?_
            refine r_goto (pc := 86) O d_W_hasCommand_86 (tgt := 90) (by decide) ?_
            exact r_zret (pc := 90) O rfl d_W_hasCommand_90 nb_1
      · refine r_ite (fun q1_3 => ?_) (fun q1_3 => ?_)
        · refine r_tin (tgt := 72) (pc := 1) O d_W_hasCommand_1 (by rw [q1_3] <;> decide) (by rw [q1_3] <;> decide) (by rw [q1_3] <;> rfl) (by decide) ?_
          refine r_aload_n (pc := 72) O d_W_hasCommand_72 0 rfl ?_
          refine r_iload_n (pc := 73) O d_W_hasCommand_73 2 rfl ?_
          refine r_callVip (pc := 74) O [.int p2] rfl rfl (R_W_hasThing n p2 h) cw_W_hasCommand_74 wm_415 wm_416 rfl (Nat.le_of_ble_eq_true rfl) d_W_hasCommand_74 rfl (fun v74 => ?_)
          refine r_if_eq (tgt := 89) (pc := 77) O d_W_hasCommand_77 (by decide) (fun q77 => ?_) (fun q77 => ?_)
          · refine r_iconst (pc := 89) O d_W_hasCommand_89 ic_0 ?_
            exact r_zret (pc := 90) O rfl d_W_hasCommand_90 nb_0
          · refine r_iload_n (pc := 80) O d_W_hasCommand_80 3 rfl ?_
            refine r_iconst (pc := 81) O d_W_hasCommand_81 ic_m1 ?_
            refine r_icmp_ne (tgt := 89) (pc := 82) O d_W_hasCommand_82 (by decide) (fun q82 => ?_) (fun q82 => ?_)
            · refine r_iconst (pc := 89) O d_W_hasCommand_89 ic_0 ?_
              exact r_zret (pc := 90) O rfl d_W_hasCommand_90 nb_0
            · refine r_iconst (pc := 85) O d_W_hasCommand_85 ic_1 ?_
              refine r_goto (pc := 86) O d_W_hasCommand_86 (tgt := 90) (by decide) ?_
              exact r_zret (pc := 90) O rfl d_W_hasCommand_90 nb_1
        · refine r_ite (fun q1_4 => ?_) (fun q1_4 => ?_)
          · refine r_tin (tgt := 72) (pc := 1) O d_W_hasCommand_1 (by rw [q1_4] <;> decide) (by rw [q1_4] <;> decide) (by rw [q1_4] <;> rfl) (by decide) ?_
            refine r_aload_n (pc := 72) O d_W_hasCommand_72 0 rfl ?_
            refine r_iload_n (pc := 73) O d_W_hasCommand_73 2 rfl ?_
            refine r_callVip (pc := 74) O [.int p2] rfl rfl (R_W_hasThing n p2 h) cw_W_hasCommand_74 wm_415 wm_416 rfl (Nat.le_of_ble_eq_true rfl) d_W_hasCommand_74 rfl (fun v74 => ?_)
            refine r_if_eq (tgt := 89) (pc := 77) O d_W_hasCommand_77 (by decide) (fun q77 => ?_) (fun q77 => ?_)
            · refine r_iconst (pc := 89) O d_W_hasCommand_89 ic_0 ?_
              exact r_zret (pc := 90) O rfl d_W_hasCommand_90 nb_0
            · refine r_iload_n (pc := 80) O d_W_hasCommand_80 3 rfl ?_
              refine r_iconst (pc := 81) O d_W_hasCommand_81 ic_m1 ?_
              refine r_icmp_ne (tgt := 89) (pc := 82) O d_W_hasCommand_82 (by decide) (fun q82 => ?_) (fun q82 => ?_)
              · refine r_iconst (pc := 89) O d_W_hasCommand_89 ic_0 ?_
                exact r_zret (pc := 90) O rfl d_W_hasCommand_90 nb_0
              · refine r_iconst (pc := 85) O d_W_hasCommand_85 ic_1 ?_
                refine r_goto (pc := 86) O d_W_hasCommand_86 (tgt := 90) (by decide) ?_
                exact r_zret (pc := 90) O rfl d_W_hasCommand_90 nb_1
          · refine r_ite (fun q1_5 => ?_) (fun q1_5 => ?_)
            · refine r_tin (tgt := 91) (pc := 1) O d_W_hasCommand_1 (by rw [q1_5] <;> decide) (by rw [q1_5] <;> decide) (by rw [q1_5] <;> rfl) (by decide) ?_
              refine r_aload_n (pc := 91) O d_W_hasCommand_91 0 rfl ?_
              refine r_iload_n (pc := 92) O d_W_hasCommand_92 2 rfl ?_
              refine r_callVip (pc := 93) O [.int p2] rfl rfl (R_W_hasThing n p2 h) cw_W_hasCommand_93 wm_415 wm_416 rfl (Nat.le_of_ble_eq_true rfl) d_W_hasCommand_93 rfl (fun v93 => ?_)
              refine r_if_eq (tgt := 111) (pc := 96) O d_W_hasCommand_96 (by decide) (fun q96 => ?_) (fun q96 => ?_)
              · refine r_iconst (pc := 111) O d_W_hasCommand_111 ic_0 ?_
                exact r_zret (pc := 112) O rfl d_W_hasCommand_112 nb_0
              · refine r_aload_n (pc := 99) O d_W_hasCommand_99 0 rfl ?_
                refine r_iload_n (pc := 100) O d_W_hasCommand_100 3 rfl ?_
                refine r_callVip (pc := 101) O [.int p3] rfl rfl (R_W_hasThing n p3 h) cw_W_hasCommand_101 wm_415 wm_416 rfl (Nat.le_of_ble_eq_true rfl) d_W_hasCommand_101 rfl (fun v101 => ?_)
                refine r_if_eq (tgt := 111) (pc := 104) O d_W_hasCommand_104 (by decide) (fun q104 => ?_) (fun q104 => ?_)
                · refine r_iconst (pc := 111) O d_W_hasCommand_111 ic_0 ?_
                  exact r_zret (pc := 112) O rfl d_W_hasCommand_112 nb_0
                · refine r_iconst (pc := 107) O d_W_hasCommand_107 ic_1 ?_
                  refine r_goto (pc := 108) O d_W_hasCommand_108 (tgt := 112) (by decide) ?_
                  exact r_zret (pc := 112) O rfl d_W_hasCommand_112 nb_1
            · refine r_ite (fun q1_6 => ?_) (fun q1_6 => ?_)
              · refine r_tin (tgt := 113) (pc := 1) O d_W_hasCommand_1 (by rw [q1_6] <;> decide) (by rw [q1_6] <;> decide) (by rw [q1_6] <;> rfl) (by decide) ?_
                refine r_iload_n (pc := 113) O d_W_hasCommand_113 2 rfl ?_
                refine r_iconst (pc := 114) O d_W_hasCommand_114 ic_m1 ?_
                refine r_icmp_ne (tgt := 127) (pc := 115) O d_W_hasCommand_115 (by decide) (fun q115 => ?_) (fun q115 => ?_)
                · refine r_iconst (pc := 127) O d_W_hasCommand_127 ic_0 ?_
                  exact r_zret (pc := 128) O rfl d_W_hasCommand_128 nb_0
                · refine r_iload_n (pc := 118) O d_W_hasCommand_118 3 rfl ?_
                  refine r_iconst (pc := 119) O d_W_hasCommand_119 ic_m1 ?_
                  refine r_icmp_ne (tgt := 127) (pc := 120) O d_W_hasCommand_120 (by decide) (fun q120 => ?_) (fun q120 => ?_)
                  · refine r_iconst (pc := 127) O d_W_hasCommand_127 ic_0 ?_
                    exact r_zret (pc := 128) O rfl d_W_hasCommand_128 nb_0
                  · refine r_iconst (pc := 123) O d_W_hasCommand_123 ic_1 ?_
                    refine r_goto (pc := 124) O d_W_hasCommand_124 (tgt := 128) (by decide) ?_
                    exact r_zret (pc := 128) O rfl d_W_hasCommand_128 nb_1
              · refine r_ite (fun q1_7 => ?_) (fun q1_7 => ?_)
                · refine r_tin (tgt := 129) (pc := 1) O d_W_hasCommand_1 (by rw [q1_7] <;> decide) (by rw [q1_7] <;> decide) (by rw [q1_7] <;> rfl) (by decide) ?_
                  refine r_iload_n (pc := 129) O d_W_hasCommand_129 2 rfl ?_
                  refine r_iconst (pc := 130) O d_W_hasCommand_130 ic_m1 ?_
                  refine r_icmp_eq (tgt := 142) (pc := 131) O d_W_hasCommand_131 (by decide) (fun q131 => ?_) (fun q131 => ?_)
                  · exact r_lv [0, 3] rfl (hK142 )
                  · refine r_aload_n (pc := 134) O d_W_hasCommand_134 0 rfl ?_
                    refine r_iload_n (pc := 135) O d_W_hasCommand_135 2 rfl ?_
                    refine r_callVip (pc := 136) O [.int p2] rfl rfl (R_W_hasThing n p2 h) cw_W_hasCommand_136 wm_415 wm_416 rfl (Nat.le_of_ble_eq_true rfl) d_W_hasCommand_136 rfl (fun v136 => ?_)
                    refine r_if_eq (tgt := 159) (pc := 139) O d_W_hasCommand_139 (by decide) (fun q139 => ?_) (fun q139 => ?_)
                    · refine r_iconst (pc := 159) O d_W_hasCommand_159 ic_0 ?_
                      exact r_zret (pc := 160) O rfl d_W_hasCommand_160 nb_0
                    · exact r_lv [0, 3] rfl (hK142 )
                · refine r_ite (fun q1_8 => ?_) (fun q1_8 => ?_)
                  · refine r_tin (tgt := 129) (pc := 1) O d_W_hasCommand_1 (by rw [q1_8] <;> decide) (by rw [q1_8] <;> decide) (by rw [q1_8] <;> rfl) (by decide) ?_
                    refine r_iload_n (pc := 129) O d_W_hasCommand_129 2 rfl ?_
                    refine r_iconst (pc := 130) O d_W_hasCommand_130 ic_m1 ?_
                    refine r_icmp_eq (tgt := 142) (pc := 131) O d_W_hasCommand_131 (by decide) (fun q131 => ?_) (fun q131 => ?_)
                    · exact r_lv [0, 3] rfl (hK142 )
                    · refine r_aload_n (pc := 134) O d_W_hasCommand_134 0 rfl ?_
                      refine r_iload_n (pc := 135) O d_W_hasCommand_135 2 rfl ?_
                      refine r_callVip (pc := 136) O [.int p2] rfl rfl (R_W_hasThing n p2 h) cw_W_hasCommand_136 wm_415 wm_416 rfl (Nat.le_of_ble_eq_true rfl) d_W_hasCommand_136 rfl (fun v136 => ?_)
                      refine r_if_eq (tgt := 159) (pc := 139) O d_W_hasCommand_139 (by decide) (fun q139 => ?_) (fun q139 => ?_)
                      · refine r_iconst (pc := 159) O d_W_hasCommand_159 ic_0 ?_
                        exact r_zret (pc := 160) O rfl d_W_hasCommand_160 nb_0
                      · exact r_lv [0, 3] rfl (hK142 )
                  · refine r_tout (tgt := 161) (pc := 1) O d_W_hasCommand_1 (by have z0 := lv_neT (a := 0) q1_0 (by decide); have z1 := lv_neT (a := 1) q1_1 (by decide); have z2 := lv_neT (a := 2) q1_2 (by decide); have z3 := lv_neT (a := 3) q1_3 (by decide); have z4 := lv_neT (a := 4) q1_4 (by decide); have z5 := lv_neT (a := 5) q1_5 (by decide); have z6 := lv_neT (a := 6) q1_6 (by decide); have z7 := lv_neT (a := 7) q1_7 (by decide); have z8 := lv_neT (a := 8) q1_8 (by decide); omega) (by decide) ?_
                    refine r_iconst (pc := 161) O d_W_hasCommand_161 ic_0 ?_
                    exact r_zret (pc := 162) O rfl d_W_hasCommand_162 nb_0
def F_W_isWalker_2 (n : Nat) (p1 : Int32) (h : sHp) (rec2 : Int32 → Option Int32) (q : Int32) : Option Int32 :=
  if (h.1 2 16) ≤ q then (some 0) else (sGd (sIn q 2) (if (h.1 17 (ix q)) = p1 then (some 1) else (rec2 (q + 1))))
def J_W_isWalker (n : Nat) (p1 : Int32) (h : sHp) : Option Int32 :=
  sFx (F_W_isWalker_2 n p1 h ) n 0
set_option maxRecDepth 20000 in
set_option maxHeartbeats 4000000 in
theorem R_W_isWalker (n : Nat) (p1 : Int32) (h : sHp) : sM Zc (sPi h) y_W_isWalker prog_8_method_11_code 3 (some .boolean) rm_W_isWalker [.ref 2, .int p1] h (J_W_isWalker n p1 h) := by
  refine sM_of (own := "StoryStates$World") rfl (by decide) (Nat.le_of_ble_eq_true rfl) (fun M V O => ?_)
  unfold J_W_isWalker
  refine r_lv (lv' := [(0, .ref 2), (1, .int p1)]) [0, 1] rfl ?_
  have hL2 : ∀ (q : Int32), sS Zc M V (sEb (sPi h)) 2 [(0, .ref 2), (1, .int p1), (2, .int q)] [] h (sFx (F_W_isWalker_2 n p1 h ) n q) := by
    skip
    refine r_fx (fun q => [(0, .ref 2), (1, .int p1), (2, .int q)]) (fun q => h) (F_W_isWalker_2 n p1 h ) (fun rec2 hrec2 q => ?_) n
    skip
    show sS Zc M V (sEb (sPi h)) 2 [(0, .ref 2), (1, .int p1), (2, .int q)] [] h _
    unfold F_W_isWalker_2
    try dsimp only
    refine r_iload_n (pc := 2) O d_W_isWalker_2 2 rfl ?_
    refine r_aload_n (pc := 3) O d_W_isWalker_3 0 rfl ?_
    refine r_getI (x := (h.1 2 16)) (pc := 4) O gf_c_W_69_2 d_W_isWalker_4 rfl ?_
    refine r_icmp_ge (tgt := 28) (pc := 7) O d_W_isWalker_7 (by decide) (fun q7 => ?_) (fun q7 => ?_)
    · refine r_iconst (pc := 28) O d_W_isWalker_28 ic_0 ?_
      exact r_zret (pc := 29) O rfl d_W_isWalker_29 nb_0
    · refine r_aload_n (pc := 10) O d_W_isWalker_10 0 rfl ?_
      refine r_getR (pc := 11) O gf_c_W_41_2 d_W_isWalker_11 ?_
      refine r_iload_n (pc := 14) O d_W_isWalker_14 2 rfl ?_
      refine r_iald (x := (h.1 17 (ix q))) (pc := 15) O rfl d_W_isWalker_15 rfl ?_
      refine r_iload_n (pc := 16) O d_W_isWalker_16 1 rfl ?_
      refine r_icmp_ne (tgt := 22) (pc := 17) O d_W_isWalker_17 (by decide) (fun q17 => ?_) (fun q17 => ?_)
      · refine r_iinc (lv' := [(2, .int (q + 1)), (0, .ref 2), (1, .int p1)]) (pc := 22) O d_W_isWalker_22 2 rfl (congrArg (HAdd.hAdd _) ic_1) (by decide) rfl ?_
        refine r_goto (pc := 25) O d_W_isWalker_25 (tgt := 2) (by decide) ?_
        exact r_lv [1, 2, 0] rfl (hrec2 (q + 1))
      · refine r_iconst (pc := 20) O d_W_isWalker_20 ic_1 ?_
        exact r_zret (pc := 21) O rfl d_W_isWalker_21 nb_1
  refine r_iconst (pc := 0) O d_W_isWalker_0 ic_0 ?_
  refine r_istore_n (lv' := [(2, .int 0), (0, .ref 2), (1, .int p1)]) (pc := 1) O d_W_isWalker_1 rfl (by decide) rfl ?_
  exact r_lv [1, 2, 0] rfl (hL2 0)
def J_W_setExit (n : Nat) (p1 : Int32) (p2 : Int32) (p3 : Int32) (p4 : Int32) (h : sHp) : Option sHp :=
  sGd (sIn ((p1 * 4) + p2) 24) (sGd (sIn ((p1 * 4) + p2) 24) (some (pI (pI h 10 (ix ((p1 * 4) + p2)) p3) 11 (ix ((p1 * 4) + p2)) p4)))
set_option maxRecDepth 20000 in
set_option maxHeartbeats 4000000 in
theorem R_W_setExit (n : Nat) (p1 : Int32) (p2 : Int32) (p3 : Int32) (p4 : Int32) (h : sHp) : sM Zc sOv y_W_setExit prog_8_method_13_code 5 none rm_W_setExit [.ref 2, .int p1, .int p2, .int p3, .int p4] h (J_W_setExit n p1 p2 p3 p4 h) := by
  refine sM_of (own := "StoryStates$World") rfl (by decide) (Nat.le_of_ble_eq_true rfl) (fun M V O => ?_)
  unfold J_W_setExit
  refine r_lv (lv' := [(0, .ref 2), (1, .int p1), (2, .int p2), (3, .int p3), (4, .int p4)]) [0, 1, 2, 3, 4] rfl ?_
  refine r_aload_n (pc := 0) O d_W_setExit_0 0 rfl ?_
  refine r_getR (pc := 1) O gf_c_W_9_2 d_W_setExit_1 ?_
  refine r_iload_n (pc := 4) O d_W_setExit_4 1 rfl ?_
  refine r_iconst (pc := 5) O d_W_setExit_5 ic_4 ?_
  refine r_imul (pc := 6) O d_W_setExit_6 ?_
  refine r_iload_n (pc := 7) O d_W_setExit_7 2 rfl ?_
  refine r_iadd (pc := 8) O d_W_setExit_8 ?_
  refine r_iload_n (pc := 9) O d_W_setExit_9 3 rfl ?_
  refine r_iast (pc := 10) O rfl d_W_setExit_10 ?_
  refine r_aload_n (pc := 11) O d_W_setExit_11 0 rfl ?_
  refine r_getR (pc := 12) O gf_c_W_15_2 d_W_setExit_12 ?_
  refine r_iload_n (pc := 15) O d_W_setExit_15 1 rfl ?_
  refine r_iconst (pc := 16) O d_W_setExit_16 ic_4 ?_
  refine r_imul (pc := 17) O d_W_setExit_17 ?_
  refine r_iload_n (pc := 18) O d_W_setExit_18 2 rfl ?_
  refine r_iadd (pc := 19) O d_W_setExit_19 ?_
  refine r_iload (pc := 20) O d_W_setExit_20 4 rfl ?_
  refine r_iast (pc := 22) O rfl d_W_setExit_22 ?_
  exact r_vret (pc := 23) O rfl d_W_setExit_23
def F_W_addRoom_2 (n : Nat) (rec2 : Int32 × sHp → Option (Int32 × sHp)) (q : Int32 × sHp) : Option (Int32 × sHp) :=
  if 4 ≤ q.1 then (some ((q.2.1 2 12), (pI q.2 2 12 ((q.2.1 2 12) + 1)))) else ((J_W_setExit n (q.2.1 2 12) q.1 (-1) (-1) q.2).bind fun v15 =>
  rec2 ((q.1 + 1), v15))
def J_W_addRoom (n : Nat)  (h : sHp) : Option (Int32 × sHp) :=
  sFx (F_W_addRoom_2 n ) n (0, h)
set_option maxRecDepth 20000 in
set_option maxHeartbeats 4000000 in
theorem R_W_addRoom (n : Nat)  (h : sHp) : sM Zc sOi y_W_addRoom prog_8_method_12_code 2 (some .int) rm_W_addRoom [.ref 2] h (J_W_addRoom n  h) := by
  refine sM_of (own := "StoryStates$World") rfl (by decide) (Nat.le_of_ble_eq_true rfl) (fun M V O => ?_)
  unfold J_W_addRoom
  refine r_lv (lv' := [(0, .ref 2)]) [0] rfl ?_
  have hL2 : ∀ (q : Int32 × sHp), sS Zc M V (sEb sOi) 2 [(0, .ref 2), (1, .int q.1)] [] q.2 (sFx (F_W_addRoom_2 n ) n q) := by
    skip
    refine r_fx (fun q => [(0, .ref 2), (1, .int q.1)]) (fun q => q.2) (F_W_addRoom_2 n ) (fun rec2 hrec2 q => ?_) n
    obtain ⟨qv0, qv1⟩ := q
    show sS Zc M V (sEb sOi) 2 [(0, .ref 2), (1, .int qv0)] [] qv1 _
    unfold F_W_addRoom_2
    try dsimp only
    refine r_iload_n (pc := 2) O d_W_addRoom_2 1 rfl ?_
    refine r_iconst (pc := 3) O d_W_addRoom_3 ic_4 ?_
    refine r_icmp_ge (tgt := 24) (pc := 4) O d_W_addRoom_4 (by decide) (fun q4 => ?_) (fun q4 => ?_)
    · refine r_aload_n (pc := 24) O d_W_addRoom_24 0 rfl ?_
      refine r_dup (pc := 25) O d_W_addRoom_25 rfl ?_
      refine r_getI (x := (qv1.1 2 12)) (pc := 26) O gf_c_W_53_2 d_W_addRoom_26 rfl ?_
      refine r_dup_x1 (pc := 29) O d_W_addRoom_29 rfl rfl ?_
      refine r_iconst (pc := 30) O d_W_addRoom_30 ic_1 ?_
      refine r_iadd (pc := 31) O d_W_addRoom_31 ?_
      refine r_putI (pc := 32) O pf_c_W_53_2 d_W_addRoom_32 ?_
      exact r_iret (pc := 35) O rfl d_W_addRoom_35
    · refine r_aload_n (pc := 7) O d_W_addRoom_7 0 rfl ?_
      refine r_aload_n (pc := 8) O d_W_addRoom_8 0 rfl ?_
      refine r_getI (x := (qv1.1 2 12)) (pc := 9) O gf_c_W_53_2 d_W_addRoom_9 rfl ?_
      refine r_iload_n (pc := 12) O d_W_addRoom_12 1 rfl ?_
      refine r_iconst (pc := 13) O d_W_addRoom_13 ic_m1 ?_
      refine r_iconst (pc := 14) O d_W_addRoom_14 ic_m1 ?_
      refine r_callVv (pc := 15) O [.int (qv1.1 2 12), .int qv0, .int (-1), .int (-1)] rfl rfl (R_W_setExit n (qv1.1 2 12) qv0 (-1) (-1) qv1) cw_W_addRoom_15 wm_397 wm_398 rfl (Nat.le_of_ble_eq_true rfl) d_W_addRoom_15 rfl (fun v15 => ?_)
      refine r_iinc (lv' := [(1, .int (qv0 + 1)), (0, .ref 2)]) (pc := 18) O d_W_addRoom_18 1 rfl (congrArg (HAdd.hAdd _) ic_1) (by decide) rfl ?_
      refine r_goto (pc := 21) O d_W_addRoom_21 (tgt := 2) (by decide) ?_
      exact r_lv [1, 0] rfl (hrec2 ((qv0 + 1), v15))
  refine r_iconst (pc := 0) O d_W_addRoom_0 ic_0 ?_
  refine r_istore_n (lv' := [(1, .int 0), (0, .ref 2)]) (pc := 1) O d_W_addRoom_1 rfl (by decide) rfl ?_
  exact r_lv [1, 0] rfl (hL2 (0, h))
def J_W_addThing (n : Nat) (p1 : Int32) (p2 : Int32) (h : sHp) : Option (Int32 × sHp) :=
  sGd (sIn (h.1 2 13) 6) (sGd (sIn (h.1 2 13) 6) (some ((h.1 2 13), (pI (pI (pI h 12 (ix (h.1 2 13)) p1) 13 (ix (h.1 2 13)) p2) 2 13 ((h.1 2 13) + 1)))))
set_option maxRecDepth 20000 in
set_option maxHeartbeats 4000000 in
theorem R_W_addThing (n : Nat) (p1 : Int32) (p2 : Int32) (h : sHp) : sM Zc sOi y_W_addThing prog_8_method_14_code 3 (some .int) rm_W_addThing [.ref 2, .int p1, .int p2] h (J_W_addThing n p1 p2 h) := by
  refine sM_of (own := "StoryStates$World") rfl (by decide) (Nat.le_of_ble_eq_true rfl) (fun M V O => ?_)
  unfold J_W_addThing
  refine r_lv (lv' := [(0, .ref 2), (1, .int p1), (2, .int p2)]) [0, 1, 2] rfl ?_
  refine r_aload_n (pc := 0) O d_W_addThing_0 0 rfl ?_
  refine r_getR (pc := 1) O gf_c_W_18_2 d_W_addThing_1 ?_
  refine r_aload_n (pc := 4) O d_W_addThing_4 0 rfl ?_
  refine r_getI (x := (h.1 2 13)) (pc := 5) O gf_c_W_57_2 d_W_addThing_5 rfl ?_
  refine r_iload_n (pc := 8) O d_W_addThing_8 1 rfl ?_
  refine r_iast (pc := 9) O rfl d_W_addThing_9 ?_
  refine r_aload_n (pc := 10) O d_W_addThing_10 0 rfl ?_
  refine r_getR (pc := 11) O gf_c_W_21_2 d_W_addThing_11 ?_
  refine r_aload_n (pc := 14) O d_W_addThing_14 0 rfl ?_
  refine r_getI (x := (h.1 2 13)) (pc := 15) O gf_c_W_57_2 d_W_addThing_15 rfl ?_
  refine r_iload_n (pc := 18) O d_W_addThing_18 2 rfl ?_
  refine r_iast (pc := 19) O rfl d_W_addThing_19 ?_
  refine r_aload_n (pc := 20) O d_W_addThing_20 0 rfl ?_
  refine r_dup (pc := 21) O d_W_addThing_21 rfl ?_
  refine r_getI (x := (h.1 2 13)) (pc := 22) O gf_c_W_57_2 d_W_addThing_22 rfl ?_
  refine r_dup_x1 (pc := 25) O d_W_addThing_25 rfl rfl ?_
  refine r_iconst (pc := 26) O d_W_addThing_26 ic_1 ?_
  refine r_iadd (pc := 27) O d_W_addThing_27 ?_
  refine r_putI (pc := 28) O pf_c_W_57_2 d_W_addThing_28 ?_
  exact r_iret (pc := 31) O rfl d_W_addThing_31
def J_W_addNumber (n : Nat) (p1 : Int32) (p2 : Int32) (h : sHp) : Option (Int32 × sHp) :=
  sGd (sIn (h.1 2 14) 3) (sGd (sIn (h.1 2 14) 3) (some ((h.1 2 14), (pI (pI (pI h 14 (ix (h.1 2 14)) p1) 15 (ix (h.1 2 14)) p2) 2 14 ((h.1 2 14) + 1)))))
set_option maxRecDepth 20000 in
set_option maxHeartbeats 4000000 in
theorem R_W_addNumber (n : Nat) (p1 : Int32) (p2 : Int32) (h : sHp) : sM Zc sOi y_W_addNumber prog_8_method_15_code 3 (some .int) rm_W_addNumber [.ref 2, .int p1, .int p2] h (J_W_addNumber n p1 p2 h) := by
  refine sM_of (own := "StoryStates$World") rfl (by decide) (Nat.le_of_ble_eq_true rfl) (fun M V O => ?_)
  unfold J_W_addNumber
  refine r_lv (lv' := [(0, .ref 2), (1, .int p1), (2, .int p2)]) [0, 1, 2] rfl ?_
  refine r_aload_n (pc := 0) O d_W_addNumber_0 0 rfl ?_
  refine r_getR (pc := 1) O gf_c_W_24_2 d_W_addNumber_1 ?_
  refine r_aload_n (pc := 4) O d_W_addNumber_4 0 rfl ?_
  refine r_getI (x := (h.1 2 14)) (pc := 5) O gf_c_W_60_2 d_W_addNumber_5 rfl ?_
  refine r_iload_n (pc := 8) O d_W_addNumber_8 1 rfl ?_
  refine r_iast (pc := 9) O rfl d_W_addNumber_9 ?_
  refine r_aload_n (pc := 10) O d_W_addNumber_10 0 rfl ?_
  refine r_getR (pc := 11) O gf_c_W_27_2 d_W_addNumber_11 ?_
  refine r_aload_n (pc := 14) O d_W_addNumber_14 0 rfl ?_
  refine r_getI (x := (h.1 2 14)) (pc := 15) O gf_c_W_60_2 d_W_addNumber_15 rfl ?_
  refine r_iload_n (pc := 18) O d_W_addNumber_18 2 rfl ?_
  refine r_iast (pc := 19) O rfl d_W_addNumber_19 ?_
  refine r_aload_n (pc := 20) O d_W_addNumber_20 0 rfl ?_
  refine r_dup (pc := 21) O d_W_addNumber_21 rfl ?_
  refine r_getI (x := (h.1 2 14)) (pc := 22) O gf_c_W_60_2 d_W_addNumber_22 rfl ?_
  refine r_dup_x1 (pc := 25) O d_W_addNumber_25 rfl rfl ?_
  refine r_iconst (pc := 26) O d_W_addNumber_26 ic_1 ?_
  refine r_iadd (pc := 27) O d_W_addNumber_27 ?_
  refine r_putI (pc := 28) O pf_c_W_60_2 d_W_addNumber_28 ?_
  exact r_iret (pc := 31) O rfl d_W_addNumber_31
def J_W_addEnding (n : Nat) (p1 : Int32) (h : sHp) : Option (Int32 × sHp) :=
  sGd (sIn (h.1 2 15) 4) (some ((h.1 2 15), (pI (pI h 16 (ix (h.1 2 15)) (vp_nar .boolean p1)) 2 15 ((h.1 2 15) + 1))))
set_option maxRecDepth 20000 in
set_option maxHeartbeats 4000000 in
theorem R_W_addEnding (n : Nat) (p1 : Int32) (h : sHp) : sM Zc sOi y_W_addEnding prog_8_method_16_code 2 (some .int) rm_W_addEnding [.ref 2, .int p1] h (J_W_addEnding n p1 h) := by
  refine sM_of (own := "StoryStates$World") rfl (by decide) (Nat.le_of_ble_eq_true rfl) (fun M V O => ?_)
  unfold J_W_addEnding
  refine r_lv (lv' := [(0, .ref 2), (1, .int p1)]) [0, 1] rfl ?_
  refine r_aload_n (pc := 0) O d_W_addEnding_0 0 rfl ?_
  refine r_getR (pc := 1) O gf_c_W_30_2 d_W_addEnding_1 ?_
  refine r_aload_n (pc := 4) O d_W_addEnding_4 0 rfl ?_
  refine r_getI (x := (h.1 2 15)) (pc := 5) O gf_c_W_63_2 d_W_addEnding_5 rfl ?_
  refine r_iload_n (pc := 8) O d_W_addEnding_8 1 rfl ?_
  refine r_zast (pc := 9) O rfl d_W_addEnding_9 rfl ?_
  refine r_aload_n (pc := 10) O d_W_addEnding_10 0 rfl ?_
  refine r_dup (pc := 11) O d_W_addEnding_11 rfl ?_
  refine r_getI (x := (h.1 2 15)) (pc := 12) O gf_c_W_63_2 d_W_addEnding_12 rfl ?_
  refine r_dup_x1 (pc := 15) O d_W_addEnding_15 rfl rfl ?_
  refine r_iconst (pc := 16) O d_W_addEnding_16 ic_1 ?_
  refine r_iadd (pc := 17) O d_W_addEnding_17 ?_
  refine r_putI (pc := 18) O pf_c_W_63_2 d_W_addEnding_18 ?_
  exact r_iret (pc := 21) O rfl d_W_addEnding_21
def J_W_addWalker (n : Nat) (p1 : Int32) (p2 : Int32) (p3 : Int32) (p4 : Int32) (h : sHp) : Option sHp :=
  sGd (sIn (h.1 2 16) 2) (sGd (sIn ((h.1 2 16) * 3) 6) (sGd (sIn (((h.1 2 16) * 3) + 1) 6) (sGd (sIn (((h.1 2 16) * 3) + 2) 6) (sGd (sIn p1 6) (some (pI (pI (pI (pI (pI (pI h 17 (ix (h.1 2 16)) p1) 18 (ix ((h.1 2 16) * 3)) p2) 18 (ix (((h.1 2 16) * 3) + 1)) p3) 18 (ix (((h.1 2 16) * 3) + 2)) p4) 12 (ix p1) p2) 2 16 ((h.1 2 16) + 1)))))))
set_option maxRecDepth 20000 in
set_option maxHeartbeats 4000000 in
theorem R_W_addWalker (n : Nat) (p1 : Int32) (p2 : Int32) (p3 : Int32) (p4 : Int32) (h : sHp) : sM Zc sOv y_W_addWalker prog_8_method_17_code 5 none rm_W_addWalker [.ref 2, .int p1, .int p2, .int p3, .int p4] h (J_W_addWalker n p1 p2 p3 p4 h) := by
  refine sM_of (own := "StoryStates$World") rfl (by decide) (Nat.le_of_ble_eq_true rfl) (fun M V O => ?_)
  unfold J_W_addWalker
  refine r_lv (lv' := [(0, .ref 2), (1, .int p1), (2, .int p2), (3, .int p3), (4, .int p4)]) [0, 1, 2, 3, 4] rfl ?_
  refine r_aload_n (pc := 0) O d_W_addWalker_0 0 rfl ?_
  refine r_getR (pc := 1) O gf_c_W_41_2 d_W_addWalker_1 ?_
  refine r_aload_n (pc := 4) O d_W_addWalker_4 0 rfl ?_
  refine r_getI (x := (h.1 2 16)) (pc := 5) O gf_c_W_69_2 d_W_addWalker_5 rfl ?_
  refine r_iload_n (pc := 8) O d_W_addWalker_8 1 rfl ?_
  refine r_iast (pc := 9) O rfl d_W_addWalker_9 ?_
  refine r_aload_n (pc := 10) O d_W_addWalker_10 0 rfl ?_
  refine r_getR (pc := 11) O gf_c_W_44_2 d_W_addWalker_11 ?_
  refine r_aload_n (pc := 14) O d_W_addWalker_14 0 rfl ?_
  refine r_getI (x := (h.1 2 16)) (pc := 15) O gf_c_W_69_2 d_W_addWalker_15 rfl ?_
  refine r_iconst (pc := 18) O d_W_addWalker_18 ic_3 ?_
  refine r_imul (pc := 19) O d_W_addWalker_19 ?_
  refine r_iload_n (pc := 20) O d_W_addWalker_20 2 rfl ?_
  refine r_iast (pc := 21) O rfl d_W_addWalker_21 ?_
  refine r_aload_n (pc := 22) O d_W_addWalker_22 0 rfl ?_
  refine r_getR (pc := 23) O gf_c_W_44_2 d_W_addWalker_23 ?_
  refine r_aload_n (pc := 26) O d_W_addWalker_26 0 rfl ?_
  refine r_getI (x := (h.1 2 16)) (pc := 27) O gf_c_W_69_2 d_W_addWalker_27 rfl ?_
  refine r_iconst (pc := 30) O d_W_addWalker_30 ic_3 ?_
  refine r_imul (pc := 31) O d_W_addWalker_31 ?_
  refine r_iconst (pc := 32) O d_W_addWalker_32 ic_1 ?_
  refine r_iadd (pc := 33) O d_W_addWalker_33 ?_
  refine r_iload_n (pc := 34) O d_W_addWalker_34 3 rfl ?_
  refine r_iast (pc := 35) O rfl d_W_addWalker_35 ?_
  refine r_aload_n (pc := 36) O d_W_addWalker_36 0 rfl ?_
  refine r_getR (pc := 37) O gf_c_W_44_2 d_W_addWalker_37 ?_
  refine r_aload_n (pc := 40) O d_W_addWalker_40 0 rfl ?_
  refine r_getI (x := (h.1 2 16)) (pc := 41) O gf_c_W_69_2 d_W_addWalker_41 rfl ?_
  refine r_iconst (pc := 44) O d_W_addWalker_44 ic_3 ?_
  refine r_imul (pc := 45) O d_W_addWalker_45 ?_
  refine r_iconst (pc := 46) O d_W_addWalker_46 ic_2 ?_
  refine r_iadd (pc := 47) O d_W_addWalker_47 ?_
  refine r_iload (pc := 48) O d_W_addWalker_48 4 rfl ?_
  refine r_iast (pc := 50) O rfl d_W_addWalker_50 ?_
  refine r_aload_n (pc := 51) O d_W_addWalker_51 0 rfl ?_
  refine r_getR (pc := 52) O gf_c_W_18_2 d_W_addWalker_52 ?_
  refine r_iload_n (pc := 55) O d_W_addWalker_55 1 rfl ?_
  refine r_iload_n (pc := 56) O d_W_addWalker_56 2 rfl ?_
  refine r_iast (pc := 57) O rfl d_W_addWalker_57 ?_
  refine r_aload_n (pc := 58) O d_W_addWalker_58 0 rfl ?_
  refine r_dup (pc := 59) O d_W_addWalker_59 rfl ?_
  refine r_getI (x := (h.1 2 16)) (pc := 60) O gf_c_W_69_2 d_W_addWalker_60 rfl ?_
  refine r_iconst (pc := 63) O d_W_addWalker_63 ic_1 ?_
  refine r_iadd (pc := 64) O d_W_addWalker_64 ?_
  refine r_putI (pc := 65) O pf_c_W_69_2 d_W_addWalker_65 ?_
  exact r_vret (pc := 68) O rfl d_W_addWalker_68
def J_W_addTimer (n : Nat) (p1 : Int32) (p2 : Int32) (h : sHp) : Option sHp :=
  sGd (sIn (h.1 2 17) 2) (sGd (sIn (h.1 2 17) 2) (sGd (sIn p1 12) (some (pI (pI (pI (pI h 19 (ix (h.1 2 17)) p1) 20 (ix (h.1 2 17)) p2) 25 (ix p1) 1) 2 17 ((h.1 2 17) + 1)))))
set_option maxRecDepth 20000 in
set_option maxHeartbeats 4000000 in
theorem R_W_addTimer (n : Nat) (p1 : Int32) (p2 : Int32) (h : sHp) : sM Zc sOv y_W_addTimer prog_8_method_18_code 3 none rm_W_addTimer [.ref 2, .int p1, .int p2] h (J_W_addTimer n p1 p2 h) := by
  refine sM_of (own := "StoryStates$World") rfl (by decide) (Nat.le_of_ble_eq_true rfl) (fun M V O => ?_)
  unfold J_W_addTimer
  refine r_lv (lv' := [(0, .ref 2), (1, .int p1), (2, .int p2)]) [0, 1, 2] rfl ?_
  refine r_aload_n (pc := 0) O d_W_addTimer_0 0 rfl ?_
  refine r_getR (pc := 1) O gf_c_W_47_2 d_W_addTimer_1 ?_
  refine r_aload_n (pc := 4) O d_W_addTimer_4 0 rfl ?_
  refine r_getI (x := (h.1 2 17)) (pc := 5) O gf_c_W_72_2 d_W_addTimer_5 rfl ?_
  refine r_iload_n (pc := 8) O d_W_addTimer_8 1 rfl ?_
  refine r_iast (pc := 9) O rfl d_W_addTimer_9 ?_
  refine r_aload_n (pc := 10) O d_W_addTimer_10 0 rfl ?_
  refine r_getR (pc := 11) O gf_c_W_50_2 d_W_addTimer_11 ?_
  refine r_aload_n (pc := 14) O d_W_addTimer_14 0 rfl ?_
  refine r_getI (x := (h.1 2 17)) (pc := 15) O gf_c_W_72_2 d_W_addTimer_15 rfl ?_
  refine r_iload_n (pc := 18) O d_W_addTimer_18 2 rfl ?_
  refine r_iast (pc := 19) O rfl d_W_addTimer_19 ?_
  refine r_aload_n (pc := 20) O d_W_addTimer_20 0 rfl ?_
  refine r_getR (pc := 21) O gf_c_W_37_2 d_W_addTimer_21 ?_
  refine r_getR (pc := 24) O gf_c_W_93_3 d_W_addTimer_24 ?_
  refine r_iload_n (pc := 27) O d_W_addTimer_27 1 rfl ?_
  refine r_iconst (pc := 28) O d_W_addTimer_28 ic_1 ?_
  refine r_zast (pc := 29) O rfl d_W_addTimer_29 nz_1 ?_
  refine r_aload_n (pc := 30) O d_W_addTimer_30 0 rfl ?_
  refine r_dup (pc := 31) O d_W_addTimer_31 rfl ?_
  refine r_getI (x := (h.1 2 17)) (pc := 32) O gf_c_W_72_2 d_W_addTimer_32 rfl ?_
  refine r_iconst (pc := 35) O d_W_addTimer_35 ic_1 ?_
  refine r_iadd (pc := 36) O d_W_addTimer_36 ?_
  refine r_putI (pc := 37) O pf_c_W_72_2 d_W_addTimer_37 ?_
  exact r_vret (pc := 40) O rfl d_W_addTimer_40
def J_B_write (n : Nat) (p0 : Int64) (p2 : Int32) (p3 : Int32) (p4 : Int32) (h : sHp) : Option Int64 :=
  some ((p0 &&& ((jLshl (Int32.toInt64 p3) p2) ^^^ (-1))) ||| (jLshl (Int32.toInt64 (p4 &&& p3)) p2))
set_option maxRecDepth 20000 in
set_option maxHeartbeats 4000000 in
theorem R_B_write (n : Nat) (p0 : Int64) (p2 : Int32) (p3 : Int32) (p4 : Int32) (h : sHp) : sM Zc (sPl h) y_B_write prog_3_method_19_code 5 (some .long) rm_B_write [.long p0, .int p2, .int p3, .int p4] h (J_B_write n p0 p2 p3 p4 h) := by
  refine sM_of (own := "StoryStates$Bits") rfl (by decide) (Nat.le_of_ble_eq_true rfl) (fun M V O => ?_)
  unfold J_B_write
  refine r_lv (lv' := [(0, .long p0), (2, .int p2), (3, .int p3), (4, .int p4)]) [0, 1, 2, 3] rfl ?_
  refine r_lload_n (pc := 0) O d_B_write_0 0 rfl ?_
  refine r_iload_n (pc := 1) O d_B_write_1 2 rfl ?_
  refine r_i2l (pc := 2) O d_B_write_2 ?_
  refine r_iload_n (pc := 3) O d_B_write_3 1 rfl ?_
  refine r_lshl (pc := 4) O d_B_write_4 ?_
  refine r_ldc2 (pc := 5) O d_B_write_5 wm_293 ?_
  refine r_lxor (pc := 8) O d_B_write_8 ?_
  refine r_land (pc := 9) O d_B_write_9 ?_
  refine r_iload (pc := 10) O d_B_write_10 3 rfl ?_
  refine r_iload_n (pc := 12) O d_B_write_12 2 rfl ?_
  refine r_iand (pc := 13) O d_B_write_13 ?_
  refine r_i2l (pc := 14) O d_B_write_14 ?_
  refine r_iload_n (pc := 15) O d_B_write_15 1 rfl ?_
  refine r_lshl (pc := 16) O d_B_write_16 ?_
  refine r_lor (pc := 17) O d_B_write_17 ?_
  exact r_lret (pc := 18) O rfl d_B_write_18
def J_B_withPlace (n : Nat) (p0 : Int64) (p2 : Int32) (p3 : Int32) (h : sHp) : Option Int64 :=
  (J_B_write n p0 (3 + (4 * p2)) 15 p3 h).bind fun v9 =>
  some v9
set_option maxRecDepth 20000 in
set_option maxHeartbeats 4000000 in
theorem R_B_withPlace (n : Nat) (p0 : Int64) (p2 : Int32) (p3 : Int32) (h : sHp) : sM Zc (sPl h) y_B_withPlace prog_3_method_5_code 4 (some .long) rm_B_withPlace [.long p0, .int p2, .int p3] h (J_B_withPlace n p0 p2 p3 h) := by
  refine sM_of (own := "StoryStates$Bits") rfl (by decide) (Nat.le_of_ble_eq_true rfl) (fun M V O => ?_)
  unfold J_B_withPlace
  refine r_lv (lv' := [(0, .long p0), (2, .int p2), (3, .int p3)]) [0, 1, 2] rfl ?_
  refine r_lload_n (pc := 0) O d_B_withPlace_0 0 rfl ?_
  refine r_iconst (pc := 1) O d_B_withPlace_1 ic_3 ?_
  refine r_iconst (pc := 2) O d_B_withPlace_2 ic_4 ?_
  refine r_iload_n (pc := 3) O d_B_withPlace_3 1 rfl ?_
  refine r_imul (pc := 4) O d_B_withPlace_4 ?_
  refine r_iadd (pc := 5) O d_B_withPlace_5 ?_
  refine r_bipush (pc := 6) O d_B_withPlace_6 bc_15 ?_
  refine r_iload_n (pc := 8) O d_B_withPlace_8 2 rfl ?_
  refine r_callSlp (pc := 9) O [.long p0, .int (3 + (4 * p2)), .int 15, .int p3] (R_B_write n p0 (3 + (4 * p2)) 15 p3 h) cw_B_withPlace_9 wm_291 rfl (Nat.le_of_ble_eq_true rfl) d_B_withPlace_9 rfl (fun v9 => ?_)
  exact r_lret (pc := 12) O rfl d_B_withPlace_12
def J_B_withOpen (n : Nat) (p0 : Int64) (p2 : Int32) (p3 : Int32) (h : sHp) : Option Int64 :=
  (J_B_write n p0 (27 + p2) 1 p3 h).bind fun v7 =>
  some v7
set_option maxRecDepth 20000 in
set_option maxHeartbeats 4000000 in
theorem R_B_withOpen (n : Nat) (p0 : Int64) (p2 : Int32) (p3 : Int32) (h : sHp) : sM Zc (sPl h) y_B_withOpen prog_3_method_7_code 4 (some .long) rm_B_withOpen [.long p0, .int p2, .int p3] h (J_B_withOpen n p0 p2 p3 h) := by
  refine sM_of (own := "StoryStates$Bits") rfl (by decide) (Nat.le_of_ble_eq_true rfl) (fun M V O => ?_)
  unfold J_B_withOpen
  refine r_lv (lv' := [(0, .long p0), (2, .int p2), (3, .int p3)]) [0, 1, 2] rfl ?_
  refine r_lload_n (pc := 0) O d_B_withOpen_0 0 rfl ?_
  refine r_bipush (pc := 1) O d_B_withOpen_1 bc_27 ?_
  refine r_iload_n (pc := 3) O d_B_withOpen_3 1 rfl ?_
  refine r_iadd (pc := 4) O d_B_withOpen_4 ?_
  refine r_iconst (pc := 5) O d_B_withOpen_5 ic_1 ?_
  refine r_iload_n (pc := 6) O d_B_withOpen_6 2 rfl ?_
  refine r_callSlp (pc := 7) O [.long p0, .int (27 + p2), .int 1, .int p3] (R_B_write n p0 (27 + p2) 1 p3 h) cw_B_withOpen_7 wm_291 rfl (Nat.le_of_ble_eq_true rfl) d_B_withOpen_7 rfl (fun v7 => ?_)
  exact r_lret (pc := 10) O rfl d_B_withOpen_10
def J_B_withAmount (n : Nat) (p0 : Int64) (p2 : Int32) (p3 : Int32) (h : sHp) : Option Int64 :=
  (J_B_write n p0 (33 + (3 * p2)) 7 p3 h).bind fun v10 =>
  some v10
set_option maxRecDepth 20000 in
set_option maxHeartbeats 4000000 in
theorem R_B_withAmount (n : Nat) (p0 : Int64) (p2 : Int32) (p3 : Int32) (h : sHp) : sM Zc (sPl h) y_B_withAmount prog_3_method_9_code 4 (some .long) rm_B_withAmount [.long p0, .int p2, .int p3] h (J_B_withAmount n p0 p2 p3 h) := by
  refine sM_of (own := "StoryStates$Bits") rfl (by decide) (Nat.le_of_ble_eq_true rfl) (fun M V O => ?_)
  unfold J_B_withAmount
  refine r_lv (lv' := [(0, .long p0), (2, .int p2), (3, .int p3)]) [0, 1, 2] rfl ?_
  refine r_lload_n (pc := 0) O d_B_withAmount_0 0 rfl ?_
  refine r_bipush (pc := 1) O d_B_withAmount_1 bc_33 ?_
  refine r_iconst (pc := 3) O d_B_withAmount_3 ic_3 ?_
  refine r_iload_n (pc := 4) O d_B_withAmount_4 1 rfl ?_
  refine r_imul (pc := 5) O d_B_withAmount_5 ?_
  refine r_iadd (pc := 6) O d_B_withAmount_6 ?_
  refine r_bipush (pc := 7) O d_B_withAmount_7 bc_7 ?_
  refine r_iload_n (pc := 9) O d_B_withAmount_9 2 rfl ?_
  refine r_callSlp (pc := 10) O [.long p0, .int (33 + (3 * p2)), .int 7, .int p3] (R_B_write n p0 (33 + (3 * p2)) 7 p3 h) cw_B_withAmount_10 wm_291 rfl (Nat.le_of_ble_eq_true rfl) d_B_withAmount_10 rfl (fun v10 => ?_)
  exact r_lret (pc := 13) O rfl d_B_withAmount_13
def J_B_withCount (n : Nat) (p0 : Int64) (p2 : Int32) (p3 : Int32) (h : sHp) : Option Int64 :=
  (J_B_write n p0 (46 + (4 * p2)) 15 p3 h).bind fun v10 =>
  some v10
set_option maxRecDepth 20000 in
set_option maxHeartbeats 4000000 in
theorem R_B_withCount (n : Nat) (p0 : Int64) (p2 : Int32) (p3 : Int32) (h : sHp) : sM Zc (sPl h) y_B_withCount prog_3_method_13_code 4 (some .long) rm_B_withCount [.long p0, .int p2, .int p3] h (J_B_withCount n p0 p2 p3 h) := by
  refine sM_of (own := "StoryStates$Bits") rfl (by decide) (Nat.le_of_ble_eq_true rfl) (fun M V O => ?_)
  unfold J_B_withCount
  refine r_lv (lv' := [(0, .long p0), (2, .int p2), (3, .int p3)]) [0, 1, 2] rfl ?_
  refine r_lload_n (pc := 0) O d_B_withCount_0 0 rfl ?_
  refine r_bipush (pc := 1) O d_B_withCount_1 bc_46 ?_
  refine r_iconst (pc := 3) O d_B_withCount_3 ic_4 ?_
  refine r_iload_n (pc := 4) O d_B_withCount_4 1 rfl ?_
  refine r_imul (pc := 5) O d_B_withCount_5 ?_
  refine r_iadd (pc := 6) O d_B_withCount_6 ?_
  refine r_bipush (pc := 7) O d_B_withCount_7 bc_15 ?_
  refine r_iload_n (pc := 9) O d_B_withCount_9 2 rfl ?_
  refine r_callSlp (pc := 10) O [.long p0, .int (46 + (4 * p2)), .int 15, .int p3] (R_B_write n p0 (46 + (4 * p2)) 15 p3 h) cw_B_withCount_10 wm_291 rfl (Nat.le_of_ble_eq_true rfl) d_B_withCount_10 rfl (fun v10 => ?_)
  exact r_lret (pc := 13) O rfl d_B_withCount_13
def F_W_firstState_82 (n : Nat) (h : sHp) (rec82 : Int64 × Int32 → Option Int64) (q : Int64 × Int32) : Option Int64 :=
  if (h.1 2 17) ≤ q.2 then (some q.1) else (sGd (sIn q.2 2) ((J_B_withCount n q.1 q.2 (h.1 20 (ix q.2)) h).bind fun v98 =>
  rec82 (v98, (q.2 + 1))))
def F_W_firstState_54 (n : Nat) (h : sHp) (rec54 : Int64 × Int32 → Option Int64) (q : Int64 × Int32) : Option Int64 :=
  if (h.1 2 14) ≤ q.2 then (sFx (F_W_firstState_82 n h ) n (q.1, 0)) else (sGd (sIn q.2 3) ((J_B_withAmount n q.1 q.2 (h.1 14 (ix q.2)) h).bind fun v70 =>
  rec54 (v70, (q.2 + 1))))
def F_W_firstState_4 (n : Nat) (h : sHp) (rec4 : Int64 × Int32 → Option Int64) (q : Int64 × Int32) : Option Int64 :=
  if (h.1 2 13) ≤ q.2 then (sFx (F_W_firstState_54 n h ) n (q.1, 0)) else (sGd (sIn q.2 6) ((J_B_withPlace n q.1 q.2 (h.1 12 (ix q.2)) h).bind fun v20 =>
  sGd (sIn q.2 6) (if ((h.1 13 (ix q.2)) &&& 4) = 0 then ((J_B_withOpen n v20 q.2 0 h).bind fun v42 =>
  rec4 (v42, (q.2 + 1))) else ((J_B_withOpen n v20 q.2 1 h).bind fun v42 =>
  rec4 (v42, (q.2 + 1))))))
def J_W_firstState (n : Nat)  (h : sHp) : Option Int64 :=
  sFx (F_W_firstState_4 n h ) n (0, 0)
set_option maxRecDepth 20000 in
set_option maxHeartbeats 4000000 in
theorem R_W_firstState (n : Nat)  (h : sHp) : sM Zc (sPl h) y_W_firstState prog_8_method_19_code 4 (some .long) rm_W_firstState [.ref 2] h (J_W_firstState n  h) := by
  refine sM_of (own := "StoryStates$World") rfl (by decide) (Nat.le_of_ble_eq_true rfl) (fun M V O => ?_)
  unfold J_W_firstState
  refine r_lv (lv' := [(0, .ref 2)]) [0] rfl ?_
  have hL82 : ∀ (q : Int64 × Int32), sS Zc M V (sEb (sPl h)) 82 [(0, .ref 2), (1, .long q.1), (3, .int q.2)] [] h (sFx (F_W_firstState_82 n h ) n q) := by
    skip
    refine r_fx (fun q => [(0, .ref 2), (1, .long q.1), (3, .int q.2)]) (fun q => h) (F_W_firstState_82 n h ) (fun rec82 hrec82 q => ?_) n
    obtain ⟨qv0, qv1⟩ := q
    show sS Zc M V (sEb (sPl h)) 82 [(0, .ref 2), (1, .long qv0), (3, .int qv1)] [] h _
    unfold F_W_firstState_82
    try dsimp only
    refine r_iload_n (pc := 82) O d_W_firstState_82 2 rfl ?_
    refine r_aload_n (pc := 83) O d_W_firstState_83 0 rfl ?_
    refine r_getI (x := (h.1 2 17)) (pc := 84) O gf_c_W_72_2 d_W_firstState_84 rfl ?_
    refine r_icmp_ge (tgt := 108) (pc := 87) O d_W_firstState_87 (by decide) (fun q87 => ?_) (fun q87 => ?_)
    · refine r_lload_n (pc := 108) O d_W_firstState_108 1 rfl ?_
      exact r_lret (pc := 109) O rfl d_W_firstState_109
    · refine r_lload_n (pc := 90) O d_W_firstState_90 1 rfl ?_
      refine r_iload_n (pc := 91) O d_W_firstState_91 2 rfl ?_
      refine r_aload_n (pc := 92) O d_W_firstState_92 0 rfl ?_
      refine r_getR (pc := 93) O gf_c_W_50_2 d_W_firstState_93 ?_
      refine r_iload_n (pc := 96) O d_W_firstState_96 2 rfl ?_
      refine r_iald (x := (h.1 20 (ix qv1))) (pc := 97) O rfl d_W_firstState_97 rfl ?_
      refine r_callSlp (pc := 98) O [.long qv0, .int qv1, .int (h.1 20 (ix qv1))] (R_B_withCount n qv0 qv1 (h.1 20 (ix qv1)) h) cw_W_firstState_98 wm_301 rfl (Nat.le_of_ble_eq_true rfl) d_W_firstState_98 rfl (fun v98 => ?_)
      refine r_lstore_n (lv' := [(1, .long v98), (0, .ref 2), (3, .int qv1)]) (pc := 101) O d_W_firstState_101 rfl (by decide) rfl ?_
      refine r_iinc (lv' := [(3, .int (qv1 + 1)), (1, .long v98), (0, .ref 2)]) (pc := 102) O d_W_firstState_102 2 rfl (congrArg (HAdd.hAdd _) ic_1) (by decide) rfl ?_
      refine r_goto (pc := 105) O d_W_firstState_105 (tgt := 82) (by decide) ?_
      exact r_lv [2, 1, 0] rfl (hrec82 (v98, (qv1 + 1)))
  have hL54 : ∀ (q : Int64 × Int32), sS Zc M V (sEb (sPl h)) 54 [(0, .ref 2), (1, .long q.1), (3, .int q.2)] [] h (sFx (F_W_firstState_54 n h ) n q) := by
    skip
    refine r_fx (fun q => [(0, .ref 2), (1, .long q.1), (3, .int q.2)]) (fun q => h) (F_W_firstState_54 n h ) (fun rec54 hrec54 q => ?_) n
    obtain ⟨qv0, qv1⟩ := q
    show sS Zc M V (sEb (sPl h)) 54 [(0, .ref 2), (1, .long qv0), (3, .int qv1)] [] h _
    unfold F_W_firstState_54
    try dsimp only
    refine r_iload_n (pc := 54) O d_W_firstState_54 2 rfl ?_
    refine r_aload_n (pc := 55) O d_W_firstState_55 0 rfl ?_
    refine r_getI (x := (h.1 2 14)) (pc := 56) O gf_c_W_60_2 d_W_firstState_56 rfl ?_
    refine r_icmp_ge (tgt := 80) (pc := 59) O d_W_firstState_59 (by decide) (fun q59 => ?_) (fun q59 => ?_)
    · refine r_iconst (pc := 80) O d_W_firstState_80 ic_0 ?_
      refine r_istore_n (lv' := [(3, .int 0), (0, .ref 2), (1, .long qv0)]) (pc := 81) O d_W_firstState_81 rfl (by decide) rfl ?_
      exact r_lv [1, 2, 0] rfl (hL82 (qv0, 0))
    · refine r_lload_n (pc := 62) O d_W_firstState_62 1 rfl ?_
      refine r_iload_n (pc := 63) O d_W_firstState_63 2 rfl ?_
      refine r_aload_n (pc := 64) O d_W_firstState_64 0 rfl ?_
      refine r_getR (pc := 65) O gf_c_W_24_2 d_W_firstState_65 ?_
      refine r_iload_n (pc := 68) O d_W_firstState_68 2 rfl ?_
      refine r_iald (x := (h.1 14 (ix qv1))) (pc := 69) O rfl d_W_firstState_69 rfl ?_
      refine r_callSlp (pc := 70) O [.long qv0, .int qv1, .int (h.1 14 (ix qv1))] (R_B_withAmount n qv0 qv1 (h.1 14 (ix qv1)) h) cw_W_firstState_70 wm_298 rfl (Nat.le_of_ble_eq_true rfl) d_W_firstState_70 rfl (fun v70 => ?_)
      refine r_lstore_n (lv' := [(1, .long v70), (0, .ref 2), (3, .int qv1)]) (pc := 73) O d_W_firstState_73 rfl (by decide) rfl ?_
      refine r_iinc (lv' := [(3, .int (qv1 + 1)), (1, .long v70), (0, .ref 2)]) (pc := 74) O d_W_firstState_74 2 rfl (congrArg (HAdd.hAdd _) ic_1) (by decide) rfl ?_
      refine r_goto (pc := 77) O d_W_firstState_77 (tgt := 54) (by decide) ?_
      exact r_lv [2, 1, 0] rfl (hrec54 (v70, (qv1 + 1)))
  have hL4 : ∀ (q : Int64 × Int32), sS Zc M V (sEb (sPl h)) 4 [(0, .ref 2), (1, .long q.1), (3, .int q.2)] [] h (sFx (F_W_firstState_4 n h ) n q) := by
    skip
    refine r_fx (fun q => [(0, .ref 2), (1, .long q.1), (3, .int q.2)]) (fun q => h) (F_W_firstState_4 n h ) (fun rec4 hrec4 q => ?_) n
    obtain ⟨qv0, qv1⟩ := q
    show sS Zc M V (sEb (sPl h)) 4 [(0, .ref 2), (1, .long qv0), (3, .int qv1)] [] h _
    unfold F_W_firstState_4
    try dsimp only
    refine r_iload_n (pc := 4) O d_W_firstState_4 2 rfl ?_
    refine r_aload_n (pc := 5) O d_W_firstState_5 0 rfl ?_
    refine r_getI (x := (h.1 2 13)) (pc := 6) O gf_c_W_57_2 d_W_firstState_6 rfl ?_
    refine r_icmp_ge (tgt := 52) (pc := 9) O d_W_firstState_9 (by decide) (fun q9 => ?_) (fun q9 => ?_)
    · refine r_iconst (pc := 52) O d_W_firstState_52 ic_0 ?_
      refine r_istore_n (lv' := [(3, .int 0), (0, .ref 2), (1, .long qv0)]) (pc := 53) O d_W_firstState_53 rfl (by decide) rfl ?_
      exact r_lv [1, 2, 0] rfl (hL54 (qv0, 0))
    · refine r_lload_n (pc := 12) O d_W_firstState_12 1 rfl ?_
      refine r_iload_n (pc := 13) O d_W_firstState_13 2 rfl ?_
      refine r_aload_n (pc := 14) O d_W_firstState_14 0 rfl ?_
      refine r_getR (pc := 15) O gf_c_W_18_2 d_W_firstState_15 ?_
      refine r_iload_n (pc := 18) O d_W_firstState_18 2 rfl ?_
      refine r_iald (x := (h.1 12 (ix qv1))) (pc := 19) O rfl d_W_firstState_19 rfl ?_
      refine r_callSlp (pc := 20) O [.long qv0, .int qv1, .int (h.1 12 (ix qv1))] (R_B_withPlace n qv0 qv1 (h.1 12 (ix qv1)) h) cw_W_firstState_20 wm_288 rfl (Nat.le_of_ble_eq_true rfl) d_W_firstState_20 rfl (fun v20 => ?_)
      refine r_lstore_n (lv' := [(1, .long v20), (0, .ref 2), (3, .int qv1)]) (pc := 23) O d_W_firstState_23 rfl (by decide) rfl ?_
      refine r_lload_n (pc := 24) O d_W_firstState_24 0 rfl ?_
      refine r_iload_n (pc := 25) O d_W_firstState_25 2 rfl ?_
      refine r_aload_n (pc := 26) O d_W_firstState_26 1 rfl ?_
      refine r_getR (pc := 27) O gf_c_W_21_2 d_W_firstState_27 ?_
      refine r_iload_n (pc := 30) O d_W_firstState_30 2 rfl ?_
      refine r_iald (x := (h.1 13 (ix qv1))) (pc := 31) O rfl d_W_firstState_31 rfl ?_
      refine r_iconst (pc := 32) O d_W_firstState_32 ic_4 ?_
      refine r_iand (pc := 33) O d_W_firstState_33 ?_
      refine r_if_eq (tgt := 41) (pc := 34) O d_W_firstState_34 (by decide) (fun q34 => ?_) (fun q34 => ?_)
      · refine r_iconst (pc := 41) O d_W_firstState_41 ic_0 ?_
        refine r_callSlp (pc := 42) O [.long v20, .int qv1, .int 0] (R_B_withOpen n v20 qv1 0 h) cw_W_firstState_42 wm_295 rfl (Nat.le_of_ble_eq_true rfl) d_W_firstState_42 rfl (fun v42 => ?_)
        refine r_lstore_n (lv' := [(1, .long v42), (0, .ref 2), (3, .int qv1)]) (pc := 45) O d_W_firstState_45 rfl (by decide) rfl ?_
        refine r_iinc (lv' := [(3, .int (qv1 + 1)), (1, .long v42), (0, .ref 2)]) (pc := 46) O d_W_firstState_46 2 rfl (congrArg (HAdd.hAdd _) ic_1) (by decide) rfl ?_
        refine r_goto (pc := 49) O d_W_firstState_49 (tgt := 4) (by decide) ?_
        exact r_lv [2, 1, 0] rfl (hrec4 (v42, (qv1 + 1)))
      · refine r_iconst (pc := 37) O d_W_firstState_37 ic_1 ?_
        refine r_goto (pc := 38) O d_W_firstState_38 (tgt := 42) (by decide) ?_
        refine r_callSlp (pc := 42) O [.long v20, .int qv1, .int 1] (R_B_withOpen n v20 qv1 1 h) cw_W_firstState_42 wm_295 rfl (Nat.le_of_ble_eq_true rfl) d_W_firstState_42 rfl (fun v42 => ?_)
        refine r_lstore_n (lv' := [(1, .long v42), (0, .ref 2), (3, .int qv1)]) (pc := 45) O d_W_firstState_45 rfl (by decide) rfl ?_
        refine r_iinc (lv' := [(3, .int (qv1 + 1)), (1, .long v42), (0, .ref 2)]) (pc := 46) O d_W_firstState_46 2 rfl (congrArg (HAdd.hAdd _) ic_1) (by decide) rfl ?_
        refine r_goto (pc := 49) O d_W_firstState_49 (tgt := 4) (by decide) ?_
        exact r_lv [2, 1, 0] rfl (hrec4 (v42, (qv1 + 1)))
  refine r_lconst (pc := 0) O d_W_firstState_0 lc_0 ?_
  refine r_lstore_n (lv' := [(1, .long 0), (0, .ref 2)]) (pc := 1) O d_W_firstState_1 rfl (by decide) rfl ?_
  refine r_iconst (pc := 2) O d_W_firstState_2 ic_0 ?_
  refine r_istore_n (lv' := [(3, .int 0), (1, .long 0), (0, .ref 2)]) (pc := 3) O d_W_firstState_3 rfl (by decide) rfl ?_
  exact r_lv [2, 1, 0] rfl (hL4 (0, 0))
def J_R_append (n : Nat) (p1 : Int32) (p2 : Int32) (p3 : Int32) (p4 : Int32) (h : sHp) : Option (Int32 × sHp) :=
  sGd (sIn (h.1 3 7) 12) (sGd (sIn (h.1 3 7) 12) (sGd (sIn (h.1 3 7) 12) (sGd (sIn (h.1 3 7) 12) (sGd (sIn (h.1 3 7) 12) (sGd (sIn (h.1 3 7) 12) (sGd (sIn (h.1 3 7) 12) (some ((h.1 3 7), (pI (pI (pI (pI (pI (pI (pI (pI h 21 (ix (h.1 3 7)) p1) 22 (ix (h.1 3 7)) p2) 23 (ix (h.1 3 7)) p3) 24 (ix (h.1 3 7)) p4) 25 (ix (h.1 3 7)) 0) 26 (ix (h.1 3 7)) 0) 30 (ix (h.1 3 7)) 0) 3 7 ((h.1 3 7) + 1))))))))))
set_option maxRecDepth 20000 in
set_option maxHeartbeats 4000000 in
theorem R_R_append (n : Nat) (p1 : Int32) (p2 : Int32) (p3 : Int32) (p4 : Int32) (h : sHp) : sM Zc sOi y_R_append prog_7_method_2_code 5 (some .int) rm_R_append [.ref 3, .int p1, .int p2, .int p3, .int p4] h (J_R_append n p1 p2 p3 p4 h) := by
  refine sM_of (own := "StoryStates$Rules") rfl (by decide) (Nat.le_of_ble_eq_true rfl) (fun M V O => ?_)
  unfold J_R_append
  refine r_lv (lv' := [(0, .ref 3), (1, .int p1), (2, .int p2), (3, .int p3), (4, .int p4)]) [0, 1, 2, 3, 4] rfl ?_
  refine r_aload_n (pc := 0) O d_R_append_0 0 rfl ?_
  refine r_getR (pc := 1) O gf_c_R_9_3 d_R_append_1 ?_
  refine r_aload_n (pc := 4) O d_R_append_4 0 rfl ?_
  refine r_getI (x := (h.1 3 7)) (pc := 5) O gf_c_R_38_3 d_R_append_5 rfl ?_
  refine r_iload_n (pc := 8) O d_R_append_8 1 rfl ?_
  refine r_iast (pc := 9) O rfl d_R_append_9 ?_
  refine r_aload_n (pc := 10) O d_R_append_10 0 rfl ?_
  refine r_getR (pc := 11) O gf_c_R_15_3 d_R_append_11 ?_
  refine r_aload_n (pc := 14) O d_R_append_14 0 rfl ?_
  refine r_getI (x := (h.1 3 7)) (pc := 15) O gf_c_R_38_3 d_R_append_15 rfl ?_
  refine r_iload_n (pc := 18) O d_R_append_18 2 rfl ?_
  refine r_iast (pc := 19) O rfl d_R_append_19 ?_
  refine r_aload_n (pc := 20) O d_R_append_20 0 rfl ?_
  refine r_getR (pc := 21) O gf_c_R_18_3 d_R_append_21 ?_
  refine r_aload_n (pc := 24) O d_R_append_24 0 rfl ?_
  refine r_getI (x := (h.1 3 7)) (pc := 25) O gf_c_R_38_3 d_R_append_25 rfl ?_
  refine r_iload_n (pc := 28) O d_R_append_28 3 rfl ?_
  refine r_iast (pc := 29) O rfl d_R_append_29 ?_
  refine r_aload_n (pc := 30) O d_R_append_30 0 rfl ?_
  refine r_getR (pc := 31) O gf_c_R_21_3 d_R_append_31 ?_
  refine r_aload_n (pc := 34) O d_R_append_34 0 rfl ?_
  refine r_getI (x := (h.1 3 7)) (pc := 35) O gf_c_R_38_3 d_R_append_35 rfl ?_
  refine r_iload (pc := 38) O d_R_append_38 4 rfl ?_
  refine r_iast (pc := 40) O rfl d_R_append_40 ?_
  refine r_aload_n (pc := 41) O d_R_append_41 0 rfl ?_
  refine r_getR (pc := 42) O gf_c_R_24_3 d_R_append_42 ?_
  refine r_aload_n (pc := 45) O d_R_append_45 0 rfl ?_
  refine r_getI (x := (h.1 3 7)) (pc := 46) O gf_c_R_38_3 d_R_append_46 rfl ?_
  refine r_iconst (pc := 49) O d_R_append_49 ic_0 ?_
  refine r_zast (pc := 50) O rfl d_R_append_50 nz_0 ?_
  refine r_aload_n (pc := 51) O d_R_append_51 0 rfl ?_
  refine r_getR (pc := 52) O gf_c_R_31_3 d_R_append_52 ?_
  refine r_getR (pc := 55) O gf_c_R_42_4 d_R_append_55 ?_
  refine r_aload_n (pc := 58) O d_R_append_58 0 rfl ?_
  refine r_getI (x := (h.1 3 7)) (pc := 59) O gf_c_R_38_3 d_R_append_59 rfl ?_
  refine r_iconst (pc := 62) O d_R_append_62 ic_0 ?_
  refine r_iast (pc := 63) O rfl d_R_append_63 ?_
  refine r_aload_n (pc := 64) O d_R_append_64 0 rfl ?_
  refine r_getR (pc := 65) O gf_c_R_35_3 d_R_append_65 ?_
  refine r_getR (pc := 68) O gf_c_R_42_5 d_R_append_68 ?_
  refine r_aload_n (pc := 71) O d_R_append_71 0 rfl ?_
  refine r_getI (x := (h.1 3 7)) (pc := 72) O gf_c_R_38_3 d_R_append_72 rfl ?_
  refine r_iconst (pc := 75) O d_R_append_75 ic_0 ?_
  refine r_iast (pc := 76) O rfl d_R_append_76 ?_
  refine r_aload_n (pc := 77) O d_R_append_77 0 rfl ?_
  refine r_dup (pc := 78) O d_R_append_78 rfl ?_
  refine r_getI (x := (h.1 3 7)) (pc := 79) O gf_c_R_38_3 d_R_append_79 rfl ?_
  refine r_dup_x1 (pc := 82) O d_R_append_82 rfl rfl ?_
  refine r_iconst (pc := 83) O d_R_append_83 ic_1 ?_
  refine r_iadd (pc := 84) O d_R_append_84 ?_
  refine r_putI (pc := 85) O pf_c_R_38_3 d_R_append_85 ?_
  exact r_iret (pc := 88) O rfl d_R_append_88
