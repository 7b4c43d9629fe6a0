def K_S_timer_52 (n : Nat) (p1 : Int32) (p2 : Int32) (t0 : Int32) (h : sHp) : Option (Except Nat Unit × sHp) :=
  if t0 = 0 then some (.error 2, h) else ((J_W_addTimer n p1 p2 h).bind fun v61 =>
  (J_S_startAnew n v61).bind fun v65 =>
  some (.ok (), v65))
def K_S_timer_51 (n : Nat) (p1 : Int32) (p2 : Int32) (h : sHp) : Option (Except Nat Unit × sHp) :=
  K_S_timer_52 n p1 p2 0 h
def J_S_timer (n : Nat) (p1 : Int32) (p2 : Int32) (h : sHp) : Option (Except Nat Unit × sHp) :=
  (J_W_hasRule n p1 h).bind fun v5 =>
  if v5 = 0 then some (.error 0, h) else ((J_S_isFrom n p2 1 15 h).bind fun v15 =>
  if v15 = 0 then some (.error 1, h) else (if 2 ≤ (h.1 2 17) then (K_S_timer_51 n p1 p2 h) else (sGd (sIn p1 12) (if (h.1 25 (ix p1)) = 0 then (K_S_timer_52 n p1 p2 1 h) else (K_S_timer_51 n p1 p2 h)))))
set_option maxRecDepth 20000 in
set_option maxHeartbeats 4000000 in
theorem R_S_timer (n : Nat) (p1 : Int32) (p2 : Int32) (h : sHp) : sMf Zc oV y_S_timer prog_1_method_12_code 3 none rm_S_timer [.ref 0, .int p1, .int p2] h (J_S_timer n p1 p2 h) := by
  refine sMf_of (own := "StoryStates") rfl (by decide) (Nat.le_of_ble_eq_true rfl) (fun M V O T => ?_)
  unfold J_S_timer
  refine r_lv (lv' := [(0, .ref 0), (1, .int p1), (2, .int p2)]) [0, 1, 2] rfl ?_
  have hK52 : ∀ (t0 : Int32) (h : sHp), sS Zc M V (sEf oV) 52 [(0, .ref 0), (1, .int p1), (2, .int p2)] [.int t0] h (K_S_timer_52 n p1 p2 t0 h) := by
    intro t0 h
    unfold K_S_timer_52
    refine r_mustv (pc := 52) O T d_S_timer_52 (R_S_mustBeAble t0 h) cf_S_timer_52 wm_327 (Nat.le_of_ble_eq_true rfl) (fun q52 => ?_)
    refine r_aload_n (pc := 55) O d_S_timer_55 0 rfl ?_
    refine r_getR (pc := 56) O gf_c_S_20_0 d_S_timer_56 ?_
    refine r_iload_n (pc := 59) O d_S_timer_59 1 rfl ?_
    refine r_iload_n (pc := 60) O d_S_timer_60 2 rfl ?_
    refine r_callVv (pc := 61) O [.int p1, .int p2] rfl rfl (R_W_addTimer n p1 p2 h) cw_S_timer_61 wm_579 wm_580 rfl (Nat.le_of_ble_eq_true rfl) d_S_timer_61 rfl (fun v61 => ?_)
    refine r_aload_n (pc := 64) O d_S_timer_64 0 rfl ?_
    refine r_callVv (pc := 65) O [] rfl rfl (R_S_startAnew n  v61) cw_S_timer_65 wm_277 ws_S_startAnew rfl (Nat.le_of_ble_eq_true rfl) d_S_timer_65 rfl (fun v65 => ?_)
    exact r_vret (pc := 68) O rfl d_S_timer_68
  have hK51 : ∀ (h : sHp), sS Zc M V (sEf oV) 51 [(0, .ref 0), (1, .int p1), (2, .int p2)] [] h (K_S_timer_51 n p1 p2 h) := by
    intro h
    unfold K_S_timer_51
    refine r_iconst (pc := 51) O d_S_timer_51 ic_0 ?_
    exact (hK52 0 h)
  refine r_aload_n (pc := 0) O d_S_timer_0 0 rfl ?_
  refine r_getR (pc := 1) O gf_c_S_20_0 d_S_timer_1 ?_
  refine r_iload_n (pc := 4) O d_S_timer_4 1 rfl ?_
  refine r_callVip (pc := 5) O [.int p1] rfl rfl (R_W_hasRule n p1 h) cw_S_timer_5 wm_515 wm_516 rfl (Nat.le_of_ble_eq_true rfl) d_S_timer_5 rfl (fun v5 => ?_)
  refine r_mustv (pc := 8) O T d_S_timer_8 (R_S_mustBeThere v5 h) cf_S_timer_8 wm_419 (Nat.le_of_ble_eq_true rfl) (fun q8 => ?_)
  refine r_iload_n (pc := 11) O d_S_timer_11 2 rfl ?_
  refine r_iconst (pc := 12) O d_S_timer_12 ic_1 ?_
  refine r_bipush (pc := 13) O d_S_timer_13 bc_15 ?_
  refine r_callSip (pc := 15) O [.int p2, .int 1, .int 15] (R_S_isFrom n p2 1 15 h) cw_S_timer_15 wm_312 rfl (Nat.le_of_ble_eq_true rfl) d_S_timer_15 rfl (fun v15 => ?_)
  refine r_mustv (pc := 18) O T d_S_timer_18 (R_S_mustFit v15 h) cf_S_timer_18 wm_437 (Nat.le_of_ble_eq_true rfl) (fun q18 => ?_)
  refine r_aload_n (pc := 21) O d_S_timer_21 0 rfl ?_
  refine r_getR (pc := 22) O gf_c_S_20_0 d_S_timer_22 ?_
  refine r_getI (x := (h.1 2 17)) (pc := 25) O gf_c_S_161_2 d_S_timer_25 rfl ?_
  refine r_iconst (pc := 28) O d_S_timer_28 ic_2 ?_
  refine r_icmp_ge (tgt := 51) (pc := 29) O d_S_timer_29 (by decide) (fun q29 => ?_) (fun q29 => ?_)
  · exact (hK51 h)
  · refine r_aload_n (pc := 32) O d_S_timer_32 0 rfl ?_
    refine r_getR (pc := 33) O gf_c_S_20_0 d_S_timer_33 ?_
    refine r_getR (pc := 36) O gf_c_S_109_2 d_S_timer_36 ?_
    refine r_getR (pc := 39) O gf_c_S_164_3 d_S_timer_39 ?_
    refine r_iload_n (pc := 42) O d_S_timer_42 1 rfl ?_
    refine r_zald (x := (h.1 25 (ix p1))) (pc := 43) O rfl d_S_timer_43 rfl ?_
    refine r_if_ne (tgt := 51) (pc := 44) O d_S_timer_44 (by decide) (fun q44 => ?_) (fun q44 => ?_)
    · exact (hK51 h)
    · refine r_iconst (pc := 47) O d_S_timer_47 ic_1 ?_
      refine r_goto (pc := 48) O d_S_timer_48 (tgt := 52) (by decide) ?_
      exact (hK52 1 h)
def J_S_begin (n : Nat)  (h : sHp) : Option (Except Nat Unit × sHp) :=
  if (h.1 2 12) ≤ 0 then (some (.error 2, h)) else ((J_S_startPlay n h).bind fun v19 =>
  some (.ok (), v19))
set_option maxRecDepth 20000 in
set_option maxHeartbeats 4000000 in
theorem R_S_begin (n : Nat)  (h : sHp) : sMf Zc oV y_S_begin prog_1_method_13_code 1 none rm_S_begin [.ref 0] h (J_S_begin n  h) := by
  refine sMf_of (own := "StoryStates") rfl (by decide) (Nat.le_of_ble_eq_true rfl) (fun M V O T => ?_)
  unfold J_S_begin
  refine r_lv (lv' := [(0, .ref 0)]) [0] rfl ?_
  refine r_aload_n (pc := 0) O d_S_begin_0 0 rfl ?_
  refine r_getR (pc := 1) O gf_c_S_20_0 d_S_begin_1 ?_
  refine r_getI (x := (h.1 2 12)) (pc := 4) O gf_c_S_51_2 d_S_begin_4 rfl ?_
  refine r_if_le (tgt := 14) (pc := 7) O d_S_begin_7 (by decide) (fun q7 => ?_) (fun q7 => ?_)
  · refine r_iconst (pc := 14) O d_S_begin_14 ic_0 ?_
    exact r_must0 (pc := 15) O T d_S_begin_15 (R_S_mustBeAble 0 h) cf_S_begin_15 wm_327 (Nat.le_of_ble_eq_true rfl) rfl
  · refine r_iconst (pc := 10) O d_S_begin_10 ic_1 ?_
    refine r_goto (pc := 11) O d_S_begin_11 (tgt := 15) (by decide) ?_
    refine r_must1 (pc := 15) O T d_S_begin_15 (R_S_mustBeAble 1 h) cf_S_begin_15 wm_327 (Nat.le_of_ble_eq_true rfl) (by decide) ?_
    refine r_aload_n (pc := 18) O d_S_begin_18 0 rfl ?_
    refine r_callVv (pc := 19) O [] rfl rfl (R_S_startPlay n  h) cw_S_begin_19 wm_281 ws_S_startPlay rfl (Nat.le_of_ble_eq_true rfl) d_S_begin_19 rfl (fun v19 => ?_)
    exact r_vret (pc := 22) O rfl d_S_begin_22
def K_S_command_37 (n : Nat) (p1 : Int32) (p2 : Int32) (p3 : Int32) (t0 : Int32) (h : sHp) : Option (Except Nat Int32 × sHp) :=
  if t0 = 0 then some (.error 2, h) else (sGd (sIn (h.1 0 5) 61) ((J_B_isOver n (h.2 7 (ix (h.1 0 5))) h).bind fun v49 =>
  if v49 = 0 then (sGd (sIn (h.1 0 5) 61) ((J_E_take n (h.2 7 (ix (h.1 0 5))) p1 p2 p3 h).bind fun v83 =>
  sGd (sIn ((h.1 0 5) + 1) 61) (sGd (sCp 0 0 (v83.2.1 1 2) 3 3) (some (.ok ((pC (pI (pI (pL v83.2 7 (ix ((h.1 0 5) + 1)) v83.1) 0 5 ((v83.2.1 0 5) + 1)) 0 6 (v83.2.1 1 2)) 9 8 0 0 (v83.2.1 1 2)).1 0 6), (pC (pI (pI (pL v83.2 7 (ix ((h.1 0 5) + 1)) v83.1) 0 5 ((v83.2.1 0 5) + 1)) 0 6 (v83.2.1 1 2)) 9 8 0 0 (v83.2.1 1 2))))))) else (some (.ok (-1), h))))
def K_S_command_36 (n : Nat) (p1 : Int32) (p2 : Int32) (p3 : Int32) (h : sHp) : Option (Except Nat Int32 × sHp) :=
  K_S_command_37 n p1 p2 p3 0 h
def J_S_command (n : Nat) (p1 : Int32) (p2 : Int32) (p3 : Int32) (h : sHp) : Option (Except Nat Int32 × sHp) :=
  (J_W_hasCommand n p1 p2 p3 h).bind fun v7 =>
  if v7 = 0 then some (.error 1, h) else (if (h.1 2 12) ≤ 0 then (K_S_command_36 n p1 p2 p3 h) else (if 60 ≤ (h.1 0 5) then (K_S_command_36 n p1 p2 p3 h) else (K_S_command_37 n p1 p2 p3 1 h)))
set_option maxRecDepth 20000 in
set_option maxHeartbeats 4000000 in
theorem R_S_command (n : Nat) (p1 : Int32) (p2 : Int32) (p3 : Int32) (h : sHp) : sMf Zc oI y_S_command prog_1_method_14_code 4 (some .int) rm_S_command [.ref 0, .int p1, .int p2, .int p3] h (J_S_command n p1 p2 p3 h) := by
  refine sMf_of (own := "StoryStates") rfl (by decide) (Nat.le_of_ble_eq_true rfl) (fun M V O T => ?_)
  unfold J_S_command
  refine r_lv (lv' := [(0, .ref 0), (1, .int p1), (2, .int p2), (3, .int p3)]) [0, 1, 2, 3] rfl ?_
  have hK37 : ∀ (t0 : Int32) (h : sHp), sS Zc M V (sEf oI) 37 [(0, .ref 0), (1, .int p1), (2, .int p2), (3, .int p3)] [.int t0] h (K_S_command_37 n p1 p2 p3 t0 h) := by
    intro t0 h
    unfold K_S_command_37
    refine r_mustv (pc := 37) O T d_S_command_37 (R_S_mustBeAble t0 h) cf_S_command_37 wm_327 (Nat.le_of_ble_eq_true rfl) (fun q37 => ?_)
    refine r_aload_n (pc := 40) O d_S_command_40 0 rfl ?_
    refine r_getR (pc := 41) O gf_c_S_28_0 d_S_command_41 ?_
    refine r_aload_n (pc := 44) O d_S_command_44 0 rfl ?_
    refine r_getI (x := (h.1 0 5)) (pc := 45) O gf_c_S_36_0 d_S_command_45 rfl ?_
    refine r_lald (x := (h.2 7 (ix (h.1 0 5)))) (pc := 48) O rfl d_S_command_48 rfl ?_
    refine r_callSip (pc := 49) O [.long (h.2 7 (ix (h.1 0 5)))] (R_B_isOver n (h.2 7 (ix (h.1 0 5))) h) cw_S_command_49 wm_601 rfl (Nat.le_of_ble_eq_true rfl) d_S_command_49 rfl (fun v49 => ?_)
    refine r_if_eq (tgt := 57) (pc := 52) O d_S_command_52 (by decide) (fun q52 => ?_) (fun q52 => ?_)
    · refine r_aload_n (pc := 57) O d_S_command_57 0 rfl ?_
      refine r_getR (pc := 58) O gf_c_S_28_0 d_S_command_58 ?_
      refine r_aload_n (pc := 61) O d_S_command_61 0 rfl ?_
      refine r_getI (x := (h.1 0 5)) (pc := 62) O gf_c_S_36_0 d_S_command_62 rfl ?_
      refine r_iconst (pc := 65) O d_S_command_65 ic_1 ?_
      refine r_iadd (pc := 66) O d_S_command_66 ?_
      refine r_aload_n (pc := 67) O d_S_command_67 0 rfl ?_
      refine r_getR (pc := 68) O gf_c_S_12_0 d_S_command_68 ?_
      refine r_aload_n (pc := 71) O d_S_command_71 0 rfl ?_
      refine r_getR (pc := 72) O gf_c_S_28_0 d_S_command_72 ?_
      refine r_aload_n (pc := 75) O d_S_command_75 0 rfl ?_
      refine r_getI (x := (h.1 0 5)) (pc := 76) O gf_c_S_36_0 d_S_command_76 rfl ?_
      refine r_lald (x := (h.2 7 (ix (h.1 0 5)))) (pc := 79) O rfl d_S_command_79 rfl ?_
      refine r_iload_n (pc := 80) O d_S_command_80 1 rfl ?_
      refine r_iload_n (pc := 81) O d_S_command_81 2 rfl ?_
      refine r_iload_n (pc := 82) O d_S_command_82 3 rfl ?_
      refine r_callVl (pc := 83) O [.long (h.2 7 (ix (h.1 0 5))), .int p1, .int p2, .int p3] rfl rfl (R_E_take n (h.2 7 (ix (h.1 0 5))) p1 p2 p3 h) cw_S_command_83 wm_607 wm_608 rfl (Nat.le_of_ble_eq_true rfl) d_S_command_83 rfl (fun v83 => ?_)
      refine r_last (pc := 86) O rfl d_S_command_86 ?_
      refine r_aload_n (pc := 87) O d_S_command_87 0 rfl ?_
      refine r_dup (pc := 88) O d_S_command_88 rfl ?_
      refine r_getI (x := (v83.2.1 0 5)) (pc := 89) O gf_c_S_36_0 d_S_command_89 rfl ?_
      refine r_iconst (pc := 92) O d_S_command_92 ic_1 ?_
      refine r_iadd (pc := 93) O d_S_command_93 ?_
      refine r_putI (pc := 94) O pf_c_S_36_0 d_S_command_94 ?_
      refine r_aload_n (pc := 97) O d_S_command_97 0 rfl ?_
      refine r_aload_n (pc := 98) O d_S_command_98 0 rfl ?_
      refine r_getR (pc := 99) O gf_c_S_12_0 d_S_command_99 ?_
      refine r_getI (x := (v83.2.1 1 2)) (pc := 102) O gf_c_S_188_1 d_S_command_102 rfl ?_
      refine r_putI (pc := 105) O pf_c_S_40_0 d_S_command_105 ?_
      refine r_aload_n (pc := 108) O d_S_command_108 0 rfl ?_
      refine r_getR (pc := 109) O gf_c_S_12_0 d_S_command_109 ?_
      refine r_getR (pc := 112) O gf_c_S_189_1 d_S_command_112 ?_
      refine r_iconst (pc := 115) O d_S_command_115 ic_0 ?_
      refine r_aload_n (pc := 116) O d_S_command_116 0 rfl ?_
      refine r_getR (pc := 117) O gf_c_S_32_0 d_S_command_117 ?_
      refine r_iconst (pc := 120) O d_S_command_120 ic_0 ?_
      refine r_aload_n (pc := 121) O d_S_command_121 0 rfl ?_
      refine r_getI (x := (v83.2.1 1 2)) (pc := 122) O gf_c_S_40_0 d_S_command_122 rfl ?_
      refine r_copy (pc := 125) O rfl rfl d_S_command_125 wm_726 wm_728 wm_727 wm_16 (by decide) (Nat.le_of_ble_eq_true rfl) ?_
      refine r_aload_n (pc := 128) O d_S_command_128 0 rfl ?_
      refine r_getI (x := ((pC (pI (pI (pL v83.2 7 (ix ((h.1 0 5) + 1)) v83.1) 0 5 ((v83.2.1 0 5) + 1)) 0 6 (v83.2.1 1 2)) 9 8 0 0 (v83.2.1 1 2)).1 0 6)) (pc := 129) O gf_c_S_40_0 d_S_command_129 rfl ?_
      exact r_iret (pc := 132) O rfl d_S_command_132
    · refine r_iconst (pc := 55) O d_S_command_55 ic_m1 ?_
      exact r_iret (pc := 56) O rfl d_S_command_56
  have hK36 : ∀ (h : sHp), sS Zc M V (sEf oI) 36 [(0, .ref 0), (1, .int p1), (2, .int p2), (3, .int p3)] [] h (K_S_command_36 n p1 p2 p3 h) := by
    intro h
    unfold K_S_command_36
    refine r_iconst (pc := 36) O d_S_command_36 ic_0 ?_
    exact (hK37 0 h)
  refine r_aload_n (pc := 0) O d_S_command_0 0 rfl ?_
  refine r_getR (pc := 1) O gf_c_S_20_0 d_S_command_1 ?_
  refine r_iload_n (pc := 4) O d_S_command_4 1 rfl ?_
  refine r_iload_n (pc := 5) O d_S_command_5 2 rfl ?_
  refine r_iload_n (pc := 6) O d_S_command_6 3 rfl ?_
  refine r_callVip (pc := 7) O [.int p1, .int p2, .int p3] rfl rfl (R_W_hasCommand n p1 p2 p3 h) cw_S_command_7 wm_597 wm_598 rfl (Nat.le_of_ble_eq_true rfl) d_S_command_7 rfl (fun v7 => ?_)
  refine r_mustv (pc := 10) O T d_S_command_10 (R_S_mustFit v7 h) cf_S_command_10 wm_437 (Nat.le_of_ble_eq_true rfl) (fun q10 => ?_)
  refine r_aload_n (pc := 13) O d_S_command_13 0 rfl ?_
  refine r_getR (pc := 14) O gf_c_S_20_0 d_S_command_14 ?_
  refine r_getI (x := (h.1 2 12)) (pc := 17) O gf_c_S_51_2 d_S_command_17 rfl ?_
  refine r_if_le (tgt := 36) (pc := 20) O d_S_command_20 (by decide) (fun q20 => ?_) (fun q20 => ?_)
  · exact (hK36 h)
  · refine r_aload_n (pc := 23) O d_S_command_23 0 rfl ?_
    refine r_getI (x := (h.1 0 5)) (pc := 24) O gf_c_S_36_0 d_S_command_24 rfl ?_
    refine r_bipush (pc := 27) O d_S_command_27 bc_60 ?_
    refine r_icmp_ge (tgt := 36) (pc := 29) O d_S_command_29 (by decide) (fun q29 => ?_) (fun q29 => ?_)
    · exact (hK36 h)
    · refine r_iconst (pc := 32) O d_S_command_32 ic_1 ?_
      refine r_goto (pc := 33) O d_S_command_33 (tgt := 37) (by decide) ?_
      exact (hK37 1 h)
def K_S_state_34 (n : Nat) (p1 : Int32) (p2 : Int32) (t0 : Int32) (h : sHp) : Option (Except Nat Int32 × sHp) :=
  if t0 = 0 then some (.error 2, h) else (sGd (sIn (h.1 0 5) 61) (if p1 = 0 then ((J_B_roomOf n (h.2 7 (ix (h.1 0 5))) h).bind fun v97 =>
  some (.ok v97, h)) else (if p1 = 1 then ((J_B_placeOf n (h.2 7 (ix (h.1 0 5))) p2 h).bind fun v103 =>
  some (.ok v103, h)) else (if p1 = 2 then ((J_B_isOpen n (h.2 7 (ix (h.1 0 5))) p2 h).bind fun v109 =>
  if v109 = 0 then (some (.ok 0, h)) else (some (.ok 1, h))) else (if p1 = 3 then ((J_B_amountOf n (h.2 7 (ix (h.1 0 5))) p2 h).bind fun v123 =>
  some (.ok v123, h)) else (if p1 = 4 then ((J_B_endingOf n (h.2 7 (ix (h.1 0 5))) h).bind fun v128 =>
  some (.ok v128, h)) else (if p1 = 5 then (some (.ok (h.1 0 5), h)) else (if p1 = 6 then ((J_B_isSeen n (h.2 7 (ix (h.1 0 5))) p2 h).bind fun v139 =>
  if v139 = 0 then (some (.ok 0, h)) else (some (.ok 1, h))) else (if p1 = 7 then ((J_B_countOf n (h.2 7 (ix (h.1 0 5))) p2 h).bind fun v153 =>
  some (.ok v153, h)) else ((J_B_stepOf n (h.2 7 (ix (h.1 0 5))) p2 h).bind fun v159 =>
  some (.ok v159, h)))))))))))
def J_S_state (n : Nat) (p1 : Int32) (p2 : Int32) (h : sHp) : Option (Except Nat Int32 × sHp) :=
  (J_S_hasAsked n p1 p2 h).bind fun v3 =>
  if v3 = 0 then some (.error 0, h) else ((J_S_isFrom n p1 0 8 h).bind fun v13 =>
  if v13 = 0 then some (.error 1, h) else (if (h.1 2 12) ≤ 0 then (K_S_state_34 n p1 p2 0 h) else (K_S_state_34 n p1 p2 1 h)))
set_option maxRecDepth 20000 in
set_option maxHeartbeats 4000000 in
theorem R_S_state (n : Nat) (p1 : Int32) (p2 : Int32) (h : sHp) : sMf Zc oI y_S_state prog_1_method_17_code 5 (some .int) rm_S_state [.ref 0, .int p1, .int p2] h (J_S_state n p1 p2 h) := by
  refine sMf_of (own := "StoryStates") rfl (by decide) (Nat.le_of_ble_eq_true rfl) (fun M V O T => ?_)
  unfold J_S_state
  refine r_lv (lv' := [(0, .ref 0), (1, .int p1), (2, .int p2)]) [0, 1, 2] rfl ?_
  have hK34 : ∀ (t0 : Int32) (h : sHp), sS Zc M V (sEf oI) 34 [(0, .ref 0), (1, .int p1), (2, .int p2)] [.int t0] h (K_S_state_34 n p1 p2 t0 h) := by
    intro t0 h
    unfold K_S_state_34
    refine r_mustv (pc := 34) O T d_S_state_34 (R_S_mustBeAble t0 h) cf_S_state_34 wm_327 (Nat.le_of_ble_eq_true rfl) (fun q34 => ?_)
    refine r_aload_n (pc := 37) O d_S_state_37 0 rfl ?_
    refine r_getR (pc := 38) O gf_c_S_28_0 d_S_state_38 ?_
    refine r_aload_n (pc := 41) O d_S_state_41 0 rfl ?_
    refine r_getI (x := (h.1 0 5)) (pc := 42) O gf_c_S_36_0 d_S_state_42 rfl ?_
    refine r_lald (x := (h.2 7 (ix (h.1 0 5)))) (pc := 45) O rfl d_S_state_45 rfl ?_
    refine r_lstore_n (lv' := [(3, .long (h.2 7 (ix (h.1 0 5)))), (0, .ref 0), (1, .int p1), (2, .int p2)]) (pc := 46) O d_S_state_46 rfl (by decide) rfl ?_
    refine r_iload_n (pc := 47) O d_S_state_47 2 rfl ?_
    refine r_ite (fun q48_0 => ?_) (fun q48_0 => ?_)
    · refine r_tin (tgt := 96) (pc := 48) O d_S_state_48 (by rw [q48_0] <;> decide) (by rw [q48_0] <;> decide) (by rw [q48_0] <;> rfl) (by decide) ?_
      refine r_lload_n (pc := 96) O d_S_state_96 0 rfl ?_
      refine r_callSip (pc := 97) O [.long (h.2 7 (ix (h.1 0 5)))] (R_B_roomOf n (h.2 7 (ix (h.1 0 5))) h) cw_S_state_97 wm_628 rfl (Nat.le_of_ble_eq_true rfl) d_S_state_97 rfl (fun v97 => ?_)
      exact r_iret (pc := 100) O rfl d_S_state_100
    · refine r_ite (fun q48_1 => ?_) (fun q48_1 => ?_)
      · refine r_tin (tgt := 101) (pc := 48) O d_S_state_48 (by rw [q48_1] <;> decide) (by rw [q48_1] <;> decide) (by rw [q48_1] <;> rfl) (by decide) ?_
        refine r_lload_n (pc := 101) O d_S_state_101 0 rfl ?_
        refine r_iload_n (pc := 102) O d_S_state_102 3 rfl ?_
        refine r_callSip (pc := 103) O [.long (h.2 7 (ix (h.1 0 5))), .int p2] (R_B_placeOf n (h.2 7 (ix (h.1 0 5))) p2 h) cw_S_state_103 wm_622 rfl (Nat.le_of_ble_eq_true rfl) d_S_state_103 rfl (fun v103 => ?_)
        exact r_iret (pc := 106) O rfl d_S_state_106
      · refine r_ite (fun q48_2 => ?_) (fun q48_2 => ?_)
        · refine r_tin (tgt := 107) (pc := 48) O d_S_state_48 (by rw [q48_2] <;> decide) (by rw [q48_2] <;> decide) (by rw [q48_2] <;> rfl) (by decide) ?_
          refine r_lload_n (pc := 107) O d_S_state_107 0 rfl ?_
          refine r_iload_n (pc := 108) O d_S_state_108 3 rfl ?_
          refine r_callSip (pc := 109) O [.long (h.2 7 (ix (h.1 0 5))), .int p2] (R_B_isOpen n (h.2 7 (ix (h.1 0 5))) p2 h) cw_S_state_109 wm_625 rfl (Nat.le_of_ble_eq_true rfl) d_S_state_109 rfl (fun v109 => ?_)
          refine r_if_eq (tgt := 119) (pc := 112) O d_S_state_112 (by decide) (fun q112 => ?_) (fun q112 => ?_)
          · refine r_iconst (pc := 119) O d_S_state_119 ic_0 ?_
            exact r_iret (pc := 120) O rfl d_S_state_120
          · refine r_iconst (pc := 115) O d_S_state_115 ic_1 ?_
            refine r_goto (pc := 116) O d_S_state_116 (tgt := 120) (by decide) ?_
            exact r_iret (pc := 120) O rfl d_S_state_120
        · refine r_ite (fun q48_3 => ?_) (fun q48_3 => ?_)
          · refine r_tin (tgt := 121) (pc := 48) O d_S_state_48 (by rw [q48_3] <;> decide) (by rw [q48_3] <;> decide) (by rw [q48_3] <;> rfl) (by decide) ?_
            refine r_lload_n (pc := 121) O d_S_state_121 0 rfl ?_
            refine r_iload_n (pc := 122) O d_S_state_122 3 rfl ?_
            refine r_callSip (pc := 123) O [.long (h.2 7 (ix (h.1 0 5))), .int p2] (R_B_amountOf n (h.2 7 (ix (h.1 0 5))) p2 h) cw_S_state_123 wm_651 rfl (Nat.le_of_ble_eq_true rfl) d_S_state_123 rfl (fun v123 => ?_)
            exact r_iret (pc := 126) O rfl d_S_state_126
          · refine r_ite (fun q48_4 => ?_) (fun q48_4 => ?_)
            · refine r_tin (tgt := 127) (pc := 48) O d_S_state_48 (by rw [q48_4] <;> decide) (by rw [q48_4] <;> decide) (by rw [q48_4] <;> rfl) (by decide) ?_
              refine r_lload_n (pc := 127) O d_S_state_127 0 rfl ?_
              refine r_callSip (pc := 128) O [.long (h.2 7 (ix (h.1 0 5)))] (R_B_endingOf n (h.2 7 (ix (h.1 0 5))) h) cw_S_state_128 wm_604 rfl (Nat.le_of_ble_eq_true rfl) d_S_state_128 rfl (fun v128 => ?_)
              exact r_iret (pc := 131) O rfl d_S_state_131
            · refine r_ite (fun q48_5 => ?_) (fun q48_5 => ?_)
              · refine r_tin (tgt := 132) (pc := 48) O d_S_state_48 (by rw [q48_5] <;> decide) (by rw [q48_5] <;> decide) (by rw [q48_5] <;> rfl) (by decide) ?_
                refine r_aload_n (pc := 132) O d_S_state_132 1 rfl ?_
                refine r_getI (x := (h.1 0 5)) (pc := 133) O gf_c_S_36_0 d_S_state_133 rfl ?_
                exact r_iret (pc := 136) O rfl d_S_state_136
              · refine r_ite (fun q48_6 => ?_) (fun q48_6 => ?_)
                · refine r_tin (tgt := 137) (pc := 48) O d_S_state_48 (by rw [q48_6] <;> decide) (by rw [q48_6] <;> decide) (by rw [q48_6] <;> rfl) (by decide) ?_
                  refine r_lload_n (pc := 137) O d_S_state_137 0 rfl ?_
                  refine r_iload_n (pc := 138) O d_S_state_138 3 rfl ?_
                  refine r_callSip (pc := 139) O [.long (h.2 7 (ix (h.1 0 5))), .int p2] (R_B_isSeen n (h.2 7 (ix (h.1 0 5))) p2 h) cw_S_state_139 wm_619 rfl (Nat.le_of_ble_eq_true rfl) d_S_state_139 rfl (fun v139 => ?_)
                  refine r_if_eq (tgt := 149) (pc := 142) O d_S_state_142 (by decide) (fun q142 => ?_) (fun q142 => ?_)
                  · refine r_iconst (pc := 149) O d_S_state_149 ic_0 ?_
                    exact r_iret (pc := 150) O rfl d_S_state_150
                  · refine r_iconst (pc := 145) O d_S_state_145 ic_1 ?_
                    refine r_goto (pc := 146) O d_S_state_146 (tgt := 150) (by decide) ?_
                    exact r_iret (pc := 150) O rfl d_S_state_150
                · refine r_ite (fun q48_7 => ?_) (fun q48_7 => ?_)
                  · refine r_tin (tgt := 151) (pc := 48) O d_S_state_48 (by rw [q48_7] <;> decide) (by rw [q48_7] <;> decide) (by rw [q48_7] <;> rfl) (by decide) ?_
                    refine r_lload_n (pc := 151) O d_S_state_151 0 rfl ?_
                    refine r_iload_n (pc := 152) O d_S_state_152 3 rfl ?_
                    refine r_callSip (pc := 153) O [.long (h.2 7 (ix (h.1 0 5))), .int p2] (R_B_countOf n (h.2 7 (ix (h.1 0 5))) p2 h) cw_S_state_153 wm_723 rfl (Nat.le_of_ble_eq_true rfl) d_S_state_153 rfl (fun v153 => ?_)
                    exact r_iret (pc := 156) O rfl d_S_state_156
                  · refine r_tout (tgt := 157) (pc := 48) O d_S_state_48 (by have z0 := lv_neT (a := 0) q48_0 (by decide); have z1 := lv_neT (a := 1) q48_1 (by decide); have z2 := lv_neT (a := 2) q48_2 (by decide); have z3 := lv_neT (a := 3) q48_3 (by decide); have z4 := lv_neT (a := 4) q48_4 (by decide); have z5 := lv_neT (a := 5) q48_5 (by decide); have z6 := lv_neT (a := 6) q48_6 (by decide); have z7 := lv_neT (a := 7) q48_7 (by decide); omega) (by decide) ?_
                    refine r_lload_n (pc := 157) O d_S_state_157 0 rfl ?_
                    refine r_iload_n (pc := 158) O d_S_state_158 3 rfl ?_
                    refine r_callSip (pc := 159) O [.long (h.2 7 (ix (h.1 0 5))), .int p2] (R_B_stepOf n (h.2 7 (ix (h.1 0 5))) p2 h) cw_S_state_159 wm_713 rfl (Nat.le_of_ble_eq_true rfl) d_S_state_159 rfl (fun v159 => ?_)
                    exact r_iret (pc := 162) O rfl d_S_state_162
  refine r_aload_n (pc := 0) O d_S_state_0 0 rfl ?_
  refine r_iload_n (pc := 1) O d_S_state_1 1 rfl ?_
  refine r_iload_n (pc := 2) O d_S_state_2 2 rfl ?_
  refine r_callVip (pc := 3) O [.int p1, .int p2] rfl rfl (R_S_hasAsked n p1 p2 h) cw_S_state_3 wm_738 ws_S_hasAsked rfl (Nat.le_of_ble_eq_true rfl) d_S_state_3 rfl (fun v3 => ?_)
  refine r_mustv (pc := 6) O T d_S_state_6 (R_S_mustBeThere v3 h) cf_S_state_6 wm_419 (Nat.le_of_ble_eq_true rfl) (fun q6 => ?_)
  refine r_iload_n (pc := 9) O d_S_state_9 1 rfl ?_
  refine r_iconst (pc := 10) O d_S_state_10 ic_0 ?_
  refine r_bipush (pc := 11) O d_S_state_11 bc_8 ?_
  refine r_callSip (pc := 13) O [.int p1, .int 0, .int 8] (R_S_isFrom n p1 0 8 h) cw_S_state_13 wm_312 rfl (Nat.le_of_ble_eq_true rfl) d_S_state_13 rfl (fun v13 => ?_)
  refine r_mustv (pc := 16) O T d_S_state_16 (R_S_mustFit v13 h) cf_S_state_16 wm_437 (Nat.le_of_ble_eq_true rfl) (fun q16 => ?_)
  refine r_aload_n (pc := 19) O d_S_state_19 0 rfl ?_
  refine r_getR (pc := 20) O gf_c_S_20_0 d_S_state_20 ?_
  refine r_getI (x := (h.1 2 12)) (pc := 23) O gf_c_S_51_2 d_S_state_23 rfl ?_
  refine r_if_le (tgt := 33) (pc := 26) O d_S_state_26 (by decide) (fun q26 => ?_) (fun q26 => ?_)
  · refine r_iconst (pc := 33) O d_S_state_33 ic_0 ?_
    exact (hK34 0 h)
  · refine r_iconst (pc := 29) O d_S_state_29 ic_1 ?_
    refine r_goto (pc := 30) O d_S_state_30 (tgt := 34) (by decide) ?_
    exact (hK34 1 h)
def K_S_explore_84 (n : Nat) (p1 : Int32) (h : sHp) : Option (Except Nat Int32 × sHp) :=
  if (h.1 6 11) = 0 then ((J_A_isFinished n h).bind fun v100 =>
  if v100 = 0 then (some (.ok 0, h)) else (some (.ok 1, h))) else (some (.ok 2, h))
def F_S_explore_52 (n : Nat) (p1 : Int32) (rec52 : Int32 × sHp → Option (Except Nat Int32 × sHp)) (q : Int32 × sHp) : Option (Except Nat Int32 × sHp) :=
  if p1 ≤ q.1 then (K_S_explore_84 n p1 q.2) else ((J_A_hasMore n q.2).bind fun v61 =>
  if v61 = 0 then (K_S_explore_84 n p1 q.2) else ((J_A_goThroughNext n q.2).bind fun v75 =>
  rec52 ((q.1 + 1), v75)))
def K_S_explore_50 (n : Nat) (p1 : Int32) (h : sHp) : Option (Except Nat Int32 × sHp) :=
  sFx (F_S_explore_52 n p1 ) n (0, h)
def K_S_explore_15 (n : Nat) (p1 : Int32) (t0 : Int32) (h : sHp) : Option (Except Nat Int32 × sHp) :=
  if t0 = 0 then some (.error 2, h) else ((J_S_isFrom n p1 0 1000 h).bind fun v23 =>
  if v23 = 0 then some (.error 1, h) else (if (h.1 6 10) = 0 then ((J_A_opn n h).bind fun v47 =>
  K_S_explore_50 n p1 v47) else (K_S_explore_50 n p1 h)))
def J_S_explore (n : Nat) (p1 : Int32) (h : sHp) : Option (Except Nat Int32 × sHp) :=
  if (h.1 2 12) ≤ 0 then (K_S_explore_15 n p1 0 h) else (K_S_explore_15 n p1 1 h)
set_option maxRecDepth 20000 in
set_option maxHeartbeats 4000000 in
theorem R_S_explore (n : Nat) (p1 : Int32) (h : sHp) : sMf Zc oI y_S_explore prog_1_method_18_code 3 (some .int) rm_S_explore [.ref 0, .int p1] h (J_S_explore n p1 h) := by
  refine sMf_of (own := "StoryStates") rfl (by decide) (Nat.le_of_ble_eq_true rfl) (fun M V O T => ?_)
  unfold J_S_explore
  refine r_lv (lv' := [(0, .ref 0), (1, .int p1)]) [0, 1] rfl ?_
  have hK84 : ∀ (h : sHp), sS Zc M V (sEf oI) 84 [(0, .ref 0)] [] h (K_S_explore_84 n p1 h) := by
    intro h
    unfold K_S_explore_84
    refine r_aload_n (pc := 84) O d_S_explore_84 0 rfl ?_
    refine r_getR (pc := 85) O gf_c_S_24_0 d_S_explore_85 ?_
    refine r_getI (x := (h.1 6 11)) (pc := 88) O gf_c_S_241_6 d_S_explore_88 rfl ?_
    refine r_if_eq (tgt := 96) (pc := 91) O d_S_explore_91 (by decide) (fun q91 => ?_) (fun q91 => ?_)
    · refine r_aload_n (pc := 96) O d_S_explore_96 0 rfl ?_
      refine r_getR (pc := 97) O gf_c_S_24_0 d_S_explore_97 ?_
      refine r_callVip (pc := 100) O [] rfl rfl (R_A_isFinished n  h) cw_S_explore_100 wm_809 wm_810 rfl (Nat.le_of_ble_eq_true rfl) d_S_explore_100 rfl (fun v100 => ?_)
      refine r_if_eq (tgt := 110) (pc := 103) O d_S_explore_103 (by decide) (fun q103 => ?_) (fun q103 => ?_)
      · refine r_iconst (pc := 110) O d_S_explore_110 ic_0 ?_
        exact r_iret (pc := 111) O rfl d_S_explore_111
      · refine r_iconst (pc := 106) O d_S_explore_106 ic_1 ?_
        refine r_goto (pc := 107) O d_S_explore_107 (tgt := 111) (by decide) ?_
        exact r_iret (pc := 111) O rfl d_S_explore_111
    · refine r_iconst (pc := 94) O d_S_explore_94 ic_2 ?_
      exact r_iret (pc := 95) O rfl d_S_explore_95
  have hL52 : ∀ (q : Int32 × sHp), sS Zc M V (sEf oI) 52 [(0, .ref 0), (1, .int p1), (2, .int q.1)] [] q.2 (sFx (F_S_explore_52 n p1 ) n q) := by
    skip
    refine r_fx (fun q => [(0, .ref 0), (1, .int p1), (2, .int q.1)]) (fun q => q.2) (F_S_explore_52 n p1 ) (fun rec52 hrec52 q => ?_) n
    obtain ⟨qv0, qv1⟩ := q
    show sS Zc M V (sEf oI) 52 [(0, .ref 0), (1, .int p1), (2, .int qv0)] [] qv1 _
    unfold F_S_explore_52
    try dsimp only
    refine r_iload_n (pc := 52) O d_S_explore_52 2 rfl ?_
    refine r_iload_n (pc := 53) O d_S_explore_53 1 rfl ?_
    refine r_icmp_ge (tgt := 84) (pc := 54) O d_S_explore_54 (by decide) (fun q54 => ?_) (fun q54 => ?_)
    · exact r_lv [0] rfl (hK84 qv1)
    · refine r_aload_n (pc := 57) O d_S_explore_57 0 rfl ?_
      refine r_getR (pc := 58) O gf_c_S_24_0 d_S_explore_58 ?_
      refine r_callVip (pc := 61) O [] rfl rfl (R_A_hasMore n  qv1) cw_S_explore_61 wm_782 wm_783 rfl (Nat.le_of_ble_eq_true rfl) d_S_explore_61 rfl (fun v61 => ?_)
      refine r_if_eq (tgt := 84) (pc := 64) O d_S_explore_64 (by decide) (fun q64 => ?_) (fun q64 => ?_)
      · exact r_lv [0] rfl (hK84 qv1)
      · refine r_aload_n (pc := 67) O d_S_explore_67 0 rfl ?_
        refine r_getR (pc := 68) O gf_c_S_24_0 d_S_explore_68 ?_
        refine r_aload_n (pc := 71) O d_S_explore_71 0 rfl ?_
        refine r_getR (pc := 72) O gf_c_S_12_0 d_S_explore_72 ?_
        refine r_callVv (pc := 75) O [.ref 1] rfl rfl (R_A_goThroughNext n  qv1) cw_S_explore_75 wm_786 wm_787 rfl (Nat.le_of_ble_eq_true rfl) d_S_explore_75 rfl (fun v75 => ?_)
        refine r_iinc (lv' := [(2, .int (qv0 + 1)), (0, .ref 0), (1, .int p1)]) (pc := 78) O d_S_explore_78 2 rfl (congrArg (HAdd.hAdd _) ic_1) (by decide) rfl ?_
        refine r_goto (pc := 81) O d_S_explore_81 (tgt := 52) (by decide) ?_
        exact r_lv [1, 2, 0] rfl (hrec52 ((qv0 + 1), v75))
  have hK50 : ∀ (h : sHp), sS Zc M V (sEf oI) 50 [(0, .ref 0), (1, .int p1)] [] h (K_S_explore_50 n p1 h) := by
    intro h
    unfold K_S_explore_50
    refine r_iconst (pc := 50) O d_S_explore_50 ic_0 ?_
    refine r_istore_n (lv' := [(2, .int 0), (0, .ref 0), (1, .int p1)]) (pc := 51) O d_S_explore_51 rfl (by decide) rfl ?_
    exact r_lv [1, 2, 0] rfl (hL52 (0, h))
  have hK15 : ∀ (t0 : Int32) (h : sHp), sS Zc M V (sEf oI) 15 [(0, .ref 0), (1, .int p1)] [.int t0] h (K_S_explore_15 n p1 t0 h) := by
    intro t0 h
    unfold K_S_explore_15
    refine r_mustv (pc := 15) O T d_S_explore_15 (R_S_mustBeAble t0 h) cf_S_explore_15 wm_327 (Nat.le_of_ble_eq_true rfl) (fun q15 => ?_)
    refine r_iload_n (pc := 18) O d_S_explore_18 1 rfl ?_
    refine r_iconst (pc := 19) O d_S_explore_19 ic_0 ?_
    refine r_sipush (pc := 20) O d_S_explore_20 sc_1000 ?_
    refine r_callSip (pc := 23) O [.int p1, .int 0, .int 1000] (R_S_isFrom n p1 0 1000 h) cw_S_explore_23 wm_312 rfl (Nat.le_of_ble_eq_true rfl) d_S_explore_23 rfl (fun v23 => ?_)
    refine r_mustv (pc := 26) O T d_S_explore_26 (R_S_mustFit v23 h) cf_S_explore_26 wm_437 (Nat.le_of_ble_eq_true rfl) (fun q26 => ?_)
    refine r_aload_n (pc := 29) O d_S_explore_29 0 rfl ?_
    refine r_getR (pc := 30) O gf_c_S_24_0 d_S_explore_30 ?_
    refine r_getI (x := (h.1 6 10)) (pc := 33) O gf_c_S_226_6 d_S_explore_33 rfl ?_
    refine r_if_ne (tgt := 50) (pc := 36) O d_S_explore_36 (by decide) (fun q36 => ?_) (fun q36 => ?_)
    · exact (hK50 h)
    · refine r_aload_n (pc := 39) O d_S_explore_39 0 rfl ?_
      refine r_getR (pc := 40) O gf_c_S_24_0 d_S_explore_40 ?_
      refine r_aload_n (pc := 43) O d_S_explore_43 0 rfl ?_
      refine r_getR (pc := 44) O gf_c_S_20_0 d_S_explore_44 ?_
      refine r_callVv (pc := 47) O [.ref 2] rfl rfl (R_A_opn n  h) cw_S_explore_47 wm_757 wm_758 rfl (Nat.le_of_ble_eq_true rfl) d_S_explore_47 rfl (fun v47 => ?_)
      exact (hK50 v47)
  refine r_aload_n (pc := 0) O d_S_explore_0 0 rfl ?_
  refine r_getR (pc := 1) O gf_c_S_20_0 d_S_explore_1 ?_
  refine r_getI (x := (h.1 2 12)) (pc := 4) O gf_c_S_51_2 d_S_explore_4 rfl ?_
  refine r_if_le (tgt := 14) (pc := 7) O d_S_explore_7 (by decide) (fun q7 => ?_) (fun q7 => ?_)
  · refine r_iconst (pc := 14) O d_S_explore_14 ic_0 ?_
    exact (hK15 0 h)
  · refine r_iconst (pc := 10) O d_S_explore_10 ic_1 ?_
    refine r_goto (pc := 11) O d_S_explore_11 (tgt := 15) (by decide) ?_
    exact (hK15 1 h)
def K_S_reach_15 (n : Nat) (p1 : Int32) (p2 : Int32) (t0 : Int32) (h : sHp) : Option (Except Nat Int32 × sHp) :=
  if t0 = 0 then some (.error 2, h) else ((J_W_hasEnding n p1 h).bind fun v23 =>
  if v23 = 0 then some (.error 0, h) else ((J_A_firstOverWith n p1 h).bind fun v34 =>
  if p2 = 0 then (if v34 = (-1) then ((J_A_isFinished n h).bind fun v71 =>
  if v71 = 0 then (some (.ok 2, h)) else (some (.ok 0, h))) else (some (.ok 1, h))) else (if v34 = (-1) then (some (.ok (-1), h)) else ((J_A_depthOf n v34 h).bind fun v56 =>
  some (.ok v56, h)))))
def J_S_reach (n : Nat) (p1 : Int32) (p2 : Int32) (h : sHp) : Option (Except Nat Int32 × sHp) :=
  if (h.1 2 12) ≤ 0 then (K_S_reach_15 n p1 p2 0 h) else (K_S_reach_15 n p1 p2 1 h)
set_option maxRecDepth 20000 in
set_option maxHeartbeats 4000000 in
theorem R_S_reach (n : Nat) (p1 : Int32) (p2 : Int32) (h : sHp) : sMf Zc oI y_S_reach prog_1_method_19_code 4 (some .int) rm_S_reach [.ref 0, .int p1, .int p2] h (J_S_reach n p1 p2 h) := by
  refine sMf_of (own := "StoryStates") rfl (by decide) (Nat.le_of_ble_eq_true rfl) (fun M V O T => ?_)
  unfold J_S_reach
  refine r_lv (lv' := [(0, .ref 0), (1, .int p1), (2, .int p2)]) [0, 1, 2] rfl ?_
  have hK15 : ∀ (t0 : Int32) (h : sHp), sS Zc M V (sEf oI) 15 [(0, .ref 0), (1, .int p1), (2, .int p2)] [.int t0] h (K_S_reach_15 n p1 p2 t0 h) := by
    intro t0 h
    unfold K_S_reach_15
    refine r_mustv (pc := 15) O T d_S_reach_15 (R_S_mustBeAble t0 h) cf_S_reach_15 wm_327 (Nat.le_of_ble_eq_true rfl) (fun q15 => ?_)
    refine r_aload_n (pc := 18) O d_S_reach_18 0 rfl ?_
    refine r_getR (pc := 19) O gf_c_S_20_0 d_S_reach_19 ?_
    refine r_iload_n (pc := 22) O d_S_reach_22 1 rfl ?_
    refine r_callVip (pc := 23) O [.int p1] rfl rfl (R_W_hasEnding n p1 h) cw_S_reach_23 wm_550 wm_551 rfl (Nat.le_of_ble_eq_true rfl) d_S_reach_23 rfl (fun v23 => ?_)
    refine r_mustv (pc := 26) O T d_S_reach_26 (R_S_mustBeThere v23 h) cf_S_reach_26 wm_419 (Nat.le_of_ble_eq_true rfl) (fun q26 => ?_)
    refine r_aload_n (pc := 29) O d_S_reach_29 0 rfl ?_
    refine r_getR (pc := 30) O gf_c_S_24_0 d_S_reach_30 ?_
    refine r_iload_n (pc := 33) O d_S_reach_33 1 rfl ?_
    refine r_callVip (pc := 34) O [.int p1] rfl rfl (R_A_firstOverWith n p1 h) cw_S_reach_34 wm_842 wm_843 rfl (Nat.le_of_ble_eq_true rfl) d_S_reach_34 rfl (fun v34 => ?_)
    refine r_istore_n (lv' := [(3, .int v34), (0, .ref 0), (1, .int p1), (2, .int p2)]) (pc := 37) O d_S_reach_37 rfl (by decide) rfl ?_
    refine r_iload_n (pc := 38) O d_S_reach_38 3 rfl ?_
    refine r_if_eq (tgt := 60) (pc := 39) O d_S_reach_39 (by decide) (fun q39 => ?_) (fun q39 => ?_)
    · refine r_iload_n (pc := 60) O d_S_reach_60 0 rfl ?_
      refine r_iconst (pc := 61) O d_S_reach_61 ic_m1 ?_
      refine r_icmp_eq (tgt := 67) (pc := 62) O d_S_reach_62 (by decide) (fun q62 => ?_) (fun q62 => ?_)
      · refine r_aload_n (pc := 67) O d_S_reach_67 1 rfl ?_
        refine r_getR (pc := 68) O gf_c_S_24_0 d_S_reach_68 ?_
        refine r_callVip (pc := 71) O [] rfl rfl (R_A_isFinished n  h) cw_S_reach_71 wm_809 wm_810 rfl (Nat.le_of_ble_eq_true rfl) d_S_reach_71 rfl (fun v71 => ?_)
        refine r_if_eq (tgt := 81) (pc := 74) O d_S_reach_74 (by decide) (fun q74 => ?_) (fun q74 => ?_)
        · refine r_iconst (pc := 81) O d_S_reach_81 ic_2 ?_
          exact r_iret (pc := 82) O rfl d_S_reach_82
        · refine r_iconst (pc := 77) O d_S_reach_77 ic_0 ?_
          refine r_goto (pc := 78) O d_S_reach_78 (tgt := 82) (by decide) ?_
          exact r_iret (pc := 82) O rfl d_S_reach_82
      · refine r_iconst (pc := 65) O d_S_reach_65 ic_1 ?_
        exact r_iret (pc := 66) O rfl d_S_reach_66
    · refine r_iload_n (pc := 42) O d_S_reach_42 0 rfl ?_
      refine r_iconst (pc := 43) O d_S_reach_43 ic_m1 ?_
      refine r_icmp_ne (tgt := 51) (pc := 44) O d_S_reach_44 (by decide) (fun q44 => ?_) (fun q44 => ?_)
      · refine r_aload_n (pc := 51) O d_S_reach_51 1 rfl ?_
        refine r_getR (pc := 52) O gf_c_S_24_0 d_S_reach_52 ?_
        refine r_iload_n (pc := 55) O d_S_reach_55 0 rfl ?_
        refine r_callVip (pc := 56) O [.int v34] rfl rfl (R_A_depthOf n v34 h) cw_S_reach_56 wm_846 wm_847 rfl (Nat.le_of_ble_eq_true rfl) d_S_reach_56 rfl (fun v56 => ?_)
        exact r_iret (pc := 59) O rfl d_S_reach_59
      · refine r_iconst (pc := 47) O d_S_reach_47 ic_m1 ?_
        refine r_goto (pc := 48) O d_S_reach_48 (tgt := 59) (by decide) ?_
        exact r_iret (pc := 59) O rfl d_S_reach_59
  refine r_aload_n (pc := 0) O d_S_reach_0 0 rfl ?_
  refine r_getR (pc := 1) O gf_c_S_20_0 d_S_reach_1 ?_
  refine r_getI (x := (h.1 2 12)) (pc := 4) O gf_c_S_51_2 d_S_reach_4 rfl ?_
  refine r_if_le (tgt := 14) (pc := 7) O d_S_reach_7 (by decide) (fun q7 => ?_) (fun q7 => ?_)
  · refine r_iconst (pc := 14) O d_S_reach_14 ic_0 ?_
    exact (hK15 0 h)
  · refine r_iconst (pc := 10) O d_S_reach_10 ic_1 ?_
    refine r_goto (pc := 11) O d_S_reach_11 (tgt := 15) (by decide) ?_
    exact (hK15 1 h)
def K_S_way_15 (n : Nat) (p1 : Int32) (p2 : Int32) (p3 : Int32) (t0 : Int32) (h : sHp) : Option (Except Nat Int32 × sHp) :=
  if t0 = 0 then some (.error 2, h) else ((J_W_hasEnding n p1 h).bind fun v23 =>
  if v23 = 0 then some (.error 0, h) else ((J_A_firstOverWith n p1 h).bind fun v34 =>
  if v34 = (-1) then (some (.ok (-1), h)) else ((J_A_depthOf n v34 h).bind fun v53 =>
  (J_S_isFrom n p2 0 (v53 - 1) h).bind fun v58 =>
  if v58 = 0 then (some (.ok (-1), h)) else ((J_A_codeOnWay n v34 p2 h).bind fun v73 =>
  if p3 = 0 then ((J_D_verbOf n v73 h).bind fun v106 =>
  some (.ok v106, h)) else (if p3 = 1 then ((J_D_firstOf n v73 h).bind fun v112 =>
  some (.ok v112, h)) else (if p3 = 2 then ((J_D_secondOf n v73 h).bind fun v118 =>
  some (.ok v118, h)) else (some (.ok (-1), h))))))))
def J_S_way (n : Nat) (p1 : Int32) (p2 : Int32) (p3 : Int32) (h : sHp) : Option (Except Nat Int32 × sHp) :=
  if (h.1 2 12) ≤ 0 then (K_S_way_15 n p1 p2 p3 0 h) else (K_S_way_15 n p1 p2 p3 1 h)
set_option maxRecDepth 20000 in
set_option maxHeartbeats 4000000 in
theorem R_S_way (n : Nat) (p1 : Int32) (p2 : Int32) (p3 : Int32) (h : sHp) : sMf Zc oI y_S_way prog_1_method_20_code 6 (some .int) rm_S_way [.ref 0, .int p1, .int p2, .int p3] h (J_S_way n p1 p2 p3 h) := by
  refine sMf_of (own := "StoryStates") rfl (by decide) (Nat.le_of_ble_eq_true rfl) (fun M V O T => ?_)
  unfold J_S_way
  refine r_lv (lv' := [(0, .ref 0), (1, .int p1), (2, .int p2), (3, .int p3)]) [0, 1, 2, 3] rfl ?_
  have hK15 : ∀ (t0 : Int32) (h : sHp), sS Zc M V (sEf oI) 15 [(0, .ref 0), (1, .int p1), (2, .int p2), (3, .int p3)] [.int t0] h (K_S_way_15 n p1 p2 p3 t0 h) := by
    intro t0 h
    unfold K_S_way_15
    refine r_mustv (pc := 15) O T d_S_way_15 (R_S_mustBeAble t0 h) cf_S_way_15 wm_327 (Nat.le_of_ble_eq_true rfl) (fun q15 => ?_)
    refine r_aload_n (pc := 18) O d_S_way_18 0 rfl ?_
    refine r_getR (pc := 19) O gf_c_S_20_0 d_S_way_19 ?_
    refine r_iload_n (pc := 22) O d_S_way_22 1 rfl ?_
    refine r_callVip (pc := 23) O [.int p1] rfl rfl (R_W_hasEnding n p1 h) cw_S_way_23 wm_550 wm_551 rfl (Nat.le_of_ble_eq_true rfl) d_S_way_23 rfl (fun v23 => ?_)
    refine r_mustv (pc := 26) O T d_S_way_26 (R_S_mustBeThere v23 h) cf_S_way_26 wm_419 (Nat.le_of_ble_eq_true rfl) (fun q26 => ?_)
    refine r_aload_n (pc := 29) O d_S_way_29 0 rfl ?_
    refine r_getR (pc := 30) O gf_c_S_24_0 d_S_way_30 ?_
    refine r_iload_n (pc := 33) O d_S_way_33 1 rfl ?_
    refine r_callVip (pc := 34) O [.int p1] rfl rfl (R_A_firstOverWith n p1 h) cw_S_way_34 wm_842 wm_843 rfl (Nat.le_of_ble_eq_true rfl) d_S_way_34 rfl (fun v34 => ?_)
    refine r_istore (lv' := [(4, .int v34), (0, .ref 0), (1, .int p1), (2, .int p2), (3, .int p3)]) (pc := 37) O d_S_way_37 (by decide) rfl ?_
    refine r_iload (pc := 39) O d_S_way_39 0 rfl ?_
    refine r_iconst (pc := 41) O d_S_way_41 ic_m1 ?_
    refine r_icmp_eq (tgt := 64) (pc := 42) O d_S_way_42 (by decide) (fun q42 => ?_) (fun q42 => ?_)
    · refine r_iconst (pc := 64) O d_S_way_64 ic_m1 ?_
      exact r_iret (pc := 65) O rfl d_S_way_65
    · refine r_iload_n (pc := 45) O d_S_way_45 3 rfl ?_
      refine r_iconst (pc := 46) O d_S_way_46 ic_0 ?_
      refine r_aload_n (pc := 47) O d_S_way_47 1 rfl ?_
      refine r_getR (pc := 48) O gf_c_S_24_0 d_S_way_48 ?_
      refine r_iload (pc := 51) O d_S_way_51 0 rfl ?_
      refine r_callVip (pc := 53) O [.int v34] rfl rfl (R_A_depthOf n v34 h) cw_S_way_53 wm_846 wm_847 rfl (Nat.le_of_ble_eq_true rfl) d_S_way_53 rfl (fun v53 => ?_)
      refine r_iconst (pc := 56) O d_S_way_56 ic_1 ?_
      refine r_isub (pc := 57) O d_S_way_57 ?_
      refine r_callSip (pc := 58) O [.int p2, .int 0, .int (v53 - 1)] (R_S_isFrom n p2 0 (v53 - 1) h) cw_S_way_58 wm_312 rfl (Nat.le_of_ble_eq_true rfl) d_S_way_58 rfl (fun v58 => ?_)
      refine r_if_ne (tgt := 66) (pc := 61) O d_S_way_61 (by decide) (fun q61 => ?_) (fun q61 => ?_)
      · refine r_aload_n (pc := 66) O d_S_way_66 1 rfl ?_
        refine r_getR (pc := 67) O gf_c_S_24_0 d_S_way_67 ?_
        refine r_iload (pc := 70) O d_S_way_70 0 rfl ?_
        refine r_iload_n (pc := 72) O d_S_way_72 3 rfl ?_
        refine r_callVip (pc := 73) O [.int v34, .int p2] rfl rfl (R_A_codeOnWay n v34 p2 h) cw_S_way_73 wm_857 wm_858 rfl (Nat.le_of_ble_eq_true rfl) d_S_way_73 rfl (fun v73 => ?_)
        refine r_istore (lv' := [(5, .int v73), (4, .int v34), (0, .ref 0), (1, .int p1), (2, .int p2), (3, .int p3)]) (pc := 76) O d_S_way_76 (by decide) rfl ?_
        refine r_iload_n (pc := 78) O d_S_way_78 5 rfl ?_
        refine r_ite (fun q79_0 => ?_) (fun q79_0 => ?_)
        · refine r_tin (tgt := 104) (pc := 79) O d_S_way_79 (by rw [q79_0] <;> decide) (by rw [q79_0] <;> decide) (by rw [q79_0] <;> rfl) (by decide) ?_
          refine r_iload (pc := 104) O d_S_way_104 0 rfl ?_
          refine r_callSip (pc := 106) O [.int v73] (R_D_verbOf n v73 h) cw_S_way_106 wm_792 rfl (Nat.le_of_ble_eq_true rfl) d_S_way_106 rfl (fun v106 => ?_)
          exact r_iret (pc := 109) O rfl d_S_way_109
        · refine r_ite (fun q79_1 => ?_) (fun q79_1 => ?_)
          · refine r_tin (tgt := 110) (pc := 79) O d_S_way_79 (by rw [q79_1] <;> decide) (by rw [q79_1] <;> decide) (by rw [q79_1] <;> rfl) (by decide) ?_
            refine r_iload (pc := 110) O d_S_way_110 0 rfl ?_
            refine r_callSip (pc := 112) O [.int v73] (R_D_firstOf n v73 h) cw_S_way_112 wm_795 rfl (Nat.le_of_ble_eq_true rfl) d_S_way_112 rfl (fun v112 => ?_)
            exact r_iret (pc := 115) O rfl d_S_way_115
          · refine r_ite (fun q79_2 => ?_) (fun q79_2 => ?_)
            · refine r_tin (tgt := 116) (pc := 79) O d_S_way_79 (by rw [q79_2] <;> decide) (by rw [q79_2] <;> decide) (by rw [q79_2] <;> rfl) (by decide) ?_
              refine r_iload (pc := 116) O d_S_way_116 0 rfl ?_
              refine r_callSip (pc := 118) O [.int v73] (R_D_secondOf n v73 h) cw_S_way_118 wm_798 rfl (Nat.le_of_ble_eq_true rfl) d_S_way_118 rfl (fun v118 => ?_)
              exact r_iret (pc := 121) O rfl d_S_way_121
            · refine r_tout (tgt := 122) (pc := 79) O d_S_way_79 (by have z0 := lv_neT (a := 0) q79_0 (by decide); have z1 := lv_neT (a := 1) q79_1 (by decide); have z2 := lv_neT (a := 2) q79_2 (by decide); omega) (by decide) ?_
              refine r_iconst (pc := 122) O d_S_way_122 ic_m1 ?_
              exact r_iret (pc := 123) O rfl d_S_way_123
      · refine r_iconst (pc := 64) O d_S_way_64 ic_m1 ?_
        exact r_iret (pc := 65) O rfl d_S_way_65
  refine r_aload_n (pc := 0) O d_S_way_0 0 rfl ?_
  refine r_getR (pc := 1) O gf_c_S_20_0 d_S_way_1 ?_
  refine r_getI (x := (h.1 2 12)) (pc := 4) O gf_c_S_51_2 d_S_way_4 rfl ?_
  refine r_if_le (tgt := 14) (pc := 7) O d_S_way_7 (by decide) (fun q7 => ?_) (fun q7 => ?_)
  · refine r_iconst (pc := 14) O d_S_way_14 ic_0 ?_
    exact (hK15 0 h)
  · refine r_iconst (pc := 10) O d_S_way_10 ic_1 ?_
    refine r_goto (pc := 11) O d_S_way_11 (tgt := 15) (by decide) ?_
    exact (hK15 1 h)
def K_S_study_15 (n : Nat) (p1 : Int32) (p2 : Int32) (t0 : Int32) (h : sHp) : Option (Except Nat Int32 × sHp) :=
  if t0 = 0 then some (.error 2, h) else ((J_S_isFrom n p1 0 4 h).bind fun v21 =>
  if v21 = 0 then some (.error 1, h) else (if p1 = 0 then (some (.ok (jMmax (h.1 6 10) 1), h)) else ((J_A_isFinished n h).bind fun v47 =>
  if v47 = 0 then (if p1 = 1 then (some (.ok 2, h)) else (some (.ok (-1), h))) else (if p1 = 1 then (sGd (sIn (h.1 0 5) 61) ((J_A_isHopeless n (h.2 7 (ix (h.1 0 5))) h).bind fun v105 =>
  if v105 = 0 then (some (.ok 0, h)) else (some (.ok 1, h)))) else (if p1 = 2 then ((J_S_spoilingTurn n h).bind fun v118 =>
  some (.ok v118, h)) else (if p1 = 3 then ((J_A_countStuck n h).bind fun v126 =>
  some (.ok v126, h)) else ((J_A_idleRule n p2 (h.1 3 7) h).bind fun v145 =>
  some (.ok v145, h))))))))
def J_S_study (n : Nat) (p1 : Int32) (p2 : Int32) (h : sHp) : Option (Except Nat Int32 × sHp) :=
  if (h.1 2 12) ≤ 0 then (K_S_study_15 n p1 p2 0 h) else (K_S_study_15 n p1 p2 1 h)
set_option maxRecDepth 20000 in
set_option maxHeartbeats 4000000 in
theorem R_S_study (n : Nat) (p1 : Int32) (p2 : Int32) (h : sHp) : sMf Zc oI y_S_study prog_1_method_21_code 3 (some .int) rm_S_study [.ref 0, .int p1, .int p2] h (J_S_study n p1 p2 h) := by
  refine sMf_of (own := "StoryStates") rfl (by decide) (Nat.le_of_ble_eq_true rfl) (fun M V O T => ?_)
  unfold J_S_study
  refine r_lv (lv' := [(0, .ref 0), (1, .int p1), (2, .int p2)]) [0, 1, 2] rfl ?_
  have hK15 : ∀ (t0 : Int32) (h : sHp), sS Zc M V (sEf oI) 15 [(0, .ref 0), (1, .int p1), (2, .int p2)] [.int t0] h (K_S_study_15 n p1 p2 t0 h) := by
    intro t0 h
    unfold K_S_study_15
    refine r_mustv (pc := 15) O T d_S_study_15 (R_S_mustBeAble t0 h) cf_S_study_15 wm_327 (Nat.le_of_ble_eq_true rfl) (fun q15 => ?_)
    refine r_iload_n (pc := 18) O d_S_study_18 1 rfl ?_
    refine r_iconst (pc := 19) O d_S_study_19 ic_0 ?_
    refine r_iconst (pc := 20) O d_S_study_20 ic_4 ?_
    refine r_callSip (pc := 21) O [.int p1, .int 0, .int 4] (R_S_isFrom n p1 0 4 h) cw_S_study_21 wm_312 rfl (Nat.le_of_ble_eq_true rfl) d_S_study_21 rfl (fun v21 => ?_)
    refine r_mustv (pc := 24) O T d_S_study_24 (R_S_mustFit v21 h) cf_S_study_24 wm_437 (Nat.le_of_ble_eq_true rfl) (fun q24 => ?_)
    refine r_iload_n (pc := 27) O d_S_study_27 1 rfl ?_
    refine r_if_ne (tgt := 43) (pc := 28) O d_S_study_28 (by decide) (fun q28 => ?_) (fun q28 => ?_)
    · refine r_aload_n (pc := 43) O d_S_study_43 0 rfl ?_
      refine r_getR (pc := 44) O gf_c_S_24_0 d_S_study_44 ?_
      refine r_callVip (pc := 47) O [] rfl rfl (R_A_isFinished n  h) cw_S_study_47 wm_809 wm_810 rfl (Nat.le_of_ble_eq_true rfl) d_S_study_47 rfl (fun v47 => ?_)
      refine r_if_ne (tgt := 64) (pc := 50) O d_S_study_50 (by decide) (fun q50 => ?_) (fun q50 => ?_)
      · refine r_iload_n (pc := 64) O d_S_study_64 1 rfl ?_
        refine r_ite (fun q65_0 => ?_) (fun q65_0 => ?_)
        · refine r_tin (tgt := 92) (pc := 65) O d_S_study_65 (by rw [q65_0] <;> decide) (by rw [q65_0] <;> decide) (by rw [q65_0] <;> rfl) (by decide) ?_
          refine r_aload_n (pc := 92) O d_S_study_92 0 rfl ?_
          refine r_getR (pc := 93) O gf_c_S_24_0 d_S_study_93 ?_
          refine r_aload_n (pc := 96) O d_S_study_96 0 rfl ?_
          refine r_getR (pc := 97) O gf_c_S_28_0 d_S_study_97 ?_
          refine r_aload_n (pc := 100) O d_S_study_100 0 rfl ?_
          refine r_getI (x := (h.1 0 5)) (pc := 101) O gf_c_S_36_0 d_S_study_101 rfl ?_
          refine r_lald (x := (h.2 7 (ix (h.1 0 5)))) (pc := 104) O rfl d_S_study_104 rfl ?_
          refine r_callVip (pc := 105) O [.long (h.2 7 (ix (h.1 0 5)))] rfl rfl (R_A_isHopeless n (h.2 7 (ix (h.1 0 5))) h) cw_S_study_105 wm_873 wm_874 rfl (Nat.le_of_ble_eq_true rfl) d_S_study_105 rfl (fun v105 => ?_)
          refine r_if_eq (tgt := 115) (pc := 108) O d_S_study_108 (by decide) (fun q108 => ?_) (fun q108 => ?_)
          · refine r_iconst (pc := 115) O d_S_study_115 ic_0 ?_
            exact r_iret (pc := 116) O rfl d_S_study_116
          · refine r_iconst (pc := 111) O d_S_study_111 ic_1 ?_
            refine r_goto (pc := 112) O d_S_study_112 (tgt := 116) (by decide) ?_
            exact r_iret (pc := 116) O rfl d_S_study_116
        · refine r_ite (fun q65_1 => ?_) (fun q65_1 => ?_)
          · refine r_tin (tgt := 117) (pc := 65) O d_S_study_65 (by rw [q65_1] <;> decide) (by rw [q65_1] <;> decide) (by rw [q65_1] <;> rfl) (by decide) ?_
            refine r_aload_n (pc := 117) O d_S_study_117 0 rfl ?_
            refine r_callVip (pc := 118) O [] rfl rfl (R_S_spoilingTurn n  h) cw_S_study_118 wm_878 ws_S_spoilingTurn rfl (Nat.le_of_ble_eq_true rfl) d_S_study_118 rfl (fun v118 => ?_)
            exact r_iret (pc := 121) O rfl d_S_study_121
          · refine r_ite (fun q65_2 => ?_) (fun q65_2 => ?_)
            · refine r_tin (tgt := 122) (pc := 65) O d_S_study_65 (by rw [q65_2] <;> decide) (by rw [q65_2] <;> decide) (by rw [q65_2] <;> rfl) (by decide) ?_
              refine r_aload_n (pc := 122) O d_S_study_122 0 rfl ?_
              refine r_getR (pc := 123) O gf_c_S_24_0 d_S_study_123 ?_
              refine r_callVip (pc := 126) O [] rfl rfl (R_A_countStuck n  h) cw_S_study_126 wm_881 wm_882 rfl (Nat.le_of_ble_eq_true rfl) d_S_study_126 rfl (fun v126 => ?_)
              exact r_iret (pc := 129) O rfl d_S_study_129
            · refine r_tout (tgt := 130) (pc := 65) O d_S_study_65 (by have z0 := lv_neT (a := 1) q65_0 (by decide); have z1 := lv_neT (a := 2) q65_1 (by decide); have z2 := lv_neT (a := 3) q65_2 (by decide); omega) (by decide) ?_
              refine r_aload_n (pc := 130) O d_S_study_130 0 rfl ?_
              refine r_getR (pc := 131) O gf_c_S_24_0 d_S_study_131 ?_
              refine r_iload_n (pc := 134) O d_S_study_134 2 rfl ?_
              refine r_aload_n (pc := 135) O d_S_study_135 0 rfl ?_
              refine r_getR (pc := 136) O gf_c_S_20_0 d_S_study_136 ?_
              refine r_getR (pc := 139) O gf_c_S_109_2 d_S_study_139 ?_
              refine r_getI (x := (h.1 3 7)) (pc := 142) O gf_c_S_113_3 d_S_study_142 rfl ?_
              refine r_callVip (pc := 145) O [.int p2, .int (h.1 3 7)] rfl rfl (R_A_idleRule n p2 (h.1 3 7) h) cw_S_study_145 wm_889 wm_890 rfl (Nat.le_of_ble_eq_true rfl) d_S_study_145 rfl (fun v145 => ?_)
              exact r_iret (pc := 148) O rfl d_S_study_148
      · refine r_iload_n (pc := 53) O d_S_study_53 1 rfl ?_
        refine r_iconst (pc := 54) O d_S_study_54 ic_1 ?_
        refine r_icmp_ne (tgt := 62) (pc := 55) O d_S_study_55 (by decide) (fun q55 => ?_) (fun q55 => ?_)
        · refine r_iconst (pc := 62) O d_S_study_62 ic_m1 ?_
          exact r_iret (pc := 63) O rfl d_S_study_63
        · refine r_iconst (pc := 58) O d_S_study_58 ic_2 ?_
          refine r_goto (pc := 59) O d_S_study_59 (tgt := 63) (by decide) ?_
          exact r_iret (pc := 63) O rfl d_S_study_63
    · refine r_aload_n (pc := 31) O d_S_study_31 0 rfl ?_
      refine r_getR (pc := 32) O gf_c_S_24_0 d_S_study_32 ?_
      refine r_getI (x := (h.1 6 10)) (pc := 35) O gf_c_S_226_6 d_S_study_35 rfl ?_
      refine r_iconst (pc := 38) O d_S_study_38 ic_1 ?_
      refine r_mmax (pc := 39) O d_S_study_39 wm_871 wm_678 wm_15 wm_679 (by decide) (Nat.le_of_ble_eq_true rfl) ?_
      exact r_iret (pc := 42) O rfl d_S_study_42
  refine r_aload_n (pc := 0) O d_S_study_0 0 rfl ?_
  refine r_getR (pc := 1) O gf_c_S_20_0 d_S_study_1 ?_
  refine r_getI (x := (h.1 2 12)) (pc := 4) O gf_c_S_51_2 d_S_study_4 rfl ?_
  refine r_if_le (tgt := 14) (pc := 7) O d_S_study_7 (by decide) (fun q7 => ?_) (fun q7 => ?_)
  · refine r_iconst (pc := 14) O d_S_study_14 ic_0 ?_
    exact (hK15 0 h)
  · refine r_iconst (pc := 10) O d_S_study_10 ic_1 ?_
    refine r_goto (pc := 11) O d_S_study_11 (tgt := 15) (by decide) ?_
    exact (hK15 1 h)
def J_L_room (n : Nat)  (h : sHp) : Option (Int32 × sHp) :=
  jC (J_S_room n h) (fun v3 h3 => some (0, (pL h3 41 (ix 0) (Int32.toInt64 v3)))) (fun k h => if k = 2 then some ((1 : Int32), h) else none)
set_option maxRecDepth 20000 in
set_option maxHeartbeats 4000000 in
theorem R_L_room (n : Nat)  (h : sHp) : sMh Zc y_L_room method_3_code 3 [(0, 8, 11, 13)] rm_L_room [.ref 0, .ref 41] h (J_L_room n  h) := by
  refine sMh_of (own := "StoryStatesLaw") rfl (by decide) (Nat.le_of_ble_eq_true rfl) ⟨by decide, by decide⟩ (fun M V O T => ?_)
  unfold J_L_room
  refine r_lv (lv' := [(0, .ref 0), (1, .ref 41)]) [0, 1] rfl ?_
  refine r_aload_n (pc := 0) O d_L_room_0 1 rfl ?_
  refine r_iconst (pc := 1) O d_L_room_1 ic_0 ?_
  refine r_aload_n (pc := 2) O d_L_room_2 0 rfl ?_
  refine r_catchi (pc := 3) O T [] rfl rfl (R_S_room n h) cf_L_room_3 wm_323 wm_324 rfl (Nat.le_of_ble_eq_true rfl) d_L_room_3 hr_L_room hG_L_room rfl (fun v3 h3 => ?_)
  refine r_i2l (pc := 6) O d_L_room_6 ?_
  refine r_last_c (pc := 7) O rfl (sIn_iff.mp (by decide)) d_L_room_7 ?_
  refine r_goto (pc := 8) O d_L_room_8 (tgt := 14) (by decide) ?_
  refine r_iconst (pc := 14) O d_L_room_14 ic_0 ?_
  exact r_iret (pc := 15) O rfl d_L_room_15
def J_L_exit (n : Nat) (p1 : Int32) (p2 : Int32) (p3 : Int32) (p4 : Int32) (h : sHp) : Option (Int32 × sHp) :=
  jC (J_S_exit n p1 p2 p3 p4 h) (fun v6 h6 => some (0, h6)) (fun k h => if k = 0 then some ((1 : Int32), h) else (if k = 1 then some ((2 : Int32), h) else none))
set_option maxRecDepth 20000 in
set_option maxHeartbeats 4000000 in
theorem R_L_exit (n : Nat) (p1 : Int32) (p2 : Int32) (p3 : Int32) (p4 : Int32) (h : sHp) : sMh Zc y_L_exit method_4_code 6 [(0, 9, 12, 19), (0, 9, 16, 21)] rm_L_exit [.ref 0, .int p1, .int p2, .int p3, .int p4] h (J_L_exit n p1 p2 p3 p4 h) := by
  refine sMh_of (own := "StoryStatesLaw") rfl (by decide) (Nat.le_of_ble_eq_true rfl) ⟨by decide, by decide⟩ (fun M V O T => ?_)
  unfold J_L_exit
  refine r_lv (lv' := [(0, .ref 0), (1, .int p1), (2, .int p2), (3, .int p3), (4, .int p4)]) [0, 1, 2, 3, 4] rfl ?_
  refine r_aload_n (pc := 0) O d_L_exit_0 0 rfl ?_
  refine r_iload_n (pc := 1) O d_L_exit_1 1 rfl ?_
  refine r_iload_n (pc := 2) O d_L_exit_2 2 rfl ?_
  refine r_iload_n (pc := 3) O d_L_exit_3 3 rfl ?_
  refine r_iload (pc := 4) O d_L_exit_4 4 rfl ?_
  refine r_catchv (pc := 6) O T [.int p1, .int p2, .int p3, .int p4] rfl rfl (R_S_exit n p1 p2 p3 p4 h) cf_L_exit_6 wm_406 wm_407 rfl (Nat.le_of_ble_eq_true rfl) d_L_exit_6 hr_L_exit hG_L_exit rfl (fun v6 h6 => ?_)
  refine r_goto (pc := 9) O d_L_exit_9 (tgt := 20) (by decide) ?_
  refine r_iconst (pc := 20) O d_L_exit_20 ic_0 ?_
  exact r_iret (pc := 21) O rfl d_L_exit_21
def J_L_thing (n : Nat) (p1 : Int32) (p2 : Int32) (h : sHp) : Option (Int32 × sHp) :=
  jC (J_S_thing n p1 p2 h) (fun v5 h5 => some (0, (pL h5 41 (ix 0) (Int32.toInt64 v5)))) (fun k h => if k = 0 then some ((1 : Int32), h) else (if k = 1 then some ((2 : Int32), h) else (if k = 2 then some ((3 : Int32), h) else none)))
set_option maxRecDepth 20000 in
set_option maxHeartbeats 4000000 in
theorem R_L_thing (n : Nat) (p1 : Int32) (p2 : Int32) (h : sHp) : sMh Zc y_L_thing method_5_code 5 [(0, 10, 13, 19), (0, 10, 17, 21), (0, 10, 21, 13)] rm_L_thing [.ref 0, .int p1, .int p2, .ref 41] h (J_L_thing n p1 p2 h) := by
  refine sMh_of (own := "StoryStatesLaw") rfl (by decide) (Nat.le_of_ble_eq_true rfl) ⟨by decide, by decide⟩ (fun M V O T => ?_)
  unfold J_L_thing
  refine r_lv (lv' := [(0, .ref 0), (1, .int p1), (2, .int p2), (3, .ref 41)]) [0, 1, 2, 3] rfl ?_
  refine r_aload_n (pc := 0) O d_L_thing_0 3 rfl ?_
  refine r_iconst (pc := 1) O d_L_thing_1 ic_0 ?_
  refine r_aload_n (pc := 2) O d_L_thing_2 0 rfl ?_
  refine r_iload_n (pc := 3) O d_L_thing_3 1 rfl ?_
  refine r_iload_n (pc := 4) O d_L_thing_4 2 rfl ?_
  refine r_catchi (pc := 5) O T [.int p1, .int p2] rfl rfl (R_S_thing n p1 p2 h) cf_L_thing_5 wm_459 wm_460 rfl (Nat.le_of_ble_eq_true rfl) d_L_thing_5 hr_L_thing hG_L_thing rfl (fun v5 h5 => ?_)
  refine r_i2l (pc := 8) O d_L_thing_8 ?_
  refine r_last_c (pc := 9) O rfl (sIn_iff.mp (by decide)) d_L_thing_9 ?_
  refine r_goto (pc := 10) O d_L_thing_10 (tgt := 25) (by decide) ?_
  refine r_iconst (pc := 25) O d_L_thing_25 ic_0 ?_
  exact r_iret (pc := 26) O rfl d_L_thing_26
def J_L_number (n : Nat) (p1 : Int32) (p2 : Int32) (h : sHp) : Option (Int32 × sHp) :=
  jC (J_S_number n p1 p2 h) (fun v5 h5 => some (0, (pL h5 41 (ix 0) (Int32.toInt64 v5)))) (fun k h => if k = 1 then some ((1 : Int32), h) else (if k = 2 then some ((2 : Int32), h) else none))
set_option maxRecDepth 20000 in
set_option maxHeartbeats 4000000 in
theorem R_L_number (n : Nat) (p1 : Int32) (p2 : Int32) (h : sHp) : sMh Zc y_L_number method_6_code 5 [(0, 10, 13, 21), (0, 10, 17, 13)] rm_L_number [.ref 0, .int p1, .int p2, .ref 41] h (J_L_number n p1 p2 h) := by
  refine sMh_of (own := "StoryStatesLaw") rfl (by decide) (Nat.le_of_ble_eq_true rfl) ⟨by decide, by decide⟩ (fun M V O T => ?_)
  unfold J_L_number
  refine r_lv (lv' := [(0, .ref 0), (1, .int p1), (2, .int p2), (3, .ref 41)]) [0, 1, 2, 3] rfl ?_
  refine r_aload_n (pc := 0) O d_L_number_0 3 rfl ?_
  refine r_iconst (pc := 1) O d_L_number_1 ic_0 ?_
  refine r_aload_n (pc := 2) O d_L_number_2 0 rfl ?_
  refine r_iload_n (pc := 3) O d_L_number_3 1 rfl ?_
  refine r_iload_n (pc := 4) O d_L_number_4 2 rfl ?_
  refine r_catchi (pc := 5) O T [.int p1, .int p2] rfl rfl (R_S_number n p1 p2 h) cf_L_number_5 wm_478 wm_479 rfl (Nat.le_of_ble_eq_true rfl) d_L_number_5 hr_L_number hG_L_number rfl (fun v5 h5 => ?_)
  refine r_i2l (pc := 8) O d_L_number_8 ?_
  refine r_last_c (pc := 9) O rfl (sIn_iff.mp (by decide)) d_L_number_9 ?_
  refine r_goto (pc := 10) O d_L_number_10 (tgt := 21) (by decide) ?_
  refine r_iconst (pc := 21) O d_L_number_21 ic_0 ?_
  exact r_iret (pc := 22) O rfl d_L_number_22
def J_L_ending (n : Nat) (p1 : Int32) (h : sHp) : Option (Int32 × sHp) :=
  jC (J_S_ending n p1 h) (fun v4 h4 => some (0, (pL h4 41 (ix 0) (Int32.toInt64 v4)))) (fun k h => if k = 2 then some ((1 : Int32), h) else none)
set_option maxRecDepth 20000 in
set_option maxHeartbeats 4000000 in
theorem R_L_ending (n : Nat) (p1 : Int32) (h : sHp) : sMh Zc y_L_ending method_7_code 4 [(0, 9, 12, 13)] rm_L_ending [.ref 0, .int p1, .ref 41] h (J_L_ending n p1 h) := by
  refine sMh_of (own := "StoryStatesLaw") rfl (by decide) (Nat.le_of_ble_eq_true rfl) ⟨by decide, by decide⟩ (fun M V O T => ?_)
  unfold J_L_ending
  refine r_lv (lv' := [(0, .ref 0), (1, .int p1), (2, .ref 41)]) [0, 1, 2] rfl ?_
  refine r_aload_n (pc := 0) O d_L_ending_0 2 rfl ?_
  refine r_iconst (pc := 1) O d_L_ending_1 ic_0 ?_
  refine r_aload_n (pc := 2) O d_L_ending_2 0 rfl ?_
  refine r_iload_n (pc := 3) O d_L_ending_3 1 rfl ?_
  refine r_catchi (pc := 4) O T [.int p1] rfl rfl (R_S_ending n p1 h) cf_L_ending_4 wm_489 wm_490 rfl (Nat.le_of_ble_eq_true rfl) d_L_ending_4 hr_L_ending hG_L_ending rfl (fun v4 h4 => ?_)
  refine r_i2l (pc := 7) O d_L_ending_7 ?_
  refine r_last_c (pc := 8) O rfl (sIn_iff.mp (by decide)) d_L_ending_8 ?_
  refine r_goto (pc := 9) O d_L_ending_9 (tgt := 15) (by decide) ?_
  refine r_iconst (pc := 15) O d_L_ending_15 ic_0 ?_
  exact r_iret (pc := 16) O rfl d_L_ending_16
def J_L_rule (n : Nat) (p1 : Int32) (p2 : Int32) (p3 : Int32) (p4 : Int32) (h : sHp) : Option (Int32 × sHp) :=
  jC (J_S_rule n p1 p2 p3 p4 h) (fun v9 h9 => some (0, (pL h9 41 (ix 0) (Int32.toInt64 v9)))) (fun k h => if k = 1 then some ((1 : Int32), h) else (if k = 2 then some ((2 : Int32), h) else none))
set_option maxRecDepth 20000 in
set_option maxHeartbeats 4000000 in
theorem R_L_rule (n : Nat) (p1 : Int32) (p2 : Int32) (p3 : Int32) (p4 : Int32) (h : sHp) : sMh Zc y_L_rule method_8_code 7 [(0, 14, 17, 21), (0, 14, 21, 13)] rm_L_rule [.ref 0, .int p1, .int p2, .int p3, .int p4, .ref 41] h (J_L_rule n p1 p2 p3 p4 h) := by
  refine sMh_of (own := "StoryStatesLaw") rfl (by decide) (Nat.le_of_ble_eq_true rfl) ⟨by decide, by decide⟩ (fun M V O T => ?_)
  unfold J_L_rule
  refine r_lv (lv' := [(0, .ref 0), (1, .int p1), (2, .int p2), (3, .int p3), (4, .int p4), (5, .ref 41)]) [0, 1, 2, 3, 4, 5] rfl ?_
  refine r_aload (pc := 0) O d_L_rule_0 5 rfl ?_
  refine r_iconst (pc := 2) O d_L_rule_2 ic_0 ?_
  refine r_aload_n (pc := 3) O d_L_rule_3 0 rfl ?_
  refine r_iload_n (pc := 4) O d_L_rule_4 1 rfl ?_
  refine r_iload_n (pc := 5) O d_L_rule_5 2 rfl ?_
  refine r_iload_n (pc := 6) O d_L_rule_6 3 rfl ?_
  refine r_iload (pc := 7) O d_L_rule_7 4 rfl ?_
  refine r_catchi (pc := 9) O T [.int p1, .int p2, .int p3, .int p4] rfl rfl (R_S_rule n p1 p2 p3 p4 h) cf_L_rule_9 wm_500 wm_501 rfl (Nat.le_of_ble_eq_true rfl) d_L_rule_9 hr_L_rule hG_L_rule rfl (fun v9 h9 => ?_)
  refine r_i2l (pc := 12) O d_L_rule_12 ?_
  refine r_last_c (pc := 13) O rfl (sIn_iff.mp (by decide)) d_L_rule_13 ?_
  refine r_goto (pc := 14) O d_L_rule_14 (tgt := 25) (by decide) ?_
  refine r_iconst (pc := 25) O d_L_rule_25 ic_0 ?_
  exact r_iret (pc := 26) O rfl d_L_rule_26
def J_L_condition (n : Nat) (p1 : Int32) (p2 : Int32) (p3 : Int32) (p4 : Int32) (h : sHp) : Option (Int32 × sHp) :=
  jC (J_S_condition n p1 p2 p3 p4 h) (fun v6 h6 => some (0, h6)) (fun k h => if k = 0 then some ((1 : Int32), h) else (if k = 1 then some ((2 : Int32), h) else (if k = 2 then some ((3 : Int32), h) else none)))
set_option maxRecDepth 20000 in
set_option maxHeartbeats 4000000 in
theorem R_L_condition (n : Nat) (p1 : Int32) (p2 : Int32) (p3 : Int32) (p4 : Int32) (h : sHp) : sMh Zc y_L_condition method_9_code 6 [(0, 9, 12, 19), (0, 9, 16, 21), (0, 9, 20, 13)] rm_L_condition [.ref 0, .int p1, .int p2, .int p3, .int p4] h (J_L_condition n p1 p2 p3 p4 h) := by
  refine sMh_of (own := "StoryStatesLaw") rfl (by decide) (Nat.le_of_ble_eq_true rfl) ⟨by decide, by decide⟩ (fun M V O T => ?_)
  unfold J_L_condition
  refine r_lv (lv' := [(0, .ref 0), (1, .int p1), (2, .int p2), (3, .int p3), (4, .int p4)]) [0, 1, 2, 3, 4] rfl ?_
  refine r_aload_n (pc := 0) O d_L_condition_0 0 rfl ?_
  refine r_iload_n (pc := 1) O d_L_condition_1 1 rfl ?_
  refine r_iload_n (pc := 2) O d_L_condition_2 2 rfl ?_
  refine r_iload_n (pc := 3) O d_L_condition_3 3 rfl ?_
  refine r_iload (pc := 4) O d_L_condition_4 4 rfl ?_
  refine r_catchv (pc := 6) O T [.int p1, .int p2, .int p3, .int p4] rfl rfl (R_S_condition n p1 p2 p3 p4 h) cf_L_condition_6 wm_511 wm_512 rfl (Nat.le_of_ble_eq_true rfl) d_L_condition_6 hr_L_condition hG_L_condition rfl (fun v6 h6 => ?_)
  refine r_goto (pc := 9) O d_L_condition_9 (tgt := 24) (by decide) ?_
  refine r_iconst (pc := 24) O d_L_condition_24 ic_0 ?_
  exact r_iret (pc := 25) O rfl d_L_condition_25
def J_L_effect (n : Nat) (p1 : Int32) (p2 : Int32) (p3 : Int32) (p4 : Int32) (h : sHp) : Option (Int32 × sHp) :=
  jC (J_S_effect n p1 p2 p3 p4 h) (fun v6 h6 => some (0, h6)) (fun k h => if k = 0 then some ((1 : Int32), h) else (if k = 1 then some ((2 : Int32), h) else (if k = 2 then some ((3 : Int32), h) else none)))
set_option maxRecDepth 20000 in
set_option maxHeartbeats 4000000 in
theorem R_L_effect (n : Nat) (p1 : Int32) (p2 : Int32) (p3 : Int32) (p4 : Int32) (h : sHp) : sMh Zc y_L_effect method_10_code 6 [(0, 9, 12, 19), (0, 9, 16, 21), (0, 9, 20, 13)] rm_L_effect [.ref 0, .int p1, .int p2, .int p3, .int p4] h (J_L_effect n p1 p2 p3 p4 h) := by
  refine sMh_of (own := "StoryStatesLaw") rfl (by decide) (Nat.le_of_ble_eq_true rfl) ⟨by decide, by decide⟩ (fun M V O T => ?_)
  unfold J_L_effect
  refine r_lv (lv' := [(0, .ref 0), (1, .int p1), (2, .int p2), (3, .int p3), (4, .int p4)]) [0, 1, 2, 3, 4] rfl ?_
  refine r_aload_n (pc := 0) O d_L_effect_0 0 rfl ?_
  refine r_iload_n (pc := 1) O d_L_effect_1 1 rfl ?_
  refine r_iload_n (pc := 2) O d_L_effect_2 2 rfl ?_
  refine r_iload_n (pc := 3) O d_L_effect_3 3 rfl ?_
  refine r_iload (pc := 4) O d_L_effect_4 4 rfl ?_
  refine r_catchv (pc := 6) O T [.int p1, .int p2, .int p3, .int p4] rfl rfl (R_S_effect n p1 p2 p3 p4 h) cf_L_effect_6 wm_546 wm_547 rfl (Nat.le_of_ble_eq_true rfl) d_L_effect_6 hr_L_effect hG_L_effect rfl (fun v6 h6 => ?_)
  refine r_goto (pc := 9) O d_L_effect_9 (tgt := 24) (by decide) ?_
  refine r_iconst (pc := 24) O d_L_effect_24 ic_0 ?_
  exact r_iret (pc := 25) O rfl d_L_effect_25
def J_L_walker (n : Nat) (p1 : Int32) (p2 : Int32) (p3 : Int32) (p4 : Int32) (h : sHp) : Option (Int32 × sHp) :=
  jC (J_S_walker n p1 p2 p3 p4 h) (fun v6 h6 => some (0, h6)) (fun k h => if k = 0 then some ((1 : Int32), h) else (if k = 2 then some ((2 : Int32), h) else none))
set_option maxRecDepth 20000 in
set_option maxHeartbeats 4000000 in
theorem R_L_walker (n : Nat) (p1 : Int32) (p2 : Int32) (p3 : Int32) (p4 : Int32) (h : sHp) : sMh Zc y_L_walker method_11_code 6 [(0, 9, 12, 19), (0, 9, 16, 13)] rm_L_walker [.ref 0, .int p1, .int p2, .int p3, .int p4] h (J_L_walker n p1 p2 p3 p4 h) := by
  refine sMh_of (own := "StoryStatesLaw") rfl (by decide) (Nat.le_of_ble_eq_true rfl) ⟨by decide, by decide⟩ (fun M V O T => ?_)
  unfold J_L_walker
  refine r_lv (lv' := [(0, .ref 0), (1, .int p1), (2, .int p2), (3, .int p3), (4, .int p4)]) [0, 1, 2, 3, 4] rfl ?_
  refine r_aload_n (pc := 0) O d_L_walker_0 0 rfl ?_
  refine r_iload_n (pc := 1) O d_L_walker_1 1 rfl ?_
  refine r_iload_n (pc := 2) O d_L_walker_2 2 rfl ?_
  refine r_iload_n (pc := 3) O d_L_walker_3 3 rfl ?_
  refine r_iload (pc := 4) O d_L_walker_4 4 rfl ?_
  refine r_catchv (pc := 6) O T [.int p1, .int p2, .int p3, .int p4] rfl rfl (R_S_walker n p1 p2 p3 p4 h) cf_L_walker_6 wm_560 wm_561 rfl (Nat.le_of_ble_eq_true rfl) d_L_walker_6 hr_L_walker hG_L_walker rfl (fun v6 h6 => ?_)
  refine r_goto (pc := 9) O d_L_walker_9 (tgt := 20) (by decide) ?_
  refine r_iconst (pc := 20) O d_L_walker_20 ic_0 ?_
  exact r_iret (pc := 21) O rfl d_L_walker_21
def J_L_timer (n : Nat) (p1 : Int32) (p2 : Int32) (h : sHp) : Option (Int32 × sHp) :=
  jC (J_S_timer n p1 p2 h) (fun v3 h3 => some (0, h3)) (fun k h => if k = 0 then some ((1 : Int32), h) else (if k = 1 then some ((2 : Int32), h) else (if k = 2 then some ((3 : Int32), h) else none)))
set_option maxRecDepth 20000 in
set_option maxHeartbeats 4000000 in
theorem R_L_timer (n : Nat) (p1 : Int32) (p2 : Int32) (h : sHp) : sMh Zc y_L_timer method_12_code 4 [(0, 6, 9, 19), (0, 6, 12, 21), (0, 6, 15, 13)] rm_L_timer [.ref 0, .int p1, .int p2] h (J_L_timer n p1 p2 h) := by
  refine sMh_of (own := "StoryStatesLaw") rfl (by decide) (Nat.le_of_ble_eq_true rfl) ⟨by decide, by decide⟩ (fun M V O T => ?_)
  unfold J_L_timer
  refine r_lv (lv' := [(0, .ref 0), (1, .int p1), (2, .int p2)]) [0, 1, 2] rfl ?_
  refine r_aload_n (pc := 0) O d_L_timer_0 0 rfl ?_
  refine r_iload_n (pc := 1) O d_L_timer_1 1 rfl ?_
  refine r_iload_n (pc := 2) O d_L_timer_2 2 rfl ?_
  refine r_catchv (pc := 3) O T [.int p1, .int p2] rfl rfl (R_S_timer n p1 p2 h) cf_L_timer_3 wm_575 wm_576 rfl (Nat.le_of_ble_eq_true rfl) d_L_timer_3 hr_L_timer hG_L_timer rfl (fun v3 h3 => ?_)
  refine r_goto (pc := 6) O d_L_timer_6 (tgt := 18) (by decide) ?_
  refine r_iconst (pc := 18) O d_L_timer_18 ic_0 ?_
  exact r_iret (pc := 19) O rfl d_L_timer_19
def J_L_begin (n : Nat)  (h : sHp) : Option (Int32 × sHp) :=
  jC (J_S_begin n h) (fun v1 h1 => some (0, h1)) (fun k h => if k = 2 then some ((1 : Int32), h) else none)
set_option maxRecDepth 20000 in
set_option maxHeartbeats 4000000 in
theorem R_L_begin (n : Nat)  (h : sHp) : sMh Zc y_L_begin method_13_code 2 [(0, 4, 7, 13)] rm_L_begin [.ref 0] h (J_L_begin n  h) := by
  refine sMh_of (own := "StoryStatesLaw") rfl (by decide) (Nat.le_of_ble_eq_true rfl) ⟨by decide, by decide⟩ (fun M V O T => ?_)
  unfold J_L_begin
  refine r_lv (lv' := [(0, .ref 0)]) [0] rfl ?_
  refine r_aload_n (pc := 0) O d_L_begin_0 0 rfl ?_
  refine r_catchv (pc := 1) O T [] rfl rfl (R_S_begin n h) cf_L_begin_1 wm_586 wm_587 rfl (Nat.le_of_ble_eq_true rfl) d_L_begin_1 hr_L_begin hG_L_begin rfl (fun v1 h1 => ?_)
  refine r_goto (pc := 4) O d_L_begin_4 (tgt := 10) (by decide) ?_
  refine r_iconst (pc := 10) O d_L_begin_10 ic_0 ?_
  exact r_iret (pc := 11) O rfl d_L_begin_11
def J_L_command (n : Nat) (p1 : Int32) (p2 : Int32) (p3 : Int32) (h : sHp) : Option (Int32 × sHp) :=
  jC (J_S_command n p1 p2 p3 h) (fun v7 h7 => some (0, (pL h7 41 (ix 0) (Int32.toInt64 v7)))) (fun k h => if k = 1 then some ((1 : Int32), h) else (if k = 2 then some ((2 : Int32), h) else none))
set_option maxRecDepth 20000 in
set_option maxHeartbeats 4000000 in
theorem R_L_command (n : Nat) (p1 : Int32) (p2 : Int32) (p3 : Int32) (h : sHp) : sMh Zc y_L_command method_14_code 6 [(0, 12, 15, 21), (0, 12, 19, 13)] rm_L_command [.ref 0, .int p1, .int p2, .int p3, .ref 41] h (J_L_command n p1 p2 p3 h) := by
  refine sMh_of (own := "StoryStatesLaw") rfl (by decide) (Nat.le_of_ble_eq_true rfl) ⟨by decide, by decide⟩ (fun M V O T => ?_)
  unfold J_L_command
  refine r_lv (lv' := [(0, .ref 0), (1, .int p1), (2, .int p2), (3, .int p3), (4, .ref 41)]) [0, 1, 2, 3, 4] rfl ?_
  refine r_aload (pc := 0) O d_L_command_0 4 rfl ?_
  refine r_iconst (pc := 2) O d_L_command_2 ic_0 ?_
  refine r_aload_n (pc := 3) O d_L_command_3 0 rfl ?_
  refine r_iload_n (pc := 4) O d_L_command_4 1 rfl ?_
  refine r_iload_n (pc := 5) O d_L_command_5 2 rfl ?_
  refine r_iload_n (pc := 6) O d_L_command_6 3 rfl ?_
  refine r_catchi (pc := 7) O T [.int p1, .int p2, .int p3] rfl rfl (R_S_command n p1 p2 p3 h) cf_L_command_7 wm_593 wm_594 rfl (Nat.le_of_ble_eq_true rfl) d_L_command_7 hr_L_command hG_L_command rfl (fun v7 h7 => ?_)
  refine r_i2l (pc := 10) O d_L_command_10 ?_
  refine r_last_c (pc := 11) O rfl (sIn_iff.mp (by decide)) d_L_command_11 ?_
  refine r_goto (pc := 12) O d_L_command_12 (tgt := 23) (by decide) ?_
  refine r_iconst (pc := 23) O d_L_command_23 ic_0 ?_
  exact r_iret (pc := 24) O rfl d_L_command_24
def J_L_state (n : Nat) (p1 : Int32) (p2 : Int32) (h : sHp) : Option (Int32 × sHp) :=
  jC (J_S_state n p1 p2 h) (fun v5 h5 => some (0, (pL h5 41 (ix 0) (Int32.toInt64 v5)))) (fun k h => if k = 0 then some ((1 : Int32), h) else (if k = 1 then some ((2 : Int32), h) else (if k = 2 then some ((3 : Int32), h) else none)))
set_option maxRecDepth 20000 in
set_option maxHeartbeats 4000000 in
theorem R_L_state (n : Nat) (p1 : Int32) (p2 : Int32) (h : sHp) : sMh Zc y_L_state method_15_code 5 [(0, 10, 13, 19), (0, 10, 17, 21), (0, 10, 21, 13)] rm_L_state [.ref 0, .int p1, .int p2, .ref 41] h (J_L_state n p1 p2 h) := by
  refine sMh_of (own := "StoryStatesLaw") rfl (by decide) (Nat.le_of_ble_eq_true rfl) ⟨by decide, by decide⟩ (fun M V O T => ?_)
  unfold J_L_state
  refine r_lv (lv' := [(0, .ref 0), (1, .int p1), (2, .int p2), (3, .ref 41)]) [0, 1, 2, 3] rfl ?_
  refine r_aload_n (pc := 0) O d_L_state_0 3 rfl ?_
  refine r_iconst (pc := 1) O d_L_state_1 ic_0 ?_
  refine r_aload_n (pc := 2) O d_L_state_2 0 rfl ?_
  refine r_iload_n (pc := 3) O d_L_state_3 1 rfl ?_
  refine r_iload_n (pc := 4) O d_L_state_4 2 rfl ?_
  refine r_catchi (pc := 5) O T [.int p1, .int p2] rfl rfl (R_S_state n p1 p2 h) cf_L_state_5 wm_733 wm_734 rfl (Nat.le_of_ble_eq_true rfl) d_L_state_5 hr_L_state hG_L_state rfl (fun v5 h5 => ?_)
  refine r_i2l (pc := 8) O d_L_state_8 ?_
  refine r_last_c (pc := 9) O rfl (sIn_iff.mp (by decide)) d_L_state_9 ?_
  refine r_goto (pc := 10) O d_L_state_10 (tgt := 25) (by decide) ?_
  refine r_iconst (pc := 25) O d_L_state_25 ic_0 ?_
  exact r_iret (pc := 26) O rfl d_L_state_26
