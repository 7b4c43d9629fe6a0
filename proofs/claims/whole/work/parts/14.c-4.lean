def J_S_startPlay (n : Nat)  (h : sHp) : Option sHp :=
  (J_W_firstState n h).bind fun v9 =>
  some (pI (pI (pL h 7 (ix 0) v9) 0 5 0) 0 6 0)
set_option maxRecDepth 20000 in
set_option maxHeartbeats 4000000 in
theorem R_S_startPlay (n : Nat)  (h : sHp) : sM Zc sOv y_S_startPlay prog_1_method_24_code 1 none rm_S_startPlay [.ref 0] h (J_S_startPlay n  h) := by
  refine sM_of (own := "StoryStates") rfl (by decide) (Nat.le_of_ble_eq_true rfl) (fun M V O => ?_)
  unfold J_S_startPlay
  refine r_lv (lv' := [(0, .ref 0)]) [0] rfl ?_
  refine r_aload_n (pc := 0) O d_S_startPlay_0 0 rfl ?_
  refine r_getR (pc := 1) O gf_c_S_28_0 d_S_startPlay_1 ?_
  refine r_iconst (pc := 4) O d_S_startPlay_4 ic_0 ?_
  refine r_aload_n (pc := 5) O d_S_startPlay_5 0 rfl ?_
  refine r_getR (pc := 6) O gf_c_S_20_0 d_S_startPlay_6 ?_
  refine r_callVlp (pc := 9) O [] rfl rfl (R_W_firstState n  h) cw_S_startPlay_9 wm_284 wm_285 rfl (Nat.le_of_ble_eq_true rfl) d_S_startPlay_9 rfl (fun v9 => ?_)
  refine r_last_c (pc := 12) O rfl (sIn_iff.mp (by decide)) d_S_startPlay_12 ?_
  refine r_aload_n (pc := 13) O d_S_startPlay_13 0 rfl ?_
  refine r_iconst (pc := 14) O d_S_startPlay_14 ic_0 ?_
  refine r_putI (pc := 15) O pf_c_S_36_0 d_S_startPlay_15 ?_
  refine r_aload_n (pc := 18) O d_S_startPlay_18 0 rfl ?_
  refine r_iconst (pc := 19) O d_S_startPlay_19 ic_0 ?_
  refine r_putI (pc := 20) O pf_c_S_40_0 d_S_startPlay_20 ?_
  exact r_vret (pc := 23) O rfl d_S_startPlay_23
def J_S_startAnew (n : Nat)  (h : sHp) : Option sHp :=
  (J_S_startPlay n h).bind fun v1 =>
  (J_A_forget n v1).bind fun v8 =>
  some v8
set_option maxRecDepth 20000 in
set_option maxHeartbeats 4000000 in
theorem R_S_startAnew (n : Nat)  (h : sHp) : sM Zc sOv y_S_startAnew prog_1_method_23_code 1 none rm_S_startAnew [.ref 0] h (J_S_startAnew n  h) := by
  refine sM_of (own := "StoryStates") rfl (by decide) (Nat.le_of_ble_eq_true rfl) (fun M V O => ?_)
  unfold J_S_startAnew
  refine r_lv (lv' := [(0, .ref 0)]) [0] rfl ?_
  refine r_aload_n (pc := 0) O d_S_startAnew_0 0 rfl ?_
  refine r_callVv (pc := 1) O [] rfl rfl (R_S_startPlay n  h) cw_S_startAnew_1 wm_281 ws_S_startPlay rfl (Nat.le_of_ble_eq_true rfl) d_S_startAnew_1 rfl (fun v1 => ?_)
  refine r_aload_n (pc := 4) O d_S_startAnew_4 0 rfl ?_
  refine r_getR (pc := 5) O gf_c_S_24_0 d_S_startAnew_5 ?_
  refine r_callVv (pc := 8) O [] rfl rfl (R_A_forget n  v1) cw_S_startAnew_8 wm_304 wm_305 rfl (Nat.le_of_ble_eq_true rfl) d_S_startAnew_8 rfl (fun v8 => ?_)
  exact r_vret (pc := 11) O rfl d_S_startAnew_11
def J_S_hasAsked (n : Nat) (p1 : Int32) (p2 : Int32) (h : sHp) : Option Int32 :=
  if p1 = 1 then ((J_W_hasThing n p2 h).bind fun v53 =>
  sGd (jB v53) (some v53)) else (if p1 = 2 then ((J_W_hasThing n p2 h).bind fun v53 =>
  sGd (jB v53) (some v53)) else (if p1 = 3 then ((J_W_hasNumber n p2 h).bind fun v62 =>
  sGd (jB v62) (some v62)) else (if p1 = 4 then (some 1) else (if p1 = 5 then (some 1) else (if p1 = 6 then ((J_W_hasThing n p2 h).bind fun v53 =>
  sGd (jB v53) (some v53)) else (if p1 = 7 then ((J_S_isFrom n p2 0 ((h.1 2 17) - 1) h).bind fun v77 =>
  sGd (jB v77) (some v77)) else (if p1 = 8 then ((J_S_isFrom n p2 0 ((h.1 2 16) - 1) h).bind fun v92 =>
  sGd (jB v92) (some v92)) else (some 1))))))))
set_option maxRecDepth 20000 in
set_option maxHeartbeats 4000000 in
theorem R_S_hasAsked (n : Nat) (p1 : Int32) (p2 : Int32) (h : sHp) : sM Zc (sPi h) y_S_hasAsked prog_1_method_25_code 3 (some .boolean) rm_S_hasAsked [.ref 0, .int p1, .int p2] h (J_S_hasAsked n p1 p2 h) := by
  refine sM_of (own := "StoryStates") rfl (by decide) (Nat.le_of_ble_eq_true rfl) (fun M V O => ?_)
  unfold J_S_hasAsked
  refine r_lv (lv' := [(0, .ref 0), (1, .int p1), (2, .int p2)]) [0, 1, 2] rfl ?_
  refine r_iload_n (pc := 0) O d_S_hasAsked_0 1 rfl ?_
  refine r_ite (fun q1_0 => ?_) (fun q1_0 => ?_)
  · refine r_tin (tgt := 48) (pc := 1) O d_S_hasAsked_1 (by rw [q1_0] <;> decide) (by rw [q1_0] <;> decide) (by rw [q1_0] <;> rfl) (by decide) ?_
    refine r_aload_n (pc := 48) O d_S_hasAsked_48 0 rfl ?_
    refine r_getR (pc := 49) O gf_c_S_20_0 d_S_hasAsked_49 ?_
    refine r_iload_n (pc := 52) O d_S_hasAsked_52 2 rfl ?_
    refine r_callVip (pc := 53) O [.int p2] rfl rfl (R_W_hasThing n p2 h) cw_S_hasAsked_53 wm_415 wm_416 rfl (Nat.le_of_ble_eq_true rfl) d_S_hasAsked_53 rfl (fun v53 => ?_)
    exact r_zretg (pc := 56) O rfl d_S_hasAsked_56
  · refine r_ite (fun q1_1 => ?_) (fun q1_1 => ?_)
    · refine r_tin (tgt := 48) (pc := 1) O d_S_hasAsked_1 (by rw [q1_1] <;> decide) (by rw [q1_1] <;> decide) (by rw [q1_1] <;> rfl) (by decide) ?_
      refine r_aload_n (pc := 48) O d_S_hasAsked_48 0 rfl ?_
      refine r_getR (pc := 49) O gf_c_S_20_0 d_S_hasAsked_49 ?_
      refine r_iload_n (pc := 52) O d_S_hasAsked_52 2 rfl ?_
      refine r_callVip (pc := 53) O [.int p2] rfl rfl (R_W_hasThing n p2 h) cw_S_hasAsked_53 wm_415 wm_416 rfl (Nat.le_of_ble_eq_true rfl) d_S_hasAsked_53 rfl (fun v53 => ?_)
      exact r_zretg (pc := 56) O rfl d_S_hasAsked_56
    · refine r_ite (fun q1_2 => ?_) (fun q1_2 => ?_)
      · refine r_tin (tgt := 57) (pc := 1) O d_S_hasAsked_1 (by rw [q1_2] <;> decide) (by rw [q1_2] <;> decide) (by rw [q1_2] <;> rfl) (by decide) ?_
        refine r_aload_n (pc := 57) O d_S_hasAsked_57 0 rfl ?_
        refine r_getR (pc := 58) O gf_c_S_20_0 d_S_hasAsked_58 ?_
        refine r_iload_n (pc := 61) O d_S_hasAsked_61 2 rfl ?_
        refine r_callVip (pc := 62) O [.int p2] rfl rfl (R_W_hasNumber n p2 h) cw_S_hasAsked_62 wm_524 wm_525 rfl (Nat.le_of_ble_eq_true rfl) d_S_hasAsked_62 rfl (fun v62 => ?_)
        exact r_zretg (pc := 65) O rfl d_S_hasAsked_65
      · refine r_ite (fun q1_3 => ?_) (fun q1_3 => ?_)
        · refine r_tin (tgt := 96) (pc := 1) O d_S_hasAsked_1 (by rw [q1_3] <;> decide) (by rw [q1_3] <;> decide) (by rw [q1_3] <;> rfl) (by decide) ?_
          refine r_iconst (pc := 96) O d_S_hasAsked_96 ic_1 ?_
          exact r_zret (pc := 97) O rfl d_S_hasAsked_97 nb_1
        · refine r_ite (fun q1_4 => ?_) (fun q1_4 => ?_)
          · refine r_tin (tgt := 96) (pc := 1) O d_S_hasAsked_1 (by rw [q1_4] <;> decide) (by rw [q1_4] <;> decide) (by rw [q1_4] <;> rfl) (by decide) ?_
            refine r_iconst (pc := 96) O d_S_hasAsked_96 ic_1 ?_
            exact r_zret (pc := 97) O rfl d_S_hasAsked_97 nb_1
          · refine r_ite (fun q1_5 => ?_) (fun q1_5 => ?_)
            · refine r_tin (tgt := 48) (pc := 1) O d_S_hasAsked_1 (by rw [q1_5] <;> decide) (by rw [q1_5] <;> decide) (by rw [q1_5] <;> rfl) (by decide) ?_
              refine r_aload_n (pc := 48) O d_S_hasAsked_48 0 rfl ?_
              refine r_getR (pc := 49) O gf_c_S_20_0 d_S_hasAsked_49 ?_
              refine r_iload_n (pc := 52) O d_S_hasAsked_52 2 rfl ?_
              refine r_callVip (pc := 53) O [.int p2] rfl rfl (R_W_hasThing n p2 h) cw_S_hasAsked_53 wm_415 wm_416 rfl (Nat.le_of_ble_eq_true rfl) d_S_hasAsked_53 rfl (fun v53 => ?_)
              exact r_zretg (pc := 56) O rfl d_S_hasAsked_56
            · refine r_ite (fun q1_6 => ?_) (fun q1_6 => ?_)
              · refine r_tin (tgt := 66) (pc := 1) O d_S_hasAsked_1 (by rw [q1_6] <;> decide) (by rw [q1_6] <;> decide) (by rw [q1_6] <;> rfl) (by decide) ?_
                refine r_iload_n (pc := 66) O d_S_hasAsked_66 2 rfl ?_
                refine r_iconst (pc := 67) O d_S_hasAsked_67 ic_0 ?_
                refine r_aload_n (pc := 68) O d_S_hasAsked_68 0 rfl ?_
                refine r_getR (pc := 69) O gf_c_S_20_0 d_S_hasAsked_69 ?_
                refine r_getI (x := (h.1 2 17)) (pc := 72) O gf_c_S_161_2 d_S_hasAsked_72 rfl ?_
                refine r_iconst (pc := 75) O d_S_hasAsked_75 ic_1 ?_
                refine r_isub (pc := 76) O d_S_hasAsked_76 ?_
                refine r_callSip (pc := 77) O [.int p2, .int 0, .int ((h.1 2 17) - 1)] (R_S_isFrom n p2 0 ((h.1 2 17) - 1) h) cw_S_hasAsked_77 wm_312 rfl (Nat.le_of_ble_eq_true rfl) d_S_hasAsked_77 rfl (fun v77 => ?_)
                exact r_zretg (pc := 80) O rfl d_S_hasAsked_80
              · refine r_ite (fun q1_7 => ?_) (fun q1_7 => ?_)
                · refine r_tin (tgt := 81) (pc := 1) O d_S_hasAsked_1 (by rw [q1_7] <;> decide) (by rw [q1_7] <;> decide) (by rw [q1_7] <;> rfl) (by decide) ?_
                  refine r_iload_n (pc := 81) O d_S_hasAsked_81 2 rfl ?_
                  refine r_iconst (pc := 82) O d_S_hasAsked_82 ic_0 ?_
                  refine r_aload_n (pc := 83) O d_S_hasAsked_83 0 rfl ?_
                  refine r_getR (pc := 84) O gf_c_S_20_0 d_S_hasAsked_84 ?_
                  refine r_getI (x := (h.1 2 16)) (pc := 87) O gf_c_S_152_2 d_S_hasAsked_87 rfl ?_
                  refine r_iconst (pc := 90) O d_S_hasAsked_90 ic_1 ?_
                  refine r_isub (pc := 91) O d_S_hasAsked_91 ?_
                  refine r_callSip (pc := 92) O [.int p2, .int 0, .int ((h.1 2 16) - 1)] (R_S_isFrom n p2 0 ((h.1 2 16) - 1) h) cw_S_hasAsked_92 wm_312 rfl (Nat.le_of_ble_eq_true rfl) d_S_hasAsked_92 rfl (fun v92 => ?_)
                  exact r_zretg (pc := 95) O rfl d_S_hasAsked_95
                · refine r_tout (tgt := 96) (pc := 1) O d_S_hasAsked_1 (by have z0 := lv_neT (a := 1) q1_0 (by decide); have z1 := lv_neT (a := 2) q1_1 (by decide); have z2 := lv_neT (a := 3) q1_2 (by decide); have z3 := lv_neT (a := 4) q1_3 (by decide); have z4 := lv_neT (a := 5) q1_4 (by decide); have z5 := lv_neT (a := 6) q1_5 (by decide); have z6 := lv_neT (a := 7) q1_6 (by decide); have z7 := lv_neT (a := 8) q1_7 (by decide); omega) (by decide) ?_
                  refine r_iconst (pc := 96) O d_S_hasAsked_96 ic_1 ?_
                  exact r_zret (pc := 97) O rfl d_S_hasAsked_97 nb_1
def F_S_spoilingTurn_28 (n : Nat) (h : sHp) (rec28 : Int32 → Option Int32) (q : Int32) : Option Int32 :=
  if q < 0 then (some (-1)) else (sGd (sIn q 61) ((J_A_isHopeless n (h.2 7 (ix q)) h).bind fun v42 =>
  if v42 = 0 then (some q) else (rec28 (q + (-1)))))
def J_S_spoilingTurn (n : Nat)  (h : sHp) : Option Int32 :=
  sGd (sIn (h.1 0 5) 61) ((J_A_isHopeless n (h.2 7 (ix (h.1 0 5))) h).bind fun v13 =>
  if v13 = 0 then (some (-1)) else (sFx (F_S_spoilingTurn_28 n h ) n ((h.1 0 5) - 1)))
set_option maxRecDepth 20000 in
set_option maxHeartbeats 4000000 in
theorem R_S_spoilingTurn (n : Nat)  (h : sHp) : sM Zc (sPi h) y_S_spoilingTurn prog_1_method_22_code 2 (some .int) rm_S_spoilingTurn [.ref 0] h (J_S_spoilingTurn n  h) := by
  refine sM_of (own := "StoryStates") rfl (by decide) (Nat.le_of_ble_eq_true rfl) (fun M V O => ?_)
  unfold J_S_spoilingTurn
  refine r_lv (lv' := [(0, .ref 0)]) [0] rfl ?_
  have hL28 : ∀ (q : Int32), sS Zc M V (sEb (sPi h)) 28 [(0, .ref 0), (1, .int q)] [] h (sFx (F_S_spoilingTurn_28 n h ) n q) := by
    skip
    refine r_fx (fun q => [(0, .ref 0), (1, .int q)]) (fun q => h) (F_S_spoilingTurn_28 n h ) (fun rec28 hrec28 q => ?_) n
    skip
    show sS Zc M V (sEb (sPi h)) 28 [(0, .ref 0), (1, .int q)] [] h _
    unfold F_S_spoilingTurn_28
    try dsimp only
    refine r_iload_n (pc := 28) O d_S_spoilingTurn_28 1 rfl ?_
    refine r_if_lt (tgt := 56) (pc := 29) O d_S_spoilingTurn_29 (by decide) (fun q29 => ?_) (fun q29 => ?_)
    · refine r_iconst (pc := 56) O d_S_spoilingTurn_56 ic_m1 ?_
      exact r_iret (pc := 57) O rfl d_S_spoilingTurn_57
    · refine r_aload_n (pc := 32) O d_S_spoilingTurn_32 0 rfl ?_
      refine r_getR (pc := 33) O gf_c_S_24_0 d_S_spoilingTurn_33 ?_
      refine r_aload_n (pc := 36) O d_S_spoilingTurn_36 0 rfl ?_
      refine r_getR (pc := 37) O gf_c_S_28_0 d_S_spoilingTurn_37 ?_
      refine r_iload_n (pc := 40) O d_S_spoilingTurn_40 1 rfl ?_
      refine r_lald (x := (h.2 7 (ix q))) (pc := 41) O rfl d_S_spoilingTurn_41 rfl ?_
      refine r_callVip (pc := 42) O [.long (h.2 7 (ix q))] rfl rfl (R_A_isHopeless n (h.2 7 (ix q)) h) cw_S_spoilingTurn_42 wm_873 wm_874 rfl (Nat.le_of_ble_eq_true rfl) d_S_spoilingTurn_42 rfl (fun v42 => ?_)
      refine r_if_ne (tgt := 50) (pc := 45) O d_S_spoilingTurn_45 (by decide) (fun q45 => ?_) (fun q45 => ?_)
      · refine r_iinc (lv' := [(1, .int (q + (-1))), (0, .ref 0)]) (pc := 50) O d_S_spoilingTurn_50 1 rfl (congrArg (HAdd.hAdd _) ic_m1) (by decide) rfl ?_
        refine r_goto (pc := 53) O d_S_spoilingTurn_53 (tgt := 28) (by decide) ?_
        exact r_lv [1, 0] rfl (hrec28 (q + (-1)))
      · refine r_iload_n (pc := 48) O d_S_spoilingTurn_48 1 rfl ?_
        exact r_iret (pc := 49) O rfl d_S_spoilingTurn_49
  refine r_aload_n (pc := 0) O d_S_spoilingTurn_0 0 rfl ?_
  refine r_getR (pc := 1) O gf_c_S_24_0 d_S_spoilingTurn_1 ?_
  refine r_aload_n (pc := 4) O d_S_spoilingTurn_4 0 rfl ?_
  refine r_getR (pc := 5) O gf_c_S_28_0 d_S_spoilingTurn_5 ?_
  refine r_aload_n (pc := 8) O d_S_spoilingTurn_8 0 rfl ?_
  refine r_getI (x := (h.1 0 5)) (pc := 9) O gf_c_S_36_0 d_S_spoilingTurn_9 rfl ?_
  refine r_lald (x := (h.2 7 (ix (h.1 0 5)))) (pc := 12) O rfl d_S_spoilingTurn_12 rfl ?_
  refine r_callVip (pc := 13) O [.long (h.2 7 (ix (h.1 0 5)))] rfl rfl (R_A_isHopeless n (h.2 7 (ix (h.1 0 5))) h) cw_S_spoilingTurn_13 wm_873 wm_874 rfl (Nat.le_of_ble_eq_true rfl) d_S_spoilingTurn_13 rfl (fun v13 => ?_)
  refine r_if_ne (tgt := 21) (pc := 16) O d_S_spoilingTurn_16 (by decide) (fun q16 => ?_) (fun q16 => ?_)
  · refine r_aload_n (pc := 21) O d_S_spoilingTurn_21 0 rfl ?_
    refine r_getI (x := (h.1 0 5)) (pc := 22) O gf_c_S_36_0 d_S_spoilingTurn_22 rfl ?_
    refine r_iconst (pc := 25) O d_S_spoilingTurn_25 ic_1 ?_
    refine r_isub (pc := 26) O d_S_spoilingTurn_26 ?_
    refine r_istore_n (lv' := [(1, .int ((h.1 0 5) - 1)), (0, .ref 0)]) (pc := 27) O d_S_spoilingTurn_27 rfl (by decide) rfl ?_
    exact r_lv [1, 0] rfl (hL28 ((h.1 0 5) - 1))
  · refine r_iconst (pc := 19) O d_S_spoilingTurn_19 ic_m1 ?_
    exact r_iret (pc := 20) O rfl d_S_spoilingTurn_20
def K_S_isThingKind_11 (n : Nat) (p0 : Int32) (h : sHp) (t0 : Int32) : Option Int32 :=
  (J_S_isFrom n p0 0 7 h).bind fun v16 =>
  if v16 = 0 then (some 0) else (if t0 = 0 then (some 1) else (if (p0 &&& 2) = 0 then (some 0) else (some 1)))
def J_S_isThingKind (n : Nat) (p0 : Int32) (h : sHp) : Option Int32 :=
  if (p0 &&& 4) = 0 then (K_S_isThingKind_11 n p0 h 0) else (K_S_isThingKind_11 n p0 h 1)
set_option maxRecDepth 20000 in
set_option maxHeartbeats 4000000 in
theorem R_S_isThingKind (n : Nat) (p0 : Int32) (h : sHp) : sM Zc (sPi h) y_S_isThingKind prog_1_method_26_code 2 (some .boolean) rm_S_isThingKind [.int p0] h (J_S_isThingKind n p0 h) := by
  refine sM_of (own := "StoryStates") rfl (by decide) (Nat.le_of_ble_eq_true rfl) (fun M V O => ?_)
  unfold J_S_isThingKind
  refine r_lv (lv' := [(0, .int p0)]) [0] rfl ?_
  have hK11 : ∀ (t0 : Int32), sS Zc M V (sEb (sPi h)) 11 [(0, .int p0)] [.int t0] h (K_S_isThingKind_11 n p0 h t0) := by
    intro t0
    unfold K_S_isThingKind_11
    refine r_istore_n (lv' := [(1, .int t0), (0, .int p0)]) (pc := 11) O d_S_isThingKind_11 rfl (by decide) rfl ?_
    refine r_iload_n (pc := 12) O d_S_isThingKind_12 1 rfl ?_
    refine r_iconst (pc := 13) O d_S_isThingKind_13 ic_0 ?_
    refine r_bipush (pc := 14) O d_S_isThingKind_14 bc_7 ?_
    refine r_callSip (pc := 16) O [.int p0, .int 0, .int 7] (R_S_isFrom n p0 0 7 h) cw_S_isThingKind_16 wm_312 rfl (Nat.le_of_ble_eq_true rfl) d_S_isThingKind_16 rfl (fun v16 => ?_)
    refine r_if_eq (tgt := 36) (pc := 19) O d_S_isThingKind_19 (by decide) (fun q19 => ?_) (fun q19 => ?_)
    · refine r_iconst (pc := 36) O d_S_isThingKind_36 ic_0 ?_
      exact r_zret (pc := 37) O rfl d_S_isThingKind_37 nb_0
    · refine r_iload_n (pc := 22) O d_S_isThingKind_22 0 rfl ?_
      refine r_if_eq (tgt := 32) (pc := 23) O d_S_isThingKind_23 (by decide) (fun q23 => ?_) (fun q23 => ?_)
      · refine r_iconst (pc := 32) O d_S_isThingKind_32 ic_1 ?_
        refine r_goto (pc := 33) O d_S_isThingKind_33 (tgt := 37) (by decide) ?_
        exact r_zret (pc := 37) O rfl d_S_isThingKind_37 nb_1
      · refine r_iload_n (pc := 26) O d_S_isThingKind_26 1 rfl ?_
        refine r_iconst (pc := 27) O d_S_isThingKind_27 ic_2 ?_
        refine r_iand (pc := 28) O d_S_isThingKind_28 ?_
        refine r_if_eq (tgt := 36) (pc := 29) O d_S_isThingKind_29 (by decide) (fun q29 => ?_) (fun q29 => ?_)
        · refine r_iconst (pc := 36) O d_S_isThingKind_36 ic_0 ?_
          exact r_zret (pc := 37) O rfl d_S_isThingKind_37 nb_0
        · refine r_iconst (pc := 32) O d_S_isThingKind_32 ic_1 ?_
          refine r_goto (pc := 33) O d_S_isThingKind_33 (tgt := 37) (by decide) ?_
          exact r_zret (pc := 37) O rfl d_S_isThingKind_37 nb_1
  refine r_iload_n (pc := 0) O d_S_isThingKind_0 0 rfl ?_
  refine r_iconst (pc := 1) O d_S_isThingKind_1 ic_4 ?_
  refine r_iand (pc := 2) O d_S_isThingKind_2 ?_
  refine r_if_eq (tgt := 10) (pc := 3) O d_S_isThingKind_3 (by decide) (fun q3 => ?_) (fun q3 => ?_)
  · refine r_iconst (pc := 10) O d_S_isThingKind_10 ic_0 ?_
    exact (hK11 0)
  · refine r_iconst (pc := 6) O d_S_isThingKind_6 ic_1 ?_
    refine r_goto (pc := 7) O d_S_isThingKind_7 (tgt := 11) (by decide) ?_
    exact (hK11 1)
def J_S_isConditionLevel (n : Nat) (p0 : Int32) (p1 : Int32) (h : sHp) : Option Int32 :=
  if p0 = 2 then ((J_S_isFrom n p1 0 1 h).bind fun v31 =>
  sGd (jB v31) (some v31)) else (if p0 = 3 then ((J_S_isFrom n p1 0 7 h).bind fun v39 =>
  sGd (jB v39) (some v39)) else (if p0 = 4 then ((J_S_isFrom n p1 0 7 h).bind fun v39 =>
  sGd (jB v39) (some v39)) else (some 1)))
set_option maxRecDepth 20000 in
set_option maxHeartbeats 4000000 in
theorem R_S_isConditionLevel (n : Nat) (p0 : Int32) (p1 : Int32) (h : sHp) : sM Zc (sPi h) y_S_isConditionLevel prog_1_method_27_code 2 (some .boolean) rm_S_isConditionLevel [.int p0, .int p1] h (J_S_isConditionLevel n p0 p1 h) := by
  refine sM_of (own := "StoryStates") rfl (by decide) (Nat.le_of_ble_eq_true rfl) (fun M V O => ?_)
  unfold J_S_isConditionLevel
  refine r_lv (lv' := [(0, .int p0), (1, .int p1)]) [0, 1] rfl ?_
  refine r_iload_n (pc := 0) O d_S_isConditionLevel_0 0 rfl ?_
  refine r_ite (fun q1_0 => ?_) (fun q1_0 => ?_)
  · refine r_tin (tgt := 28) (pc := 1) O d_S_isConditionLevel_1 (by rw [q1_0] <;> decide) (by rw [q1_0] <;> decide) (by rw [q1_0] <;> rfl) (by decide) ?_
    refine r_iload_n (pc := 28) O d_S_isConditionLevel_28 1 rfl ?_
    refine r_iconst (pc := 29) O d_S_isConditionLevel_29 ic_0 ?_
    refine r_iconst (pc := 30) O d_S_isConditionLevel_30 ic_1 ?_
    refine r_callSip (pc := 31) O [.int p1, .int 0, .int 1] (R_S_isFrom n p1 0 1 h) cw_S_isConditionLevel_31 wm_312 rfl (Nat.le_of_ble_eq_true rfl) d_S_isConditionLevel_31 rfl (fun v31 => ?_)
    exact r_zretg (pc := 34) O rfl d_S_isConditionLevel_34
  · refine r_ite (fun q1_1 => ?_) (fun q1_1 => ?_)
    · refine r_tin (tgt := 35) (pc := 1) O d_S_isConditionLevel_1 (by rw [q1_1] <;> decide) (by rw [q1_1] <;> decide) (by rw [q1_1] <;> rfl) (by decide) ?_
      refine r_iload_n (pc := 35) O d_S_isConditionLevel_35 1 rfl ?_
      refine r_iconst (pc := 36) O d_S_isConditionLevel_36 ic_0 ?_
      refine r_bipush (pc := 37) O d_S_isConditionLevel_37 bc_7 ?_
      refine r_callSip (pc := 39) O [.int p1, .int 0, .int 7] (R_S_isFrom n p1 0 7 h) cw_S_isConditionLevel_39 wm_312 rfl (Nat.le_of_ble_eq_true rfl) d_S_isConditionLevel_39 rfl (fun v39 => ?_)
      exact r_zretg (pc := 42) O rfl d_S_isConditionLevel_42
    · refine r_ite (fun q1_2 => ?_) (fun q1_2 => ?_)
      · refine r_tin (tgt := 35) (pc := 1) O d_S_isConditionLevel_1 (by rw [q1_2] <;> decide) (by rw [q1_2] <;> decide) (by rw [q1_2] <;> rfl) (by decide) ?_
        refine r_iload_n (pc := 35) O d_S_isConditionLevel_35 1 rfl ?_
        refine r_iconst (pc := 36) O d_S_isConditionLevel_36 ic_0 ?_
        refine r_bipush (pc := 37) O d_S_isConditionLevel_37 bc_7 ?_
        refine r_callSip (pc := 39) O [.int p1, .int 0, .int 7] (R_S_isFrom n p1 0 7 h) cw_S_isConditionLevel_39 wm_312 rfl (Nat.le_of_ble_eq_true rfl) d_S_isConditionLevel_39 rfl (fun v39 => ?_)
        exact r_zretg (pc := 42) O rfl d_S_isConditionLevel_42
      · refine r_tout (tgt := 43) (pc := 1) O d_S_isConditionLevel_1 (by have z0 := lv_neT (a := 2) q1_0 (by decide); have z1 := lv_neT (a := 3) q1_1 (by decide); have z2 := lv_neT (a := 4) q1_2 (by decide); omega) (by decide) ?_
        refine r_iconst (pc := 43) O d_S_isConditionLevel_43 ic_1 ?_
        exact r_zret (pc := 44) O rfl d_S_isConditionLevel_44 nb_1
def J_S_isEffectLevel (n : Nat) (p0 : Int32) (p1 : Int32) (h : sHp) : Option Int32 :=
  if p0 = 2 then ((J_S_isFrom n p1 0 1 h).bind fun v31 =>
  sGd (jB v31) (some v31)) else (if p0 = 3 then ((J_S_isFrom n p1 (-7) 7 h).bind fun v40 =>
  sGd (jB v40) (some v40)) else (some 1))
set_option maxRecDepth 20000 in
set_option maxHeartbeats 4000000 in
theorem R_S_isEffectLevel (n : Nat) (p0 : Int32) (p1 : Int32) (h : sHp) : sM Zc (sPi h) y_S_isEffectLevel prog_1_method_28_code 2 (some .boolean) rm_S_isEffectLevel [.int p0, .int p1] h (J_S_isEffectLevel n p0 p1 h) := by
  refine sM_of (own := "StoryStates") rfl (by decide) (Nat.le_of_ble_eq_true rfl) (fun M V O => ?_)
  unfold J_S_isEffectLevel
  refine r_lv (lv' := [(0, .int p0), (1, .int p1)]) [0, 1] rfl ?_
  refine r_iload_n (pc := 0) O d_S_isEffectLevel_0 0 rfl ?_
  refine r_ite (fun q1_0 => ?_) (fun q1_0 => ?_)
  · refine r_look (tgt := 28) (pc := 1) O d_S_isEffectLevel_1 (by decide) (off := 27) (by rw [q1_0] <;> rfl) (by decide) ?_
    refine r_iload_n (pc := 28) O d_S_isEffectLevel_28 1 rfl ?_
    refine r_iconst (pc := 29) O d_S_isEffectLevel_29 ic_0 ?_
    refine r_iconst (pc := 30) O d_S_isEffectLevel_30 ic_1 ?_
    refine r_callSip (pc := 31) O [.int p1, .int 0, .int 1] (R_S_isFrom n p1 0 1 h) cw_S_isEffectLevel_31 wm_312 rfl (Nat.le_of_ble_eq_true rfl) d_S_isEffectLevel_31 rfl (fun v31 => ?_)
    exact r_zretg (pc := 34) O rfl d_S_isEffectLevel_34
  · refine r_ite (fun q1_1 => ?_) (fun q1_1 => ?_)
    · refine r_look (tgt := 35) (pc := 1) O d_S_isEffectLevel_1 (by decide) (off := 34) (by rw [q1_1] <;> rfl) (by decide) ?_
      refine r_iload_n (pc := 35) O d_S_isEffectLevel_35 1 rfl ?_
      refine r_bipush (pc := 36) O d_S_isEffectLevel_36 bc_m7 ?_
      refine r_bipush (pc := 38) O d_S_isEffectLevel_38 bc_7 ?_
      refine r_callSip (pc := 40) O [.int p1, .int (-7), .int 7] (R_S_isFrom n p1 (-7) 7 h) cw_S_isEffectLevel_40 wm_312 rfl (Nat.le_of_ble_eq_true rfl) d_S_isEffectLevel_40 rfl (fun v40 => ?_)
      exact r_zretg (pc := 43) O rfl d_S_isEffectLevel_43
    · refine r_look (tgt := 44) (pc := 1) O d_S_isEffectLevel_1 (by decide) (off := 43) (by show Op.lookupswitch.offset _ _ _ = _; rw [lv_osw (a := 2) q1_0 (by decide), lv_osw (a := 3) q1_1 (by decide)] <;> rfl) (by decide) ?_
      refine r_iconst (pc := 44) O d_S_isEffectLevel_44 ic_1 ?_
      exact r_zret (pc := 45) O rfl d_S_isEffectLevel_45 nb_1
def J_S_clear (n : Nat)  (h : sHp) : Option sHp :=
  (J_W_becomeEmpty n h).bind fun v4 =>
  (J_S_startAnew n v4).bind fun v8 =>
  some v8
set_option maxRecDepth 20000 in
set_option maxHeartbeats 4000000 in
theorem R_S_clear (n : Nat)  (h : sHp) : sM Zc sOv y_S_clear prog_1_method_2_code 1 none rm_S_clear [.ref 0] h (J_S_clear n  h) := by
  refine sM_of (own := "StoryStates") rfl (by decide) (Nat.le_of_ble_eq_true rfl) (fun M V O => ?_)
  unfold J_S_clear
  refine r_lv (lv' := [(0, .ref 0)]) [0] rfl ?_
  refine r_aload_n (pc := 0) O d_S_clear_0 0 rfl ?_
  refine r_getR (pc := 1) O gf_c_S_20_0 d_S_clear_1 ?_
  refine r_callVv (pc := 4) O [] rfl rfl (R_W_becomeEmpty n  h) cw_S_clear_4 wm_272 wm_273 rfl (Nat.le_of_ble_eq_true rfl) d_S_clear_4 rfl (fun v4 => ?_)
  refine r_aload_n (pc := 7) O d_S_clear_7 0 rfl ?_
  refine r_callVv (pc := 8) O [] rfl rfl (R_S_startAnew n  v4) cw_S_clear_8 wm_277 ws_S_startAnew rfl (Nat.le_of_ble_eq_true rfl) d_S_clear_8 rfl (fun v8 => ?_)
  exact r_vret (pc := 11) O rfl d_S_clear_11
def J_S_said (n : Nat) (p1 : Int32) (h : sHp) : Option Int32 :=
  (J_S_isFrom n p1 0 ((h.1 0 6) - 1) h).bind fun v8 =>
  if v8 = 0 then (some (-1)) else (sGd (sIn p1 3) (some (h.1 8 (ix p1))))
set_option maxRecDepth 20000 in
set_option maxHeartbeats 4000000 in
theorem R_S_said (n : Nat) (p1 : Int32) (h : sHp) : sM Zc (sPi h) y_S_said prog_1_method_15_code 2 (some .int) rm_S_said [.ref 0, .int p1] h (J_S_said n p1 h) := by
  refine sM_of (own := "StoryStates") rfl (by decide) (Nat.le_of_ble_eq_true rfl) (fun M V O => ?_)
  unfold J_S_said
  refine r_lv (lv' := [(0, .ref 0), (1, .int p1)]) [0, 1] rfl ?_
  refine r_iload_n (pc := 0) O d_S_said_0 1 rfl ?_
  refine r_iconst (pc := 1) O d_S_said_1 ic_0 ?_
  refine r_aload_n (pc := 2) O d_S_said_2 0 rfl ?_
  refine r_getI (x := (h.1 0 6)) (pc := 3) O gf_c_S_40_0 d_S_said_3 rfl ?_
  refine r_iconst (pc := 6) O d_S_said_6 ic_1 ?_
  refine r_isub (pc := 7) O d_S_said_7 ?_
  refine r_callSip (pc := 8) O [.int p1, .int 0, .int ((h.1 0 6) - 1)] (R_S_isFrom n p1 0 ((h.1 0 6) - 1) h) cw_S_said_8 wm_312 rfl (Nat.le_of_ble_eq_true rfl) d_S_said_8 rfl (fun v8 => ?_)
  refine r_if_eq (tgt := 23) (pc := 11) O d_S_said_11 (by decide) (fun q11 => ?_) (fun q11 => ?_)
  · refine r_iconst (pc := 23) O d_S_said_23 ic_m1 ?_
    exact r_iret (pc := 24) O rfl d_S_said_24
  · refine r_aload_n (pc := 14) O d_S_said_14 0 rfl ?_
    refine r_getR (pc := 15) O gf_c_S_32_0 d_S_said_15 ?_
    refine r_iload_n (pc := 18) O d_S_said_18 1 rfl ?_
    refine r_iald (x := (h.1 8 (ix p1))) (pc := 19) O rfl d_S_said_19 rfl ?_
    refine r_goto (pc := 20) O d_S_said_20 (tgt := 24) (by decide) ?_
    exact r_iret (pc := 24) O rfl d_S_said_24
def J_S_undo (n : Nat)  (h : sHp) : Option (Int32 × sHp) :=
  if (h.1 0 5) = 0 then (some (0, (pI h 0 6 0))) else (some (1, (pI (pI h 0 6 0) 0 5 ((h.1 0 5) - 1))))
set_option maxRecDepth 20000 in
set_option maxHeartbeats 4000000 in
theorem R_S_undo (n : Nat)  (h : sHp) : sM Zc sOi y_S_undo prog_1_method_16_code 1 (some .boolean) rm_S_undo [.ref 0] h (J_S_undo n  h) := by
  refine sM_of (own := "StoryStates") rfl (by decide) (Nat.le_of_ble_eq_true rfl) (fun M V O => ?_)
  unfold J_S_undo
  refine r_lv (lv' := [(0, .ref 0)]) [0] rfl ?_
  refine r_aload_n (pc := 0) O d_S_undo_0 0 rfl ?_
  refine r_iconst (pc := 1) O d_S_undo_1 ic_0 ?_
  refine r_putI (pc := 2) O pf_c_S_40_0 d_S_undo_2 ?_
  refine r_aload_n (pc := 5) O d_S_undo_5 0 rfl ?_
  refine r_getI (x := (h.1 0 5)) (pc := 6) O gf_c_S_36_0 d_S_undo_6 rfl ?_
  refine r_if_ne (tgt := 14) (pc := 9) O d_S_undo_9 (by decide) (fun q9 => ?_) (fun q9 => ?_)
  · refine r_aload_n (pc := 14) O d_S_undo_14 0 rfl ?_
    refine r_dup (pc := 15) O d_S_undo_15 rfl ?_
    refine r_getI (x := (h.1 0 5)) (pc := 16) O gf_c_S_36_0 d_S_undo_16 rfl ?_
    refine r_iconst (pc := 19) O d_S_undo_19 ic_1 ?_
    refine r_isub (pc := 20) O d_S_undo_20 ?_
    refine r_putI (pc := 21) O pf_c_S_36_0 d_S_undo_21 ?_
    refine r_iconst (pc := 24) O d_S_undo_24 ic_1 ?_
    exact r_zret (pc := 25) O rfl d_S_undo_25 nb_1
  · refine r_iconst (pc := 12) O d_S_undo_12 ic_0 ?_
    exact r_zret (pc := 13) O rfl d_S_undo_13 nb_0
