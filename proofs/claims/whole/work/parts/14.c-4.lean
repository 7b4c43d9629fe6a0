def J_S_startPlay (n : Nat)  (h : sHp) : Option sHp :=
  (J_W_firstState n h).bind fun v9 =>
  some (pI (pI (pL h 7 (ix 0) v9) 0 5 0) 0 6 0)
set_option maxRecDepth 20000 in
set_option maxHeartbeats 4000000 in
theorem R_S_startPlay (n : Nat)  (h : sHp) : sM Zc sOv y_S_startPlay prog_1_method_24_code 1 none rm_S_startPlay [.ref 0] h (J_S_startPlay n  h) := by
  refine sM_of (own := "StoryStates") rfl (by decide) (Nat.le_of_ble_eq_true rfl) (fun M V O => ?_)
  unfold J_S_startPlay
  refine r_lv (lv' := [(0, .ref 0)]) [0] rfl ?_
  refine r_aload_n (pc := 0) O d_S_startPlay_0 0 rfl ?_
  refine r_getR (pc := 1) O gf_c_S_28_0 d_S_startPlay_1 ?_
  refine r_iconst (pc := 4) O d_S_startPlay_4 ic_0 ?_
  refine r_aload_n (pc := 5) O d_S_startPlay_5 0 rfl ?_
  refine r_getR (pc := 6) O gf_c_S_20_0 d_S_startPlay_6 ?_
  refine r_callVlp (pc := 9) O [] rfl rfl (R_W_firstState n  h) cw_S_startPlay_9 wm_284 wm_285 rfl (Nat.le_of_ble_eq_true rfl) d_S_startPlay_9 rfl (fun v9 => ?_)
  refine r_last_c (pc := 12) O rfl (sIn_iff.mp (by decide)) d_S_startPlay_12 ?_
  refine r_aload_n (pc := 13) O d_S_startPlay_13 0 rfl ?_
  refine r_iconst (pc := 14) O d_S_startPlay_14 ic_0 ?_
  refine r_putI (pc := 15) O pf_c_S_36_0 d_S_startPlay_15 ?_
  refine r_aload_n (pc := 18) O d_S_startPlay_18 0 rfl ?_
  refine r_iconst (pc := 19) O d_S_startPlay_19 ic_0 ?_
  refine r_putI (pc := 20) O pf_c_S_40_0 d_S_startPlay_20 ?_
  exact r_vret (pc := 23) O rfl d_S_startPlay_23
def J_S_startAnew (n : Nat)  (h : sHp) : Option sHp :=
  (J_S_startPlay n h).bind fun v1 =>
  (J_A_forget n v1).bind fun v8 =>
  some v8
set_option maxRecDepth 20000 in
set_option maxHeartbeats 4000000 in
theorem R_S_startAnew (n : Nat)  (h : sHp) : sM Zc sOv y_S_startAnew prog_1_method_23_code 1 none rm_S_startAnew [.ref 0] h (J_S_startAnew n  h) := by
  refine sM_of (own := "StoryStates") rfl (by decide) (Nat.le_of_ble_eq_true rfl) (fun M V O => ?_)
  unfold J_S_startAnew
  refine r_lv (lv' := [(0, .ref 0)]) [0] rfl ?_
  refine r_aload_n (pc := 0) O d_S_startAnew_0 0 rfl ?_
  refine r_callVv (pc := 1) O [] rfl rfl (R_S_startPlay n  h) cw_S_startAnew_1 wm_281 ws_S_startPlay rfl (Nat.le_of_ble_eq_true rfl) d_S_startAnew_1 rfl (fun v1 => ?_)
  refine r_aload_n (pc := 4) O d_S_startAnew_4 0 rfl ?_
  refine r_getR (pc := 5) O gf_c_S_24_0 d_S_startAnew_5 ?_
  refine r_callVv (pc := 8) O [] rfl rfl (R_A_forget n  v1) cw_S_startAnew_8 wm_304 wm_305 rfl (Nat.le_of_ble_eq_true rfl) d_S_startAnew_8 rfl (fun v8 => ?_)
  exact r_vret (pc := 11) O rfl d_S_startAnew_11
def J_S_hasAsked (n : Nat) (p1 : Int32) (p2 : Int32) (h : sHp) : Option Int32 :=
  if p1 = 1 then ((J_W_hasThing n p2 h).bind fun v53 =>
  sGd (jB v53) (some v53)) else (if p1 = 2 then ((J_W_hasThing n p2 h).bind fun v53 =>
  sGd (jB v53) (some v53)) else (if p1 = 3 then ((J_W_hasNumber n p2 h).bind fun v62 =>
  sGd (jB v62) (some v62)) else (if p1 = 4 then (some 1) else (if p1 = 5 then (some 1) else (if p1 = 6 then ((J_W_hasThing n p2 h).bind fun v53 =>
  sGd (jB v53) (some v53)) else (if p1 = 7 then ((J_S_isFrom n p2 0 ((h.1 2 17) - 1) h).bind fun v77 =>
  sGd (jB v77) (some v77)) else (if p1 = 8 then ((J_S_isFrom n p2 0 ((h.1 2 16) - 1) h).bind fun v92 =>
  sGd (jB v92) (some v92)) else (some 1))))))))
set_option maxRecDepth 20000 in
set_option maxHeartbeats 4000000 in
theorem R_S_hasAsked (n : Nat) (p1 : Int32) (p2 : Int32) (h : sHp) : sM Zc (sPi h) y_S_hasAsked prog_1_method_25_code 3 (some .boolean) rm_S_hasAsked [.ref 0, .int p1, .int p2] h (J_S_hasAsked n p1 p2 h) := by
  refine sM_of (own := "StoryStates") rfl (by decide) (Nat.le_of_ble_eq_true rfl) (fun M V O => ?_)
  unfold J_S_hasAsked
  refine r_lv (lv' := [(0, .ref 0), (1, .int p1), (2, .int p2)]) [0, 1, 2] rfl ?_
  refine r_iload_n (pc := 0) O d_S_hasAsked_0 1 rfl ?_
  refine r_ite (fun q1_0 => ?_) (fun q1_0 => ?_)
  · refine r_tin (tgt := 48) (pc := 1) O d_S_hasAsked_1 (by rw [q1_0] <;> decide) (by rw [q1_0] <;> decide) (by rw [q1_0] <;> rfl) (by decide) ?_
    refine r_aload_n (pc := 48) O d_S_hasAsked_48 0 rfl ?_
    refine r_getR (pc := 49) O gf_c_S_20_0 d_S_hasAsked_49 ?_
    refine r_iload_n (pc := 52) O d_S_hasAsked_52 2 rfl ?_
    refine r_callVip (pc := 53) O [.int p2] rfl rfl (R_W_hasThing n p2 h) cw_S_hasAsked_53 wm_415 wm_416 rfl (Nat.le_of_ble_eq_true rfl) d_S_hasAsked_53 rfl (fun v53 => ?_)
    exact r_zretg (pc := 56) O rfl d_S_hasAsked_56
  · refine r_ite (fun q1_1 => ?_) (fun q1_1 => ?_)
    · refine r_tin (tgt := 48) (pc := 1) O d_S_hasAsked_1 (by rw [q1_1] <;> decide) (by rw [q1_1] <;> decide) (by rw [q1_1] <;> rfl) (by decide) ?_
      refine r_aload_n (pc := 48) O d_S_hasAsked_48 0 rfl ?_
      refine r_getR (pc := 49) O gf_c_S_20_0 d_S_hasAsked_49 ?_
      refine r_iload_n (pc := 52) O d_S_hasAsked_52 2 rfl ?_
      refine r_callVip (pc := 53) O [.int p2] rfl rfl (R_W_hasThing n p2 h) cw_S_hasAsked_53 wm_415 wm_416 rfl (Nat.le_of_ble_eq_true rfl) d_S_hasAsked_53 rfl (fun v53 => ?_)
      exact r_zretg (pc := 56) O rfl d_S_hasAsked_56
    · refine r_ite (fun q1_2 => ?_) (fun q1_2 => ?_)
      · refine r_tin (tgt := 57) (pc := 1) O d_S_hasAsked_1 (by rw [q1_2] <;> decide) (by rw [q1_2] <;> decide) (by rw [q1_2] <;> rfl) (by decide) ?_
        refine r_aload_n (pc := 57) O d_S_hasAsked_57 0 rfl ?_
        refine r_getR (pc := 58) O gf_c_S_20_0 d_S_hasAsked_58 ?_
        refine r_iload_n (pc := 61) O d_S_hasAsked_61 2 rfl ?_
        refine r_callVip (pc := 62) O [.int p2] rfl rfl (R_W_hasNumber n p2 h) cw_S_hasAsked_62 wm_524 wm_525 rfl (Nat.le_of_ble_eq_true rfl) d_S_hasAsked_62 rfl (fun v62 => ?_)
        exact r_zretg (pc := 65) O rfl d_S_hasAsked_65
      · refine r_ite (fun q1_3 => ?_) (fun q1_3 => ?_)
        · refine r_tin (tgt := 96) (pc := 1) O d_S_hasAsked_1 (by rw [q1_3] <;> decide) (by rw [q1_3] <;> decide) (by rw [q1_3] <;> rfl) (by decide) ?_
          refine r_iconst (pc := 96) O d_S_hasAsked_96 ic_1 ?_
          exact r_zret (pc := 97) O rfl d_S_hasAsked_97 nb_1
        · refine r_ite (fun q1_4 => ?_) (fun q1_4 => ?_)
          · refine r_tin (tgt := 96) (pc := 1) O d_S_hasAsked_1 (by rw [q1_4] <;> decide) (by rw [q1_4] <;> decide) (by rw [q1_4] <;> rfl) (by decide) ?_
            refine r_iconst (pc := 96) O d_S_hasAsked_96 ic_1 ?_
            exact r_zret (pc := 97) O rfl d_S_hasAsked_97 nb_1
          · refine r_ite (fun q1_5 => ?_) (fun q1_5 => ?_)
            · refine r_tin (tgt := 48) (pc := 1) O d_S_hasAsked_1 (by rw [q1_5] <;> decide) (by rw [q1_5] <;> decide) (by rw [q1_5] <;> rfl) (by decide) ?_
              refine r_aload_n (pc := 48) O d_S_hasAsked_48 0 rfl ?_
              refine r_getR (pc := 49) O gf_c_S_20_0 d_S_hasAsked_49 ?_
              refine r_iload_n (pc := 52) O d_S_hasAsked_52 2 rfl ?_
              refine r_callVip (pc := 53) O [.int p2] rfl rfl (R_W_hasThing n p2 h) cw_S_hasAsked_53 wm_415 wm_416 rfl (Nat.le_of_ble_eq_true rfl) d_S_hasAsked_53 rfl (fun v53 => ?_)
              exact r_zretg (pc := 56) O rfl d_S_hasAsked_56
            · refine r_ite (fun q1_6 => ?_) (fun q1_6 => ?_)
              · refine r_tin (tgt := 66) (pc := 1) O d_S_hasAsked_1 (by rw [q1_6] <;> decide) (by rw [q1_6] <;> decide) (by rw [q1_6] <;> rfl) (by decide) ?_
                refine r_iload_n (pc := 66) O d_S_hasAsked_66 2 rfl ?_
                refine r_iconst (pc := 67) O d_S_hasAsked_67 ic_0 ?_
                refine r_aload_n (pc := 68) O d_S_hasAsked_68 0 rfl ?_
                refine r_getR (pc := 69) O gf_c_S_20_0 d_S_hasAsked_69 ?_
                refine r_getI (x := (h.1 2 17)) (pc := 72) O gf_c_S_161_2 d_S_hasAsked_72 rfl ?_
                refine r_iconst (pc := 75) O d_S_hasAsked_75 ic_1 ?_
                refine r_isub (pc := 76) O d_S_hasAsked_76 ?_
                refine r_callSip (pc := 77) O [.int p2, .int 0, .int ((h.1 2 17) - 1)] (R_S_isFrom n p2 0 ((h.1 2 17) - 1) h) cw_S_hasAsked_77 wm_312 rfl (Nat.le_of_ble_eq_true rfl) d_S_hasAsked_77 rfl (fun v77 => ?_)
                exact r_zretg (pc := 80) O rfl d_S_hasAsked_80
              · refine r_ite (fun q1_7 => ?_) (fun q1_7 => ?_)
                · refine r_tin (tgt := 81) (pc := 1) O d_S_hasAsked_1 (by rw [q1_7] <;> decide) (by rw [q1_7] <;> decide) (by rw [q1_7] <;> rfl) (by decide) ?_
                  refine r_iload_n (pc := 81) O d_S_hasAsked_81 2 rfl ?_
                  refine r_iconst (pc := 82) O d_S_hasAsked_82 ic_0 ?_
                  refine r_aload_n (pc := 83) O d_S_hasAsked_83 0 rfl ?_
                  refine r_getR (pc := 84) O gf_c_S_20_0 d_S_hasAsked_84 ?_
                  refine r_getI (x := (h.1 2 16)) (pc := 87) O gf_c_S_152_2 d_S_hasAsked_87 rfl ?_
                  refine r_iconst (pc := 90) O d_S_hasAsked_90 ic_1 ?_
                  refine r_isub (pc := 91) O d_S_hasAsked_91 ?_
                  refine r_callSip (pc := 92) O [.int p2, .int 0, .int ((h.1 2 16) - 1)] (R_S_isFrom n p2 0 ((h.1 2 16) - 1) h) cw_S_hasAsked_92 wm_312 rfl (Nat.le_of_ble_eq_true rfl) d_S_hasAsked_92 rfl (fun v92 => ?_)
                  exact r_zretg (pc := 95) O rfl d_S_hasAsked_95
                · refine r_tout (tgt := 96) (pc := 1) O d_S_hasAsked_1 (by have z0 := lv_neT (a := 1) q1_0 (by decide); have z1 := lv_neT (a := 2) q1_1 (by decide); have z2 := lv_neT (a := 3) q1_2 (by decide); have z3 := lv_neT (a := 4) q1_3 (by decide); have z4 := lv_neT (a := 5) q1_4 (by decide); have z5 := lv_neT (a := 6) q1_5 (by decide); have z6 := lv_neT (a := 7) q1_6 (by decide); have z7 := lv_neT (a := 8) q1_7 (by decide); omega) (by decide) ?_
                  refine r_iconst (pc := 96) O d_S_hasAsked_96 ic_1 ?_
                  exact r_zret (pc := 97) O rfl d_S_hasAsked_97 nb_1
def F_S_spoilingTurn_28 (n : Nat) (h : sHp) (rec28 : Int32 → Option Int32) (q : Int32) : Option Int32 :=
  if q < 0 then (some (-1)) else (sGd (sIn q 61) ((J_A_isHopeless n (h.2 7 (ix q)) h).bind fun v42 =>
  if v42 = 0 then (some q) else (rec28 (q + (-1)))))
def J_S_spoilingTurn (n : Nat)  (h : sHp) : Option Int32 :=
  sGd (sIn (h.1 0 5) 61) ((J_A_isHopeless n (h.2 7 (ix (h.1 0 5))) h).bind fun v13 =>
  if v13 = 0 then (some (-1)) else (sFx (F_S_spoilingTurn_28 n h ) n ((h.1 0 5) - 1)))
set_option maxRecDepth 20000 in
set_option maxHeartbeats 4000000 in
theorem R_S_spoilingTurn (n : Nat)  (h : sHp) : sM Zc (sPi h) y_S_spoilingTurn prog_1_method_22_code 2 (some .int) rm_S_spoilingTurn [.ref 0] h (J_S_spoilingTurn n  h) := by
  refine sM_of (own := "StoryStates") rfl (by decide) (Nat.le_of_ble_eq_true rfl) (fun M V O => ?_)
  unfold J_S_spoilingTurn
  refine r_lv (lv' := [(0, .ref 0)]) [0] rfl ?_
  have hL28 : ∀ (q : Int32), sS Zc M V (sEb (sPi h)) 28 [(0, .ref 0), (1, .int q)] [] h (sFx (F_S_spoilingTurn_28 n h ) n q) := by
    skip
    refine r_fx (fun q => [(0, .ref 0), (1, .int q)]) (fun q => h) (F_S_spoilingTurn_28 n h ) (fun rec28 hrec28 q => ?_) n
    skip
    show sS Zc M V (sEb (sPi h)) 28 [(0, .ref 0), (1, .int q)] [] h _
    unfold F_S_spoilingTurn_28
    try dsimp only
    refine r_iload_n (pc := 28) O d_S_spoilingTurn_28 1 rfl ?_
    refine r_if_lt (tgt := 56) (pc := 29) O d_S_spoilingTurn_29 (by decide) (fun q29 => ?_) (fun q29 => ?_)
    · refine r_iconst (pc := 56) O d_S_spoilingTurn_56 ic_m1 ?_
      exact r_iret (pc := 57) O rfl d_S_spoilingTurn_57
    · refine r_aload_n (pc := 32) O d_S_spoilingTurn_32 0 rfl ?_
      refine r_getR (pc := 33) O gf_c_S_24_0 d_S_spoilingTurn_33 ?_
      refine r_aload_n (pc := 36) O d_S_spoilingTurn_36 0 rfl ?_
      refine r_getR (pc := 37) O gf_c_S_28_0 d_S_spoilingTurn_37 ?_
      refine r_iload_n (pc := 40) O d_S_spoilingTurn_40 1 rfl ?_
      refine r_lald (x := (h.2 7 (ix q))) (pc := 41) O rfl d_S_spoilingTurn_41 rfl ?_
      refine r_callVip (pc := 42) O [.long (h.2 7 (ix q))] rfl rfl (R_A_isHopeless n (h.2 7 (ix q)) h) cw_S_spoilingTurn_42 wm_873 wm_874 rfl (Nat.le_of_ble_eq_true rfl) d_S_spoilingTurn_42 rfl (fun v42 => ?_)
      refine r_if_ne (tgt := 50) (pc := 45) O d_S_spoilingTurn_45 (by decide) (fun q45 => ?_) (fun q45 => ?_)
      · refine r_iinc (lv' := [(1, .int (q + (-1))), (0, .ref 0)]) (pc := 50) O d_S_spoilingTurn_50 1 rfl (congrArg (HAdd.hAdd _) ic_m1) (by decide) rfl ?_
        refine r_goto (pc := 53) O d_S_spoilingTurn_53 (tgt := 28) (by decide) ?_
        exact r_lv [1, 0] rfl (hrec28 (q + (-1)))
      · refine r_iload_n (pc := 48) O d_S_spoilingTurn_48 1 rfl ?_
        exact r_iret (pc := 49) O rfl d_S_spoilingTurn_49
  refine r_aload_n (pc := 0) O d_S_spoilingTurn_0 0 rfl ?_
  refine r_getR (pc := 1) O gf_c_S_24_0 d_S_spoilingTurn_1 ?_
  refine r_aload_n (pc := 4) O d_S_spoilingTurn_4 0 rfl ?_
  refine r_getR (pc := 5) O gf_c_S_28_0 d_S_spoilingTurn_5 ?_
  refine r_aload_n (pc := 8) O d_S_spoilingTurn_8 0 rfl ?_
  refine r_getI (x := (h.1 0 5)) (pc := 9) O gf_c_S_36_0 d_S_spoilingTurn_9 rfl ?_
  refine r_lald (x := (h.2 7 (ix (h.1 0 5)))) (pc := 12) O rfl d_S_spoilingTurn_12 rfl ?_
  refine r_callVip (pc := 13) O [.long (h.2 7 (ix (h.1 0 5)))] rfl rfl (R_A_isHopeless n (h.2 7 (ix (h.1 0 5))) h) cw_S_spoilingTurn_13 wm_873 wm_874 rfl (Nat.le_of_ble_eq_true rfl) d_S_spoilingTurn_13 rfl (fun v13 => ?_)
  refine r_if_ne (tgt := 21) (pc := 16) O d_S_spoilingTurn_16 (by decide) (fun q16 => ?_) (fun q16 => ?_)
  · refine r_aload_n (pc := 21) O d_S_spoilingTurn_21 0 rfl ?_
    refine r_getI (x := (h.1 0 5)) (pc := 22) O gf_c_S_36_0 d_S_spoilingTurn_22 rfl ?_
    refine r_iconst (pc := 25) O d_S_spoilingTurn_25 ic_1 ?_
    refine r_isub (pc := 26) O d_S_spoilingTurn_26 ?_
    refine r_istore_n (lv' := [(1, .int ((h.1 0 5) - 1)), (0, .ref 0)]) (pc := 27) O d_S_spoilingTurn_27 rfl (by decide) rfl ?_
    exact r_lv [1, 0] rfl (hL28 ((h.1 0 5) - 1))
  · refine r_iconst (pc := 19) O d_S_spoilingTurn_19 ic_m1 ?_
    exact r_iret (pc := 20) O rfl d_S_spoilingTurn_20
def K_S_isThingKind_11 (n : Nat) (p0 : Int32) (h : sHp) (t0 : Int32) : Option Int32 :=
  (J_S_isFrom n p0 0 7 h).bind fun v16 =>
  if v16 = 0 then (some 0) else (if t0 = 0 then (some 1) else (if (p0 &&& 2) = 0 then (some 0) else (some 1)))
def J_S_isThingKind (n : Nat) (p0 : Int32) (h : sHp) : Option Int32 :=
  if (p0 &&& 4) = 0 then (K_S_isThingKind_11 n p0 h 0) else (K_S_isThingKind_11 n p0 h 1)
set_option maxRecDepth 20000 in
set_option maxHeartbeats 4000000 in
theorem R_S_isThingKind (n : Nat) (p0 : Int32) (h : sHp) : sM Zc (sPi h) y_S_isThingKind prog_1_method_26_code 2 (some .boolean) rm_S_isThingKind [.int p0] h (J_S_isThingKind n p0 h) := by
  refine sM_of (own := "StoryStates") rfl (by decide) (Nat.le_of_ble_eq_true rfl) (fun M V O => ?_)
  unfold J_S_isThingKind
  refine r_lv (lv' := [(0, .int p0)]) [0] rfl ?_
  have hK11 : ∀ (t0 : Int32), sS Zc M V (sEb (sPi h)) 11 [(0, .int p0)] [.int t0] h (K_S_isThingKind_11 n p0 h t0) := by
    intro t0
    unfold K_S_isThingKind_11
    refine r_istore_n (lv' := [(1, .int t0), (0, .int p0)]) (pc := 11) O d_S_isThingKind_11 rfl (by decide) rfl ?_
    refine r_iload_n (pc := 12) O d_S_isThingKind_12 1 rfl ?_
    refine r_iconst (pc := 13) O d_S_isThingKind_13 ic_0 ?_
    refine r_bipush (pc := 14) O d_S_isThingKind_14 bc_7 ?_
    refine r_callSip (pc := 16) O [.int p0, .int 0, .int 7] (R_S_isFrom n p0 0 7 h) cw_S_isThingKind_16 wm_312 rfl (Nat.le_of_ble_eq_true rfl) d_S_isThingKind_16 rfl (fun v16 => ?_)
    refine r_if_eq (tgt := 36) (pc := 19) O d_S_isThingKind_19 (by decide) (fun q19 => ?_) (fun q19 => ?_)
    · refine r_iconst (pc := 36) O d_S_isThingKind_36 ic_0 ?_
      exact r_zret (pc := 37) O rfl d_S_isThingKind_37 nb_0
    · refine r_iload_n (pc := 22) O d_S_isThingKind_22 0 rfl ?_
      refine r_if_eq (tgt := 32) (pc := 23) O d_S_isThingKind_23 (by decide) (fun q23 => ?_) (fun q23 => ?_)
      · refine r_iconst (pc := 32) O d_S_isThingKind_32 ic_1 ?_
        refine r_goto (pc := 33) O d_S_isThingKind_33 (tgt := 37) (by decide) ?_
        exact r_zret (pc := 37) O rfl d_S_isThingKind_37 nb_1
      · refine r_iload_n (pc := 26) O d_S_isThingKind_26 1 rfl ?_
        refine r_iconst (pc := 27) O d_S_isThingKind_27 ic_2 ?_
        refine r_iand (pc := 28) O d_S_isThingKind_28 ?_
        refine r_if_eq (tgt := 36) (pc := 29) O d_S_isThingKind_29 (by decide) (fun q29 => ?_) (fun q29 => ?_)
        · refine r_iconst (pc := 36) O d_S_isThingKind_36 ic_0 ?_
          exact r_zret (pc := 37) O rfl d_S_isThingKind_37 nb_0
        · refine r_iconst (pc := 32) O d_S_isThingKind_32 ic_1 ?_
          refine r_goto (pc := 33) O d_S_isThingKind_33 (tgt := 37) (by decide) ?_
          exact r_zret (pc := 37) O rfl d_S_isThingKind_37 nb_1
  refine r_iload_n (pc := 0) O d_S_isThingKind_0 0 rfl ?_
  refine r_iconst (pc := 1) O d_S_isThingKind_1 ic_4 ?_
  refine r_iand (pc := 2) O d_S_isThingKind_2 ?_
  refine r_if_eq (tgt := 10) (pc := 3) O d_S_isThingKind_3 (by decide) (fun q3 => ?_) (fun q3 => ?_)
  · refine r_iconst (pc := 10) O d_S_isThingKind_10 ic_0 ?_
    exact (hK11 0)
  · refine r_iconst (pc := 6) O d_S_isThingKind_6 ic_1 ?_
    refine r_goto (pc := 7) O d_S_isThingKind_7 (tgt := 11) (by decide) ?_
    exact (hK11 1)
def J_S_isConditionLevel (n : Nat) (p0 : Int32) (p1 : Int32) (h : sHp) : Option Int32 :=
  if p0 = 2 then ((J_S_isFrom n p1 0 1 h).bind fun v31 =>
  sGd (jB v31) (some v31)) else (if p0 = 3 then ((J_S_isFrom n p1 0 7 h).bind fun v39 =>
  sGd (jB v39) (some v39)) else (if p0 = 4 then ((J_S_isFrom n p1 0 7 h).bind fun v39 =>
  sGd (jB v39) (some v39)) else (some 1)))
set_option maxRecDepth 20000 in
set_option maxHeartbeats 4000000 in
theorem R_S_isConditionLevel (n : Nat) (p0 : Int32) (p1 : Int32) (h : sHp) : sM Zc (sPi h) y_S_isConditionLevel prog_1_method_27_code 2 (some .boolean) rm_S_isConditionLevel [.int p0, .int p1] h (J_S_isConditionLevel n p0 p1 h) := by
  refine sM_of (own := "StoryStates") rfl (by decide) (Nat.le_of_ble_eq_true rfl) (fun M V O => ?_)
  unfold J_S_isConditionLevel
  refine r_lv (lv' := [(0, .int p0), (1, .int p1)]) [0, 1] rfl ?_
  refine r_iload_n (pc := 0) O d_S_isConditionLevel_0 0 rfl ?_
  refine r_ite (fun q1_0 => ?_) (fun q1_0 => ?_)
  · refine r_tin (tgt := 28) (pc := 1) O d_S_isConditionLevel_1 (by rw [q1_0] <;> decide) (by rw [q1_0] <;> decide) (by rw [q1_0] <;> rfl) (by decide) ?_
    refine r_iload_n (pc := 28) O d_S_isConditionLevel_28 1 rfl ?_
    refine r_iconst (pc := 29) O d_S_isConditionLevel_29 ic_0 ?_
    refine r_iconst (pc := 30) O d_S_isConditionLevel_30 ic_1 ?_
    refine r_callSip (pc := 31) O [.int p1, .int 0, .int 1] (R_S_isFrom n p1 0 1 h) cw_S_isConditionLevel_31 wm_312 rfl (Nat.le_of_ble_eq_true rfl) d_S_isConditionLevel_31 rfl (fun v31 => ?_)
    exact r_zretg (pc := 34) O rfl d_S_isConditionLevel_34
  · refine r_ite (fun q1_1 => ?_) (fun q1_1 => ?_)
    · refine r_tin (tgt := 35) (pc := 1) O d_S_isConditionLevel_1 (by rw [q1_1] <;> decide) (by rw [q1_1] <;> decide) (by rw [q1_1] <;> rfl) (by decide) ?_
      refine r_iload_n (pc := 35) O d_S_isConditionLevel_35 1 rfl ?_
      refine r_iconst (pc := 36) O d_S_isConditionLevel_36 ic_0 ?_
      refine r_bipush (pc := 37) O d_S_isConditionLevel_37 bc_7 ?_
      refine r_callSip (pc := 39) O [.int p1, .int 0, .int 7] (R_S_isFrom n p1 0 7 h) cw_S_isConditionLevel_39 wm_312 rfl (Nat.le_of_ble_eq_true rfl) d_S_isConditionLevel_39 rfl (fun v39 => ?_)
      exact r_zretg (pc := 42) O rfl d_S_isConditionLevel_42
    · refine r_ite (fun q1_2 => ?_) (fun q1_2 => ?_)
      · refine r_tin (tgt := 35) (pc := 1) O d_S_isConditionLevel_1 (by rw [q1_2] <;> decide) (by rw [q1_2] <;> decide) (by rw [q1_2] <;> rfl) (by decide) ?_
        refine r_iload_n (pc := 35) O d_S_isConditionLevel_35 1 rfl ?_
        refine r_iconst (pc := 36) O d_S_isConditionLevel_36 ic_0 ?_
        refine r_bipush (pc := 37) O d_S_isConditionLevel_37 bc_7 ?_
        refine r_callSip (pc := 39) O [.int p1, .int 0, .int 7] (R_S_isFrom n p1 0 7 h) cw_S_isConditionLevel_39 wm_312 rfl (Nat.le_of_ble_eq_true rfl) d_S_isConditionLevel_39 rfl (fun v39 => ?_)
        exact r_zretg (pc := 42) O rfl d_S_isConditionLevel_42
      · refine r_tout (tgt := 43) (pc := 1) O d_S_isConditionLevel_1 (by have z0 := lv_neT (a := 2) q1_0 (by decide); have z1 := lv_neT (a := 3) q1_1 (by decide); have z2 := lv_neT (a := 4) q1_2 (by decide); omega) (by decide) ?_
        refine r_iconst (pc := 43) O d_S_isConditionLevel_43 ic_1 ?_
        exact r_zret (pc := 44) O rfl d_S_isConditionLevel_44 nb_1
def J_S_isEffectLevel (n : Nat) (p0 : Int32) (p1 : Int32) (h : sHp) : Option Int32 :=
  if p0 = 2 then ((J_S_isFrom n p1 0 1 h).bind fun v31 =>
  sGd (jB v31) (some v31)) else (if p0 = 3 then ((J_S_isFrom n p1 (-7) 7 h).bind fun v40 =>
  sGd (jB v40) (some v40)) else (some 1))
set_option maxRecDepth 20000 in
set_option maxHeartbeats 4000000 in
theorem R_S_isEffectLevel (n : Nat) (p0 : Int32) (p1 : Int32) (h : sHp) : sM Zc (sPi h) y_S_isEffectLevel prog_1_method_28_code 2 (some .boolean) rm_S_isEffectLevel [.int p0, .int p1] h (J_S_isEffectLevel n p0 p1 h) := by
  refine sM_of (own := "StoryStates") rfl (by decide) (Nat.le_of_ble_eq_true rfl) (fun M V O => ?_)
  unfold J_S_isEffectLevel
  refine r_lv (lv' := [(0, .int p0), (1, .int p1)]) [0, 1] rfl ?_
  refine r_iload_n (pc := 0) O d_S_isEffectLevel_0 0 rfl ?_
  refine r_ite (fun q1_0 => ?_) (fun q1_0 => ?_)
  · refine r_look (tgt := 28) (pc := 1) O d_S_isEffectLevel_1 (by decide) (off := 27) (by rw [q1_0] <;> rfl) (by decide) ?_
    refine r_iload_n (pc := 28) O d_S_isEffectLevel_28 1 rfl ?_
    refine r_iconst (pc := 29) O d_S_isEffectLevel_29 ic_0 ?_
    refine r_iconst (pc := 30) O d_S_isEffectLevel_30 ic_1 ?_
    refine r_callSip (pc := 31) O [.int p1, .int 0, .int 1] (R_S_isFrom n p1 0 1 h) cw_S_isEffectLevel_31 wm_312 rfl (Nat.le_of_ble_eq_true rfl) d_S_isEffectLevel_31 rfl (fun v31 => ?_)
    exact r_zretg (pc := 34) O rfl d_S_isEffectLevel_34
  · refine r_ite (fun q1_1 => ?_) (fun q1_1 => ?_)
    · refine r_look (tgt := 35) (pc := 1) O d_S_isEffectLevel_1 (by decide) (off := 34) (by rw [q1_1] <;> rfl) (by decide) ?_
      refine r_iload_n (pc := 35) O d_S_isEffectLevel_35 1 rfl ?_
      refine r_bipush (pc := 36) O d_S_isEffectLevel_36 bc_m7 ?_
      refine r_bipush (pc := 38) O d_S_isEffectLevel_38 bc_7 ?_
      refine r_callSip (pc := 40) O [.int p1, .int (-7), .int 7] (R_S_isFrom n p1 (-7) 7 h) cw_S_isEffectLevel_40 wm_312 rfl (Nat.le_of_ble_eq_true rfl) d_S_isEffectLevel_40 rfl (fun v40 => ?_)
      exact r_zretg (pc := 43) O rfl d_S_isEffectLevel_43
    · refine r_look (tgt := 44) (pc := 1) O d_S_isEffectLevel_1 (by decide) (off := 43) (by show Op.lookupswitch.offset _ _ _ = _; rw [lv_osw (a := 2) q1_0 (by decide), lv_osw (a := 3) q1_1 (by decide)] <;> rfl) (by decide) ?_
      refine r_iconst (pc := 44) O d_S_isEffectLevel_44 ic_1 ?_
      exact r_zret (pc := 45) O rfl d_S_isEffectLevel_45 nb_1
def J_S_clear (n : Nat)  (h : sHp) : Option sHp :=
  (J_W_becomeEmpty n h).bind fun v4 =>
  (J_S_startAnew n v4).bind fun v8 =>
  some v8
set_option maxRecDepth 20000 in
set_option maxHeartbeats 4000000 in
theorem R_S_clear (n : Nat)  (h : sHp) : sM Zc sOv y_S_clear prog_1_method_2_code 1 none rm_S_clear [.ref 0] h (J_S_clear n  h) := by
  refine sM_of (own := "StoryStates") rfl (by decide) (Nat.le_of_ble_eq_true rfl) (fun M V O => ?_)
  unfold J_S_clear
  refine r_lv (lv' := [(0, .ref 0)]) [0] rfl ?_
  refine r_aload_n (pc := 0) O d_S_clear_0 0 rfl ?_
  refine r_getR (pc := 1) O gf_c_S_20_0 d_S_clear_1 ?_
  refine r_callVv (pc := 4) O [] rfl rfl (R_W_becomeEmpty n  h) cw_S_clear_4 wm_272 wm_273 rfl (Nat.le_of_ble_eq_true rfl) d_S_clear_4 rfl (fun v4 => ?_)
  refine r_aload_n (pc := 7) O d_S_clear_7 0 rfl ?_
  refine r_callVv (pc := 8) O [] rfl rfl (R_S_startAnew n  v4) cw_S_clear_8 wm_277 ws_S_startAnew rfl (Nat.le_of_ble_eq_true rfl) d_S_clear_8 rfl (fun v8 => ?_)
  exact r_vret (pc := 11) O rfl d_S_clear_11
def J_S_said (n : Nat) (p1 : Int32) (h : sHp) : Option Int32 :=
  (J_S_isFrom n p1 0 ((h.1 0 6) - 1) h).bind fun v8 =>
  if v8 = 0 then (some (-1)) else (sGd (sIn p1 3) (some (h.1 8 (ix p1))))
set_option maxRecDepth 20000 in
set_option maxHeartbeats 4000000 in
theorem R_S_said (n : Nat) (p1 : Int32) (h : sHp) : sM Zc (sPi h) y_S_said prog_1_method_15_code 2 (some .int) rm_S_said [.ref 0, .int p1] h (J_S_said n p1 h) := by
  refine sM_of (own := "StoryStates") rfl (by decide) (Nat.le_of_ble_eq_true rfl) (fun M V O => ?_)
  unfold J_S_said
  refine r_lv (lv' := [(0, .ref 0), (1, .int p1)]) [0, 1] rfl ?_
  refine r_iload_n (pc := 0) O d_S_said_0 1 rfl ?_
  refine r_iconst (pc := 1) O d_S_said_1 ic_0 ?_
  refine r_aload_n (pc := 2) O d_S_said_2 0 rfl ?_
  refine r_getI (x := (h.1 0 6)) (pc := 3) O gf_c_S_40_0 d_S_said_3 rfl ?_
  refine r_iconst (pc := 6) O d_S_said_6 ic_1 ?_
  refine r_isub (pc := 7) O d_S_said_7 ?_
  refine r_callSip (pc := 8) O [.int p1, .int 0, .int ((h.1 0 6) - 1)] (R_S_isFrom n p1 0 ((h.1 0 6) - 1) h) cw_S_said_8 wm_312 rfl (Nat.le_of_ble_eq_true rfl) d_S_said_8 rfl (fun v8 => ?_)
  refine r_if_eq (tgt := 23) (pc := 11) O d_S_said_11 (by decide) (fun q11 => ?_) (fun q11 => ?_)
  · refine r_iconst (pc := 23) O d_S_said_23 ic_m1 ?_
    exact r_iret (pc := 24) O rfl d_S_said_24
  · refine r_aload_n (pc := 14) O d_S_said_14 0 rfl ?_
    refine r_getR (pc := 15) O gf_c_S_32_0 d_S_said_15 ?_
    refine r_iload_n (pc := 18) O d_S_said_18 1 rfl ?_
    refine r_iald (x := (h.1 8 (ix p1))) (pc := 19) O rfl d_S_said_19 rfl ?_
    refine r_goto (pc := 20) O d_S_said_20 (tgt := 24) (by decide) ?_
    exact r_iret (pc := 24) O rfl d_S_said_24
def J_S_undo (n : Nat)  (h : sHp) : Option (Int32 × sHp) :=
  if (h.1 0 5) = 0 then (some (0, (pI h 0 6 0))) else (some (1, (pI (pI h 0 6 0) 0 5 ((h.1 0 5) - 1))))
set_option maxRecDepth 20000 in
set_option maxHeartbeats 4000000 in
theorem R_S_undo (n : Nat)  (h : sHp) : sM Zc sOi y_S_undo prog_1_method_16_code 1 (some .boolean) rm_S_undo [.ref 0] h (J_S_undo n  h) := by
  refine sM_of (own := "StoryStates") rfl (by decide) (Nat.le_of_ble_eq_true rfl) (fun M V O => ?_)
  unfold J_S_undo
  refine r_lv (lv' := [(0, .ref 0)]) [0] rfl ?_
  refine r_aload_n (pc := 0) O d_S_undo_0 0 rfl ?_
  refine r_iconst (pc := 1) O d_S_undo_1 ic_0 ?_
  refine r_putI (pc := 2) O pf_c_S_40_0 d_S_undo_2 ?_
  refine r_aload_n (pc := 5) O d_S_undo_5 0 rfl ?_
  refine r_getI (x := (h.1 0 5)) (pc := 6) O gf_c_S_36_0 d_S_undo_6 rfl ?_
  refine r_if_ne (tgt := 14) (pc := 9) O d_S_undo_9 (by decide) (fun q9 => ?_) (fun q9 => ?_)
  · refine r_aload_n (pc := 14) O d_S_undo_14 0 rfl ?_
    refine r_dup (pc := 15) O d_S_undo_15 rfl ?_
    refine r_getI (x := (h.1 0 5)) (pc := 16) O gf_c_S_36_0 d_S_undo_16 rfl ?_
    refine r_iconst (pc := 19) O d_S_undo_19 ic_1 ?_
    refine r_isub (pc := 20) O d_S_undo_20 ?_
    refine r_putI (pc := 21) O pf_c_S_36_0 d_S_undo_21 ?_
    refine r_iconst (pc := 24) O d_S_undo_24 ic_1 ?_
    exact r_zret (pc := 25) O rfl d_S_undo_25 nb_1
  · refine r_iconst (pc := 12) O d_S_undo_12 ic_0 ?_
    exact r_zret (pc := 13) O rfl d_S_undo_13 nb_0
def K_S_room_17 (n : Nat) (t0 : Int32) (h : sHp) : Option (Except Nat Int32 × sHp) :=
  if t0 = 0 then some (.error 2, h) else ((J_W_addRoom n h).bind fun v24 =>
  (J_S_startAnew n v24.2).bind fun v29 =>
  some (.ok v24.1, v29))
def J_S_room (n : Nat)  (h : sHp) : Option (Except Nat Int32 × sHp) :=
  if 6 ≤ (h.1 2 12) then (K_S_room_17 n 0 h) else (K_S_room_17 n 1 h)
set_option maxRecDepth 20000 in
set_option maxHeartbeats 4000000 in
theorem R_S_room (n : Nat)  (h : sHp) : sMf Zc oI y_S_room prog_1_method_3_code 2 (some .int) rm_S_room [.ref 0] h (J_S_room n  h) := by
  refine sMf_of (own := "StoryStates") rfl (by decide) (Nat.le_of_ble_eq_true rfl) (fun M V O T => ?_)
  unfold J_S_room
  refine r_lv (lv' := [(0, .ref 0)]) [0] rfl ?_
  have hK17 : ∀ (t0 : Int32) (h : sHp), sS Zc M V (sEf oI) 17 [(0, .ref 0)] [.int t0] h (K_S_room_17 n t0 h) := by
    intro t0 h
    unfold K_S_room_17
    refine r_mustv (pc := 17) O T d_S_room_17 (R_S_mustBeAble t0 h) cf_S_room_17 wm_327 (Nat.le_of_ble_eq_true rfl) (fun q17 => ?_)
    refine r_aload_n (pc := 20) O d_S_room_20 0 rfl ?_
    refine r_getR (pc := 21) O gf_c_S_20_0 d_S_room_21 ?_
    refine r_callVi (pc := 24) O [] rfl rfl (R_W_addRoom n  h) cw_S_room_24 wm_393 wm_394 rfl (Nat.le_of_ble_eq_true rfl) d_S_room_24 rfl (fun v24 => ?_)
    refine r_istore_n (lv' := [(1, .int v24.1), (0, .ref 0)]) (pc := 27) O d_S_room_27 rfl (by decide) rfl ?_
    refine r_aload_n (pc := 28) O d_S_room_28 1 rfl ?_
    refine r_callVv (pc := 29) O [] rfl rfl (R_S_startAnew n  v24.2) cw_S_room_29 wm_277 ws_S_startAnew rfl (Nat.le_of_ble_eq_true rfl) d_S_room_29 rfl (fun v29 => ?_)
    refine r_iload_n (pc := 32) O d_S_room_32 0 rfl ?_
    exact r_iret (pc := 33) O rfl d_S_room_33
  refine r_aload_n (pc := 0) O d_S_room_0 0 rfl ?_
  refine r_getR (pc := 1) O gf_c_S_20_0 d_S_room_1 ?_
  refine r_getI (x := (h.1 2 12)) (pc := 4) O gf_c_S_51_2 d_S_room_4 rfl ?_
  refine r_bipush (pc := 7) O d_S_room_7 bc_6 ?_
  refine r_icmp_ge (tgt := 16) (pc := 9) O d_S_room_9 (by decide) (fun q9 => ?_) (fun q9 => ?_)
  · refine r_iconst (pc := 16) O d_S_room_16 ic_0 ?_
    exact (hK17 0 h)
  · refine r_iconst (pc := 12) O d_S_room_12 ic_1 ?_
    refine r_goto (pc := 13) O d_S_room_13 (tgt := 17) (by decide) ?_
    exact (hK17 1 h)
def K_S_exit_45 (n : Nat) (p1 : Int32) (p2 : Int32) (p3 : Int32) (p4 : Int32) (t0 : Int32) (h : sHp) : Option (Except Nat Unit × sHp) :=
  if t0 = 0 then some (.error 0, h) else ((J_S_isFrom n p2 0 3 h).bind fun v51 =>
  if v51 = 0 then some (.error 1, h) else ((J_W_setExit n p1 p2 p3 p4 h).bind fun v66 =>
  (J_S_startAnew n v66).bind fun v70 =>
  some (.ok (), v70)))
def K_S_exit_44 (n : Nat) (p1 : Int32) (p2 : Int32) (p3 : Int32) (p4 : Int32) (h : sHp) : Option (Except Nat Unit × sHp) :=
  K_S_exit_45 n p1 p2 p3 p4 0 h
def K_S_exit_40 (n : Nat) (p1 : Int32) (p2 : Int32) (p3 : Int32) (p4 : Int32) (h : sHp) : Option (Except Nat Unit × sHp) :=
  K_S_exit_45 n p1 p2 p3 p4 1 h
def J_S_exit (n : Nat) (p1 : Int32) (p2 : Int32) (p3 : Int32) (p4 : Int32) (h : sHp) : Option (Except Nat Unit × sHp) :=
  (J_W_hasRoom n p1 h).bind fun v5 =>
  if v5 = 0 then (K_S_exit_44 n p1 p2 p3 p4 h) else ((J_W_hasRoom n p3 h).bind fun v16 =>
  if v16 = 0 then (K_S_exit_44 n p1 p2 p3 p4 h) else (if p4 = (-1) then (K_S_exit_40 n p1 p2 p3 p4 h) else ((J_W_hasThing n p4 h).bind fun v34 =>
  if v34 = 0 then (K_S_exit_44 n p1 p2 p3 p4 h) else (K_S_exit_40 n p1 p2 p3 p4 h))))
set_option maxRecDepth 20000 in
set_option maxHeartbeats 4000000 in
theorem R_S_exit (n : Nat) (p1 : Int32) (p2 : Int32) (p3 : Int32) (p4 : Int32) (h : sHp) : sMf Zc oV y_S_exit prog_1_method_4_code 5 none rm_S_exit [.ref 0, .int p1, .int p2, .int p3, .int p4] h (J_S_exit n p1 p2 p3 p4 h) := by
  refine sMf_of (own := "StoryStates") rfl (by decide) (Nat.le_of_ble_eq_true rfl) (fun M V O T => ?_)
  unfold J_S_exit
  refine r_lv (lv' := [(0, .ref 0), (1, .int p1), (2, .int p2), (3, .int p3), (4, .int p4)]) [0, 1, 2, 3, 4] rfl ?_
  have hK45 : ∀ (t0 : Int32) (h : sHp), sS Zc M V (sEf oV) 45 [(0, .ref 0), (1, .int p1), (2, .int p2), (3, .int p3), (4, .int p4)] [.int t0] h (K_S_exit_45 n p1 p2 p3 p4 t0 h) := by
    intro t0 h
    unfold K_S_exit_45
    refine r_mustv (pc := 45) O T d_S_exit_45 (R_S_mustBeThere t0 h) cf_S_exit_45 wm_419 (Nat.le_of_ble_eq_true rfl) (fun q45 => ?_)
    refine r_iload_n (pc := 48) O d_S_exit_48 2 rfl ?_
    refine r_iconst (pc := 49) O d_S_exit_49 ic_0 ?_
    refine r_iconst (pc := 50) O d_S_exit_50 ic_3 ?_
    refine r_callSip (pc := 51) O [.int p2, .int 0, .int 3] (R_S_isFrom n p2 0 3 h) cw_S_exit_51 wm_312 rfl (Nat.le_of_ble_eq_true rfl) d_S_exit_51 rfl (fun v51 => ?_)
    refine r_mustv (pc := 54) O T d_S_exit_54 (R_S_mustFit v51 h) cf_S_exit_54 wm_437 (Nat.le_of_ble_eq_true rfl) (fun q54 => ?_)
    refine r_aload_n (pc := 57) O d_S_exit_57 0 rfl ?_
    refine r_getR (pc := 58) O gf_c_S_20_0 d_S_exit_58 ?_
    refine r_iload_n (pc := 61) O d_S_exit_61 1 rfl ?_
    refine r_iload_n (pc := 62) O d_S_exit_62 2 rfl ?_
    refine r_iload_n (pc := 63) O d_S_exit_63 3 rfl ?_
    refine r_iload (pc := 64) O d_S_exit_64 4 rfl ?_
    refine r_callVv (pc := 66) O [.int p1, .int p2, .int p3, .int p4] rfl rfl (R_W_setExit n p1 p2 p3 p4 h) cw_S_exit_66 wm_397 wm_398 rfl (Nat.le_of_ble_eq_true rfl) d_S_exit_66 rfl (fun v66 => ?_)
    refine r_aload_n (pc := 69) O d_S_exit_69 0 rfl ?_
    refine r_callVv (pc := 70) O [] rfl rfl (R_S_startAnew n  v66) cw_S_exit_70 wm_277 ws_S_startAnew rfl (Nat.le_of_ble_eq_true rfl) d_S_exit_70 rfl (fun v70 => ?_)
    exact r_vret (pc := 73) O rfl d_S_exit_73
  have hK44 : ∀ (h : sHp), sS Zc M V (sEf oV) 44 [(0, .ref 0), (1, .int p1), (2, .int p2), (3, .int p3), (4, .int p4)] [] h (K_S_exit_44 n p1 p2 p3 p4 h) := by
    intro h
    unfold K_S_exit_44
    refine r_iconst (pc := 44) O d_S_exit_44 ic_0 ?_
    exact (hK45 0 h)
  have hK40 : ∀ (h : sHp), sS Zc M V (sEf oV) 40 [(0, .ref 0), (1, .int p1), (2, .int p2), (3, .int p3), (4, .int p4)] [] h (K_S_exit_40 n p1 p2 p3 p4 h) := by
    intro h
    unfold K_S_exit_40
    refine r_iconst (pc := 40) O d_S_exit_40 ic_1 ?_
    refine r_goto (pc := 41) O d_S_exit_41 (tgt := 45) (by decide) ?_
    exact (hK45 1 h)
  refine r_aload_n (pc := 0) O d_S_exit_0 0 rfl ?_
  refine r_getR (pc := 1) O gf_c_S_20_0 d_S_exit_1 ?_
  refine r_iload_n (pc := 4) O d_S_exit_4 1 rfl ?_
  refine r_callVip (pc := 5) O [.int p1] rfl rfl (R_W_hasRoom n p1 h) cw_S_exit_5 wm_410 wm_411 rfl (Nat.le_of_ble_eq_true rfl) d_S_exit_5 rfl (fun v5 => ?_)
  refine r_if_eq (tgt := 44) (pc := 8) O d_S_exit_8 (by decide) (fun q8 => ?_) (fun q8 => ?_)
  · exact (hK44 h)
  · refine r_aload_n (pc := 11) O d_S_exit_11 0 rfl ?_
    refine r_getR (pc := 12) O gf_c_S_20_0 d_S_exit_12 ?_
    refine r_iload_n (pc := 15) O d_S_exit_15 3 rfl ?_
    refine r_callVip (pc := 16) O [.int p3] rfl rfl (R_W_hasRoom n p3 h) cw_S_exit_16 wm_410 wm_411 rfl (Nat.le_of_ble_eq_true rfl) d_S_exit_16 rfl (fun v16 => ?_)
    refine r_if_eq (tgt := 44) (pc := 19) O d_S_exit_19 (by decide) (fun q19 => ?_) (fun q19 => ?_)
    · exact (hK44 h)
    · refine r_iload (pc := 22) O d_S_exit_22 4 rfl ?_
      refine r_iconst (pc := 24) O d_S_exit_24 ic_m1 ?_
      refine r_icmp_eq (tgt := 40) (pc := 25) O d_S_exit_25 (by decide) (fun q25 => ?_) (fun q25 => ?_)
      · exact (hK40 h)
      · refine r_aload_n (pc := 28) O d_S_exit_28 0 rfl ?_
        refine r_getR (pc := 29) O gf_c_S_20_0 d_S_exit_29 ?_
        refine r_iload (pc := 32) O d_S_exit_32 4 rfl ?_
        refine r_callVip (pc := 34) O [.int p4] rfl rfl (R_W_hasThing n p4 h) cw_S_exit_34 wm_415 wm_416 rfl (Nat.le_of_ble_eq_true rfl) d_S_exit_34 rfl (fun v34 => ?_)
        refine r_if_eq (tgt := 44) (pc := 37) O d_S_exit_37 (by decide) (fun q37 => ?_) (fun q37 => ?_)
        · exact (hK44 h)
        · exact (hK40 h)
def K_S_thing_35 (n : Nat) (p1 : Int32) (p2 : Int32) (t0 : Int32) (h : sHp) : Option (Except Nat Int32 × sHp) :=
  if t0 = 0 then some (.error 2, h) else ((J_W_addThing n p1 p2 h).bind fun v44 =>
  (J_S_startAnew n v44.2).bind fun v49 =>
  some (.ok v44.1, v49))
def J_S_thing (n : Nat) (p1 : Int32) (p2 : Int32) (h : sHp) : Option (Except Nat Int32 × sHp) :=
  (J_W_hasPlace n p1 h).bind fun v5 =>
  if v5 = 0 then some (.error 0, h) else ((J_S_isThingKind n p2 h).bind fun v12 =>
  if v12 = 0 then some (.error 1, h) else (if 6 ≤ (h.1 2 13) then (K_S_thing_35 n p1 p2 0 h) else (K_S_thing_35 n p1 p2 1 h)))
set_option maxRecDepth 20000 in
set_option maxHeartbeats 4000000 in
theorem R_S_thing (n : Nat) (p1 : Int32) (p2 : Int32) (h : sHp) : sMf Zc oI y_S_thing prog_1_method_5_code 4 (some .int) rm_S_thing [.ref 0, .int p1, .int p2] h (J_S_thing n p1 p2 h) := by
  refine sMf_of (own := "StoryStates") rfl (by decide) (Nat.le_of_ble_eq_true rfl) (fun M V O T => ?_)
  unfold J_S_thing
  refine r_lv (lv' := [(0, .ref 0), (1, .int p1), (2, .int p2)]) [0, 1, 2] rfl ?_
  have hK35 : ∀ (t0 : Int32) (h : sHp), sS Zc M V (sEf oI) 35 [(0, .ref 0), (1, .int p1), (2, .int p2)] [.int t0] h (K_S_thing_35 n p1 p2 t0 h) := by
    intro t0 h
    unfold K_S_thing_35
    refine r_mustv (pc := 35) O T d_S_thing_35 (R_S_mustBeAble t0 h) cf_S_thing_35 wm_327 (Nat.le_of_ble_eq_true rfl) (fun q35 => ?_)
    refine r_aload_n (pc := 38) O d_S_thing_38 0 rfl ?_
    refine r_getR (pc := 39) O gf_c_S_20_0 d_S_thing_39 ?_
    refine r_iload_n (pc := 42) O d_S_thing_42 1 rfl ?_
    refine r_iload_n (pc := 43) O d_S_thing_43 2 rfl ?_
    refine r_callVi (pc := 44) O [.int p1, .int p2] rfl rfl (R_W_addThing n p1 p2 h) cw_S_thing_44 wm_471 wm_472 rfl (Nat.le_of_ble_eq_true rfl) d_S_thing_44 rfl (fun v44 => ?_)
    refine r_istore_n (lv' := [(3, .int v44.1), (0, .ref 0), (1, .int p1), (2, .int p2)]) (pc := 47) O d_S_thing_47 rfl (by decide) rfl ?_
    refine r_aload_n (pc := 48) O d_S_thing_48 1 rfl ?_
    refine r_callVv (pc := 49) O [] rfl rfl (R_S_startAnew n  v44.2) cw_S_thing_49 wm_277 ws_S_startAnew rfl (Nat.le_of_ble_eq_true rfl) d_S_thing_49 rfl (fun v49 => ?_)
    refine r_iload_n (pc := 52) O d_S_thing_52 0 rfl ?_
    exact r_iret (pc := 53) O rfl d_S_thing_53
  refine r_aload_n (pc := 0) O d_S_thing_0 0 rfl ?_
  refine r_getR (pc := 1) O gf_c_S_20_0 d_S_thing_1 ?_
  refine r_iload_n (pc := 4) O d_S_thing_4 1 rfl ?_
  refine r_callVip (pc := 5) O [.int p1] rfl rfl (R_W_hasPlace n p1 h) cw_S_thing_5 wm_463 wm_464 rfl (Nat.le_of_ble_eq_true rfl) d_S_thing_5 rfl (fun v5 => ?_)
  refine r_mustv (pc := 8) O T d_S_thing_8 (R_S_mustBeThere v5 h) cf_S_thing_8 wm_419 (Nat.le_of_ble_eq_true rfl) (fun q8 => ?_)
  refine r_iload_n (pc := 11) O d_S_thing_11 2 rfl ?_
  refine r_callSip (pc := 12) O [.int p2] (R_S_isThingKind n p2 h) cw_S_thing_12 wm_468 rfl (Nat.le_of_ble_eq_true rfl) d_S_thing_12 rfl (fun v12 => ?_)
  refine r_mustv (pc := 15) O T d_S_thing_15 (R_S_mustFit v12 h) cf_S_thing_15 wm_437 (Nat.le_of_ble_eq_true rfl) (fun q15 => ?_)
  refine r_aload_n (pc := 18) O d_S_thing_18 0 rfl ?_
  refine r_getR (pc := 19) O gf_c_S_20_0 d_S_thing_19 ?_
  refine r_getI (x := (h.1 2 13)) (pc := 22) O gf_c_S_89_2 d_S_thing_22 rfl ?_
  refine r_bipush (pc := 25) O d_S_thing_25 bc_6 ?_
  refine r_icmp_ge (tgt := 34) (pc := 27) O d_S_thing_27 (by decide) (fun q27 => ?_) (fun q27 => ?_)
  · refine r_iconst (pc := 34) O d_S_thing_34 ic_0 ?_
    exact (hK35 0 h)
  · refine r_iconst (pc := 30) O d_S_thing_30 ic_1 ?_
    refine r_goto (pc := 31) O d_S_thing_31 (tgt := 35) (by decide) ?_
    exact (hK35 1 h)
def K_S_number_43 (n : Nat) (p1 : Int32) (p2 : Int32) (t0 : Int32) (h : sHp) : Option (Except Nat Int32 × sHp) :=
  if t0 = 0 then some (.error 2, h) else ((J_W_addNumber n p1 p2 h).bind fun v52 =>
  (J_S_startAnew n v52.2).bind fun v57 =>
  some (.ok v52.1, v57))
def K_S_number_24 (n : Nat) (p1 : Int32) (p2 : Int32) (t0 : Int32) (h : sHp) : Option (Except Nat Int32 × sHp) :=
  if t0 = 0 then some (.error 1, h) else (if 3 ≤ (h.1 2 14) then (K_S_number_43 n p1 p2 0 h) else (K_S_number_43 n p1 p2 1 h))
def K_S_number_23 (n : Nat) (p1 : Int32) (p2 : Int32) (h : sHp) : Option (Except Nat Int32 × sHp) :=
  K_S_number_24 n p1 p2 0 h
def J_S_number (n : Nat) (p1 : Int32) (p2 : Int32) (h : sHp) : Option (Except Nat Int32 × sHp) :=
  (J_S_isFrom n p2 1 7 h).bind fun v4 =>
  if v4 = 0 then (K_S_number_23 n p1 p2 h) else ((J_S_isFrom n p1 0 p2 h).bind fun v13 =>
  if v13 = 0 then (K_S_number_23 n p1 p2 h) else (K_S_number_24 n p1 p2 1 h))
set_option maxRecDepth 20000 in
set_option maxHeartbeats 4000000 in
theorem R_S_number (n : Nat) (p1 : Int32) (p2 : Int32) (h : sHp) : sMf Zc oI y_S_number prog_1_method_6_code 4 (some .int) rm_S_number [.ref 0, .int p1, .int p2] h (J_S_number n p1 p2 h) := by
  refine sMf_of (own := "StoryStates") rfl (by decide) (Nat.le_of_ble_eq_true rfl) (fun M V O T => ?_)
  unfold J_S_number
  refine r_lv (lv' := [(0, .ref 0), (1, .int p1), (2, .int p2)]) [0, 1, 2] rfl ?_
  have hK43 : ∀ (t0 : Int32) (h : sHp), sS Zc M V (sEf oI) 43 [(0, .ref 0), (1, .int p1), (2, .int p2)] [.int t0] h (K_S_number_43 n p1 p2 t0 h) := by
    intro t0 h
    unfold K_S_number_43
    refine r_mustv (pc := 43) O T d_S_number_43 (R_S_mustBeAble t0 h) cf_S_number_43 wm_327 (Nat.le_of_ble_eq_true rfl) (fun q43 => ?_)
    refine r_aload_n (pc := 46) O d_S_number_46 0 rfl ?_
    refine r_getR (pc := 47) O gf_c_S_20_0 d_S_number_47 ?_
    refine r_iload_n (pc := 50) O d_S_number_50 1 rfl ?_
    refine r_iload_n (pc := 51) O d_S_number_51 2 rfl ?_
    refine r_callVi (pc := 52) O [.int p1, .int p2] rfl rfl (R_W_addNumber n p1 p2 h) cw_S_number_52 wm_482 wm_483 rfl (Nat.le_of_ble_eq_true rfl) d_S_number_52 rfl (fun v52 => ?_)
    refine r_istore_n (lv' := [(3, .int v52.1), (0, .ref 0), (1, .int p1), (2, .int p2)]) (pc := 55) O d_S_number_55 rfl (by decide) rfl ?_
    refine r_aload_n (pc := 56) O d_S_number_56 1 rfl ?_
    refine r_callVv (pc := 57) O [] rfl rfl (R_S_startAnew n  v52.2) cw_S_number_57 wm_277 ws_S_startAnew rfl (Nat.le_of_ble_eq_true rfl) d_S_number_57 rfl (fun v57 => ?_)
    refine r_iload_n (pc := 60) O d_S_number_60 0 rfl ?_
    exact r_iret (pc := 61) O rfl d_S_number_61
  have hK24 : ∀ (t0 : Int32) (h : sHp), sS Zc M V (sEf oI) 24 [(0, .ref 0), (1, .int p1), (2, .int p2)] [.int t0] h (K_S_number_24 n p1 p2 t0 h) := by
    intro t0 h
    unfold K_S_number_24
    refine r_mustv (pc := 24) O T d_S_number_24 (R_S_mustFit t0 h) cf_S_number_24 wm_437 (Nat.le_of_ble_eq_true rfl) (fun q24 => ?_)
    refine r_aload_n (pc := 27) O d_S_number_27 0 rfl ?_
    refine r_getR (pc := 28) O gf_c_S_20_0 d_S_number_28 ?_
    refine r_getI (x := (h.1 2 14)) (pc := 31) O gf_c_S_96_2 d_S_number_31 rfl ?_
    refine r_iconst (pc := 34) O d_S_number_34 ic_3 ?_
    refine r_icmp_ge (tgt := 42) (pc := 35) O d_S_number_35 (by decide) (fun q35 => ?_) (fun q35 => ?_)
    · refine r_iconst (pc := 42) O d_S_number_42 ic_0 ?_
      exact (hK43 0 h)
    · refine r_iconst (pc := 38) O d_S_number_38 ic_1 ?_
      refine r_goto (pc := 39) O d_S_number_39 (tgt := 43) (by decide) ?_
      exact (hK43 1 h)
  have hK23 : ∀ (h : sHp), sS Zc M V (sEf oI) 23 [(0, .ref 0), (1, .int p1), (2, .int p2)] [] h (K_S_number_23 n p1 p2 h) := by
    intro h
    unfold K_S_number_23
    refine r_iconst (pc := 23) O d_S_number_23 ic_0 ?_
    exact (hK24 0 h)
  refine r_iload_n (pc := 0) O d_S_number_0 2 rfl ?_
  refine r_iconst (pc := 1) O d_S_number_1 ic_1 ?_
  refine r_bipush (pc := 2) O d_S_number_2 bc_7 ?_
  refine r_callSip (pc := 4) O [.int p2, .int 1, .int 7] (R_S_isFrom n p2 1 7 h) cw_S_number_4 wm_312 rfl (Nat.le_of_ble_eq_true rfl) d_S_number_4 rfl (fun v4 => ?_)
  refine r_if_eq (tgt := 23) (pc := 7) O d_S_number_7 (by decide) (fun q7 => ?_) (fun q7 => ?_)
  · exact (hK23 h)
  · refine r_iload_n (pc := 10) O d_S_number_10 1 rfl ?_
    refine r_iconst (pc := 11) O d_S_number_11 ic_0 ?_
    refine r_iload_n (pc := 12) O d_S_number_12 2 rfl ?_
    refine r_callSip (pc := 13) O [.int p1, .int 0, .int p2] (R_S_isFrom n p1 0 p2 h) cw_S_number_13 wm_312 rfl (Nat.le_of_ble_eq_true rfl) d_S_number_13 rfl (fun v13 => ?_)
    refine r_if_eq (tgt := 23) (pc := 16) O d_S_number_16 (by decide) (fun q16 => ?_) (fun q16 => ?_)
    · exact (hK23 h)
    · refine r_iconst (pc := 19) O d_S_number_19 ic_1 ?_
      refine r_goto (pc := 20) O d_S_number_20 (tgt := 24) (by decide) ?_
      exact (hK24 1 h)
def K_S_ending_16 (n : Nat) (p1 : Int32) (t0 : Int32) (h : sHp) : Option (Except Nat Int32 × sHp) :=
  if t0 = 0 then some (.error 2, h) else ((J_W_addEnding n p1 h).bind fun v24 =>
  (J_S_startAnew n v24.2).bind fun v29 =>
  some (.ok v24.1, v29))
def J_S_ending (n : Nat) (p1 : Int32) (h : sHp) : Option (Except Nat Int32 × sHp) :=
  if 4 ≤ (h.1 2 15) then (K_S_ending_16 n p1 0 h) else (K_S_ending_16 n p1 1 h)
set_option maxRecDepth 20000 in
set_option maxHeartbeats 4000000 in
theorem R_S_ending (n : Nat) (p1 : Int32) (h : sHp) : sMf Zc oI y_S_ending prog_1_method_7_code 3 (some .int) rm_S_ending [.ref 0, .int p1] h (J_S_ending n p1 h) := by
  refine sMf_of (own := "StoryStates") rfl (by decide) (Nat.le_of_ble_eq_true rfl) (fun M V O T => ?_)
  unfold J_S_ending
  refine r_lv (lv' := [(0, .ref 0), (1, .int p1)]) [0, 1] rfl ?_
  have hK16 : ∀ (t0 : Int32) (h : sHp), sS Zc M V (sEf oI) 16 [(0, .ref 0), (1, .int p1)] [.int t0] h (K_S_ending_16 n p1 t0 h) := by
    intro t0 h
    unfold K_S_ending_16
    refine r_mustv (pc := 16) O T d_S_ending_16 (R_S_mustBeAble t0 h) cf_S_ending_16 wm_327 (Nat.le_of_ble_eq_true rfl) (fun q16 => ?_)
    refine r_aload_n (pc := 19) O d_S_ending_19 0 rfl ?_
    refine r_getR (pc := 20) O gf_c_S_20_0 d_S_ending_20 ?_
    refine r_iload_n (pc := 23) O d_S_ending_23 1 rfl ?_
    refine r_callVi (pc := 24) O [.int p1] rfl rfl (R_W_addEnding n p1 h) cw_S_ending_24 wm_493 wm_494 rfl (Nat.le_of_ble_eq_true rfl) d_S_ending_24 rfl (fun v24 => ?_)
    refine r_istore_n (lv' := [(2, .int v24.1), (0, .ref 0), (1, .int p1)]) (pc := 27) O d_S_ending_27 rfl (by decide) rfl ?_
    refine r_aload_n (pc := 28) O d_S_ending_28 1 rfl ?_
    refine r_callVv (pc := 29) O [] rfl rfl (R_S_startAnew n  v24.2) cw_S_ending_29 wm_277 ws_S_startAnew rfl (Nat.le_of_ble_eq_true rfl) d_S_ending_29 rfl (fun v29 => ?_)
    refine r_iload_n (pc := 32) O d_S_ending_32 0 rfl ?_
    exact r_iret (pc := 33) O rfl d_S_ending_33
  refine r_aload_n (pc := 0) O d_S_ending_0 0 rfl ?_
  refine r_getR (pc := 1) O gf_c_S_20_0 d_S_ending_1 ?_
  refine r_getI (x := (h.1 2 15)) (pc := 4) O gf_c_S_102_2 d_S_ending_4 rfl ?_
  refine r_iconst (pc := 7) O d_S_ending_7 ic_4 ?_
  refine r_icmp_ge (tgt := 15) (pc := 8) O d_S_ending_8 (by decide) (fun q8 => ?_) (fun q8 => ?_)
  · refine r_iconst (pc := 15) O d_S_ending_15 ic_0 ?_
    exact (hK16 0 h)
  · refine r_iconst (pc := 11) O d_S_ending_11 ic_1 ?_
    refine r_goto (pc := 12) O d_S_ending_12 (tgt := 16) (by decide) ?_
    exact (hK16 1 h)
def K_S_rule_77 (n : Nat) (p1 : Int32) (p2 : Int32) (p3 : Int32) (p4 : Int32) (t0 : Int32) (h : sHp) : Option (Except Nat Int32 × sHp) :=
  if t0 = 0 then some (.error 2, h) else ((J_R_append n p1 p2 p3 p4 h).bind fun v92 =>
  (J_S_startAnew n v92.2).bind fun v98 =>
  some (.ok v92.1, v98))
def K_S_rule_54 (n : Nat) (p1 : Int32) (p2 : Int32) (p3 : Int32) (p4 : Int32) (t0 : Int32) (h : sHp) : Option (Except Nat Int32 × sHp) :=
  if t0 = 0 then some (.error 1, h) else (if 12 ≤ (h.1 3 7) then (K_S_rule_77 n p1 p2 p3 p4 0 h) else (K_S_rule_77 n p1 p2 p3 p4 1 h))
def K_S_rule_53 (n : Nat) (p1 : Int32) (p2 : Int32) (p3 : Int32) (p4 : Int32) (h : sHp) : Option (Except Nat Int32 × sHp) :=
  K_S_rule_54 n p1 p2 p3 p4 0 h
def K_S_rule_26 (n : Nat) (p1 : Int32) (p2 : Int32) (p3 : Int32) (p4 : Int32) (t0 : Int32) (h : sHp) : Option (Except Nat Int32 × sHp) :=
  if t0 = 0 then some (.error 1, h) else ((J_S_isFrom n p2 (-2) 5 h).bind fun v33 =>
  if v33 = 0 then (K_S_rule_53 n p1 p2 p3 p4 h) else ((J_S_isFrom n p3 (-2) 5 h).bind fun v43 =>
  if v43 = 0 then (K_S_rule_53 n p1 p2 p3 p4 h) else (K_S_rule_54 n p1 p2 p3 p4 1 h)))
def K_S_rule_25 (n : Nat) (p1 : Int32) (p2 : Int32) (p3 : Int32) (p4 : Int32) (h : sHp) : Option (Except Nat Int32 × sHp) :=
  K_S_rule_26 n p1 p2 p3 p4 0 h
def J_S_rule (n : Nat) (p1 : Int32) (p2 : Int32) (p3 : Int32) (p4 : Int32) (h : sHp) : Option (Except Nat Int32 × sHp) :=
  (J_S_isFrom n p1 0 8 h).bind fun v4 =>
  if v4 = 0 then (K_S_rule_25 n p1 p2 p3 p4 h) else ((J_S_isFrom n p4 0 98 h).bind fun v15 =>
  if v15 = 0 then (K_S_rule_25 n p1 p2 p3 p4 h) else (K_S_rule_26 n p1 p2 p3 p4 1 h))
set_option maxRecDepth 20000 in
set_option maxHeartbeats 4000000 in
theorem R_S_rule (n : Nat) (p1 : Int32) (p2 : Int32) (p3 : Int32) (p4 : Int32) (h : sHp) : sMf Zc oI y_S_rule prog_1_method_8_code 6 (some .int) rm_S_rule [.ref 0, .int p1, .int p2, .int p3, .int p4] h (J_S_rule n p1 p2 p3 p4 h) := by
  refine sMf_of (own := "StoryStates") rfl (by decide) (Nat.le_of_ble_eq_true rfl) (fun M V O T => ?_)
  unfold J_S_rule
  refine r_lv (lv' := [(0, .ref 0), (1, .int p1), (2, .int p2), (3, .int p3), (4, .int p4)]) [0, 1, 2, 3, 4] rfl ?_
  have hK77 : ∀ (t0 : Int32) (h : sHp), sS Zc M V (sEf oI) 77 [(0, .ref 0), (1, .int p1), (2, .int p2), (3, .int p3), (4, .int p4)] [.int t0] h (K_S_rule_77 n p1 p2 p3 p4 t0 h) := by
    intro t0 h
    unfold K_S_rule_77
    refine r_mustv (pc := 77) O T d_S_rule_77 (R_S_mustBeAble t0 h) cf_S_rule_77 wm_327 (Nat.le_of_ble_eq_true rfl) (fun q77 => ?_)
    refine r_aload_n (pc := 80) O d_S_rule_80 0 rfl ?_
    refine r_getR (pc := 81) O gf_c_S_20_0 d_S_rule_81 ?_
    refine r_getR (pc := 84) O gf_c_S_109_2 d_S_rule_84 ?_
    refine r_iload_n (pc := 87) O d_S_rule_87 1 rfl ?_
    refine r_iload_n (pc := 88) O d_S_rule_88 2 rfl ?_
    refine r_iload_n (pc := 89) O d_S_rule_89 3 rfl ?_
    refine r_iload (pc := 90) O d_S_rule_90 4 rfl ?_
    refine r_callVi (pc := 92) O [.int p1, .int p2, .int p3, .int p4] rfl rfl (R_R_append n p1 p2 p3 p4 h) cw_S_rule_92 wm_504 wm_505 rfl (Nat.le_of_ble_eq_true rfl) d_S_rule_92 rfl (fun v92 => ?_)
    refine r_istore (lv' := [(5, .int v92.1), (0, .ref 0), (1, .int p1), (2, .int p2), (3, .int p3), (4, .int p4)]) (pc := 95) O d_S_rule_95 (by decide) rfl ?_
    refine r_aload_n (pc := 97) O d_S_rule_97 1 rfl ?_
    refine r_callVv (pc := 98) O [] rfl rfl (R_S_startAnew n  v92.2) cw_S_rule_98 wm_277 ws_S_startAnew rfl (Nat.le_of_ble_eq_true rfl) d_S_rule_98 rfl (fun v98 => ?_)
    refine r_iload (pc := 101) O d_S_rule_101 0 rfl ?_
    exact r_iret (pc := 103) O rfl d_S_rule_103
  have hK54 : ∀ (t0 : Int32) (h : sHp), sS Zc M V (sEf oI) 54 [(0, .ref 0), (1, .int p1), (2, .int p2), (3, .int p3), (4, .int p4)] [.int t0] h (K_S_rule_54 n p1 p2 p3 p4 t0 h) := by
    intro t0 h
    unfold K_S_rule_54
    refine r_mustv (pc := 54) O T d_S_rule_54 (R_S_mustFit t0 h) cf_S_rule_54 wm_437 (Nat.le_of_ble_eq_true rfl) (fun q54 => ?_)
    refine r_aload_n (pc := 57) O d_S_rule_57 0 rfl ?_
    refine r_getR (pc := 58) O gf_c_S_20_0 d_S_rule_58 ?_
    refine r_getR (pc := 61) O gf_c_S_109_2 d_S_rule_61 ?_
    refine r_getI (x := (h.1 3 7)) (pc := 64) O gf_c_S_113_3 d_S_rule_64 rfl ?_
    refine r_bipush (pc := 67) O d_S_rule_67 bc_12 ?_
    refine r_icmp_ge (tgt := 76) (pc := 69) O d_S_rule_69 (by decide) (fun q69 => ?_) (fun q69 => ?_)
    · refine r_iconst (pc := 76) O d_S_rule_76 ic_0 ?_
      exact (hK77 0 h)
    · refine r_iconst (pc := 72) O d_S_rule_72 ic_1 ?_
      refine r_goto (pc := 73) O d_S_rule_73 (tgt := 77) (by decide) ?_
      exact (hK77 1 h)
  have hK53 : ∀ (h : sHp), sS Zc M V (sEf oI) 53 [(0, .ref 0), (1, .int p1), (2, .int p2), (3, .int p3), (4, .int p4)] [] h (K_S_rule_53 n p1 p2 p3 p4 h) := by
    intro h
    unfold K_S_rule_53
    refine r_iconst (pc := 53) O d_S_rule_53 ic_0 ?_
    exact (hK54 0 h)
  have hK26 : ∀ (t0 : Int32) (h : sHp), sS Zc M V (sEf oI) 26 [(0, .ref 0), (1, .int p1), (2, .int p2), (3, .int p3), (4, .int p4)] [.int t0] h (K_S_rule_26 n p1 p2 p3 p4 t0 h) := by
    intro t0 h
    unfold K_S_rule_26
    refine r_mustv (pc := 26) O T d_S_rule_26 (R_S_mustFit t0 h) cf_S_rule_26 wm_437 (Nat.le_of_ble_eq_true rfl) (fun q26 => ?_)
    refine r_iload_n (pc := 29) O d_S_rule_29 2 rfl ?_
    refine r_bipush (pc := 30) O d_S_rule_30 bc_m2 ?_
    refine r_iconst (pc := 32) O d_S_rule_32 ic_5 ?_
    refine r_callSip (pc := 33) O [.int p2, .int (-2), .int 5] (R_S_isFrom n p2 (-2) 5 h) cw_S_rule_33 wm_312 rfl (Nat.le_of_ble_eq_true rfl) d_S_rule_33 rfl (fun v33 => ?_)
    refine r_if_eq (tgt := 53) (pc := 36) O d_S_rule_36 (by decide) (fun q36 => ?_) (fun q36 => ?_)
    · exact (hK53 h)
    · refine r_iload_n (pc := 39) O d_S_rule_39 3 rfl ?_
      refine r_bipush (pc := 40) O d_S_rule_40 bc_m2 ?_
      refine r_iconst (pc := 42) O d_S_rule_42 ic_5 ?_
      refine r_callSip (pc := 43) O [.int p3, .int (-2), .int 5] (R_S_isFrom n p3 (-2) 5 h) cw_S_rule_43 wm_312 rfl (Nat.le_of_ble_eq_true rfl) d_S_rule_43 rfl (fun v43 => ?_)
      refine r_if_eq (tgt := 53) (pc := 46) O d_S_rule_46 (by decide) (fun q46 => ?_) (fun q46 => ?_)
      · exact (hK53 h)
      · refine r_iconst (pc := 49) O d_S_rule_49 ic_1 ?_
        refine r_goto (pc := 50) O d_S_rule_50 (tgt := 54) (by decide) ?_
        exact (hK54 1 h)
  have hK25 : ∀ (h : sHp), sS Zc M V (sEf oI) 25 [(0, .ref 0), (1, .int p1), (2, .int p2), (3, .int p3), (4, .int p4)] [] h (K_S_rule_25 n p1 p2 p3 p4 h) := by
    intro h
    unfold K_S_rule_25
    refine r_iconst (pc := 25) O d_S_rule_25 ic_0 ?_
    exact (hK26 0 h)
  refine r_iload_n (pc := 0) O d_S_rule_0 1 rfl ?_
  refine r_iconst (pc := 1) O d_S_rule_1 ic_0 ?_
  refine r_bipush (pc := 2) O d_S_rule_2 bc_8 ?_
  refine r_callSip (pc := 4) O [.int p1, .int 0, .int 8] (R_S_isFrom n p1 0 8 h) cw_S_rule_4 wm_312 rfl (Nat.le_of_ble_eq_true rfl) d_S_rule_4 rfl (fun v4 => ?_)
  refine r_if_eq (tgt := 25) (pc := 7) O d_S_rule_7 (by decide) (fun q7 => ?_) (fun q7 => ?_)
  · exact (hK25 h)
  · refine r_iload (pc := 10) O d_S_rule_10 4 rfl ?_
    refine r_iconst (pc := 12) O d_S_rule_12 ic_0 ?_
    refine r_bipush (pc := 13) O d_S_rule_13 bc_98 ?_
    refine r_callSip (pc := 15) O [.int p4, .int 0, .int 98] (R_S_isFrom n p4 0 98 h) cw_S_rule_15 wm_312 rfl (Nat.le_of_ble_eq_true rfl) d_S_rule_15 rfl (fun v15 => ?_)
    refine r_if_eq (tgt := 25) (pc := 18) O d_S_rule_18 (by decide) (fun q18 => ?_) (fun q18 => ?_)
    · exact (hK25 h)
    · refine r_iconst (pc := 21) O d_S_rule_21 ic_1 ?_
      refine r_goto (pc := 22) O d_S_rule_22 (tgt := 26) (by decide) ?_
      exact (hK26 1 h)
def K_S_condition_54 (n : Nat) (p1 : Int32) (p2 : Int32) (p3 : Int32) (p4 : Int32) (t0 : Int32) (h : sHp) : Option (Except Nat Unit × sHp) :=
  if t0 = 0 then some (.error 0, h) else ((J_S_isConditionLevel n p2 p4 h).bind fun v60 =>
  if v60 = 0 then some (.error 1, h) else ((J_C_hasSpace n p1 h).bind fun v77 =>
  if v77 = 0 then some (.error 2, h) else ((J_C_append n p1 p2 p3 p4 h).bind fun v98 =>
  (J_S_startAnew n v98).bind fun v102 =>
  some (.ok (), v102))))
def K_S_condition_49 (n : Nat) (p1 : Int32) (p2 : Int32) (p3 : Int32) (p4 : Int32) (h : sHp) : Option (Except Nat Unit × sHp) :=
  K_S_condition_54 n p1 p2 p3 p4 1 h
def J_S_condition (n : Nat) (p1 : Int32) (p2 : Int32) (p3 : Int32) (p4 : Int32) (h : sHp) : Option (Except Nat Unit × sHp) :=
  (J_W_hasRule n p1 h).bind fun v5 =>
  if v5 = 0 then some (.error 0, h) else ((J_S_isFrom n p2 0 4 h).bind fun v14 =>
  if v14 = 0 then some (.error 1, h) else ((J_W_hasSubject n p2 p3 h).bind fun v26 =>
  if v26 = 0 then some (.error 0, h) else (if p2 = 1 then ((J_W_hasPlace n p4 h).bind fun v43 =>
  if v43 = 0 then (K_S_condition_54 n p1 p2 p3 p4 0 h) else (K_S_condition_49 n p1 p2 p3 p4 h)) else (K_S_condition_49 n p1 p2 p3 p4 h))))
set_option maxRecDepth 20000 in
set_option maxHeartbeats 4000000 in
theorem R_S_condition (n : Nat) (p1 : Int32) (p2 : Int32) (p3 : Int32) (p4 : Int32) (h : sHp) : sMf Zc oV y_S_condition prog_1_method_9_code 5 none rm_S_condition [.ref 0, .int p1, .int p2, .int p3, .int p4] h (J_S_condition n p1 p2 p3 p4 h) := by
  refine sMf_of (own := "StoryStates") rfl (by decide) (Nat.le_of_ble_eq_true rfl) (fun M V O T => ?_)
  unfold J_S_condition
  refine r_lv (lv' := [(0, .ref 0), (1, .int p1), (2, .int p2), (3, .int p3), (4, .int p4)]) [0, 1, 2, 3, 4] rfl ?_
  have hK54 : ∀ (t0 : Int32) (h : sHp), sS Zc M V (sEf oV) 54 [(0, .ref 0), (1, .int p1), (2, .int p2), (3, .int p3), (4, .int p4)] [.int t0] h (K_S_condition_54 n p1 p2 p3 p4 t0 h) := by
    intro t0 h
    unfold K_S_condition_54
    refine r_mustv (pc := 54) O T d_S_condition_54 (R_S_mustBeThere t0 h) cf_S_condition_54 wm_419 (Nat.le_of_ble_eq_true rfl) (fun q54 => ?_)
    refine r_iload_n (pc := 57) O d_S_condition_57 2 rfl ?_
    refine r_iload (pc := 58) O d_S_condition_58 4 rfl ?_
    refine r_callSip (pc := 60) O [.int p2, .int p4] (R_S_isConditionLevel n p2 p4 h) cw_S_condition_60 wm_528 rfl (Nat.le_of_ble_eq_true rfl) d_S_condition_60 rfl (fun v60 => ?_)
    refine r_mustv (pc := 63) O T d_S_condition_63 (R_S_mustFit v60 h) cf_S_condition_63 wm_437 (Nat.le_of_ble_eq_true rfl) (fun q63 => ?_)
    refine r_aload_n (pc := 66) O d_S_condition_66 0 rfl ?_
    refine r_getR (pc := 67) O gf_c_S_20_0 d_S_condition_67 ?_
    refine r_getR (pc := 70) O gf_c_S_109_2 d_S_condition_70 ?_
    refine r_getR (pc := 73) O gf_c_S_132_3 d_S_condition_73 ?_
    refine r_iload_n (pc := 76) O d_S_condition_76 1 rfl ?_
    refine r_callVip (pc := 77) O [.int p1] rfl rfl (R_C_hasSpace n p1 h) cw_S_condition_77 wm_531 wm_532 rfl (Nat.le_of_ble_eq_true rfl) d_S_condition_77 rfl (fun v77 => ?_)
    refine r_mustv (pc := 80) O T d_S_condition_80 (R_S_mustBeAble v77 h) cf_S_condition_80 wm_327 (Nat.le_of_ble_eq_true rfl) (fun q80 => ?_)
    refine r_aload_n (pc := 83) O d_S_condition_83 0 rfl ?_
    refine r_getR (pc := 84) O gf_c_S_20_0 d_S_condition_84 ?_
    refine r_getR (pc := 87) O gf_c_S_109_2 d_S_condition_87 ?_
    refine r_getR (pc := 90) O gf_c_S_132_3 d_S_condition_90 ?_
    refine r_iload_n (pc := 93) O d_S_condition_93 1 rfl ?_
    refine r_iload_n (pc := 94) O d_S_condition_94 2 rfl ?_
    refine r_iload_n (pc := 95) O d_S_condition_95 3 rfl ?_
    refine r_iload (pc := 96) O d_S_condition_96 4 rfl ?_
    refine r_callVv (pc := 98) O [.int p1, .int p2, .int p3, .int p4] rfl rfl (R_C_append n p1 p2 p3 p4 h) cw_S_condition_98 wm_535 wm_536 rfl (Nat.le_of_ble_eq_true rfl) d_S_condition_98 rfl (fun v98 => ?_)
    refine r_aload_n (pc := 101) O d_S_condition_101 0 rfl ?_
    refine r_callVv (pc := 102) O [] rfl rfl (R_S_startAnew n  v98) cw_S_condition_102 wm_277 ws_S_startAnew rfl (Nat.le_of_ble_eq_true rfl) d_S_condition_102 rfl (fun v102 => ?_)
    exact r_vret (pc := 105) O rfl d_S_condition_105
  have hK49 : ∀ (h : sHp), sS Zc M V (sEf oV) 49 [(0, .ref 0), (1, .int p1), (2, .int p2), (3, .int p3), (4, .int p4)] [] h (K_S_condition_49 n p1 p2 p3 p4 h) := by
    intro h
    unfold K_S_condition_49
    refine r_iconst (pc := 49) O d_S_condition_49 ic_1 ?_
    refine r_goto (pc := 50) O d_S_condition_50 (tgt := 54) (by decide) ?_
    exact (hK54 1 h)
  refine r_aload_n (pc := 0) O d_S_condition_0 0 rfl ?_
  refine r_getR (pc := 1) O gf_c_S_20_0 d_S_condition_1 ?_
  refine r_iload_n (pc := 4) O d_S_condition_4 1 rfl ?_
  refine r_callVip (pc := 5) O [.int p1] rfl rfl (R_W_hasRule n p1 h) cw_S_condition_5 wm_515 wm_516 rfl (Nat.le_of_ble_eq_true rfl) d_S_condition_5 rfl (fun v5 => ?_)
  refine r_mustv (pc := 8) O T d_S_condition_8 (R_S_mustBeThere v5 h) cf_S_condition_8 wm_419 (Nat.le_of_ble_eq_true rfl) (fun q8 => ?_)
  refine r_iload_n (pc := 11) O d_S_condition_11 2 rfl ?_
  refine r_iconst (pc := 12) O d_S_condition_12 ic_0 ?_
  refine r_iconst (pc := 13) O d_S_condition_13 ic_4 ?_
  refine r_callSip (pc := 14) O [.int p2, .int 0, .int 4] (R_S_isFrom n p2 0 4 h) cw_S_condition_14 wm_312 rfl (Nat.le_of_ble_eq_true rfl) d_S_condition_14 rfl (fun v14 => ?_)
  refine r_mustv (pc := 17) O T d_S_condition_17 (R_S_mustFit v14 h) cf_S_condition_17 wm_437 (Nat.le_of_ble_eq_true rfl) (fun q17 => ?_)
  refine r_aload_n (pc := 20) O d_S_condition_20 0 rfl ?_
  refine r_getR (pc := 21) O gf_c_S_20_0 d_S_condition_21 ?_
  refine r_iload_n (pc := 24) O d_S_condition_24 2 rfl ?_
  refine r_iload_n (pc := 25) O d_S_condition_25 3 rfl ?_
  refine r_callVip (pc := 26) O [.int p2, .int p3] rfl rfl (R_W_hasSubject n p2 p3 h) cw_S_condition_26 wm_519 wm_520 rfl (Nat.le_of_ble_eq_true rfl) d_S_condition_26 rfl (fun v26 => ?_)
  refine r_mustv (pc := 29) O T d_S_condition_29 (R_S_mustBeThere v26 h) cf_S_condition_29 wm_419 (Nat.le_of_ble_eq_true rfl) (fun q29 => ?_)
  refine r_iload_n (pc := 32) O d_S_condition_32 2 rfl ?_
  refine r_iconst (pc := 33) O d_S_condition_33 ic_1 ?_
  refine r_icmp_ne (tgt := 49) (pc := 34) O d_S_condition_34 (by decide) (fun q34 => ?_) (fun q34 => ?_)
  · exact (hK49 h)
  · refine r_aload_n (pc := 37) O d_S_condition_37 0 rfl ?_
    refine r_getR (pc := 38) O gf_c_S_20_0 d_S_condition_38 ?_
    refine r_iload (pc := 41) O d_S_condition_41 4 rfl ?_
    refine r_callVip (pc := 43) O [.int p4] rfl rfl (R_W_hasPlace n p4 h) cw_S_condition_43 wm_463 wm_464 rfl (Nat.le_of_ble_eq_true rfl) d_S_condition_43 rfl (fun v43 => ?_)
    refine r_if_eq (tgt := 53) (pc := 46) O d_S_condition_46 (by decide) (fun q46 => ?_) (fun q46 => ?_)
    · refine r_iconst (pc := 53) O d_S_condition_53 ic_0 ?_
      exact (hK54 0 h)
    · exact (hK49 h)
def K_S_effect_70 (n : Nat) (p1 : Int32) (p2 : Int32) (p3 : Int32) (p4 : Int32) (t0 : Int32) (h : sHp) : Option (Except Nat Unit × sHp) :=
  if t0 = 0 then some (.error 0, h) else ((J_S_isEffectLevel n p2 p4 h).bind fun v76 =>
  if v76 = 0 then some (.error 1, h) else ((J_C_hasSpace_1 n p1 h).bind fun v93 =>
  if v93 = 0 then some (.error 2, h) else ((J_C_append_1 n p1 p2 p3 p4 h).bind fun v114 =>
  (J_S_startAnew n v114).bind fun v118 =>
  some (.ok (), v118))))
def K_S_effect_65 (n : Nat) (p1 : Int32) (p2 : Int32) (p3 : Int32) (p4 : Int32) (h : sHp) : Option (Except Nat Unit × sHp) :=
  K_S_effect_70 n p1 p2 p3 p4 1 h
def K_S_effect_45 (n : Nat) (p1 : Int32) (p2 : Int32) (p3 : Int32) (p4 : Int32) (t0 : Int32) (h : sHp) : Option (Except Nat Unit × sHp) :=
  if t0 = 0 then some (.error 0, h) else (if p2 = 1 then ((J_W_hasPlace n p4 h).bind fun v59 =>
  if v59 = 0 then (K_S_effect_70 n p1 p2 p3 p4 0 h) else (K_S_effect_65 n p1 p2 p3 p4 h)) else (K_S_effect_65 n p1 p2 p3 p4 h))
def J_S_effect (n : Nat) (p1 : Int32) (p2 : Int32) (p3 : Int32) (p4 : Int32) (h : sHp) : Option (Except Nat Unit × sHp) :=
  (J_W_hasRule n p1 h).bind fun v5 =>
  if v5 = 0 then some (.error 0, h) else ((J_S_isFrom n p2 0 4 h).bind fun v14 =>
  if v14 = 0 then some (.error 1, h) else (if p2 = 4 then ((J_W_hasEnding n p3 h).bind fun v30 =>
  K_S_effect_45 n p1 p2 p3 p4 v30 h) else ((J_W_hasSubject n p2 p3 h).bind fun v42 =>
  K_S_effect_45 n p1 p2 p3 p4 v42 h)))
set_option maxRecDepth 20000 in
set_option maxHeartbeats 4000000 in
theorem R_S_effect (n : Nat) (p1 : Int32) (p2 : Int32) (p3 : Int32) (p4 : Int32) (h : sHp) : sMf Zc oV y_S_effect prog_1_method_10_code 5 none rm_S_effect [.ref 0, .int p1, .int p2, .int p3, .int p4] h (J_S_effect n p1 p2 p3 p4 h) := by
  refine sMf_of (own := "StoryStates") rfl (by decide) (Nat.le_of_ble_eq_true rfl) (fun M V O T => ?_)
  unfold J_S_effect
  refine r_lv (lv' := [(0, .ref 0), (1, .int p1), (2, .int p2), (3, .int p3), (4, .int p4)]) [0, 1, 2, 3, 4] rfl ?_
  have hK70 : ∀ (t0 : Int32) (h : sHp), sS Zc M V (sEf oV) 70 [(0, .ref 0), (1, .int p1), (2, .int p2), (3, .int p3), (4, .int p4)] [.int t0] h (K_S_effect_70 n p1 p2 p3 p4 t0 h) := by
    intro t0 h
    unfold K_S_effect_70
    refine r_mustv (pc := 70) O T d_S_effect_70 (R_S_mustBeThere t0 h) cf_S_effect_70 wm_419 (Nat.le_of_ble_eq_true rfl) (fun q70 => ?_)
    refine r_iload_n (pc := 73) O d_S_effect_73 2 rfl ?_
    refine r_iload (pc := 74) O d_S_effect_74 4 rfl ?_
    refine r_callSip (pc := 76) O [.int p2, .int p4] (R_S_isEffectLevel n p2 p4 h) cw_S_effect_76 wm_554 rfl (Nat.le_of_ble_eq_true rfl) d_S_effect_76 rfl (fun v76 => ?_)
    refine r_mustv (pc := 79) O T d_S_effect_79 (R_S_mustFit v76 h) cf_S_effect_79 wm_437 (Nat.le_of_ble_eq_true rfl) (fun q79 => ?_)
    refine r_aload_n (pc := 82) O d_S_effect_82 0 rfl ?_
    refine r_getR (pc := 83) O gf_c_S_20_0 d_S_effect_83 ?_
    refine r_getR (pc := 86) O gf_c_S_109_2 d_S_effect_86 ?_
    refine r_getR (pc := 89) O gf_c_S_149_3 d_S_effect_89 ?_
    refine r_iload_n (pc := 92) O d_S_effect_92 1 rfl ?_
    refine r_callVip (pc := 93) O [.int p1] rfl rfl (R_C_hasSpace_1 n p1 h) cw_S_effect_93 wm_531 wm_532 rfl (Nat.le_of_ble_eq_true rfl) d_S_effect_93 rfl (fun v93 => ?_)
    refine r_mustv (pc := 96) O T d_S_effect_96 (R_S_mustBeAble v93 h) cf_S_effect_96 wm_327 (Nat.le_of_ble_eq_true rfl) (fun q96 => ?_)
    refine r_aload_n (pc := 99) O d_S_effect_99 0 rfl ?_
    refine r_getR (pc := 100) O gf_c_S_20_0 d_S_effect_100 ?_
    refine r_getR (pc := 103) O gf_c_S_109_2 d_S_effect_103 ?_
    refine r_getR (pc := 106) O gf_c_S_149_3 d_S_effect_106 ?_
    refine r_iload_n (pc := 109) O d_S_effect_109 1 rfl ?_
    refine r_iload_n (pc := 110) O d_S_effect_110 2 rfl ?_
    refine r_iload_n (pc := 111) O d_S_effect_111 3 rfl ?_
    refine r_iload (pc := 112) O d_S_effect_112 4 rfl ?_
    refine r_callVv (pc := 114) O [.int p1, .int p2, .int p3, .int p4] rfl rfl (R_C_append_1 n p1 p2 p3 p4 h) cw_S_effect_114 wm_535 wm_536 rfl (Nat.le_of_ble_eq_true rfl) d_S_effect_114 rfl (fun v114 => ?_)
    refine r_aload_n (pc := 117) O d_S_effect_117 0 rfl ?_
    refine r_callVv (pc := 118) O [] rfl rfl (R_S_startAnew n  v114) cw_S_effect_118 wm_277 ws_S_startAnew rfl (Nat.le_of_ble_eq_true rfl) d_S_effect_118 rfl (fun v118 => ?_)
    exact r_vret (pc := 121) O rfl d_S_effect_121
  have hK65 : ∀ (h : sHp), sS Zc M V (sEf oV) 65 [(0, .ref 0), (1, .int p1), (2, .int p2), (3, .int p3), (4, .int p4)] [] h (K_S_effect_65 n p1 p2 p3 p4 h) := by
    intro h
    unfold K_S_effect_65
    refine r_iconst (pc := 65) O d_S_effect_65 ic_1 ?_
    refine r_goto (pc := 66) O d_S_effect_66 (tgt := 70) (by decide) ?_
    exact (hK70 1 h)
  have hK45 : ∀ (t0 : Int32) (h : sHp), sS Zc M V (sEf oV) 45 [(0, .ref 0), (1, .int p1), (2, .int p2), (3, .int p3), (4, .int p4)] [.int t0] h (K_S_effect_45 n p1 p2 p3 p4 t0 h) := by
    intro t0 h
    unfold K_S_effect_45
    refine r_mustv (pc := 45) O T d_S_effect_45 (R_S_mustBeThere t0 h) cf_S_effect_45 wm_419 (Nat.le_of_ble_eq_true rfl) (fun q45 => ?_)
    refine r_iload_n (pc := 48) O d_S_effect_48 2 rfl ?_
    refine r_iconst (pc := 49) O d_S_effect_49 ic_1 ?_
    refine r_icmp_ne (tgt := 65) (pc := 50) O d_S_effect_50 (by decide) (fun q50 => ?_) (fun q50 => ?_)
    · exact (hK65 h)
    · refine r_aload_n (pc := 53) O d_S_effect_53 0 rfl ?_
      refine r_getR (pc := 54) O gf_c_S_20_0 d_S_effect_54 ?_
      refine r_iload (pc := 57) O d_S_effect_57 4 rfl ?_
      refine r_callVip (pc := 59) O [.int p4] rfl rfl (R_W_hasPlace n p4 h) cw_S_effect_59 wm_463 wm_464 rfl (Nat.le_of_ble_eq_true rfl) d_S_effect_59 rfl (fun v59 => ?_)
      refine r_if_eq (tgt := 69) (pc := 62) O d_S_effect_62 (by decide) (fun q62 => ?_) (fun q62 => ?_)
      · refine r_iconst (pc := 69) O d_S_effect_69 ic_0 ?_
        exact (hK70 0 h)
      · exact (hK65 h)
  refine r_aload_n (pc := 0) O d_S_effect_0 0 rfl ?_
  refine r_getR (pc := 1) O gf_c_S_20_0 d_S_effect_1 ?_
  refine r_iload_n (pc := 4) O d_S_effect_4 1 rfl ?_
  refine r_callVip (pc := 5) O [.int p1] rfl rfl (R_W_hasRule n p1 h) cw_S_effect_5 wm_515 wm_516 rfl (Nat.le_of_ble_eq_true rfl) d_S_effect_5 rfl (fun v5 => ?_)
  refine r_mustv (pc := 8) O T d_S_effect_8 (R_S_mustBeThere v5 h) cf_S_effect_8 wm_419 (Nat.le_of_ble_eq_true rfl) (fun q8 => ?_)
  refine r_iload_n (pc := 11) O d_S_effect_11 2 rfl ?_
  refine r_iconst (pc := 12) O d_S_effect_12 ic_0 ?_
  refine r_iconst (pc := 13) O d_S_effect_13 ic_4 ?_
  refine r_callSip (pc := 14) O [.int p2, .int 0, .int 4] (R_S_isFrom n p2 0 4 h) cw_S_effect_14 wm_312 rfl (Nat.le_of_ble_eq_true rfl) d_S_effect_14 rfl (fun v14 => ?_)
  refine r_mustv (pc := 17) O T d_S_effect_17 (R_S_mustFit v14 h) cf_S_effect_17 wm_437 (Nat.le_of_ble_eq_true rfl) (fun q17 => ?_)
  refine r_iload_n (pc := 20) O d_S_effect_20 2 rfl ?_
  refine r_iconst (pc := 21) O d_S_effect_21 ic_4 ?_
  refine r_icmp_ne (tgt := 36) (pc := 22) O d_S_effect_22 (by decide) (fun q22 => ?_) (fun q22 => ?_)
  · refine r_aload_n (pc := 36) O d_S_effect_36 0 rfl ?_
    refine r_getR (pc := 37) O gf_c_S_20_0 d_S_effect_37 ?_
    refine r_iload_n (pc := 40) O d_S_effect_40 2 rfl ?_
    refine r_iload_n (pc := 41) O d_S_effect_41 3 rfl ?_
    refine r_callVip (pc := 42) O [.int p2, .int p3] rfl rfl (R_W_hasSubject n p2 p3 h) cw_S_effect_42 wm_519 wm_520 rfl (Nat.le_of_ble_eq_true rfl) d_S_effect_42 rfl (fun v42 => ?_)
    exact (hK45 v42 h)
  · refine r_aload_n (pc := 25) O d_S_effect_25 0 rfl ?_
    refine r_getR (pc := 26) O gf_c_S_20_0 d_S_effect_26 ?_
    refine r_iload_n (pc := 29) O d_S_effect_29 3 rfl ?_
    refine r_callVip (pc := 30) O [.int p3] rfl rfl (R_W_hasEnding n p3 h) cw_S_effect_30 wm_550 wm_551 rfl (Nat.le_of_ble_eq_true rfl) d_S_effect_30 rfl (fun v30 => ?_)
    refine r_goto (pc := 33) O d_S_effect_33 (tgt := 45) (by decide) ?_
    exact (hK45 v30 h)
def K_S_walker_80 (n : Nat) (p1 : Int32) (p2 : Int32) (p3 : Int32) (p4 : Int32) (t0 : Int32) (h : sHp) : Option (Except Nat Unit × sHp) :=
  if t0 = 0 then some (.error 2, h) else ((J_W_addWalker n p1 p2 p3 p4 h).bind fun v92 =>
  (J_S_startAnew n v92).bind fun v96 =>
  some (.ok (), v96))
def K_S_walker_79 (n : Nat) (p1 : Int32) (p2 : Int32) (p3 : Int32) (p4 : Int32) (h : sHp) : Option (Except Nat Unit × sHp) :=
  K_S_walker_80 n p1 p2 p3 p4 0 h
def K_S_walker_50 (n : Nat) (p1 : Int32) (p2 : Int32) (p3 : Int32) (p4 : Int32) (t0 : Int32) (h : sHp) : Option (Except Nat Unit × sHp) :=
  if t0 = 0 then some (.error 0, h) else (if 2 ≤ (h.1 2 16) then (K_S_walker_79 n p1 p2 p3 p4 h) else ((J_W_isWalker n p1 h).bind fun v69 =>
  if v69 = 0 then (K_S_walker_80 n p1 p2 p3 p4 1 h) else (K_S_walker_79 n p1 p2 p3 p4 h)))
def K_S_walker_49 (n : Nat) (p1 : Int32) (p2 : Int32) (p3 : Int32) (p4 : Int32) (h : sHp) : Option (Except Nat Unit × sHp) :=
  K_S_walker_50 n p1 p2 p3 p4 0 h
def J_S_walker (n : Nat) (p1 : Int32) (p2 : Int32) (p3 : Int32) (p4 : Int32) (h : sHp) : Option (Except Nat Unit × sHp) :=
  (J_W_hasThing n p1 h).bind fun v5 =>
  if v5 = 0 then some (.error 0, h) else ((J_W_hasRoom n p2 h).bind fun v16 =>
  if v16 = 0 then (K_S_walker_49 n p1 p2 p3 p4 h) else ((J_W_hasRoom n p3 h).bind fun v27 =>
  if v27 = 0 then (K_S_walker_49 n p1 p2 p3 p4 h) else ((J_W_hasRoom n p4 h).bind fun v39 =>
  if v39 = 0 then (K_S_walker_49 n p1 p2 p3 p4 h) else (K_S_walker_50 n p1 p2 p3 p4 1 h))))
set_option maxRecDepth 20000 in
set_option maxHeartbeats 4000000 in
theorem R_S_walker (n : Nat) (p1 : Int32) (p2 : Int32) (p3 : Int32) (p4 : Int32) (h : sHp) : sMf Zc oV y_S_walker prog_1_method_11_code 5 none rm_S_walker [.ref 0, .int p1, .int p2, .int p3, .int p4] h (J_S_walker n p1 p2 p3 p4 h) := by
  refine sMf_of (own := "StoryStates") rfl (by decide) (Nat.le_of_ble_eq_true rfl) (fun M V O T => ?_)
  unfold J_S_walker
  refine r_lv (lv' := [(0, .ref 0), (1, .int p1), (2, .int p2), (3, .int p3), (4, .int p4)]) [0, 1, 2, 3, 4] rfl ?_
  have hK80 : ∀ (t0 : Int32) (h : sHp), sS Zc M V (sEf oV) 80 [(0, .ref 0), (1, .int p1), (2, .int p2), (3, .int p3), (4, .int p4)] [.int t0] h (K_S_walker_80 n p1 p2 p3 p4 t0 h) := by
    intro t0 h
    unfold K_S_walker_80
    refine r_mustv (pc := 80) O T d_S_walker_80 (R_S_mustBeAble t0 h) cf_S_walker_80 wm_327 (Nat.le_of_ble_eq_true rfl) (fun q80 => ?_)
    refine r_aload_n (pc := 83) O d_S_walker_83 0 rfl ?_
    refine r_getR (pc := 84) O gf_c_S_20_0 d_S_walker_84 ?_
    refine r_iload_n (pc := 87) O d_S_walker_87 1 rfl ?_
    refine r_iload_n (pc := 88) O d_S_walker_88 2 rfl ?_
    refine r_iload_n (pc := 89) O d_S_walker_89 3 rfl ?_
    refine r_iload (pc := 90) O d_S_walker_90 4 rfl ?_
    refine r_callVv (pc := 92) O [.int p1, .int p2, .int p3, .int p4] rfl rfl (R_W_addWalker n p1 p2 p3 p4 h) cw_S_walker_92 wm_568 wm_569 rfl (Nat.le_of_ble_eq_true rfl) d_S_walker_92 rfl (fun v92 => ?_)
    refine r_aload_n (pc := 95) O d_S_walker_95 0 rfl ?_
    refine r_callVv (pc := 96) O [] rfl rfl (R_S_startAnew n  v92) cw_S_walker_96 wm_277 ws_S_startAnew rfl (Nat.le_of_ble_eq_true rfl) d_S_walker_96 rfl (fun v96 => ?_)
    exact r_vret (pc := 99) O rfl d_S_walker_99
  have hK79 : ∀ (h : sHp), sS Zc M V (sEf oV) 79 [(0, .ref 0), (1, .int p1), (2, .int p2), (3, .int p3), (4, .int p4)] [] h (K_S_walker_79 n p1 p2 p3 p4 h) := by
    intro h
    unfold K_S_walker_79
    refine r_iconst (pc := 79) O d_S_walker_79 ic_0 ?_
    exact (hK80 0 h)
  have hK50 : ∀ (t0 : Int32) (h : sHp), sS Zc M V (sEf oV) 50 [(0, .ref 0), (1, .int p1), (2, .int p2), (3, .int p3), (4, .int p4)] [.int t0] h (K_S_walker_50 n p1 p2 p3 p4 t0 h) := by
    intro t0 h
    unfold K_S_walker_50
    refine r_mustv (pc := 50) O T d_S_walker_50 (R_S_mustBeThere t0 h) cf_S_walker_50 wm_419 (Nat.le_of_ble_eq_true rfl) (fun q50 => ?_)
    refine r_aload_n (pc := 53) O d_S_walker_53 0 rfl ?_
    refine r_getR (pc := 54) O gf_c_S_20_0 d_S_walker_54 ?_
    refine r_getI (x := (h.1 2 16)) (pc := 57) O gf_c_S_152_2 d_S_walker_57 rfl ?_
    refine r_iconst (pc := 60) O d_S_walker_60 ic_2 ?_
    refine r_icmp_ge (tgt := 79) (pc := 61) O d_S_walker_61 (by decide) (fun q61 => ?_) (fun q61 => ?_)
    · exact (hK79 h)
    · refine r_aload_n (pc := 64) O d_S_walker_64 0 rfl ?_
      refine r_getR (pc := 65) O gf_c_S_20_0 d_S_walker_65 ?_
      refine r_iload_n (pc := 68) O d_S_walker_68 1 rfl ?_
      refine r_callVip (pc := 69) O [.int p1] rfl rfl (R_W_isWalker n p1 h) cw_S_walker_69 wm_564 wm_565 rfl (Nat.le_of_ble_eq_true rfl) d_S_walker_69 rfl (fun v69 => ?_)
      refine r_if_ne (tgt := 79) (pc := 72) O d_S_walker_72 (by decide) (fun q72 => ?_) (fun q72 => ?_)
      · exact (hK79 h)
      · refine r_iconst (pc := 75) O d_S_walker_75 ic_1 ?_
        refine r_goto (pc := 76) O d_S_walker_76 (tgt := 80) (by decide) ?_
        exact (hK80 1 h)
  have hK49 : ∀ (h : sHp), sS Zc M V (sEf oV) 49 [(0, .ref 0), (1, .int p1), (2, .int p2), (3, .int p3), (4, .int p4)] [] h (K_S_walker_49 n p1 p2 p3 p4 h) := by
    intro h
    unfold K_S_walker_49
    refine r_iconst (pc := 49) O d_S_walker_49 ic_0 ?_
    exact (hK50 0 h)
  refine r_aload_n (pc := 0) O d_S_walker_0 0 rfl ?_
  refine r_getR (pc := 1) O gf_c_S_20_0 d_S_walker_1 ?_
  refine r_iload_n (pc := 4) O d_S_walker_4 1 rfl ?_
  refine r_callVip (pc := 5) O [.int p1] rfl rfl (R_W_hasThing n p1 h) cw_S_walker_5 wm_415 wm_416 rfl (Nat.le_of_ble_eq_true rfl) d_S_walker_5 rfl (fun v5 => ?_)
  refine r_mustv (pc := 8) O T d_S_walker_8 (R_S_mustBeThere v5 h) cf_S_walker_8 wm_419 (Nat.le_of_ble_eq_true rfl) (fun q8 => ?_)
  refine r_aload_n (pc := 11) O d_S_walker_11 0 rfl ?_
  refine r_getR (pc := 12) O gf_c_S_20_0 d_S_walker_12 ?_
  refine r_iload_n (pc := 15) O d_S_walker_15 2 rfl ?_
  refine r_callVip (pc := 16) O [.int p2] rfl rfl (R_W_hasRoom n p2 h) cw_S_walker_16 wm_410 wm_411 rfl (Nat.le_of_ble_eq_true rfl) d_S_walker_16 rfl (fun v16 => ?_)
  refine r_if_eq (tgt := 49) (pc := 19) O d_S_walker_19 (by decide) (fun q19 => ?_) (fun q19 => ?_)
  · exact (hK49 h)
  · refine r_aload_n (pc := 22) O d_S_walker_22 0 rfl ?_
    refine r_getR (pc := 23) O gf_c_S_20_0 d_S_walker_23 ?_
    refine r_iload_n (pc := 26) O d_S_walker_26 3 rfl ?_
    refine r_callVip (pc := 27) O [.int p3] rfl rfl (R_W_hasRoom n p3 h) cw_S_walker_27 wm_410 wm_411 rfl (Nat.le_of_ble_eq_true rfl) d_S_walker_27 rfl (fun v27 => ?_)
    refine r_if_eq (tgt := 49) (pc := 30) O d_S_walker_30 (by decide) (fun q30 => ?_) (fun q30 => ?_)
    · exact (hK49 h)
    · refine r_aload_n (pc := 33) O d_S_walker_33 0 rfl ?_
      refine r_getR (pc := 34) O gf_c_S_20_0 d_S_walker_34 ?_
      refine r_iload (pc := 37) O d_S_walker_37 4 rfl ?_
      refine r_callVip (pc := 39) O [.int p4] rfl rfl (R_W_hasRoom n p4 h) cw_S_walker_39 wm_410 wm_411 rfl (Nat.le_of_ble_eq_true rfl) d_S_walker_39 rfl (fun v39 => ?_)
      refine r_if_eq (tgt := 49) (pc := 42) O d_S_walker_42 (by decide) (fun q42 => ?_) (fun q42 => ?_)
      · exact (hK49 h)
      · refine r_iconst (pc := 45) O d_S_walker_45 ic_1 ?_
        refine r_goto (pc := 46) O d_S_walker_46 (tgt := 50) (by decide) ?_
        exact (hK50 1 h)
