def F_M_blamed_7 (n : Nat) (h : sHp) (rec7 : Int32 → Option Int32) (q : Int32) : Option Int32 :=
  if q < 0 then (some q) else (sGd (sIn q 60) (sGd (sIn q 60) ((J_M_search n (h.1 31 (ix q)) (h.1 32 (ix q)) h).bind fun v28 =>
  sGd (sIn v28 160) (if (h.1 41 (ix v28)) = 0 then (rec7 (q + (-1))) else (some q)))))
def J_M_blamed (n : Nat)  (h : sHp) : Option Int32 :=
  sFx (F_M_blamed_7 n h ) n ((h.1 0 44) - 1)
set_option maxRecDepth 20000 in
set_option maxHeartbeats 4000000 in
theorem R_M_blamed (n : Nat)  (h : sHp) : sM Zm (sPi h) y_M_blamed prog_10_method_53_code 2 (some .int) rm_M_blamed [.ref 0] h (J_M_blamed n  h) := by
  refine sM_of (own := "StoryStatesModel") rfl (by decide) (Nat.le_of_ble_eq_true rfl) (fun M V O => ?_)
  unfold J_M_blamed
  refine r_lv (lv' := [(0, .ref 0)]) [0] rfl ?_
  have hL7 : ∀ (q : Int32), sS Zm M V (sEb (sPi h)) 7 [(0, .ref 0), (1, .int q)] [] h (sFx (F_M_blamed_7 n h ) n q) := by
    skip
    refine r_fx (fun q => [(0, .ref 0), (1, .int q)]) (fun q => h) (F_M_blamed_7 n h ) (fun rec7 hrec7 q => ?_) n
    skip
    show sS Zm M V (sEb (sPi h)) 7 [(0, .ref 0), (1, .int q)] [] h _
    unfold F_M_blamed_7
    try dsimp only
    refine r_iload_n (pc := 7) O d_M_blamed_7 1 rfl ?_
    refine r_if_lt (tgt := 41) (pc := 8) O d_M_blamed_8 (by decide) (fun q8 => ?_) (fun q8 => ?_)
    · refine r_iload_n (pc := 41) O d_M_blamed_41 1 rfl ?_
      exact r_iret (pc := 42) O rfl d_M_blamed_42
    · refine r_aload_n (pc := 11) O d_M_blamed_11 0 rfl ?_
      refine r_getR (pc := 12) O gf_m_M_131_0 d_M_blamed_12 ?_
      refine r_aload_n (pc := 15) O d_M_blamed_15 0 rfl ?_
      refine r_aload_n (pc := 16) O d_M_blamed_16 0 rfl ?_
      refine r_getR (pc := 17) O gf_m_M_101_0 d_M_blamed_17 ?_
      refine r_iload_n (pc := 20) O d_M_blamed_20 1 rfl ?_
      refine r_iald (x := (h.1 31 (ix q))) (pc := 21) O rfl d_M_blamed_21 rfl ?_
      refine r_aload_n (pc := 22) O d_M_blamed_22 0 rfl ?_
      refine r_getR (pc := 23) O gf_m_M_104_0 d_M_blamed_23 ?_
      refine r_iload_n (pc := 26) O d_M_blamed_26 1 rfl ?_
      refine r_iald (x := (h.1 32 (ix q))) (pc := 27) O rfl d_M_blamed_27 rfl ?_
      refine r_callVip (pc := 28) O [.int (h.1 31 (ix q)), .int (h.1 32 (ix q))] rfl rfl (R_M_search n (h.1 31 (ix q)) (h.1 32 (ix q)) h) cw_M_blamed_28 wm_1253 ws_M_search rfl (Nat.le_of_ble_eq_true rfl) d_M_blamed_28 rfl (fun v28 => ?_)
      refine r_zald (x := (h.1 41 (ix v28))) (pc := 31) O rfl d_M_blamed_31 rfl ?_
      refine r_if_ne (tgt := 41) (pc := 32) O d_M_blamed_32 (by decide) (fun q32 => ?_) (fun q32 => ?_)
      · refine r_iload_n (pc := 41) O d_M_blamed_41 1 rfl ?_
        exact r_iret (pc := 42) O rfl d_M_blamed_42
      · refine r_iinc (lv' := [(1, .int (q + (-1))), (0, .ref 0)]) (pc := 35) O d_M_blamed_35 1 rfl (congrArg (HAdd.hAdd _) ic_m1) (by decide) rfl ?_
        refine r_goto (pc := 38) O d_M_blamed_38 (tgt := 7) (by decide) ?_
        exact r_lv [1, 0] rfl (hrec7 (q + (-1)))
  refine r_aload_n (pc := 0) O d_M_blamed_0 0 rfl ?_
  refine r_getI (x := (h.1 0 44)) (pc := 1) O gf_m_M_172_0 d_M_blamed_1 rfl ?_
  refine r_iconst (pc := 4) O d_M_blamed_4 ic_1 ?_
  refine r_isub (pc := 5) O d_M_blamed_5 ?_
  refine r_istore_n (lv' := [(1, .int ((h.1 0 44) - 1)), (0, .ref 0)]) (pc := 6) O d_M_blamed_6 rfl (by decide) rfl ?_
  exact r_lv [1, 0] rfl (hL7 ((h.1 0 44) - 1))
def F_M_stuck_33 (n : Nat) (h : sHp) (rec4 : (Int32 × Int32 → Option Int32)) (x1 : Int32) (x2 : Int32) (rec33 : Int32 × Int32 → Option Int32) (q : Int32 × Int32) : Option Int32 :=
  if (h.1 0 49) ≤ q.2 then (if q.1 = 0 then (rec4 (x1, (x2 + 1))) else (rec4 ((x1 + 1), (x2 + 1)))) else (if q.1 = 0 then (rec33 (0, (q.2 + 1))) else (if q.2 = x2 then (rec33 (1, (q.2 + 1))) else ((J_M_isFollowed n x2 q.2 h).bind fun v56 =>
  if v56 = 0 then (rec33 (1, (q.2 + 1))) else (rec33 (0, (q.2 + 1))))))
def K_M_stuck_29 (n : Nat) (h : sHp) (rec4 : (Int32 × Int32 → Option Int32)) (x1 : Int32) (x2 : Int32) (t0 : Int32) : Option Int32 :=
  sFx (F_M_stuck_33 n h rec4 x1 x2) n (t0, 0)
def F_M_stuck_4 (n : Nat) (h : sHp) (rec4 : Int32 × Int32 → Option Int32) (q : Int32 × Int32) : Option Int32 :=
  if (h.1 0 49) ≤ q.2 then (some q.1) else (sGd (sIn q.2 160) (if (jRem (h.1 34 (ix q.2)) 8) = 0 then (K_M_stuck_29 n h rec4 q.1 q.2 1) else (K_M_stuck_29 n h rec4 q.1 q.2 0)))
def J_M_stuck (n : Nat)  (h : sHp) : Option Int32 :=
  sFx (F_M_stuck_4 n h ) n (0, 0)
set_option maxRecDepth 20000 in
set_option maxHeartbeats 4000000 in
theorem R_M_stuck (n : Nat)  (h : sHp) : sM Zm (sPi h) y_M_stuck prog_10_method_54_code 5 (some .int) rm_M_stuck [.ref 0] h (J_M_stuck n  h) := by
  refine sM_of (own := "StoryStatesModel") rfl (by decide) (Nat.le_of_ble_eq_true rfl) (fun M V O => ?_)
  unfold J_M_stuck
  refine r_lv (lv' := [(0, .ref 0)]) [0] rfl ?_
  have hL4 : ∀ (q : Int32 × Int32), sS Zm M V (sEb (sPi h)) 4 [(0, .ref 0), (1, .int q.1), (2, .int q.2)] [] h (sFx (F_M_stuck_4 n h ) n q) := by
    skip
    refine r_fx (fun q => [(0, .ref 0), (1, .int q.1), (2, .int q.2)]) (fun q => h) (F_M_stuck_4 n h ) (fun rec4 hrec4 q => ?_) n
    obtain ⟨qv0, qv1⟩ := q
    show sS Zm M V (sEb (sPi h)) 4 [(0, .ref 0), (1, .int qv0), (2, .int qv1)] [] h _
    unfold F_M_stuck_4
    try dsimp only
    have hL33 : ∀ (x1 : Int32) (x2 : Int32) (q : Int32 × Int32), sS Zm M V (sEb (sPi h)) 33 [(0, .ref 0), (1, .int x1), (2, .int x2), (3, .int q.1), (4, .int q.2)] [] h (sFx (F_M_stuck_33 n h rec4 x1 x2) n q) := by
      intro x1 x2
      refine r_fx (fun q => [(0, .ref 0), (1, .int x1), (2, .int x2), (3, .int q.1), (4, .int q.2)]) (fun q => h) (F_M_stuck_33 n h rec4 x1 x2) (fun rec33 hrec33 q => ?_) n
      obtain ⟨qv0, qv1⟩ := q
      show sS Zm M V (sEb (sPi h)) 33 [(0, .ref 0), (1, .int x1), (2, .int x2), (3, .int qv0), (4, .int qv1)] [] h _
      unfold F_M_stuck_33
      try dsimp only
      refine r_iload (pc := 33) O d_M_stuck_33 4 rfl ?_
      refine r_aload_n (pc := 35) O d_M_stuck_35 0 rfl ?_
      refine r_getI (x := (h.1 0 49)) (pc := 36) O gf_m_M_181_0 d_M_stuck_36 rfl ?_
      refine r_icmp_ge (tgt := 74) (pc := 39) O d_M_stuck_39 (by decide) (fun q39 => ?_) (fun q39 => ?_)
      · refine r_iload_n (pc := 74) O d_M_stuck_74 3 rfl ?_
        refine r_if_eq (tgt := 84) (pc := 75) O d_M_stuck_75 (by decide) (fun q75 => ?_) (fun q75 => ?_)
        · refine r_iload_n (pc := 84) O d_M_stuck_84 1 rfl ?_
          refine r_istore_n (lv' := [(1, .int x1), (0, .ref 0), (2, .int x2), (3, .int qv0), (4, .int qv1)]) (pc := 85) O d_M_stuck_85 rfl (by decide) rfl ?_
          refine r_iinc (lv' := [(2, .int (x2 + 1)), (1, .int x1), (0, .ref 0), (3, .int qv0), (4, .int qv1)]) (pc := 86) O d_M_stuck_86 2 rfl (congrArg (HAdd.hAdd _) ic_1) (by decide) rfl ?_
          refine r_goto (pc := 89) O d_M_stuck_89 (tgt := 4) (by decide) ?_
          exact r_lv [2, 1, 0] rfl (hrec4 (x1, (x2 + 1)))
        · refine r_iload_n (pc := 78) O d_M_stuck_78 1 rfl ?_
          refine r_iconst (pc := 79) O d_M_stuck_79 ic_1 ?_
          refine r_iadd (pc := 80) O d_M_stuck_80 ?_
          refine r_goto (pc := 81) O d_M_stuck_81 (tgt := 85) (by decide) ?_
          refine r_istore_n (lv' := [(1, .int (x1 + 1)), (0, .ref 0), (2, .int x2), (3, .int qv0), (4, .int qv1)]) (pc := 85) O d_M_stuck_85 rfl (by decide) rfl ?_
          refine r_iinc (lv' := [(2, .int (x2 + 1)), (1, .int (x1 + 1)), (0, .ref 0), (3, .int qv0), (4, .int qv1)]) (pc := 86) O d_M_stuck_86 2 rfl (congrArg (HAdd.hAdd _) ic_1) (by decide) rfl ?_
          refine r_goto (pc := 89) O d_M_stuck_89 (tgt := 4) (by decide) ?_
          exact r_lv [2, 1, 0] rfl (hrec4 ((x1 + 1), (x2 + 1)))
      · refine r_iload_n (pc := 42) O d_M_stuck_42 3 rfl ?_
        refine r_if_eq (tgt := 66) (pc := 43) O d_M_stuck_43 (by decide) (fun q43 => ?_) (fun q43 => ?_)
        · refine r_iconst (pc := 66) O d_M_stuck_66 ic_0 ?_
          refine r_istore_n (lv' := [(3, .int 0), (0, .ref 0), (1, .int x1), (2, .int x2), (4, .int qv1)]) (pc := 67) O d_M_stuck_67 rfl (by decide) rfl ?_
          refine r_iinc (lv' := [(4, .int (qv1 + 1)), (3, .int 0), (0, .ref 0), (1, .int x1), (2, .int x2)]) (pc := 68) O d_M_stuck_68 4 rfl (congrArg (HAdd.hAdd _) ic_1) (by decide) rfl ?_
          refine r_goto (pc := 71) O d_M_stuck_71 (tgt := 33) (by decide) ?_
          exact r_lv [2, 3, 4, 1, 0] rfl (hrec33 (0, (qv1 + 1)))
        · refine r_iload (pc := 46) O d_M_stuck_46 4 rfl ?_
          refine r_iload_n (pc := 48) O d_M_stuck_48 2 rfl ?_
          refine r_icmp_eq (tgt := 62) (pc := 49) O d_M_stuck_49 (by decide) (fun q49 => ?_) (fun q49 => ?_)
          · refine r_iconst (pc := 62) O d_M_stuck_62 ic_1 ?_
            refine r_goto (pc := 63) O d_M_stuck_63 (tgt := 67) (by decide) ?_
            refine r_istore_n (lv' := [(3, .int 1), (0, .ref 0), (1, .int x1), (2, .int x2), (4, .int qv1)]) (pc := 67) O d_M_stuck_67 rfl (by decide) rfl ?_
            refine r_iinc (lv' := [(4, .int (qv1 + 1)), (3, .int 1), (0, .ref 0), (1, .int x1), (2, .int x2)]) (pc := 68) O d_M_stuck_68 4 rfl (congrArg (HAdd.hAdd _) ic_1) (by decide) rfl ?_
            refine r_goto (pc := 71) O d_M_stuck_71 (tgt := 33) (by decide) ?_
            exact r_lv [2, 3, 4, 1, 0] rfl (hrec33 (1, (qv1 + 1)))
          · refine r_aload_n (pc := 52) O d_M_stuck_52 0 rfl ?_
            refine r_iload_n (pc := 53) O d_M_stuck_53 2 rfl ?_
            refine r_iload (pc := 54) O d_M_stuck_54 4 rfl ?_
            refine r_callVip (pc := 56) O [.int x2, .int qv1] rfl rfl (R_M_isFollowed n x2 qv1 h) cw_M_stuck_56 wm_1285 ws_M_isFollowed rfl (Nat.le_of_ble_eq_true rfl) d_M_stuck_56 rfl (fun v56 => ?_)
            refine r_if_ne (tgt := 66) (pc := 59) O d_M_stuck_59 (by decide) (fun q59 => ?_) (fun q59 => ?_)
            · refine r_iconst (pc := 66) O d_M_stuck_66 ic_0 ?_
              refine r_istore_n (lv' := [(3, .int 0), (0, .ref 0), (1, .int x1), (2, .int x2), (4, .int qv1)]) (pc := 67) O d_M_stuck_67 rfl (by decide) rfl ?_
              refine r_iinc (lv' := [(4, .int (qv1 + 1)), (3, .int 0), (0, .ref 0), (1, .int x1), (2, .int x2)]) (pc := 68) O d_M_stuck_68 4 rfl (congrArg (HAdd.hAdd _) ic_1) (by decide) rfl ?_
              refine r_goto (pc := 71) O d_M_stuck_71 (tgt := 33) (by decide) ?_
              exact r_lv [2, 3, 4, 1, 0] rfl (hrec33 (0, (qv1 + 1)))
            · refine r_iconst (pc := 62) O d_M_stuck_62 ic_1 ?_
              refine r_goto (pc := 63) O d_M_stuck_63 (tgt := 67) (by decide) ?_
              refine r_istore_n (lv' := [(3, .int 1), (0, .ref 0), (1, .int x1), (2, .int x2), (4, .int qv1)]) (pc := 67) O d_M_stuck_67 rfl (by decide) rfl ?_
              refine r_iinc (lv' := [(4, .int (qv1 + 1)), (3, .int 1), (0, .ref 0), (1, .int x1), (2, .int x2)]) (pc := 68) O d_M_stuck_68 4 rfl (congrArg (HAdd.hAdd _) ic_1) (by decide) rfl ?_
              refine r_goto (pc := 71) O d_M_stuck_71 (tgt := 33) (by decide) ?_
              exact r_lv [2, 3, 4, 1, 0] rfl (hrec33 (1, (qv1 + 1)))
    have hK29 : ∀ (x1 : Int32) (x2 : Int32) (t0 : Int32), sS Zm M V (sEb (sPi h)) 29 [(0, .ref 0), (1, .int x1), (2, .int x2)] [.int t0] h (K_M_stuck_29 n h rec4 x1 x2 t0) := by
      intro x1 x2 t0
      unfold K_M_stuck_29
      refine r_istore_n (lv' := [(3, .int t0), (0, .ref 0), (1, .int x1), (2, .int x2)]) (pc := 29) O d_M_stuck_29 rfl (by decide) rfl ?_
      refine r_iconst (pc := 30) O d_M_stuck_30 ic_0 ?_
      refine r_istore (lv' := [(4, .int 0), (3, .int t0), (0, .ref 0), (1, .int x1), (2, .int x2)]) (pc := 31) O d_M_stuck_31 (by decide) rfl ?_
      exact r_lv [2, 3, 4, 1, 0] rfl (hL33 x1 x2 (t0, 0))
    refine r_iload_n (pc := 4) O d_M_stuck_4 2 rfl ?_
    refine r_aload_n (pc := 5) O d_M_stuck_5 0 rfl ?_
    refine r_getI (x := (h.1 0 49)) (pc := 6) O gf_m_M_181_0 d_M_stuck_6 rfl ?_
    refine r_icmp_ge (tgt := 92) (pc := 9) O d_M_stuck_9 (by decide) (fun q9 => ?_) (fun q9 => ?_)
    · refine r_iload_n (pc := 92) O d_M_stuck_92 1 rfl ?_
      exact r_iret (pc := 93) O rfl d_M_stuck_93
    · refine r_aload_n (pc := 12) O d_M_stuck_12 0 rfl ?_
      refine r_getR (pc := 13) O gf_m_M_110_0 d_M_stuck_13 ?_
      refine r_iload_n (pc := 16) O d_M_stuck_16 2 rfl ?_
      refine r_iald (x := (h.1 34 (ix qv1))) (pc := 17) O rfl d_M_stuck_17 rfl ?_
      refine r_bipush (pc := 18) O d_M_stuck_18 bc_8 ?_
      refine r_irem (pc := 20) O d_M_stuck_20 (by decide) ?_
      refine r_if_ne (tgt := 28) (pc := 21) O d_M_stuck_21 (by decide) (fun q21 => ?_) (fun q21 => ?_)
      · refine r_iconst (pc := 28) O d_M_stuck_28 ic_0 ?_
        exact (hK29 qv0 qv1 0)
      · refine r_iconst (pc := 24) O d_M_stuck_24 ic_1 ?_
        refine r_goto (pc := 25) O d_M_stuck_25 (tgt := 29) (by decide) ?_
        exact (hK29 qv0 qv1 1)
  refine r_iconst (pc := 0) O d_M_stuck_0 ic_0 ?_
  refine r_istore_n (lv' := [(1, .int 0), (0, .ref 0)]) (pc := 1) O d_M_stuck_1 rfl (by decide) rfl ?_
  refine r_iconst (pc := 2) O d_M_stuck_2 ic_0 ?_
  refine r_istore_n (lv' := [(2, .int 0), (1, .int 0), (0, .ref 0)]) (pc := 3) O d_M_stuck_3 rfl (by decide) rfl ?_
  exact r_lv [2, 1, 0] rfl (hL4 (0, 0))
def F_M_unused_4 (n : Nat) (p1 : Int32) (h : sHp) (rec4 : Int32 × Int32 → Option Int32) (q : Int32 × Int32) : Option Int32 :=
  if (h.1 0 12) ≤ q.2 then (some (-1)) else (if ((jIshr (h.1 0 41) q.2) &&& 1) = 0 then (if q.1 = p1 then (some q.2) else (rec4 ((q.1 + 1), (q.2 + 1)))) else (rec4 (q.1, (q.2 + 1))))
def J_M_unused (n : Nat) (p1 : Int32) (h : sHp) : Option Int32 :=
  sFx (F_M_unused_4 n p1 h ) n (0, 0)
set_option maxRecDepth 20000 in
set_option maxHeartbeats 4000000 in
theorem R_M_unused (n : Nat) (p1 : Int32) (h : sHp) : sM Zm (sPi h) y_M_unused prog_10_method_55_code 4 (some .int) rm_M_unused [.ref 0, .int p1] h (J_M_unused n p1 h) := by
  refine sM_of (own := "StoryStatesModel") rfl (by decide) (Nat.le_of_ble_eq_true rfl) (fun M V O => ?_)
  unfold J_M_unused
  refine r_lv (lv' := [(0, .ref 0), (1, .int p1)]) [0, 1] rfl ?_
  have hL4 : ∀ (q : Int32 × Int32), sS Zm M V (sEb (sPi h)) 4 [(0, .ref 0), (1, .int p1), (2, .int q.1), (3, .int q.2)] [] h (sFx (F_M_unused_4 n p1 h ) n q) := by
    skip
    refine r_fx (fun q => [(0, .ref 0), (1, .int p1), (2, .int q.1), (3, .int q.2)]) (fun q => h) (F_M_unused_4 n p1 h ) (fun rec4 hrec4 q => ?_) n
    obtain ⟨qv0, qv1⟩ := q
    show sS Zm M V (sEb (sPi h)) 4 [(0, .ref 0), (1, .int p1), (2, .int qv0), (3, .int qv1)] [] h _
    unfold F_M_unused_4
    try dsimp only
    refine r_iload_n (pc := 4) O d_M_unused_4 3 rfl ?_
    refine r_aload_n (pc := 5) O d_M_unused_5 0 rfl ?_
    refine r_getI (x := (h.1 0 12)) (pc := 6) O gf_m_M_208_0 d_M_unused_6 rfl ?_
    refine r_icmp_ge (tgt := 39) (pc := 9) O d_M_unused_9 (by decide) (fun q9 => ?_) (fun q9 => ?_)
    · refine r_iconst (pc := 39) O d_M_unused_39 ic_m1 ?_
      exact r_iret (pc := 40) O rfl d_M_unused_40
    · refine r_aload_n (pc := 12) O d_M_unused_12 0 rfl ?_
      refine r_getI (x := (h.1 0 41)) (pc := 13) O gf_m_M_191_0 d_M_unused_13 rfl ?_
      refine r_iload_n (pc := 16) O d_M_unused_16 3 rfl ?_
      refine r_ishr (pc := 17) O d_M_unused_17 ?_
      refine r_iconst (pc := 18) O d_M_unused_18 ic_1 ?_
      refine r_iand (pc := 19) O d_M_unused_19 ?_
      refine r_if_ne (tgt := 33) (pc := 20) O d_M_unused_20 (by decide) (fun q20 => ?_) (fun q20 => ?_)
      · refine r_iinc (lv' := [(3, .int (qv1 + 1)), (0, .ref 0), (1, .int p1), (2, .int qv0)]) (pc := 33) O d_M_unused_33 3 rfl (congrArg (HAdd.hAdd _) ic_1) (by decide) rfl ?_
        refine r_goto (pc := 36) O d_M_unused_36 (tgt := 4) (by decide) ?_
        exact r_lv [1, 2, 3, 0] rfl (hrec4 (qv0, (qv1 + 1)))
      · refine r_iload_n (pc := 23) O d_M_unused_23 2 rfl ?_
        refine r_iload_n (pc := 24) O d_M_unused_24 1 rfl ?_
        refine r_icmp_ne (tgt := 30) (pc := 25) O d_M_unused_25 (by decide) (fun q25 => ?_) (fun q25 => ?_)
        · refine r_iinc (lv' := [(2, .int (qv0 + 1)), (0, .ref 0), (1, .int p1), (3, .int qv1)]) (pc := 30) O d_M_unused_30 2 rfl (congrArg (HAdd.hAdd _) ic_1) (by decide) rfl ?_
          refine r_iinc (lv' := [(3, .int (qv1 + 1)), (2, .int (qv0 + 1)), (0, .ref 0), (1, .int p1)]) (pc := 33) O d_M_unused_33 3 rfl (congrArg (HAdd.hAdd _) ic_1) (by decide) rfl ?_
          refine r_goto (pc := 36) O d_M_unused_36 (tgt := 4) (by decide) ?_
          exact r_lv [2, 3, 1, 0] rfl (hrec4 ((qv0 + 1), (qv1 + 1)))
        · refine r_iload_n (pc := 28) O d_M_unused_28 3 rfl ?_
          exact r_iret (pc := 29) O rfl d_M_unused_29
  refine r_iconst (pc := 0) O d_M_unused_0 ic_0 ?_
  refine r_istore_n (lv' := [(2, .int 0), (0, .ref 0), (1, .int p1)]) (pc := 1) O d_M_unused_1 rfl (by decide) rfl ?_
  refine r_iconst (pc := 2) O d_M_unused_2 ic_0 ?_
  refine r_istore_n (lv' := [(3, .int 0), (2, .int 0), (0, .ref 0), (1, .int p1)]) (pc := 3) O d_M_unused_3 rfl (by decide) rfl ?_
  exact r_lv [2, 3, 1, 0] rfl (hL4 (0, 0))
def K_M_study_115 (n : Nat) (p1 : Int32) (p2 : Int32) (t0 : Int32) (h : sHp) : Option (Int32 × sHp) :=
  if p1 = 1 then (if t0 = 0 then (some (0, h)) else (some (1, h))) else (if t0 = 0 then (some ((-1), h)) else ((J_M_blamed n h).bind fun v138 =>
  some (v138, h)))
def K_M_study_26 (n : Nat) (p1 : Int32) (p2 : Int32) (t0 : Int32) (h : sHp) : Option (Int32 × sHp) :=
  if t0 ≤ 0 then (if p1 = 0 then (some ((h.1 0 49), (pI h 0 0 t0))) else ((J_M_finished n (pI h 0 0 t0)).bind fun v48 =>
  if v48 = 0 then (if p1 = 1 then (some (2, (pI h 0 0 t0))) else (some ((-1), (pI h 0 0 t0)))) else (if p1 = 3 then ((J_M_stuck n (pI h 0 0 t0)).bind fun v71 =>
  some (v71, (pI h 0 0 t0))) else (if p1 = 4 then ((J_M_unused n p2 (pI h 0 0 t0)).bind fun v82 =>
  some (v82, (pI h 0 0 t0))) else ((J_M_judge n (pI h 0 0 t0)).bind fun v87 =>
  (J_M_search n (v87.1 0 42) (v87.1 0 43) v87).bind fun v103 =>
  sGd (sIn v103 160) (if (v87.1 41 (ix v103)) = 0 then (K_M_study_115 n p1 p2 1 v87) else (K_M_study_115 n p1 p2 0 v87))))))) else (some (0, (pI h 0 0 t0)))
def K_M_study_21 (n : Nat) (p1 : Int32) (p2 : Int32) (h : sHp) : Option (Int32 × sHp) :=
  K_M_study_26 n p1 p2 2 h
def J_M_study (n : Nat) (p1 : Int32) (p2 : Int32) (h : sHp) : Option (Int32 × sHp) :=
  if (h.1 0 1) = 0 then (K_M_study_26 n p1 p2 1 h) else (if p1 < 0 then (K_M_study_21 n p1 p2 h) else (if p1 ≤ 4 then (K_M_study_26 n p1 p2 0 h) else (K_M_study_21 n p1 p2 h)))
set_option maxRecDepth 20000 in
set_option maxHeartbeats 4000000 in
theorem R_M_study (n : Nat) (p1 : Int32) (p2 : Int32) (h : sHp) : sM Zm sOi y_M_study prog_10_method_56_code 4 (some .int) rm_M_study [.ref 0, .int p1, .int p2] h (J_M_study n p1 p2 h) := by
  refine sM_of (own := "StoryStatesModel") rfl (by decide) (Nat.le_of_ble_eq_true rfl) (fun M V O => ?_)
  unfold J_M_study
  refine r_lv (lv' := [(0, .ref 0), (1, .int p1), (2, .int p2)]) [0, 1, 2] rfl ?_
  have hK115 : ∀ (t0 : Int32) (h : sHp), sS Zm M V (sEb sOi) 115 [(0, .ref 0), (1, .int p1)] [.int t0] h (K_M_study_115 n p1 p2 t0 h) := by
    intro t0 h
    unfold K_M_study_115
    refine r_istore_n (lv' := [(3, .int t0), (0, .ref 0), (1, .int p1)]) (pc := 115) O d_M_study_115 rfl (by decide) rfl ?_
    refine r_iload_n (pc := 116) O d_M_study_116 2 rfl ?_
    refine r_iconst (pc := 117) O d_M_study_117 ic_1 ?_
    refine r_icmp_ne (tgt := 133) (pc := 118) O d_M_study_118 (by decide) (fun q118 => ?_) (fun q118 => ?_)
    · refine r_iload_n (pc := 133) O d_M_study_133 0 rfl ?_
      refine r_if_eq (tgt := 144) (pc := 134) O d_M_study_134 (by decide) (fun q134 => ?_) (fun q134 => ?_)
      · refine r_iconst (pc := 144) O d_M_study_144 ic_m1 ?_
        exact r_iret (pc := 145) O rfl d_M_study_145
      · refine r_aload_n (pc := 137) O d_M_study_137 1 rfl ?_
        refine r_callVip (pc := 138) O [] rfl rfl (R_M_blamed n  h) cw_M_study_138 wm_1297 ws_M_blamed rfl (Nat.le_of_ble_eq_true rfl) d_M_study_138 rfl (fun v138 => ?_)
        refine r_goto (pc := 141) O d_M_study_141 (tgt := 145) (by decide) ?_
        exact r_iret (pc := 145) O rfl d_M_study_145
    · refine r_iload_n (pc := 121) O d_M_study_121 0 rfl ?_
      refine r_if_eq (tgt := 129) (pc := 122) O d_M_study_122 (by decide) (fun q122 => ?_) (fun q122 => ?_)
      · refine r_iconst (pc := 129) O d_M_study_129 ic_0 ?_
        refine r_goto (pc := 130) O d_M_study_130 (tgt := 145) (by decide) ?_
        exact r_iret (pc := 145) O rfl d_M_study_145
      · refine r_iconst (pc := 125) O d_M_study_125 ic_1 ?_
        refine r_goto (pc := 126) O d_M_study_126 (tgt := 145) (by decide) ?_
        exact r_iret (pc := 145) O rfl d_M_study_145
  have hK26 : ∀ (t0 : Int32) (h : sHp), sS Zm M V (sEb sOi) 26 [(0, .ref 0), (1, .int p1), (2, .int p2)] [.int t0, .ref 0] h (K_M_study_26 n p1 p2 t0 h) := by
    intro t0 h
    unfold K_M_study_26
    refine r_putI (pc := 26) O pf_m_M_137_0 d_M_study_26 ?_
    refine r_aload_n (pc := 29) O d_M_study_29 0 rfl ?_
    refine r_getI (x := t0) (pc := 30) O gf_m_M_137_0 d_M_study_30 rfl ?_
    refine r_if_le (tgt := 38) (pc := 33) O d_M_study_33 (by decide) (fun q33 => ?_) (fun q33 => ?_)
    · refine r_iload_n (pc := 38) O d_M_study_38 1 rfl ?_
      refine r_if_ne (tgt := 47) (pc := 39) O d_M_study_39 (by decide) (fun q39 => ?_) (fun q39 => ?_)
      · refine r_aload_n (pc := 47) O d_M_study_47 0 rfl ?_
        refine r_callVip (pc := 48) O [] rfl rfl (R_M_finished n  (pI h 0 0 t0)) cw_M_study_48 wm_1269 ws_M_finished rfl (Nat.le_of_ble_eq_true rfl) d_M_study_48 rfl (fun v48 => ?_)
        refine r_if_ne (tgt := 65) (pc := 51) O d_M_study_51 (by decide) (fun q51 => ?_) (fun q51 => ?_)
        · refine r_iload_n (pc := 65) O d_M_study_65 1 rfl ?_
          refine r_iconst (pc := 66) O d_M_study_66 ic_3 ?_
          refine r_icmp_ne (tgt := 75) (pc := 67) O d_M_study_67 (by decide) (fun q67 => ?_) (fun q67 => ?_)
          · refine r_iload_n (pc := 75) O d_M_study_75 1 rfl ?_
            refine r_iconst (pc := 76) O d_M_study_76 ic_4 ?_
            refine r_icmp_ne (tgt := 86) (pc := 77) O d_M_study_77 (by decide) (fun q77 => ?_) (fun q77 => ?_)
            · refine r_aload_n (pc := 86) O d_M_study_86 0 rfl ?_
              refine r_callVv (pc := 87) O [] rfl rfl (R_M_judge n  (pI h 0 0 t0)) cw_M_study_87 wm_1293 ws_M_judge rfl (Nat.le_of_ble_eq_true rfl) d_M_study_87 rfl (fun v87 => ?_)
              refine r_aload_n (pc := 90) O d_M_study_90 0 rfl ?_
              refine r_getR (pc := 91) O gf_m_M_131_0 d_M_study_91 ?_
              refine r_aload_n (pc := 94) O d_M_study_94 0 rfl ?_
              refine r_aload_n (pc := 95) O d_M_study_95 0 rfl ?_
              refine r_getI (x := (v87.1 0 42)) (pc := 96) O gf_m_M_163_0 d_M_study_96 rfl ?_
              refine r_aload_n (pc := 99) O d_M_study_99 0 rfl ?_
              refine r_getI (x := (v87.1 0 43)) (pc := 100) O gf_m_M_169_0 d_M_study_100 rfl ?_
              refine r_callVip (pc := 103) O [.int (v87.1 0 42), .int (v87.1 0 43)] rfl rfl (R_M_search n (v87.1 0 42) (v87.1 0 43) v87) cw_M_study_103 wm_1253 ws_M_search rfl (Nat.le_of_ble_eq_true rfl) d_M_study_103 rfl (fun v103 => ?_)
              refine r_zald (x := (v87.1 41 (ix v103))) (pc := 106) O rfl d_M_study_106 rfl ?_
              refine r_if_ne (tgt := 114) (pc := 107) O d_M_study_107 (by decide) (fun q107 => ?_) (fun q107 => ?_)
              · refine r_iconst (pc := 114) O d_M_study_114 ic_0 ?_
                exact r_lv [0, 1] rfl (hK115 0 v87)
              · refine r_iconst (pc := 110) O d_M_study_110 ic_1 ?_
                refine r_goto (pc := 111) O d_M_study_111 (tgt := 115) (by decide) ?_
                exact r_lv [0, 1] rfl (hK115 1 v87)
            · refine r_aload_n (pc := 80) O d_M_study_80 0 rfl ?_
              refine r_iload_n (pc := 81) O d_M_study_81 2 rfl ?_
              refine r_callVip (pc := 82) O [.int p2] rfl rfl (R_M_unused n p2 (pI h 0 0 t0)) cw_M_study_82 wm_1289 ws_M_unused rfl (Nat.le_of_ble_eq_true rfl) d_M_study_82 rfl (fun v82 => ?_)
              exact r_iret (pc := 85) O rfl d_M_study_85
          · refine r_aload_n (pc := 70) O d_M_study_70 0 rfl ?_
            refine r_callVip (pc := 71) O [] rfl rfl (R_M_stuck n  (pI h 0 0 t0)) cw_M_study_71 wm_1281 ws_M_stuck rfl (Nat.le_of_ble_eq_true rfl) d_M_study_71 rfl (fun v71 => ?_)
            exact r_iret (pc := 74) O rfl d_M_study_74
        · refine r_iload_n (pc := 54) O d_M_study_54 1 rfl ?_
          refine r_iconst (pc := 55) O d_M_study_55 ic_1 ?_
          refine r_icmp_ne (tgt := 63) (pc := 56) O d_M_study_56 (by decide) (fun q56 => ?_) (fun q56 => ?_)
          · refine r_iconst (pc := 63) O d_M_study_63 ic_m1 ?_
            exact r_iret (pc := 64) O rfl d_M_study_64
          · refine r_iconst (pc := 59) O d_M_study_59 ic_2 ?_
            refine r_goto (pc := 60) O d_M_study_60 (tgt := 64) (by decide) ?_
            exact r_iret (pc := 64) O rfl d_M_study_64
      · refine r_aload_n (pc := 42) O d_M_study_42 0 rfl ?_
        refine r_getI (x := (h.1 0 49)) (pc := 43) O gf_m_M_181_0 d_M_study_43 rfl ?_
        exact r_iret (pc := 46) O rfl d_M_study_46
    · refine r_iconst (pc := 36) O d_M_study_36 ic_0 ?_
      exact r_iret (pc := 37) O rfl d_M_study_37
  have hK21 : ∀ (h : sHp), sS Zm M V (sEb sOi) 21 [(0, .ref 0), (1, .int p1), (2, .int p2)] [.ref 0] h (K_M_study_21 n p1 p2 h) := by
    intro h
    unfold K_M_study_21
    refine r_iconst (pc := 21) O d_M_study_21 ic_2 ?_
    refine r_goto (pc := 22) O d_M_study_22 (tgt := 26) (by decide) ?_
    exact (hK26 2 h)
  refine r_aload_n (pc := 0) O d_M_study_0 0 rfl ?_
  refine r_aload_n (pc := 1) O d_M_study_1 0 rfl ?_
  refine r_getI (x := (h.1 0 1)) (pc := 2) O gf_m_M_198_0 d_M_study_2 rfl ?_
  refine r_if_ne (tgt := 12) (pc := 5) O d_M_study_5 (by decide) (fun q5 => ?_) (fun q5 => ?_)
  · refine r_iload_n (pc := 12) O d_M_study_12 1 rfl ?_
    refine r_if_lt (tgt := 21) (pc := 13) O d_M_study_13 (by decide) (fun q13 => ?_) (fun q13 => ?_)
    · exact (hK21 h)
    · refine r_iload_n (pc := 16) O d_M_study_16 1 rfl ?_
      refine r_iconst (pc := 17) O d_M_study_17 ic_4 ?_
      refine r_icmp_le (tgt := 25) (pc := 18) O d_M_study_18 (by decide) (fun q18 => ?_) (fun q18 => ?_)
      · refine r_iconst (pc := 25) O d_M_study_25 ic_0 ?_
        exact (hK26 0 h)
      · exact (hK21 h)
  · refine r_iconst (pc := 8) O d_M_study_8 ic_1 ?_
    refine r_goto (pc := 9) O d_M_study_9 (tgt := 26) (by decide) ?_
    exact (hK26 1 h)
