def J_M_thrown (n : Nat)  (h : sHp) : Option Int32 :=
  some (h.1 0 0)
set_option maxRecDepth 20000 in
set_option maxHeartbeats 4000000 in
theorem R_M_thrown (n : Nat)  (h : sHp) : sM Zm (sPi h) y_M_thrown prog_10_method_2_code 1 (some .int) rm_M_thrown [.ref 0] h (J_M_thrown n  h) := by
  refine sM_of (own := "StoryStatesModel") rfl (by decide) (Nat.le_of_ble_eq_true rfl) (fun M V O => ?_)
  unfold J_M_thrown
  refine r_lv (lv' := [(0, .ref 0)]) [0] rfl ?_
  refine r_aload_n (pc := 0) O d_M_thrown_0 0 rfl ?_
  refine r_getI (x := (h.1 0 0)) (pc := 1) O gf_m_M_137_0 d_M_thrown_1 rfl ?_
  exact r_iret (pc := 4) O rfl d_M_thrown_4
def F_M_packA_7 (n : Nat) (h : sHp) (rec7 : Int32 × Int32 → Option Int32) (q : Int32 × Int32) : Option Int32 :=
  if 6 ≤ q.2 then (some ((8 * q.1) + (h.1 0 38))) else (sGd (sIn q.2 6) (rec7 (((16 * q.1) + (h.1 25 (ix q.2))), (q.2 + 1))))
def J_M_packA (n : Nat)  (h : sHp) : Option Int32 :=
  sFx (F_M_packA_7 n h ) n ((h.1 0 32), 0)
set_option maxRecDepth 20000 in
set_option maxHeartbeats 4000000 in
theorem R_M_packA (n : Nat)  (h : sHp) : sM Zm (sPi h) y_M_packA prog_10_method_3_code 3 (some .int) rm_M_packA [.ref 0] h (J_M_packA n  h) := by
  refine sM_of (own := "StoryStatesModel") rfl (by decide) (Nat.le_of_ble_eq_true rfl) (fun M V O => ?_)
  unfold J_M_packA
  refine r_lv (lv' := [(0, .ref 0)]) [0] rfl ?_
  have hL7 : ∀ (q : Int32 × Int32), sS Zm M V (sEb (sPi h)) 7 [(0, .ref 0), (1, .int q.1), (2, .int q.2)] [] h (sFx (F_M_packA_7 n h ) n q) := by
    skip
    refine r_fx (fun q => [(0, .ref 0), (1, .int q.1), (2, .int q.2)]) (fun q => h) (F_M_packA_7 n h ) (fun rec7 hrec7 q => ?_) n
    obtain ⟨qv0, qv1⟩ := q
    show sS Zm M V (sEb (sPi h)) 7 [(0, .ref 0), (1, .int qv0), (2, .int qv1)] [] h _
    unfold F_M_packA_7
    try dsimp only
    refine r_iload_n (pc := 7) O d_M_packA_7 2 rfl ?_
    refine r_bipush (pc := 8) O d_M_packA_8 bc_6 ?_
    refine r_icmp_ge (tgt := 31) (pc := 10) O d_M_packA_10 (by decide) (fun q10 => ?_) (fun q10 => ?_)
    · refine r_bipush (pc := 31) O d_M_packA_31 bc_8 ?_
      refine r_iload_n (pc := 33) O d_M_packA_33 1 rfl ?_
      refine r_imul (pc := 34) O d_M_packA_34 ?_
      refine r_aload_n (pc := 35) O d_M_packA_35 0 rfl ?_
      refine r_getI (x := (h.1 0 38)) (pc := 36) O gf_m_M_144_0 d_M_packA_36 rfl ?_
      refine r_iadd (pc := 39) O d_M_packA_39 ?_
      exact r_iret (pc := 40) O rfl d_M_packA_40
    · refine r_bipush (pc := 13) O d_M_packA_13 bc_16 ?_
      refine r_iload_n (pc := 15) O d_M_packA_15 1 rfl ?_
      refine r_imul (pc := 16) O d_M_packA_16 ?_
      refine r_aload_n (pc := 17) O d_M_packA_17 0 rfl ?_
      refine r_getR (pc := 18) O gf_m_M_83_0 d_M_packA_18 ?_
      refine r_iload_n (pc := 21) O d_M_packA_21 2 rfl ?_
      refine r_iald (x := (h.1 25 (ix qv1))) (pc := 22) O rfl d_M_packA_22 rfl ?_
      refine r_iadd (pc := 23) O d_M_packA_23 ?_
      refine r_istore_n (lv' := [(1, .int ((16 * qv0) + (h.1 25 (ix qv1)))), (0, .ref 0), (2, .int qv1)]) (pc := 24) O d_M_packA_24 rfl (by decide) rfl ?_
      refine r_iinc (lv' := [(2, .int (qv1 + 1)), (1, .int ((16 * qv0) + (h.1 25 (ix qv1)))), (0, .ref 0)]) (pc := 25) O d_M_packA_25 2 rfl (congrArg (HAdd.hAdd _) ic_1) (by decide) rfl ?_
      refine r_goto (pc := 28) O d_M_packA_28 (tgt := 7) (by decide) ?_
      exact r_lv [2, 1, 0] rfl (hrec7 (((16 * qv0) + (h.1 25 (ix qv1))), (qv1 + 1)))
  refine r_aload_n (pc := 0) O d_M_packA_0 0 rfl ?_
  refine r_getI (x := (h.1 0 32)) (pc := 1) O gf_m_M_141_0 d_M_packA_1 rfl ?_
  refine r_istore_n (lv' := [(1, .int (h.1 0 32)), (0, .ref 0)]) (pc := 4) O d_M_packA_4 rfl (by decide) rfl ?_
  refine r_iconst (pc := 5) O d_M_packA_5 ic_0 ?_
  refine r_istore_n (lv' := [(2, .int 0), (1, .int (h.1 0 32)), (0, .ref 0)]) (pc := 6) O d_M_packA_6 rfl (by decide) rfl ?_
  exact r_lv [2, 1, 0] rfl (hL7 ((h.1 0 32), 0))
def F_M_packB_62 (n : Nat) (h : sHp) (rec62 : Int32 × Int32 → Option Int32) (q : Int32 × Int32) : Option Int32 :=
  if 2 ≤ q.2 then (some q.1) else (sGd (sIn q.2 2) (sGd (sIn q.2 2) (rec62 ((((64 * q.1) + (16 * (h.1 28 (ix q.2)))) + (h.1 29 (ix q.2))), (q.2 + 1)))))
def F_M_packB_37 (n : Nat) (h : sHp) (rec37 : Int32 × Int32 → Option Int32) (q : Int32 × Int32) : Option Int32 :=
  if 3 ≤ q.2 then (sFx (F_M_packB_62 n h ) n (q.1, 0)) else (sGd (sIn q.2 3) (rec37 (((8 * q.1) + (h.1 27 (ix q.2))), (q.2 + 1))))
def F_M_packB_4 (n : Nat) (h : sHp) (rec4 : Int32 × Int32 → Option Int32) (q : Int32 × Int32) : Option Int32 :=
  if 6 ≤ q.2 then (sFx (F_M_packB_37 n h ) n (q.1, 0)) else (sGd (sIn q.2 6) (if (h.1 26 (ix q.2)) = 0 then (rec4 (((2 * q.1) + 0), (q.2 + 1))) else (rec4 (((2 * q.1) + 1), (q.2 + 1)))))
def J_M_packB (n : Nat)  (h : sHp) : Option Int32 :=
  sFx (F_M_packB_4 n h ) n (0, 0)
set_option maxRecDepth 20000 in
set_option maxHeartbeats 4000000 in
theorem R_M_packB (n : Nat)  (h : sHp) : sM Zm (sPi h) y_M_packB prog_10_method_4_code 3 (some .int) rm_M_packB [.ref 0] h (J_M_packB n  h) := by
  refine sM_of (own := "StoryStatesModel") rfl (by decide) (Nat.le_of_ble_eq_true rfl) (fun M V O => ?_)
  unfold J_M_packB
  refine r_lv (lv' := [(0, .ref 0)]) [0] rfl ?_
  have hL62 : ∀ (q : Int32 × Int32), sS Zm M V (sEb (sPi h)) 62 [(0, .ref 0), (1, .int q.1), (2, .int q.2)] [] h (sFx (F_M_packB_62 n h ) n q) := by
    skip
    refine r_fx (fun q => [(0, .ref 0), (1, .int q.1), (2, .int q.2)]) (fun q => h) (F_M_packB_62 n h ) (fun rec62 hrec62 q => ?_) n
    obtain ⟨qv0, qv1⟩ := q
    show sS Zm M V (sEb (sPi h)) 62 [(0, .ref 0), (1, .int qv0), (2, .int qv1)] [] h _
    unfold F_M_packB_62
    try dsimp only
    refine r_iload_n (pc := 62) O d_M_packB_62 2 rfl ?_
    refine r_iconst (pc := 63) O d_M_packB_63 ic_2 ?_
    refine r_icmp_ge (tgt := 95) (pc := 64) O d_M_packB_64 (by decide) (fun q64 => ?_) (fun q64 => ?_)
    · refine r_iload_n (pc := 95) O d_M_packB_95 1 rfl ?_
      exact r_iret (pc := 96) O rfl d_M_packB_96
    · refine r_bipush (pc := 67) O d_M_packB_67 bc_64 ?_
      refine r_iload_n (pc := 69) O d_M_packB_69 1 rfl ?_
      refine r_imul (pc := 70) O d_M_packB_70 ?_
      refine r_bipush (pc := 71) O d_M_packB_71 bc_16 ?_
      refine r_aload_n (pc := 73) O d_M_packB_73 0 rfl ?_
      refine r_getR (pc := 74) O gf_m_M_92_0 d_M_packB_74 ?_
      refine r_iload_n (pc := 77) O d_M_packB_77 2 rfl ?_
      refine r_iald (x := (h.1 28 (ix qv1))) (pc := 78) O rfl d_M_packB_78 rfl ?_
      refine r_imul (pc := 79) O d_M_packB_79 ?_
      refine r_iadd (pc := 80) O d_M_packB_80 ?_
      refine r_aload_n (pc := 81) O d_M_packB_81 0 rfl ?_
      refine r_getR (pc := 82) O gf_m_M_95_0 d_M_packB_82 ?_
      refine r_iload_n (pc := 85) O d_M_packB_85 2 rfl ?_
      refine r_iald (x := (h.1 29 (ix qv1))) (pc := 86) O rfl d_M_packB_86 rfl ?_
      refine r_iadd (pc := 87) O d_M_packB_87 ?_
      refine r_istore_n (lv' := [(1, .int (((64 * qv0) + (16 * (h.1 28 (ix qv1)))) + (h.1 29 (ix qv1)))), (0, .ref 0), (2, .int qv1)]) (pc := 88) O d_M_packB_88 rfl (by decide) rfl ?_
      refine r_iinc (lv' := [(2, .int (qv1 + 1)), (1, .int (((64 * qv0) + (16 * (h.1 28 (ix qv1)))) + (h.1 29 (ix qv1)))), (0, .ref 0)]) (pc := 89) O d_M_packB_89 2 rfl (congrArg (HAdd.hAdd _) ic_1) (by decide) rfl ?_
      refine r_goto (pc := 92) O d_M_packB_92 (tgt := 62) (by decide) ?_
      exact r_lv [2, 1, 0] rfl (hrec62 ((((64 * qv0) + (16 * (h.1 28 (ix qv1)))) + (h.1 29 (ix qv1))), (qv1 + 1)))
  have hL37 : ∀ (q : Int32 × Int32), sS Zm M V (sEb (sPi h)) 37 [(0, .ref 0), (1, .int q.1), (2, .int q.2)] [] h (sFx (F_M_packB_37 n h ) n q) := by
    skip
    refine r_fx (fun q => [(0, .ref 0), (1, .int q.1), (2, .int q.2)]) (fun q => h) (F_M_packB_37 n h ) (fun rec37 hrec37 q => ?_) n
    obtain ⟨qv0, qv1⟩ := q
    show sS Zm M V (sEb (sPi h)) 37 [(0, .ref 0), (1, .int qv0), (2, .int qv1)] [] h _
    unfold F_M_packB_37
    try dsimp only
    refine r_iload_n (pc := 37) O d_M_packB_37 2 rfl ?_
    refine r_iconst (pc := 38) O d_M_packB_38 ic_3 ?_
    refine r_icmp_ge (tgt := 60) (pc := 39) O d_M_packB_39 (by decide) (fun q39 => ?_) (fun q39 => ?_)
    · refine r_iconst (pc := 60) O d_M_packB_60 ic_0 ?_
      refine r_istore_n (lv' := [(2, .int 0), (0, .ref 0), (1, .int qv0)]) (pc := 61) O d_M_packB_61 rfl (by decide) rfl ?_
      exact r_lv [1, 2, 0] rfl (hL62 (qv0, 0))
    · refine r_bipush (pc := 42) O d_M_packB_42 bc_8 ?_
      refine r_iload_n (pc := 44) O d_M_packB_44 1 rfl ?_
      refine r_imul (pc := 45) O d_M_packB_45 ?_
      refine r_aload_n (pc := 46) O d_M_packB_46 0 rfl ?_
      refine r_getR (pc := 47) O gf_m_M_89_0 d_M_packB_47 ?_
      refine r_iload_n (pc := 50) O d_M_packB_50 2 rfl ?_
      refine r_iald (x := (h.1 27 (ix qv1))) (pc := 51) O rfl d_M_packB_51 rfl ?_
      refine r_iadd (pc := 52) O d_M_packB_52 ?_
      refine r_istore_n (lv' := [(1, .int ((8 * qv0) + (h.1 27 (ix qv1)))), (0, .ref 0), (2, .int qv1)]) (pc := 53) O d_M_packB_53 rfl (by decide) rfl ?_
      refine r_iinc (lv' := [(2, .int (qv1 + 1)), (1, .int ((8 * qv0) + (h.1 27 (ix qv1)))), (0, .ref 0)]) (pc := 54) O d_M_packB_54 2 rfl (congrArg (HAdd.hAdd _) ic_1) (by decide) rfl ?_
      refine r_goto (pc := 57) O d_M_packB_57 (tgt := 37) (by decide) ?_
      exact r_lv [2, 1, 0] rfl (hrec37 (((8 * qv0) + (h.1 27 (ix qv1))), (qv1 + 1)))
  have hL4 : ∀ (q : Int32 × Int32), sS Zm M V (sEb (sPi h)) 4 [(0, .ref 0), (1, .int q.1), (2, .int q.2)] [] h (sFx (F_M_packB_4 n h ) n q) := by
    skip
    refine r_fx (fun q => [(0, .ref 0), (1, .int q.1), (2, .int q.2)]) (fun q => h) (F_M_packB_4 n h ) (fun rec4 hrec4 q => ?_) n
    obtain ⟨qv0, qv1⟩ := q
    show sS Zm M V (sEb (sPi h)) 4 [(0, .ref 0), (1, .int qv0), (2, .int qv1)] [] h _
    unfold F_M_packB_4
    try dsimp only
    refine r_iload_n (pc := 4) O d_M_packB_4 2 rfl ?_
    refine r_bipush (pc := 5) O d_M_packB_5 bc_6 ?_
    refine r_icmp_ge (tgt := 35) (pc := 7) O d_M_packB_7 (by decide) (fun q7 => ?_) (fun q7 => ?_)
    · refine r_iconst (pc := 35) O d_M_packB_35 ic_0 ?_
      refine r_istore_n (lv' := [(2, .int 0), (0, .ref 0), (1, .int qv0)]) (pc := 36) O d_M_packB_36 rfl (by decide) rfl ?_
      exact r_lv [1, 2, 0] rfl (hL37 (qv0, 0))
    · refine r_iconst (pc := 10) O d_M_packB_10 ic_2 ?_
      refine r_iload_n (pc := 11) O d_M_packB_11 1 rfl ?_
      refine r_imul (pc := 12) O d_M_packB_12 ?_
      refine r_aload_n (pc := 13) O d_M_packB_13 0 rfl ?_
      refine r_getR (pc := 14) O gf_m_M_86_0 d_M_packB_14 ?_
      refine r_iload_n (pc := 17) O d_M_packB_17 2 rfl ?_
      refine r_zald (x := (h.1 26 (ix qv1))) (pc := 18) O rfl d_M_packB_18 rfl ?_
      refine r_if_eq (tgt := 26) (pc := 19) O d_M_packB_19 (by decide) (fun q19 => ?_) (fun q19 => ?_)
      · refine r_iconst (pc := 26) O d_M_packB_26 ic_0 ?_
        refine r_iadd (pc := 27) O d_M_packB_27 ?_
        refine r_istore_n (lv' := [(1, .int ((2 * qv0) + 0)), (0, .ref 0), (2, .int qv1)]) (pc := 28) O d_M_packB_28 rfl (by decide) rfl ?_
        refine r_iinc (lv' := [(2, .int (qv1 + 1)), (1, .int ((2 * qv0) + 0)), (0, .ref 0)]) (pc := 29) O d_M_packB_29 2 rfl (congrArg (HAdd.hAdd _) ic_1) (by decide) rfl ?_
        refine r_goto (pc := 32) O d_M_packB_32 (tgt := 4) (by decide) ?_
        exact r_lv [2, 1, 0] rfl (hrec4 (((2 * qv0) + 0), (qv1 + 1)))
      · refine r_iconst (pc := 22) O d_M_packB_22 ic_1 ?_
        refine r_goto (pc := 23) O d_M_packB_23 (tgt := 27) (by decide) ?_
        refine r_iadd (pc := 27) O d_M_packB_27 ?_
        refine r_istore_n (lv' := [(1, .int ((2 * qv0) + 1)), (0, .ref 0), (2, .int qv1)]) (pc := 28) O d_M_packB_28 rfl (by decide) rfl ?_
        refine r_iinc (lv' := [(2, .int (qv1 + 1)), (1, .int ((2 * qv0) + 1)), (0, .ref 0)]) (pc := 29) O d_M_packB_29 2 rfl (congrArg (HAdd.hAdd _) ic_1) (by decide) rfl ?_
        refine r_goto (pc := 32) O d_M_packB_32 (tgt := 4) (by decide) ?_
        exact r_lv [2, 1, 0] rfl (hrec4 (((2 * qv0) + 1), (qv1 + 1)))
  refine r_iconst (pc := 0) O d_M_packB_0 ic_0 ?_
  refine r_istore_n (lv' := [(1, .int 0), (0, .ref 0)]) (pc := 1) O d_M_packB_1 rfl (by decide) rfl ?_
  refine r_iconst (pc := 2) O d_M_packB_2 ic_0 ?_
  refine r_istore_n (lv' := [(2, .int 0), (1, .int 0), (0, .ref 0)]) (pc := 3) O d_M_packB_3 rfl (by decide) rfl ?_
  exact r_lv [2, 1, 0] rfl (hL4 (0, 0))
def F_M_lay_128 (n : Nat) (p1 : Int32) (p2 : Int32) (rec128 : Int32 × Int32 × sHp → Option sHp) (q : Int32 × Int32 × sHp) : Option sHp :=
  if q.2.1 < 0 then (some q.2.2) else (if (jRem q.1 2) = 1 then (sGd (sIn q.2.1 6) (rec128 ((q.1 / 2), (q.2.1 + (-1)), (pI q.2.2 26 (ix q.2.1) 1)))) else (sGd (sIn q.2.1 6) (rec128 ((q.1 / 2), (q.2.1 + (-1)), (pI q.2.2 26 (ix q.2.1) 0)))))
def F_M_lay_98 (n : Nat) (p1 : Int32) (p2 : Int32) (rec98 : Int32 × Int32 × sHp → Option sHp) (q : Int32 × Int32 × sHp) : Option sHp :=
  if q.2.1 < 0 then (sFx (F_M_lay_128 n p1 p2 ) n (q.1, 5, q.2.2)) else (sGd (sIn q.2.1 3) (rec98 ((q.1 / 8), (q.2.1 + (-1)), (pI q.2.2 27 (ix q.2.1) (jRem q.1 8)))))
def F_M_lay_55 (n : Nat) (p1 : Int32) (p2 : Int32) (rec55 : Int32 × Int32 × sHp → Option sHp) (q : Int32 × Int32 × sHp) : Option sHp :=
  if q.2.1 < 0 then (sFx (F_M_lay_98 n p1 p2 ) n (q.1, 2, q.2.2)) else (sGd (sIn q.2.1 2) (sGd (sIn q.2.1 2) (rec55 ((q.1 / 64), (q.2.1 + (-1)), (pI (pI q.2.2 29 (ix q.2.1) (jRem q.1 16)) 28 (ix q.2.1) (jRem (q.1 / 16) 4))))))
def F_M_lay_18 (n : Nat) (p1 : Int32) (p2 : Int32) (rec18 : Int32 × Int32 × sHp → Option sHp) (q : Int32 × Int32 × sHp) : Option sHp :=
  if q.2.1 < 0 then (sFx (F_M_lay_55 n p1 p2 ) n (p2, 1, (pI q.2.2 0 32 q.1))) else (sGd (sIn q.2.1 6) (rec18 ((q.1 / 16), (q.2.1 + (-1)), (pI q.2.2 25 (ix q.2.1) (jRem q.1 16)))))
def J_M_lay (n : Nat) (p1 : Int32) (p2 : Int32) (h : sHp) : Option sHp :=
  sFx (F_M_lay_18 n p1 p2 ) n ((p1 / 8), 5, (pI h 0 38 (jRem p1 8)))
set_option maxRecDepth 20000 in
set_option maxHeartbeats 4000000 in
theorem R_M_lay (n : Nat) (p1 : Int32) (p2 : Int32) (h : sHp) : sM Zm sOv y_M_lay prog_10_method_5_code 5 none rm_M_lay [.ref 0, .int p1, .int p2] h (J_M_lay n p1 p2 h) := by
  refine sM_of (own := "StoryStatesModel") rfl (by decide) (Nat.le_of_ble_eq_true rfl) (fun M V O => ?_)
  unfold J_M_lay
  refine r_lv (lv' := [(0, .ref 0), (1, .int p1), (2, .int p2)]) [0, 1, 2] rfl ?_
  have hL128 : ∀ (q : Int32 × Int32 × sHp), sS Zm M V (sEb sOv) 128 [(0, .ref 0), (3, .int q.1), (4, .int q.2.1)] [] q.2.2 (sFx (F_M_lay_128 n p1 p2 ) n q) := by
    skip
    refine r_fx (fun q => [(0, .ref 0), (3, .int q.1), (4, .int q.2.1)]) (fun q => q.2.2) (F_M_lay_128 n p1 p2 ) (fun rec128 hrec128 q => ?_) n
    obtain ⟨qv0, qv1, qv2⟩ := q
    show sS Zm M V (sEb sOv) 128 [(0, .ref 0), (3, .int qv0), (4, .int qv1)] [] qv2 _
    unfold F_M_lay_128
    try dsimp only
    refine r_iload (pc := 128) O d_M_lay_128 2 rfl ?_
    refine r_if_lt (tgt := 162) (pc := 130) O d_M_lay_130 (by decide) (fun q130 => ?_) (fun q130 => ?_)
    · exact r_vret (pc := 162) O rfl d_M_lay_162
    · refine r_aload_n (pc := 133) O d_M_lay_133 0 rfl ?_
      refine r_getR (pc := 134) O gf_m_M_86_0 d_M_lay_134 ?_
      refine r_iload (pc := 137) O d_M_lay_137 2 rfl ?_
      refine r_iload_n (pc := 139) O d_M_lay_139 1 rfl ?_
      refine r_iconst (pc := 140) O d_M_lay_140 ic_2 ?_
      refine r_irem (pc := 141) O d_M_lay_141 (by decide) ?_
      refine r_iconst (pc := 142) O d_M_lay_142 ic_1 ?_
      refine r_icmp_ne (tgt := 150) (pc := 143) O d_M_lay_143 (by decide) (fun q143 => ?_) (fun q143 => ?_)
      · refine r_iconst (pc := 150) O d_M_lay_150 ic_0 ?_
        refine r_zast (pc := 151) O rfl d_M_lay_151 nz_0 ?_
        refine r_iload_n (pc := 152) O d_M_lay_152 1 rfl ?_
        refine r_iconst (pc := 153) O d_M_lay_153 ic_2 ?_
        refine r_idiv (pc := 154) O d_M_lay_154 (by decide) ?_
        refine r_istore_n (lv' := [(3, .int (qv0 / 2)), (0, .ref 0), (4, .int qv1)]) (pc := 155) O d_M_lay_155 rfl (by decide) rfl ?_
        refine r_iinc (lv' := [(4, .int (qv1 + (-1))), (3, .int (qv0 / 2)), (0, .ref 0)]) (pc := 156) O d_M_lay_156 2 rfl (congrArg (HAdd.hAdd _) ic_m1) (by decide) rfl ?_
        refine r_goto (pc := 159) O d_M_lay_159 (tgt := 128) (by decide) ?_
        exact r_lv [2, 1, 0] rfl (hrec128 ((qv0 / 2), (qv1 + (-1)), (pI qv2 26 (ix qv1) 0)))
      · refine r_iconst (pc := 146) O d_M_lay_146 ic_1 ?_
        refine r_goto (pc := 147) O d_M_lay_147 (tgt := 151) (by decide) ?_
        refine r_zast (pc := 151) O rfl d_M_lay_151 nz_1 ?_
        refine r_iload_n (pc := 152) O d_M_lay_152 1 rfl ?_
        refine r_iconst (pc := 153) O d_M_lay_153 ic_2 ?_
        refine r_idiv (pc := 154) O d_M_lay_154 (by decide) ?_
        refine r_istore_n (lv' := [(3, .int (qv0 / 2)), (0, .ref 0), (4, .int qv1)]) (pc := 155) O d_M_lay_155 rfl (by decide) rfl ?_
        refine r_iinc (lv' := [(4, .int (qv1 + (-1))), (3, .int (qv0 / 2)), (0, .ref 0)]) (pc := 156) O d_M_lay_156 2 rfl (congrArg (HAdd.hAdd _) ic_m1) (by decide) rfl ?_
        refine r_goto (pc := 159) O d_M_lay_159 (tgt := 128) (by decide) ?_
        exact r_lv [2, 1, 0] rfl (hrec128 ((qv0 / 2), (qv1 + (-1)), (pI qv2 26 (ix qv1) 1)))
  have hL98 : ∀ (q : Int32 × Int32 × sHp), sS Zm M V (sEb sOv) 98 [(0, .ref 0), (3, .int q.1), (4, .int q.2.1)] [] q.2.2 (sFx (F_M_lay_98 n p1 p2 ) n q) := by
    skip
    refine r_fx (fun q => [(0, .ref 0), (3, .int q.1), (4, .int q.2.1)]) (fun q => q.2.2) (F_M_lay_98 n p1 p2 ) (fun rec98 hrec98 q => ?_) n
    obtain ⟨qv0, qv1, qv2⟩ := q
    show sS Zm M V (sEb sOv) 98 [(0, .ref 0), (3, .int qv0), (4, .int qv1)] [] qv2 _
    unfold F_M_lay_98
    try dsimp only
    refine r_iload (pc := 98) O d_M_lay_98 2 rfl ?_
    refine r_if_lt (tgt := 125) (pc := 100) O d_M_lay_100 (by decide) (fun q100 => ?_) (fun q100 => ?_)
    · refine r_iconst (pc := 125) O d_M_lay_125 ic_5 ?_
      refine r_istore (lv' := [(4, .int 5), (0, .ref 0), (3, .int qv0)]) (pc := 126) O d_M_lay_126 (by decide) rfl ?_
      exact r_lv [1, 2, 0] rfl (hL128 (qv0, 5, qv2))
    · refine r_aload_n (pc := 103) O d_M_lay_103 0 rfl ?_
      refine r_getR (pc := 104) O gf_m_M_89_0 d_M_lay_104 ?_
      refine r_iload (pc := 107) O d_M_lay_107 2 rfl ?_
      refine r_iload_n (pc := 109) O d_M_lay_109 1 rfl ?_
      refine r_bipush (pc := 110) O d_M_lay_110 bc_8 ?_
      refine r_irem (pc := 112) O d_M_lay_112 (by decide) ?_
      refine r_iast (pc := 113) O rfl d_M_lay_113 ?_
      refine r_iload_n (pc := 114) O d_M_lay_114 1 rfl ?_
      refine r_bipush (pc := 115) O d_M_lay_115 bc_8 ?_
      refine r_idiv (pc := 117) O d_M_lay_117 (by decide) ?_
      refine r_istore_n (lv' := [(3, .int (qv0 / 8)), (0, .ref 0), (4, .int qv1)]) (pc := 118) O d_M_lay_118 rfl (by decide) rfl ?_
      refine r_iinc (lv' := [(4, .int (qv1 + (-1))), (3, .int (qv0 / 8)), (0, .ref 0)]) (pc := 119) O d_M_lay_119 2 rfl (congrArg (HAdd.hAdd _) ic_m1) (by decide) rfl ?_
      refine r_goto (pc := 122) O d_M_lay_122 (tgt := 98) (by decide) ?_
      exact r_lv [2, 1, 0] rfl (hrec98 ((qv0 / 8), (qv1 + (-1)), (pI qv2 27 (ix qv1) (jRem qv0 8))))
  have hL55 : ∀ (q : Int32 × Int32 × sHp), sS Zm M V (sEb sOv) 55 [(0, .ref 0), (3, .int q.1), (4, .int q.2.1)] [] q.2.2 (sFx (F_M_lay_55 n p1 p2 ) n q) := by
    skip
    refine r_fx (fun q => [(0, .ref 0), (3, .int q.1), (4, .int q.2.1)]) (fun q => q.2.2) (F_M_lay_55 n p1 p2 ) (fun rec55 hrec55 q => ?_) n
    obtain ⟨qv0, qv1, qv2⟩ := q
    show sS Zm M V (sEb sOv) 55 [(0, .ref 0), (3, .int qv0), (4, .int qv1)] [] qv2 _
    unfold F_M_lay_55
    try dsimp only
    refine r_iload (pc := 55) O d_M_lay_55 2 rfl ?_
    refine r_if_lt (tgt := 95) (pc := 57) O d_M_lay_57 (by decide) (fun q57 => ?_) (fun q57 => ?_)
    · refine r_iconst (pc := 95) O d_M_lay_95 ic_2 ?_
      refine r_istore (lv' := [(4, .int 2), (0, .ref 0), (3, .int qv0)]) (pc := 96) O d_M_lay_96 (by decide) rfl ?_
      exact r_lv [1, 2, 0] rfl (hL98 (qv0, 2, qv2))
    · refine r_aload_n (pc := 60) O d_M_lay_60 0 rfl ?_
      refine r_getR (pc := 61) O gf_m_M_95_0 d_M_lay_61 ?_
      refine r_iload (pc := 64) O d_M_lay_64 2 rfl ?_
      refine r_iload_n (pc := 66) O d_M_lay_66 1 rfl ?_
      refine r_bipush (pc := 67) O d_M_lay_67 bc_16 ?_
      refine r_irem (pc := 69) O d_M_lay_69 (by decide) ?_
      refine r_iast (pc := 70) O rfl d_M_lay_70 ?_
      refine r_aload_n (pc := 71) O d_M_lay_71 0 rfl ?_
      refine r_getR (pc := 72) O gf_m_M_92_0 d_M_lay_72 ?_
      refine r_iload (pc := 75) O d_M_lay_75 2 rfl ?_
      refine r_iload_n (pc := 77) O d_M_lay_77 1 rfl ?_
      refine r_bipush (pc := 78) O d_M_lay_78 bc_16 ?_
      refine r_idiv (pc := 80) O d_M_lay_80 (by decide) ?_
      refine r_iconst (pc := 81) O d_M_lay_81 ic_4 ?_
      refine r_irem (pc := 82) O d_M_lay_82 (by decide) ?_
      refine r_iast (pc := 83) O rfl d_M_lay_83 ?_
      refine r_iload_n (pc := 84) O d_M_lay_84 1 rfl ?_
      refine r_bipush (pc := 85) O d_M_lay_85 bc_64 ?_
      refine r_idiv (pc := 87) O d_M_lay_87 (by decide) ?_
      refine r_istore_n (lv' := [(3, .int (qv0 / 64)), (0, .ref 0), (4, .int qv1)]) (pc := 88) O d_M_lay_88 rfl (by decide) rfl ?_
      refine r_iinc (lv' := [(4, .int (qv1 + (-1))), (3, .int (qv0 / 64)), (0, .ref 0)]) (pc := 89) O d_M_lay_89 2 rfl (congrArg (HAdd.hAdd _) ic_m1) (by decide) rfl ?_
      refine r_goto (pc := 92) O d_M_lay_92 (tgt := 55) (by decide) ?_
      exact r_lv [2, 1, 0] rfl (hrec55 ((qv0 / 64), (qv1 + (-1)), (pI (pI qv2 29 (ix qv1) (jRem qv0 16)) 28 (ix qv1) (jRem (qv0 / 16) 4))))
  have hL18 : ∀ (q : Int32 × Int32 × sHp), sS Zm M V (sEb sOv) 18 [(0, .ref 0), (2, .int p2), (3, .int q.1), (4, .int q.2.1)] [] q.2.2 (sFx (F_M_lay_18 n p1 p2 ) n q) := by
    skip
    refine r_fx (fun q => [(0, .ref 0), (2, .int p2), (3, .int q.1), (4, .int q.2.1)]) (fun q => q.2.2) (F_M_lay_18 n p1 p2 ) (fun rec18 hrec18 q => ?_) n
    obtain ⟨qv0, qv1, qv2⟩ := q
    show sS Zm M V (sEb sOv) 18 [(0, .ref 0), (2, .int p2), (3, .int qv0), (4, .int qv1)] [] qv2 _
    unfold F_M_lay_18
    try dsimp only
    refine r_iload (pc := 18) O d_M_lay_18 3 rfl ?_
    refine r_if_lt (tgt := 45) (pc := 20) O d_M_lay_20 (by decide) (fun q20 => ?_) (fun q20 => ?_)
    · refine r_aload_n (pc := 45) O d_M_lay_45 0 rfl ?_
      refine r_iload_n (pc := 46) O d_M_lay_46 2 rfl ?_
      refine r_putI (pc := 47) O pf_m_M_141_0 d_M_lay_47 ?_
      refine r_iload_n (pc := 50) O d_M_lay_50 1 rfl ?_
      refine r_istore_n (lv' := [(3, .int p2), (0, .ref 0), (2, .int p2), (4, .int qv1)]) (pc := 51) O d_M_lay_51 rfl (by decide) rfl ?_
      refine r_iconst (pc := 52) O d_M_lay_52 ic_1 ?_
      refine r_istore (lv' := [(4, .int 1), (3, .int p2), (0, .ref 0), (2, .int p2)]) (pc := 53) O d_M_lay_53 (by decide) rfl ?_
      exact r_lv [2, 1, 0] rfl (hL55 (p2, 1, (pI qv2 0 32 qv0)))
    · refine r_aload_n (pc := 23) O d_M_lay_23 0 rfl ?_
      refine r_getR (pc := 24) O gf_m_M_83_0 d_M_lay_24 ?_
      refine r_iload (pc := 27) O d_M_lay_27 3 rfl ?_
      refine r_iload_n (pc := 29) O d_M_lay_29 2 rfl ?_
      refine r_bipush (pc := 30) O d_M_lay_30 bc_16 ?_
      refine r_irem (pc := 32) O d_M_lay_32 (by decide) ?_
      refine r_iast (pc := 33) O rfl d_M_lay_33 ?_
      refine r_iload_n (pc := 34) O d_M_lay_34 2 rfl ?_
      refine r_bipush (pc := 35) O d_M_lay_35 bc_16 ?_
      refine r_idiv (pc := 37) O d_M_lay_37 (by decide) ?_
      refine r_istore_n (lv' := [(3, .int (qv0 / 16)), (0, .ref 0), (2, .int p2), (4, .int qv1)]) (pc := 38) O d_M_lay_38 rfl (by decide) rfl ?_
      refine r_iinc (lv' := [(4, .int (qv1 + (-1))), (3, .int (qv0 / 16)), (0, .ref 0), (2, .int p2)]) (pc := 39) O d_M_lay_39 3 rfl (congrArg (HAdd.hAdd _) ic_m1) (by decide) rfl ?_
      refine r_goto (pc := 42) O d_M_lay_42 (tgt := 18) (by decide) ?_
      exact r_lv [2, 3, 1, 0] rfl (hrec18 ((qv0 / 16), (qv1 + (-1)), (pI qv2 25 (ix qv1) (jRem qv0 16))))
  refine r_iload_n (pc := 0) O d_M_lay_0 1 rfl ?_
  refine r_istore_n (lv' := [(3, .int p1), (0, .ref 0), (1, .int p1), (2, .int p2)]) (pc := 1) O d_M_lay_1 rfl (by decide) rfl ?_
  refine r_aload_n (pc := 2) O d_M_lay_2 1 rfl ?_
  refine r_iload_n (pc := 3) O d_M_lay_3 0 rfl ?_
  refine r_bipush (pc := 4) O d_M_lay_4 bc_8 ?_
  refine r_irem (pc := 6) O d_M_lay_6 (by decide) ?_
  refine r_putI (pc := 7) O pf_m_M_144_0 d_M_lay_7 ?_
  refine r_iload_n (pc := 10) O d_M_lay_10 0 rfl ?_
  refine r_bipush (pc := 11) O d_M_lay_11 bc_8 ?_
  refine r_idiv (pc := 13) O d_M_lay_13 (by decide) ?_
  refine r_istore_n (lv' := [(3, .int (p1 / 8)), (0, .ref 0), (1, .int p1), (2, .int p2)]) (pc := 14) O d_M_lay_14 rfl (by decide) rfl ?_
  refine r_iconst (pc := 15) O d_M_lay_15 ic_5 ?_
  refine r_istore (lv' := [(4, .int 5), (3, .int (p1 / 8)), (0, .ref 0), (1, .int p1), (2, .int p2)]) (pc := 16) O d_M_lay_16 (by decide) rfl ?_
  exact r_lv [2, 4, 1, 0] rfl (hL18 ((p1 / 8), 5, (pI h 0 38 (jRem p1 8))))
def F_M_layFirst_116 (n : Nat) (rec116 : Int32 × sHp → Option sHp) (q : Int32 × sHp) : Option sHp :=
  if 2 ≤ q.1 then (some q.2) else (sGd (sIn q.1 2) (if (q.2.1 0 29) ≤ q.1 then (sGd (sIn q.1 2) (rec116 ((q.1 + 1), (pI (pI q.2 28 (ix q.1) 0) 29 (ix q.1) 0)))) else (sGd (sIn q.1 2) (sGd (sIn q.1 2) (rec116 ((q.1 + 1), (pI (pI q.2 28 (ix q.1) 0) 29 (ix q.1) (q.2.1 24 (ix q.1)))))))))
def F_M_layFirst_79 (n : Nat) (rec79 : Int32 × sHp → Option sHp) (q : Int32 × sHp) : Option sHp :=
  if 3 ≤ q.1 then (sFx (F_M_layFirst_116 n ) n (0, q.2)) else (if (q.2.1 0 7) ≤ q.1 then (sGd (sIn q.1 3) (rec79 ((q.1 + 1), (pI q.2 27 (ix q.1) 0)))) else (sGd (sIn q.1 3) (sGd (sIn q.1 3) (rec79 ((q.1 + 1), (pI q.2 27 (ix q.1) (q.2.1 6 (ix q.1))))))))
def K_M_layFirst_41 (n : Nat) (rec12 : (Int32 × sHp → Option sHp)) (x1 : Int32) (t0 : Int32) (t1 : Int32) (h : sHp) : Option sHp :=
  sGd (sIn t1 6) (if (h.1 0 4) ≤ x1 then (sGd (sIn x1 6) (rec12 ((x1 + 1), (pI (pI h 25 (ix t1) t0) 26 (ix x1) 0)))) else (sGd (sIn x1 6) (if (h.1 3 (ix x1)) < 4 then (sGd (sIn x1 6) (rec12 ((x1 + 1), (pI (pI h 25 (ix t1) t0) 26 (ix x1) 0)))) else (sGd (sIn x1 6) (rec12 ((x1 + 1), (pI (pI h 25 (ix t1) t0) 26 (ix x1) 1)))))))
def F_M_layFirst_12 (n : Nat) (rec12 : Int32 × sHp → Option sHp) (q : Int32 × sHp) : Option sHp :=
  if 6 ≤ q.1 then (sFx (F_M_layFirst_79 n ) n (0, q.2)) else (if (q.2.1 0 4) ≤ q.1 then (K_M_layFirst_41 n rec12 q.1 0 q.1 q.2) else (sGd (sIn q.1 6) (K_M_layFirst_41 n rec12 q.1 (q.2.1 4 (ix q.1)) q.1 q.2)))
def J_M_layFirst (n : Nat)  (h : sHp) : Option sHp :=
  sFx (F_M_layFirst_12 n ) n (0, (pI (pI h 0 32 0) 0 38 0))
set_option maxRecDepth 20000 in
set_option maxHeartbeats 4000000 in
theorem R_M_layFirst (n : Nat)  (h : sHp) : sM Zm sOv y_M_layFirst prog_10_method_6_code 2 none rm_M_layFirst [.ref 0] h (J_M_layFirst n  h) := by
  refine sM_of (own := "StoryStatesModel") rfl (by decide) (Nat.le_of_ble_eq_true rfl) (fun M V O => ?_)
  unfold J_M_layFirst
  refine r_lv (lv' := [(0, .ref 0)]) [0] rfl ?_
  have hL116 : ∀ (q : Int32 × sHp), sS Zm M V (sEb sOv) 116 [(0, .ref 0), (1, .int q.1)] [] q.2 (sFx (F_M_layFirst_116 n ) n q) := by
    skip
    refine r_fx (fun q => [(0, .ref 0), (1, .int q.1)]) (fun q => q.2) (F_M_layFirst_116 n ) (fun rec116 hrec116 q => ?_) n
    obtain ⟨qv0, qv1⟩ := q
    show sS Zm M V (sEb sOv) 116 [(0, .ref 0), (1, .int qv0)] [] qv1 _
    unfold F_M_layFirst_116
    try dsimp only
    refine r_iload_n (pc := 116) O d_M_layFirst_116 1 rfl ?_
    refine r_iconst (pc := 117) O d_M_layFirst_117 ic_2 ?_
    refine r_icmp_ge (tgt := 158) (pc := 118) O d_M_layFirst_118 (by decide) (fun q118 => ?_) (fun q118 => ?_)
    · exact r_vret (pc := 158) O rfl d_M_layFirst_158
    · refine r_aload_n (pc := 121) O d_M_layFirst_121 0 rfl ?_
      refine r_getR (pc := 122) O gf_m_M_92_0 d_M_layFirst_122 ?_
      refine r_iload_n (pc := 125) O d_M_layFirst_125 1 rfl ?_
      refine r_iconst (pc := 126) O d_M_layFirst_126 ic_0 ?_
      refine r_iast (pc := 127) O rfl d_M_layFirst_127 ?_
      refine r_aload_n (pc := 128) O d_M_layFirst_128 0 rfl ?_
      refine r_getR (pc := 129) O gf_m_M_95_0 d_M_layFirst_129 ?_
      refine r_iload_n (pc := 132) O d_M_layFirst_132 1 rfl ?_
      refine r_iload_n (pc := 133) O d_M_layFirst_133 1 rfl ?_
      refine r_aload_n (pc := 134) O d_M_layFirst_134 0 rfl ?_
      refine r_getI (x := (qv1.1 0 29)) (pc := 135) O gf_m_M_153_0 d_M_layFirst_135 rfl ?_
      refine r_icmp_ge (tgt := 150) (pc := 138) O d_M_layFirst_138 (by decide) (fun q138 => ?_) (fun q138 => ?_)
      · refine r_iconst (pc := 150) O d_M_layFirst_150 ic_0 ?_
        refine r_iast (pc := 151) O rfl d_M_layFirst_151 ?_
        refine r_iinc (lv' := [(1, .int (qv0 + 1)), (0, .ref 0)]) (pc := 152) O d_M_layFirst_152 1 rfl (congrArg (HAdd.hAdd _) ic_1) (by decide) rfl ?_
        refine r_goto (pc := 155) O d_M_layFirst_155 (tgt := 116) (by decide) ?_
        exact r_lv [1, 0] rfl (hrec116 ((qv0 + 1), (pI (pI qv1 28 (ix qv0) 0) 29 (ix qv0) 0)))
      · refine r_aload_n (pc := 141) O d_M_layFirst_141 0 rfl ?_
        refine r_getR (pc := 142) O gf_m_M_80_0 d_M_layFirst_142 ?_
        refine r_iload_n (pc := 145) O d_M_layFirst_145 1 rfl ?_
        refine r_iald (x := (qv1.1 24 (ix qv0))) (pc := 146) O rfl d_M_layFirst_146 rfl ?_
        refine r_goto (pc := 147) O d_M_layFirst_147 (tgt := 151) (by decide) ?_
        refine r_iast (pc := 151) O rfl d_M_layFirst_151 ?_
        refine r_iinc (lv' := [(1, .int (qv0 + 1)), (0, .ref 0)]) (pc := 152) O d_M_layFirst_152 1 rfl (congrArg (HAdd.hAdd _) ic_1) (by decide) rfl ?_
        refine r_goto (pc := 155) O d_M_layFirst_155 (tgt := 116) (by decide) ?_
        exact r_lv [1, 0] rfl (hrec116 ((qv0 + 1), (pI (pI qv1 28 (ix qv0) 0) 29 (ix qv0) (qv1.1 24 (ix qv0)))))
  have hL79 : ∀ (q : Int32 × sHp), sS Zm M V (sEb sOv) 79 [(0, .ref 0), (1, .int q.1)] [] q.2 (sFx (F_M_layFirst_79 n ) n q) := by
    skip
    refine r_fx (fun q => [(0, .ref 0), (1, .int q.1)]) (fun q => q.2) (F_M_layFirst_79 n ) (fun rec79 hrec79 q => ?_) n
    obtain ⟨qv0, qv1⟩ := q
    show sS Zm M V (sEb sOv) 79 [(0, .ref 0), (1, .int qv0)] [] qv1 _
    unfold F_M_layFirst_79
    try dsimp only
    refine r_iload_n (pc := 79) O d_M_layFirst_79 1 rfl ?_
    refine r_iconst (pc := 80) O d_M_layFirst_80 ic_3 ?_
    refine r_icmp_ge (tgt := 114) (pc := 81) O d_M_layFirst_81 (by decide) (fun q81 => ?_) (fun q81 => ?_)
    · refine r_iconst (pc := 114) O d_M_layFirst_114 ic_0 ?_
      refine r_istore_n (lv' := [(1, .int 0), (0, .ref 0)]) (pc := 115) O d_M_layFirst_115 rfl (by decide) rfl ?_
      exact r_lv [1, 0] rfl (hL116 (0, qv1))
    · refine r_aload_n (pc := 84) O d_M_layFirst_84 0 rfl ?_
      refine r_getR (pc := 85) O gf_m_M_89_0 d_M_layFirst_85 ?_
      refine r_iload_n (pc := 88) O d_M_layFirst_88 1 rfl ?_
      refine r_iload_n (pc := 89) O d_M_layFirst_89 1 rfl ?_
      refine r_aload_n (pc := 90) O d_M_layFirst_90 0 rfl ?_
      refine r_getI (x := (qv1.1 0 7)) (pc := 91) O gf_m_M_150_0 d_M_layFirst_91 rfl ?_
      refine r_icmp_ge (tgt := 106) (pc := 94) O d_M_layFirst_94 (by decide) (fun q94 => ?_) (fun q94 => ?_)
      · refine r_iconst (pc := 106) O d_M_layFirst_106 ic_0 ?_
        refine r_iast (pc := 107) O rfl d_M_layFirst_107 ?_
        refine r_iinc (lv' := [(1, .int (qv0 + 1)), (0, .ref 0)]) (pc := 108) O d_M_layFirst_108 1 rfl (congrArg (HAdd.hAdd _) ic_1) (by decide) rfl ?_
        refine r_goto (pc := 111) O d_M_layFirst_111 (tgt := 79) (by decide) ?_
        exact r_lv [1, 0] rfl (hrec79 ((qv0 + 1), (pI qv1 27 (ix qv0) 0)))
      · refine r_aload_n (pc := 97) O d_M_layFirst_97 0 rfl ?_
        refine r_getR (pc := 98) O gf_m_M_25_0 d_M_layFirst_98 ?_
        refine r_iload_n (pc := 101) O d_M_layFirst_101 1 rfl ?_
        refine r_iald (x := (qv1.1 6 (ix qv0))) (pc := 102) O rfl d_M_layFirst_102 rfl ?_
        refine r_goto (pc := 103) O d_M_layFirst_103 (tgt := 107) (by decide) ?_
        refine r_iast (pc := 107) O rfl d_M_layFirst_107 ?_
        refine r_iinc (lv' := [(1, .int (qv0 + 1)), (0, .ref 0)]) (pc := 108) O d_M_layFirst_108 1 rfl (congrArg (HAdd.hAdd _) ic_1) (by decide) rfl ?_
        refine r_goto (pc := 111) O d_M_layFirst_111 (tgt := 79) (by decide) ?_
        exact r_lv [1, 0] rfl (hrec79 ((qv0 + 1), (pI qv1 27 (ix qv0) (qv1.1 6 (ix qv0)))))
  have hL12 : ∀ (q : Int32 × sHp), sS Zm M V (sEb sOv) 12 [(0, .ref 0), (1, .int q.1)] [] q.2 (sFx (F_M_layFirst_12 n ) n q) := by
    skip
    refine r_fx (fun q => [(0, .ref 0), (1, .int q.1)]) (fun q => q.2) (F_M_layFirst_12 n ) (fun rec12 hrec12 q => ?_) n
    obtain ⟨qv0, qv1⟩ := q
    show sS Zm M V (sEb sOv) 12 [(0, .ref 0), (1, .int qv0)] [] qv1 _
    unfold F_M_layFirst_12
    try dsimp only
    have hK41 : ∀ (x1 : Int32) (t0 : Int32) (t1 : Int32) (h : sHp), sS Zm M V (sEb sOv) 41 [(0, .ref 0), (1, .int x1)] [.int t0, .int t1, .ref 25] h (K_M_layFirst_41 n rec12 x1 t0 t1 h) := by
      intro x1 t0 t1 h
      unfold K_M_layFirst_41
      refine r_iast (pc := 41) O rfl d_M_layFirst_41 ?_
      refine r_aload_n (pc := 42) O d_M_layFirst_42 0 rfl ?_
      refine r_getR (pc := 43) O gf_m_M_86_0 d_M_layFirst_43 ?_
      refine r_iload_n (pc := 46) O d_M_layFirst_46 1 rfl ?_
      refine r_iload_n (pc := 47) O d_M_layFirst_47 1 rfl ?_
      refine r_aload_n (pc := 48) O d_M_layFirst_48 0 rfl ?_
      refine r_getI (x := (h.1 0 4)) (pc := 49) O gf_m_M_147_0 d_M_layFirst_49 rfl ?_
      refine r_icmp_ge (tgt := 69) (pc := 52) O d_M_layFirst_52 (by decide) (fun q52 => ?_) (fun q52 => ?_)
      · refine r_iconst (pc := 69) O d_M_layFirst_69 ic_0 ?_
        refine r_zast (pc := 70) O rfl d_M_layFirst_70 nz_0 ?_
        refine r_iinc (lv' := [(1, .int (x1 + 1)), (0, .ref 0)]) (pc := 71) O d_M_layFirst_71 1 rfl (congrArg (HAdd.hAdd _) ic_1) (by decide) rfl ?_
        refine r_goto (pc := 74) O d_M_layFirst_74 (tgt := 12) (by decide) ?_
        exact r_lv [1, 0] rfl (hrec12 ((x1 + 1), (pI (pI h 25 (ix t1) t0) 26 (ix x1) 0)))
      · refine r_aload_n (pc := 55) O d_M_layFirst_55 0 rfl ?_
        refine r_getR (pc := 56) O gf_m_M_16_0 d_M_layFirst_56 ?_
        refine r_iload_n (pc := 59) O d_M_layFirst_59 1 rfl ?_
        refine r_iald (x := (h.1 3 (ix x1))) (pc := 60) O rfl d_M_layFirst_60 rfl ?_
        refine r_iconst (pc := 61) O d_M_layFirst_61 ic_4 ?_
        refine r_icmp_lt (tgt := 69) (pc := 62) O d_M_layFirst_62 (by decide) (fun q62 => ?_) (fun q62 => ?_)
        · refine r_iconst (pc := 69) O d_M_layFirst_69 ic_0 ?_
          refine r_zast (pc := 70) O rfl d_M_layFirst_70 nz_0 ?_
          refine r_iinc (lv' := [(1, .int (x1 + 1)), (0, .ref 0)]) (pc := 71) O d_M_layFirst_71 1 rfl (congrArg (HAdd.hAdd _) ic_1) (by decide) rfl ?_
          refine r_goto (pc := 74) O d_M_layFirst_74 (tgt := 12) (by decide) ?_
          exact r_lv [1, 0] rfl (hrec12 ((x1 + 1), (pI (pI h 25 (ix t1) t0) 26 (ix x1) 0)))
        · refine r_iconst (pc := 65) O d_M_layFirst_65 ic_1 ?_
          refine r_goto (pc := 66) O d_M_layFirst_66 (tgt := 70) (by decide) ?_
          refine r_zast (pc := 70) O rfl d_M_layFirst_70 nz_1 ?_
          refine r_iinc (lv' := [(1, .int (x1 + 1)), (0, .ref 0)]) (pc := 71) O d_M_layFirst_71 1 rfl (congrArg (HAdd.hAdd _) ic_1) (by decide) rfl ?_
          refine r_goto (pc := 74) O d_M_layFirst_74 (tgt := 12) (by decide) ?_
          exact r_lv [1, 0] rfl (hrec12 ((x1 + 1), (pI (pI h 25 (ix t1) t0) 26 (ix x1) 1)))
    refine r_iload_n (pc := 12) O d_M_layFirst_12 1 rfl ?_
    refine r_bipush (pc := 13) O d_M_layFirst_13 bc_6 ?_
    refine r_icmp_ge (tgt := 77) (pc := 15) O d_M_layFirst_15 (by decide) (fun q15 => ?_) (fun q15 => ?_)
    · refine r_iconst (pc := 77) O d_M_layFirst_77 ic_0 ?_
      refine r_istore_n (lv' := [(1, .int 0), (0, .ref 0)]) (pc := 78) O d_M_layFirst_78 rfl (by decide) rfl ?_
      exact r_lv [1, 0] rfl (hL79 (0, qv1))
    · refine r_aload_n (pc := 18) O d_M_layFirst_18 0 rfl ?_
      refine r_getR (pc := 19) O gf_m_M_83_0 d_M_layFirst_19 ?_
      refine r_iload_n (pc := 22) O d_M_layFirst_22 1 rfl ?_
      refine r_iload_n (pc := 23) O d_M_layFirst_23 1 rfl ?_
      refine r_aload_n (pc := 24) O d_M_layFirst_24 0 rfl ?_
      refine r_getI (x := (qv1.1 0 4)) (pc := 25) O gf_m_M_147_0 d_M_layFirst_25 rfl ?_
      refine r_icmp_ge (tgt := 40) (pc := 28) O d_M_layFirst_28 (by decide) (fun q28 => ?_) (fun q28 => ?_)
      · refine r_iconst (pc := 40) O d_M_layFirst_40 ic_0 ?_
        exact (hK41 qv0 0 qv0 qv1)
      · refine r_aload_n (pc := 31) O d_M_layFirst_31 0 rfl ?_
        refine r_getR (pc := 32) O gf_m_M_19_0 d_M_layFirst_32 ?_
        refine r_iload_n (pc := 35) O d_M_layFirst_35 1 rfl ?_
        refine r_iald (x := (qv1.1 4 (ix qv0))) (pc := 36) O rfl d_M_layFirst_36 rfl ?_
        refine r_goto (pc := 37) O d_M_layFirst_37 (tgt := 41) (by decide) ?_
        exact (hK41 qv0 (qv1.1 4 (ix qv0)) qv0 qv1)
  refine r_aload_n (pc := 0) O d_M_layFirst_0 0 rfl ?_
  refine r_iconst (pc := 1) O d_M_layFirst_1 ic_0 ?_
  refine r_putI (pc := 2) O pf_m_M_141_0 d_M_layFirst_2 ?_
  refine r_aload_n (pc := 5) O d_M_layFirst_5 0 rfl ?_
  refine r_iconst (pc := 6) O d_M_layFirst_6 ic_0 ?_
  refine r_putI (pc := 7) O pf_m_M_144_0 d_M_layFirst_7 ?_
  refine r_iconst (pc := 10) O d_M_layFirst_10 ic_0 ?_
  refine r_istore_n (lv' := [(1, .int 0), (0, .ref 0)]) (pc := 11) O d_M_layFirst_11 rfl (by decide) rfl ?_
  exact r_lv [1, 0] rfl (hL12 (0, (pI (pI h 0 32 0) 0 38 0)))
def J_M_restart (n : Nat)  (h : sHp) : Option sHp :=
  (J_M_layFirst n h).bind fun v1 =>
  (J_M_packA n v1).bind fun v6 =>
  (J_M_packB n (pI v1 0 42 v6)).bind fun v14 =>
  some (pI (pI (pI (pI v1 0 42 v6) 0 43 v14) 0 44 0) 0 47 0)
set_option maxRecDepth 20000 in
set_option maxHeartbeats 4000000 in
theorem R_M_restart (n : Nat)  (h : sHp) : sM Zm sOv y_M_restart prog_10_method_7_code 1 none rm_M_restart [.ref 0] h (J_M_restart n  h) := by
  refine sM_of (own := "StoryStatesModel") rfl (by decide) (Nat.le_of_ble_eq_true rfl) (fun M V O => ?_)
  unfold J_M_restart
  refine r_lv (lv' := [(0, .ref 0)]) [0] rfl ?_
  refine r_aload_n (pc := 0) O d_M_restart_0 0 rfl ?_
  refine r_callVv (pc := 1) O [] rfl rfl (R_M_layFirst n  h) cw_M_restart_1 wm_908 ws_M_layFirst rfl (Nat.le_of_ble_eq_true rfl) d_M_restart_1 rfl (fun v1 => ?_)
  refine r_aload_n (pc := 4) O d_M_restart_4 0 rfl ?_
  refine r_aload_n (pc := 5) O d_M_restart_5 0 rfl ?_
  refine r_callVip (pc := 6) O [] rfl rfl (R_M_packA n  v1) cw_M_restart_6 wm_912 ws_M_packA rfl (Nat.le_of_ble_eq_true rfl) d_M_restart_6 rfl (fun v6 => ?_)
  refine r_putI (pc := 9) O pf_m_M_163_0 d_M_restart_9 ?_
  refine r_aload_n (pc := 12) O d_M_restart_12 0 rfl ?_
  refine r_aload_n (pc := 13) O d_M_restart_13 0 rfl ?_
  refine r_callVip (pc := 14) O [] rfl rfl (R_M_packB n  (pI v1 0 42 v6)) cw_M_restart_14 wm_916 ws_M_packB rfl (Nat.le_of_ble_eq_true rfl) d_M_restart_14 rfl (fun v14 => ?_)
  refine r_putI (pc := 17) O pf_m_M_169_0 d_M_restart_17 ?_
  refine r_aload_n (pc := 20) O d_M_restart_20 0 rfl ?_
  refine r_iconst (pc := 21) O d_M_restart_21 ic_0 ?_
  refine r_putI (pc := 22) O pf_m_M_172_0 d_M_restart_22 ?_
  refine r_aload_n (pc := 25) O d_M_restart_25 0 rfl ?_
  refine r_iconst (pc := 26) O d_M_restart_26 ic_0 ?_
  refine r_putI (pc := 27) O pf_m_M_175_0 d_M_restart_27 ?_
  exact r_vret (pc := 30) O rfl d_M_restart_30
def F_M_insert_66 (n : Nat) (p1 : Int32) (p2 : Int32) (p3 : Int32) (p4 : Int32) (p5 : Int32) (p6 : Int32) (rec66 : Int32 × sHp → Option sHp) (q : Int32 × sHp) : Option sHp :=
  if 5 ≤ q.1 then (some (pI q.2 0 49 ((q.2.1 0 49) + 1))) else (sGd (sIn ((5 * (q.2.1 0 49)) + q.1) 800) (rec66 ((q.1 + 1), (pI q.2 40 (ix ((5 * (q.2.1 0 49)) + q.1)) 0))))
def J_M_insert (n : Nat) (p1 : Int32) (p2 : Int32) (p3 : Int32) (p4 : Int32) (p5 : Int32) (p6 : Int32) (h : sHp) : Option sHp :=
  sGd (sIn (h.1 0 49) 160) (sGd (sIn (h.1 0 49) 160) (sGd (sIn (h.1 0 49) 160) (sGd (sIn (h.1 0 49) 160) (sGd (sIn (h.1 0 49) 160) (sGd (sIn (h.1 0 49) 160) (sFx (F_M_insert_66 n p1 p2 p3 p4 p5 p6 ) n (0, (pI (pI (pI (pI (pI (pI h 34 (ix (h.1 0 49)) p1) 35 (ix (h.1 0 49)) p2) 36 (ix (h.1 0 49)) p3) 37 (ix (h.1 0 49)) p4) 38 (ix (h.1 0 49)) p5) 39 (ix (h.1 0 49)) p6))))))))
set_option maxRecDepth 20000 in
set_option maxHeartbeats 4000000 in
theorem R_M_insert (n : Nat) (p1 : Int32) (p2 : Int32) (p3 : Int32) (p4 : Int32) (p5 : Int32) (p6 : Int32) (h : sHp) : sM Zm sOv y_M_insert prog_10_method_42_code 8 none rm_M_insert [.ref 0, .int p1, .int p2, .int p3, .int p4, .int p5, .int p6] h (J_M_insert n p1 p2 p3 p4 p5 p6 h) := by
  refine sM_of (own := "StoryStatesModel") rfl (by decide) (Nat.le_of_ble_eq_true rfl) (fun M V O => ?_)
  unfold J_M_insert
  refine r_lv (lv' := [(0, .ref 0), (1, .int p1), (2, .int p2), (3, .int p3), (4, .int p4), (5, .int p5), (6, .int p6)]) [0, 1, 2, 3, 4, 5, 6] rfl ?_
  have hL66 : ∀ (q : Int32 × sHp), sS Zm M V (sEb sOv) 66 [(0, .ref 0), (7, .int q.1)] [] q.2 (sFx (F_M_insert_66 n p1 p2 p3 p4 p5 p6 ) n q) := by
    skip
    refine r_fx (fun q => [(0, .ref 0), (7, .int q.1)]) (fun q => q.2) (F_M_insert_66 n p1 p2 p3 p4 p5 p6 ) (fun rec66 hrec66 q => ?_) n
    obtain ⟨qv0, qv1⟩ := q
    show sS Zm M V (sEb sOv) 66 [(0, .ref 0), (7, .int qv0)] [] qv1 _
    unfold F_M_insert_66
    try dsimp only
    refine r_iload (pc := 66) O d_M_insert_66 1 rfl ?_
    refine r_iconst (pc := 68) O d_M_insert_68 ic_5 ?_
    refine r_icmp_ge (tgt := 93) (pc := 69) O d_M_insert_69 (by decide) (fun q69 => ?_) (fun q69 => ?_)
    · refine r_aload_n (pc := 93) O d_M_insert_93 0 rfl ?_
      refine r_dup (pc := 94) O d_M_insert_94 rfl ?_
      refine r_getI (x := (qv1.1 0 49)) (pc := 95) O gf_m_M_181_0 d_M_insert_95 rfl ?_
      refine r_iconst (pc := 98) O d_M_insert_98 ic_1 ?_
      refine r_iadd (pc := 99) O d_M_insert_99 ?_
      refine r_putI (pc := 100) O pf_m_M_181_0 d_M_insert_100 ?_
      exact r_vret (pc := 103) O rfl d_M_insert_103
    · refine r_aload_n (pc := 72) O d_M_insert_72 0 rfl ?_
      refine r_getR (pc := 73) O gf_m_M_128_0 d_M_insert_73 ?_
      refine r_iconst (pc := 76) O d_M_insert_76 ic_5 ?_
      refine r_aload_n (pc := 77) O d_M_insert_77 0 rfl ?_
      refine r_getI (x := (qv1.1 0 49)) (pc := 78) O gf_m_M_181_0 d_M_insert_78 rfl ?_
      refine r_imul (pc := 81) O d_M_insert_81 ?_
      refine r_iload (pc := 82) O d_M_insert_82 1 rfl ?_
      refine r_iadd (pc := 84) O d_M_insert_84 ?_
      refine r_iconst (pc := 85) O d_M_insert_85 ic_0 ?_
      refine r_iast (pc := 86) O rfl d_M_insert_86 ?_
      refine r_iinc (lv' := [(7, .int (qv0 + 1)), (0, .ref 0)]) (pc := 87) O d_M_insert_87 1 rfl (congrArg (HAdd.hAdd _) ic_1) (by decide) rfl ?_
      refine r_goto (pc := 90) O d_M_insert_90 (tgt := 66) (by decide) ?_
      exact r_lv [1, 0] rfl (hrec66 ((qv0 + 1), (pI qv1 40 (ix ((5 * (qv1.1 0 49)) + qv0)) 0)))
  refine r_aload_n (pc := 0) O d_M_insert_0 0 rfl ?_
  refine r_getR (pc := 1) O gf_m_M_110_0 d_M_insert_1 ?_
  refine r_aload_n (pc := 4) O d_M_insert_4 0 rfl ?_
  refine r_getI (x := (h.1 0 49)) (pc := 5) O gf_m_M_181_0 d_M_insert_5 rfl ?_
  refine r_iload_n (pc := 8) O d_M_insert_8 1 rfl ?_
  refine r_iast (pc := 9) O rfl d_M_insert_9 ?_
  refine r_aload_n (pc := 10) O d_M_insert_10 0 rfl ?_
  refine r_getR (pc := 11) O gf_m_M_113_0 d_M_insert_11 ?_
  refine r_aload_n (pc := 14) O d_M_insert_14 0 rfl ?_
  refine r_getI (x := (h.1 0 49)) (pc := 15) O gf_m_M_181_0 d_M_insert_15 rfl ?_
  refine r_iload_n (pc := 18) O d_M_insert_18 2 rfl ?_
  refine r_iast (pc := 19) O rfl d_M_insert_19 ?_
  refine r_aload_n (pc := 20) O d_M_insert_20 0 rfl ?_
  refine r_getR (pc := 21) O gf_m_M_116_0 d_M_insert_21 ?_
  refine r_aload_n (pc := 24) O d_M_insert_24 0 rfl ?_
  refine r_getI (x := (h.1 0 49)) (pc := 25) O gf_m_M_181_0 d_M_insert_25 rfl ?_
  refine r_iload_n (pc := 28) O d_M_insert_28 3 rfl ?_
  refine r_iast (pc := 29) O rfl d_M_insert_29 ?_
  refine r_aload_n (pc := 30) O d_M_insert_30 0 rfl ?_
  refine r_getR (pc := 31) O gf_m_M_119_0 d_M_insert_31 ?_
  refine r_aload_n (pc := 34) O d_M_insert_34 0 rfl ?_
  refine r_getI (x := (h.1 0 49)) (pc := 35) O gf_m_M_181_0 d_M_insert_35 rfl ?_
  refine r_iload (pc := 38) O d_M_insert_38 4 rfl ?_
  refine r_iast (pc := 40) O rfl d_M_insert_40 ?_
  refine r_aload_n (pc := 41) O d_M_insert_41 0 rfl ?_
  refine r_getR (pc := 42) O gf_m_M_122_0 d_M_insert_42 ?_
  refine r_aload_n (pc := 45) O d_M_insert_45 0 rfl ?_
  refine r_getI (x := (h.1 0 49)) (pc := 46) O gf_m_M_181_0 d_M_insert_46 rfl ?_
  refine r_iload (pc := 49) O d_M_insert_49 5 rfl ?_
  refine r_iast (pc := 51) O rfl d_M_insert_51 ?_
  refine r_aload_n (pc := 52) O d_M_insert_52 0 rfl ?_
  refine r_getR (pc := 53) O gf_m_M_125_0 d_M_insert_53 ?_
  refine r_aload_n (pc := 56) O d_M_insert_56 0 rfl ?_
  refine r_getI (x := (h.1 0 49)) (pc := 57) O gf_m_M_181_0 d_M_insert_57 rfl ?_
  refine r_iload (pc := 60) O d_M_insert_60 6 rfl ?_
  refine r_iast (pc := 62) O rfl d_M_insert_62 ?_
  refine r_iconst (pc := 63) O d_M_insert_63 ic_0 ?_
  refine r_istore (lv' := [(7, .int 0), (0, .ref 0), (1, .int p1), (2, .int p2), (3, .int p3), (4, .int p4), (5, .int p5), (6, .int p6)]) (pc := 64) O d_M_insert_64 (by decide) rfl ?_
  exact r_lv [1, 0] rfl (hL66 (0, (pI (pI (pI (pI (pI (pI h 34 (ix (h.1 0 49)) p1) 35 (ix (h.1 0 49)) p2) 36 (ix (h.1 0 49)) p3) 37 (ix (h.1 0 49)) p4) 38 (ix (h.1 0 49)) p5) 39 (ix (h.1 0 49)) p6)))
def J_M_renew (n : Nat)  (h : sHp) : Option sHp :=
  (J_M_restart n h).bind fun v1 =>
  (J_M_insert n (v1.1 0 42) (v1.1 0 43) (-1) 0 0 0 (pI (pI (pI (pI v1 0 49 0) 0 50 0) 0 51 0) 0 41 0)).bind fun v37 =>
  some v37
set_option maxRecDepth 20000 in
set_option maxHeartbeats 4000000 in
theorem R_M_renew (n : Nat)  (h : sHp) : sM Zm sOv y_M_renew prog_10_method_8_code 1 none rm_M_renew [.ref 0] h (J_M_renew n  h) := by
  refine sM_of (own := "StoryStatesModel") rfl (by decide) (Nat.le_of_ble_eq_true rfl) (fun M V O => ?_)
  unfold J_M_renew
  refine r_lv (lv' := [(0, .ref 0)]) [0] rfl ?_
  refine r_aload_n (pc := 0) O d_M_renew_0 0 rfl ?_
  refine r_callVv (pc := 1) O [] rfl rfl (R_M_restart n  h) cw_M_renew_1 wm_904 ws_M_restart rfl (Nat.le_of_ble_eq_true rfl) d_M_renew_1 rfl (fun v1 => ?_)
  refine r_aload_n (pc := 4) O d_M_renew_4 0 rfl ?_
  refine r_iconst (pc := 5) O d_M_renew_5 ic_0 ?_
  refine r_putI (pc := 6) O pf_m_M_181_0 d_M_renew_6 ?_
  refine r_aload_n (pc := 9) O d_M_renew_9 0 rfl ?_
  refine r_iconst (pc := 10) O d_M_renew_10 ic_0 ?_
  refine r_putI (pc := 11) O pf_m_M_184_0 d_M_renew_11 ?_
  refine r_aload_n (pc := 14) O d_M_renew_14 0 rfl ?_
  refine r_iconst (pc := 15) O d_M_renew_15 ic_0 ?_
  refine r_putZ (pc := 16) O pf_m_M_187_0 d_M_renew_16 nb_0 rfl ?_
  refine r_aload_n (pc := 19) O d_M_renew_19 0 rfl ?_
  refine r_iconst (pc := 20) O d_M_renew_20 ic_0 ?_
  refine r_putI (pc := 21) O pf_m_M_191_0 d_M_renew_21 ?_
  refine r_aload_n (pc := 24) O d_M_renew_24 0 rfl ?_
  refine r_aload_n (pc := 25) O d_M_renew_25 0 rfl ?_
  refine r_getI (x := (v1.1 0 42)) (pc := 26) O gf_m_M_163_0 d_M_renew_26 rfl ?_
  refine r_aload_n (pc := 29) O d_M_renew_29 0 rfl ?_
  refine r_getI (x := (v1.1 0 43)) (pc := 30) O gf_m_M_169_0 d_M_renew_30 rfl ?_
  refine r_iconst (pc := 33) O d_M_renew_33 ic_m1 ?_
  refine r_iconst (pc := 34) O d_M_renew_34 ic_0 ?_
  refine r_iconst (pc := 35) O d_M_renew_35 ic_0 ?_
  refine r_iconst (pc := 36) O d_M_renew_36 ic_0 ?_
  refine r_callVv (pc := 37) O [.int (v1.1 0 42), .int (v1.1 0 43), .int (-1), .int 0, .int 0, .int 0] rfl rfl (R_M_insert n (v1.1 0 42) (v1.1 0 43) (-1) 0 0 0 (pI (pI (pI (pI v1 0 49 0) 0 50 0) 0 51 0) 0 41 0)) cw_M_renew_37 wm_920 ws_M_insert rfl (Nat.le_of_ble_eq_true rfl) d_M_renew_37 rfl (fun v37 => ?_)
  exact r_vret (pc := 40) O rfl d_M_renew_40
def J_M_noRoom (n : Nat) (p1 : Int32) (h : sHp) : Option Int32 :=
  if p1 < 0 then (some 1) else (if p1 < (h.1 0 1) then (some 0) else (some 1))
set_option maxRecDepth 20000 in
set_option maxHeartbeats 4000000 in
theorem R_M_noRoom (n : Nat) (p1 : Int32) (h : sHp) : sM Zm (sPi h) y_M_noRoom prog_10_method_9_code 2 (some .boolean) rm_M_noRoom [.ref 0, .int p1] h (J_M_noRoom n p1 h) := by
  refine sM_of (own := "StoryStatesModel") rfl (by decide) (Nat.le_of_ble_eq_true rfl) (fun M V O => ?_)
  unfold J_M_noRoom
  refine r_lv (lv' := [(0, .ref 0), (1, .int p1)]) [0, 1] rfl ?_
  refine r_iload_n (pc := 0) O d_M_noRoom_0 1 rfl ?_
  refine r_if_lt (tgt := 12) (pc := 1) O d_M_noRoom_1 (by decide) (fun q1 => ?_) (fun q1 => ?_)
  · refine r_iconst (pc := 12) O d_M_noRoom_12 ic_1 ?_
    refine r_goto (pc := 13) O d_M_noRoom_13 (tgt := 17) (by decide) ?_
    exact r_zret (pc := 17) O rfl d_M_noRoom_17 nb_1
  · refine r_iload_n (pc := 4) O d_M_noRoom_4 1 rfl ?_
    refine r_aload_n (pc := 5) O d_M_noRoom_5 0 rfl ?_
    refine r_getI (x := (h.1 0 1)) (pc := 6) O gf_m_M_198_0 d_M_noRoom_6 rfl ?_
    refine r_icmp_lt (tgt := 16) (pc := 9) O d_M_noRoom_9 (by decide) (fun q9 => ?_) (fun q9 => ?_)
    · refine r_iconst (pc := 16) O d_M_noRoom_16 ic_0 ?_
      exact r_zret (pc := 17) O rfl d_M_noRoom_17 nb_0
    · refine r_iconst (pc := 12) O d_M_noRoom_12 ic_1 ?_
      refine r_goto (pc := 13) O d_M_noRoom_13 (tgt := 17) (by decide) ?_
      exact r_zret (pc := 17) O rfl d_M_noRoom_17 nb_1
def J_M_noThing (n : Nat) (p1 : Int32) (h : sHp) : Option Int32 :=
  if p1 < 0 then (some 1) else (if p1 < (h.1 0 4) then (some 0) else (some 1))
set_option maxRecDepth 20000 in
set_option maxHeartbeats 4000000 in
theorem R_M_noThing (n : Nat) (p1 : Int32) (h : sHp) : sM Zm (sPi h) y_M_noThing prog_10_method_10_code 2 (some .boolean) rm_M_noThing [.ref 0, .int p1] h (J_M_noThing n p1 h) := by
  refine sM_of (own := "StoryStatesModel") rfl (by decide) (Nat.le_of_ble_eq_true rfl) (fun M V O => ?_)
  unfold J_M_noThing
  refine r_lv (lv' := [(0, .ref 0), (1, .int p1)]) [0, 1] rfl ?_
  refine r_iload_n (pc := 0) O d_M_noThing_0 1 rfl ?_
  refine r_if_lt (tgt := 12) (pc := 1) O d_M_noThing_1 (by decide) (fun q1 => ?_) (fun q1 => ?_)
  · refine r_iconst (pc := 12) O d_M_noThing_12 ic_1 ?_
    refine r_goto (pc := 13) O d_M_noThing_13 (tgt := 17) (by decide) ?_
    exact r_zret (pc := 17) O rfl d_M_noThing_17 nb_1
  · refine r_iload_n (pc := 4) O d_M_noThing_4 1 rfl ?_
    refine r_aload_n (pc := 5) O d_M_noThing_5 0 rfl ?_
    refine r_getI (x := (h.1 0 4)) (pc := 6) O gf_m_M_147_0 d_M_noThing_6 rfl ?_
    refine r_icmp_lt (tgt := 16) (pc := 9) O d_M_noThing_9 (by decide) (fun q9 => ?_) (fun q9 => ?_)
    · refine r_iconst (pc := 16) O d_M_noThing_16 ic_0 ?_
      exact r_zret (pc := 17) O rfl d_M_noThing_17 nb_0
    · refine r_iconst (pc := 12) O d_M_noThing_12 ic_1 ?_
      refine r_goto (pc := 13) O d_M_noThing_13 (tgt := 17) (by decide) ?_
      exact r_zret (pc := 17) O rfl d_M_noThing_17 nb_1
def J_M_noPlace (n : Nat) (p1 : Int32) (h : sHp) : Option Int32 :=
  if 6 ≤ p1 then (if p1 ≤ 6 then (some 0) else ((J_M_noThing n (p1 - 7) h).bind fun v25 =>
  if v25 = 0 then (some 0) else (some 1))) else ((J_M_noRoom n p1 h).bind fun v8 =>
  sGd (jB v8) (some v8))
set_option maxRecDepth 20000 in
set_option maxHeartbeats 4000000 in
theorem R_M_noPlace (n : Nat) (p1 : Int32) (h : sHp) : sM Zm (sPi h) y_M_noPlace prog_10_method_11_code 2 (some .boolean) rm_M_noPlace [.ref 0, .int p1] h (J_M_noPlace n p1 h) := by
  refine sM_of (own := "StoryStatesModel") rfl (by decide) (Nat.le_of_ble_eq_true rfl) (fun M V O => ?_)
  unfold J_M_noPlace
  refine r_lv (lv' := [(0, .ref 0), (1, .int p1)]) [0, 1] rfl ?_
  refine r_iload_n (pc := 0) O d_M_noPlace_0 1 rfl ?_
  refine r_bipush (pc := 1) O d_M_noPlace_1 bc_6 ?_
  refine r_icmp_ge (tgt := 14) (pc := 3) O d_M_noPlace_3 (by decide) (fun q3 => ?_) (fun q3 => ?_)
  · refine r_iload_n (pc := 14) O d_M_noPlace_14 1 rfl ?_
    refine r_bipush (pc := 15) O d_M_noPlace_15 bc_6 ?_
    refine r_icmp_le (tgt := 35) (pc := 17) O d_M_noPlace_17 (by decide) (fun q17 => ?_) (fun q17 => ?_)
    · refine r_iconst (pc := 35) O d_M_noPlace_35 ic_0 ?_
      exact r_zret (pc := 36) O rfl d_M_noPlace_36 nb_0
    · refine r_aload_n (pc := 20) O d_M_noPlace_20 0 rfl ?_
      refine r_iload_n (pc := 21) O d_M_noPlace_21 1 rfl ?_
      refine r_bipush (pc := 22) O d_M_noPlace_22 bc_7 ?_
      refine r_isub (pc := 24) O d_M_noPlace_24 ?_
      refine r_callVip (pc := 25) O [.int (p1 - 7)] rfl rfl (R_M_noThing n (p1 - 7) h) cw_M_noPlace_25 wm_1125 ws_M_noThing rfl (Nat.le_of_ble_eq_true rfl) d_M_noPlace_25 rfl (fun v25 => ?_)
      refine r_if_eq (tgt := 35) (pc := 28) O d_M_noPlace_28 (by decide) (fun q28 => ?_) (fun q28 => ?_)
      · refine r_iconst (pc := 35) O d_M_noPlace_35 ic_0 ?_
        exact r_zret (pc := 36) O rfl d_M_noPlace_36 nb_0
      · refine r_iconst (pc := 31) O d_M_noPlace_31 ic_1 ?_
        refine r_goto (pc := 32) O d_M_noPlace_32 (tgt := 36) (by decide) ?_
        exact r_zret (pc := 36) O rfl d_M_noPlace_36 nb_1
  · refine r_aload_n (pc := 6) O d_M_noPlace_6 0 rfl ?_
    refine r_iload_n (pc := 7) O d_M_noPlace_7 1 rfl ?_
    refine r_callVip (pc := 8) O [.int p1] rfl rfl (R_M_noRoom n p1 h) cw_M_noPlace_8 wm_1121 ws_M_noRoom rfl (Nat.le_of_ble_eq_true rfl) d_M_noPlace_8 rfl (fun v8 => ?_)
    refine r_goto (pc := 11) O d_M_noPlace_11 (tgt := 36) (by decide) ?_
    exact r_zretg (pc := 36) O rfl d_M_noPlace_36
def J_M_noNumber (n : Nat) (p1 : Int32) (h : sHp) : Option Int32 :=
  if p1 < 0 then (some 1) else (if p1 < (h.1 0 7) then (some 0) else (some 1))
set_option maxRecDepth 20000 in
set_option maxHeartbeats 4000000 in
theorem R_M_noNumber (n : Nat) (p1 : Int32) (h : sHp) : sM Zm (sPi h) y_M_noNumber prog_10_method_12_code 2 (some .boolean) rm_M_noNumber [.ref 0, .int p1] h (J_M_noNumber n p1 h) := by
  refine sM_of (own := "StoryStatesModel") rfl (by decide) (Nat.le_of_ble_eq_true rfl) (fun M V O => ?_)
  unfold J_M_noNumber
  refine r_lv (lv' := [(0, .ref 0), (1, .int p1)]) [0, 1] rfl ?_
  refine r_iload_n (pc := 0) O d_M_noNumber_0 1 rfl ?_
  refine r_if_lt (tgt := 12) (pc := 1) O d_M_noNumber_1 (by decide) (fun q1 => ?_) (fun q1 => ?_)
  · refine r_iconst (pc := 12) O d_M_noNumber_12 ic_1 ?_
    refine r_goto (pc := 13) O d_M_noNumber_13 (tgt := 17) (by decide) ?_
    exact r_zret (pc := 17) O rfl d_M_noNumber_17 nb_1
  · refine r_iload_n (pc := 4) O d_M_noNumber_4 1 rfl ?_
    refine r_aload_n (pc := 5) O d_M_noNumber_5 0 rfl ?_
    refine r_getI (x := (h.1 0 7)) (pc := 6) O gf_m_M_150_0 d_M_noNumber_6 rfl ?_
    refine r_icmp_lt (tgt := 16) (pc := 9) O d_M_noNumber_9 (by decide) (fun q9 => ?_) (fun q9 => ?_)
    · refine r_iconst (pc := 16) O d_M_noNumber_16 ic_0 ?_
      exact r_zret (pc := 17) O rfl d_M_noNumber_17 nb_0
    · refine r_iconst (pc := 12) O d_M_noNumber_12 ic_1 ?_
      refine r_goto (pc := 13) O d_M_noNumber_13 (tgt := 17) (by decide) ?_
      exact r_zret (pc := 17) O rfl d_M_noNumber_17 nb_1
def J_M_noRule (n : Nat) (p1 : Int32) (h : sHp) : Option Int32 :=
  if p1 < 0 then (some 1) else (if p1 < (h.1 0 12) then (some 0) else (some 1))
set_option maxRecDepth 20000 in
set_option maxHeartbeats 4000000 in
theorem R_M_noRule (n : Nat) (p1 : Int32) (h : sHp) : sM Zm (sPi h) y_M_noRule prog_10_method_13_code 2 (some .boolean) rm_M_noRule [.ref 0, .int p1] h (J_M_noRule n p1 h) := by
  refine sM_of (own := "StoryStatesModel") rfl (by decide) (Nat.le_of_ble_eq_true rfl) (fun M V O => ?_)
  unfold J_M_noRule
  refine r_lv (lv' := [(0, .ref 0), (1, .int p1)]) [0, 1] rfl ?_
  refine r_iload_n (pc := 0) O d_M_noRule_0 1 rfl ?_
  refine r_if_lt (tgt := 12) (pc := 1) O d_M_noRule_1 (by decide) (fun q1 => ?_) (fun q1 => ?_)
  · refine r_iconst (pc := 12) O d_M_noRule_12 ic_1 ?_
    refine r_goto (pc := 13) O d_M_noRule_13 (tgt := 17) (by decide) ?_
    exact r_zret (pc := 17) O rfl d_M_noRule_17 nb_1
  · refine r_iload_n (pc := 4) O d_M_noRule_4 1 rfl ?_
    refine r_aload_n (pc := 5) O d_M_noRule_5 0 rfl ?_
    refine r_getI (x := (h.1 0 12)) (pc := 6) O gf_m_M_208_0 d_M_noRule_6 rfl ?_
    refine r_icmp_lt (tgt := 16) (pc := 9) O d_M_noRule_9 (by decide) (fun q9 => ?_) (fun q9 => ?_)
    · refine r_iconst (pc := 16) O d_M_noRule_16 ic_0 ?_
      exact r_zret (pc := 17) O rfl d_M_noRule_17 nb_0
    · refine r_iconst (pc := 12) O d_M_noRule_12 ic_1 ?_
      refine r_goto (pc := 13) O d_M_noRule_13 (tgt := 17) (by decide) ?_
      exact r_zret (pc := 17) O rfl d_M_noRule_17 nb_1
def F_M_clear_42 (n : Nat) (rec42 : Int32 × sHp → Option sHp) (q : Int32 × sHp) : Option sHp :=
  if 24 ≤ q.1 then ((J_M_renew n q.2).bind fun v62 =>
  some v62) else (sGd (sIn q.1 24) (rec42 ((q.1 + 1), (pI q.2 1 (ix q.1) 0))))
def J_M_clear (n : Nat)  (h : sHp) : Option sHp :=
  sFx (F_M_clear_42 n ) n (0, (pI (pI (pI (pI (pI (pI (pI (pI h 0 0 0) 0 1 0) 0 4 0) 0 7 0) 0 10 0) 0 12 0) 0 26 0) 0 29 0))
set_option maxRecDepth 20000 in
set_option maxHeartbeats 4000000 in
theorem R_M_clear (n : Nat)  (h : sHp) : sM Zm sOv y_M_clear prog_10_method_14_code 2 none rm_M_clear [.ref 0] h (J_M_clear n  h) := by
  refine sM_of (own := "StoryStatesModel") rfl (by decide) (Nat.le_of_ble_eq_true rfl) (fun M V O => ?_)
  unfold J_M_clear
  refine r_lv (lv' := [(0, .ref 0)]) [0] rfl ?_
  have hL42 : ∀ (q : Int32 × sHp), sS Zm M V (sEb sOv) 42 [(0, .ref 0), (1, .int q.1)] [] q.2 (sFx (F_M_clear_42 n ) n q) := by
    skip
    refine r_fx (fun q => [(0, .ref 0), (1, .int q.1)]) (fun q => q.2) (F_M_clear_42 n ) (fun rec42 hrec42 q => ?_) n
    obtain ⟨qv0, qv1⟩ := q
    show sS Zm M V (sEb sOv) 42 [(0, .ref 0), (1, .int qv0)] [] qv1 _
    unfold F_M_clear_42
    try dsimp only
    refine r_iload_n (pc := 42) O d_M_clear_42 1 rfl ?_
    refine r_bipush (pc := 43) O d_M_clear_43 bc_24 ?_
    refine r_icmp_ge (tgt := 61) (pc := 45) O d_M_clear_45 (by decide) (fun q45 => ?_) (fun q45 => ?_)
    · refine r_aload_n (pc := 61) O d_M_clear_61 0 rfl ?_
      refine r_callVv (pc := 62) O [] rfl rfl (R_M_renew n  qv1) cw_M_clear_62 wm_900 ws_M_renew rfl (Nat.le_of_ble_eq_true rfl) d_M_clear_62 rfl (fun v62 => ?_)
      exact r_vret (pc := 65) O rfl d_M_clear_65
    · refine r_aload_n (pc := 48) O d_M_clear_48 0 rfl ?_
      refine r_getR (pc := 49) O gf_m_M_7_0 d_M_clear_49 ?_
      refine r_iload_n (pc := 52) O d_M_clear_52 1 rfl ?_
      refine r_iconst (pc := 53) O d_M_clear_53 ic_0 ?_
      refine r_iast (pc := 54) O rfl d_M_clear_54 ?_
      refine r_iinc (lv' := [(1, .int (qv0 + 1)), (0, .ref 0)]) (pc := 55) O d_M_clear_55 1 rfl (congrArg (HAdd.hAdd _) ic_1) (by decide) rfl ?_
      refine r_goto (pc := 58) O d_M_clear_58 (tgt := 42) (by decide) ?_
      exact r_lv [1, 0] rfl (hrec42 ((qv0 + 1), (pI qv1 1 (ix qv0) 0)))
  refine r_aload_n (pc := 0) O d_M_clear_0 0 rfl ?_
  refine r_iconst (pc := 1) O d_M_clear_1 ic_0 ?_
  refine r_putI (pc := 2) O pf_m_M_137_0 d_M_clear_2 ?_
  refine r_aload_n (pc := 5) O d_M_clear_5 0 rfl ?_
  refine r_iconst (pc := 6) O d_M_clear_6 ic_0 ?_
  refine r_putI (pc := 7) O pf_m_M_198_0 d_M_clear_7 ?_
  refine r_aload_n (pc := 10) O d_M_clear_10 0 rfl ?_
  refine r_iconst (pc := 11) O d_M_clear_11 ic_0 ?_
  refine r_putI (pc := 12) O pf_m_M_147_0 d_M_clear_12 ?_
  refine r_aload_n (pc := 15) O d_M_clear_15 0 rfl ?_
  refine r_iconst (pc := 16) O d_M_clear_16 ic_0 ?_
  refine r_putI (pc := 17) O pf_m_M_150_0 d_M_clear_17 ?_
  refine r_aload_n (pc := 20) O d_M_clear_20 0 rfl ?_
  refine r_iconst (pc := 21) O d_M_clear_21 ic_0 ?_
  refine r_putI (pc := 22) O pf_m_M_211_0 d_M_clear_22 ?_
  refine r_aload_n (pc := 25) O d_M_clear_25 0 rfl ?_
  refine r_iconst (pc := 26) O d_M_clear_26 ic_0 ?_
  refine r_putI (pc := 27) O pf_m_M_208_0 d_M_clear_27 ?_
  refine r_aload_n (pc := 30) O d_M_clear_30 0 rfl ?_
  refine r_iconst (pc := 31) O d_M_clear_31 ic_0 ?_
  refine r_putI (pc := 32) O pf_m_M_214_0 d_M_clear_32 ?_
  refine r_aload_n (pc := 35) O d_M_clear_35 0 rfl ?_
  refine r_iconst (pc := 36) O d_M_clear_36 ic_0 ?_
  refine r_putI (pc := 37) O pf_m_M_153_0 d_M_clear_37 ?_
  refine r_iconst (pc := 40) O d_M_clear_40 ic_0 ?_
  refine r_istore_n (lv' := [(1, .int 0), (0, .ref 0)]) (pc := 41) O d_M_clear_41 rfl (by decide) rfl ?_
  exact r_lv [1, 0] rfl (hL42 (0, (pI (pI (pI (pI (pI (pI (pI (pI h 0 0 0) 0 1 0) 0 4 0) 0 7 0) 0 10 0) 0 12 0) 0 26 0) 0 29 0)))
def K_M_room_15 (n : Nat) (t0 : Int32) (h : sHp) : Option (Int32 × sHp) :=
  if t0 ≤ 0 then ((J_M_renew n (pI (pI h 0 0 t0) 0 1 ((h.1 0 1) + 1))).bind fun v38 =>
  some (((v38.1 0 1) - 1), v38)) else (some (0, (pI h 0 0 t0)))
def J_M_room (n : Nat)  (h : sHp) : Option (Int32 × sHp) :=
  if (h.1 0 1) = 6 then (K_M_room_15 n 1 h) else (K_M_room_15 n 0 h)
set_option maxRecDepth 20000 in
set_option maxHeartbeats 4000000 in
theorem R_M_room (n : Nat)  (h : sHp) : sM Zm sOi y_M_room prog_10_method_15_code 1 (some .int) rm_M_room [.ref 0] h (J_M_room n  h) := by
  refine sM_of (own := "StoryStatesModel") rfl (by decide) (Nat.le_of_ble_eq_true rfl) (fun M V O => ?_)
  unfold J_M_room
  refine r_lv (lv' := [(0, .ref 0)]) [0] rfl ?_
  have hK15 : ∀ (t0 : Int32) (h : sHp), sS Zm M V (sEb sOi) 15 [(0, .ref 0)] [.int t0, .ref 0] h (K_M_room_15 n t0 h) := by
    intro t0 h
    unfold K_M_room_15
    refine r_putI (pc := 15) O pf_m_M_137_0 d_M_room_15 ?_
    refine r_aload_n (pc := 18) O d_M_room_18 0 rfl ?_
    refine r_getI (x := t0) (pc := 19) O gf_m_M_137_0 d_M_room_19 rfl ?_
    refine r_if_le (tgt := 27) (pc := 22) O d_M_room_22 (by decide) (fun q22 => ?_) (fun q22 => ?_)
    · refine r_aload_n (pc := 27) O d_M_room_27 0 rfl ?_
      refine r_dup (pc := 28) O d_M_room_28 rfl ?_
      refine r_getI (x := (h.1 0 1)) (pc := 29) O gf_m_M_198_0 d_M_room_29 rfl ?_
      refine r_iconst (pc := 32) O d_M_room_32 ic_1 ?_
      refine r_iadd (pc := 33) O d_M_room_33 ?_
      refine r_putI (pc := 34) O pf_m_M_198_0 d_M_room_34 ?_
      refine r_aload_n (pc := 37) O d_M_room_37 0 rfl ?_
      refine r_callVv (pc := 38) O [] rfl rfl (R_M_renew n  (pI (pI h 0 0 t0) 0 1 ((h.1 0 1) + 1))) cw_M_room_38 wm_900 ws_M_renew rfl (Nat.le_of_ble_eq_true rfl) d_M_room_38 rfl (fun v38 => ?_)
      refine r_aload_n (pc := 41) O d_M_room_41 0 rfl ?_
      refine r_getI (x := (v38.1 0 1)) (pc := 42) O gf_m_M_198_0 d_M_room_42 rfl ?_
      refine r_iconst (pc := 45) O d_M_room_45 ic_1 ?_
      refine r_isub (pc := 46) O d_M_room_46 ?_
      exact r_iret (pc := 47) O rfl d_M_room_47
    · refine r_iconst (pc := 25) O d_M_room_25 ic_0 ?_
      exact r_iret (pc := 26) O rfl d_M_room_26
  refine r_aload_n (pc := 0) O d_M_room_0 0 rfl ?_
  refine r_aload_n (pc := 1) O d_M_room_1 0 rfl ?_
  refine r_getI (x := (h.1 0 1)) (pc := 2) O gf_m_M_198_0 d_M_room_2 rfl ?_
  refine r_bipush (pc := 5) O d_M_room_5 bc_6 ?_
  refine r_icmp_ne (tgt := 14) (pc := 7) O d_M_room_7 (by decide) (fun q7 => ?_) (fun q7 => ?_)
  · refine r_iconst (pc := 14) O d_M_room_14 ic_0 ?_
    exact (hK15 0 h)
  · refine r_iconst (pc := 10) O d_M_room_10 ic_1 ?_
    refine r_goto (pc := 11) O d_M_room_11 (tgt := 15) (by decide) ?_
    exact (hK15 1 h)
def K_M_exit_50 (n : Nat) (p1 : Int32) (p2 : Int32) (p3 : Int32) (p4 : Int32) (t0 : Int32) (h : sHp) : Option sHp :=
  if t0 ≤ 0 then (sGd (sIn ((4 * p1) + p2) 24) (sGd (sIn ((4 * p1) + p2) 24) ((J_M_renew n (pI (pI (pI h 0 0 t0) 1 (ix ((4 * p1) + p2)) (p3 + 1)) 2 (ix ((4 * p1) + p2)) (p4 + 1))).bind fun v89 =>
  some v89))) else (some (pI h 0 0 t0))
def K_M_exit_45 (n : Nat) (p1 : Int32) (p2 : Int32) (p3 : Int32) (p4 : Int32) (h : sHp) : Option sHp :=
  K_M_exit_50 n p1 p2 p3 p4 2 h
def K_M_exit_36 (n : Nat) (p1 : Int32) (p2 : Int32) (p3 : Int32) (p4 : Int32) (h : sHp) : Option sHp :=
  if p2 < 0 then (K_M_exit_45 n p1 p2 p3 p4 h) else (if p2 ≤ 3 then (K_M_exit_50 n p1 p2 p3 p4 0 h) else (K_M_exit_45 n p1 p2 p3 p4 h))
def K_M_exit_32 (n : Nat) (p1 : Int32) (p2 : Int32) (p3 : Int32) (p4 : Int32) (h : sHp) : Option sHp :=
  K_M_exit_50 n p1 p2 p3 p4 1 h
def J_M_exit (n : Nat) (p1 : Int32) (p2 : Int32) (p3 : Int32) (p4 : Int32) (h : sHp) : Option sHp :=
  (J_M_noRoom n p1 h).bind fun v3 =>
  if v3 = 0 then ((J_M_noRoom n p3 h).bind fun v11 =>
  if v11 = 0 then (if p4 = (-1) then (K_M_exit_36 n p1 p2 p3 p4 h) else ((J_M_noThing n p4 h).bind fun v26 =>
  if v26 = 0 then (K_M_exit_36 n p1 p2 p3 p4 h) else (K_M_exit_32 n p1 p2 p3 p4 h))) else (K_M_exit_32 n p1 p2 p3 p4 h)) else (K_M_exit_32 n p1 p2 p3 p4 h)
set_option maxRecDepth 20000 in
set_option maxHeartbeats 4000000 in
theorem R_M_exit (n : Nat) (p1 : Int32) (p2 : Int32) (p3 : Int32) (p4 : Int32) (h : sHp) : sM Zm sOv y_M_exit prog_10_method_16_code 5 none rm_M_exit [.ref 0, .int p1, .int p2, .int p3, .int p4] h (J_M_exit n p1 p2 p3 p4 h) := by
  refine sM_of (own := "StoryStatesModel") rfl (by decide) (Nat.le_of_ble_eq_true rfl) (fun M V O => ?_)
  unfold J_M_exit
  refine r_lv (lv' := [(0, .ref 0), (1, .int p1), (2, .int p2), (3, .int p3), (4, .int p4)]) [0, 1, 2, 3, 4] rfl ?_
  have hK50 : ∀ (t0 : Int32) (h : sHp), sS Zm M V (sEb sOv) 50 [(0, .ref 0), (1, .int p1), (2, .int p2), (3, .int p3), (4, .int p4)] [.int t0, .ref 0] h (K_M_exit_50 n p1 p2 p3 p4 t0 h) := by
    intro t0 h
    unfold K_M_exit_50
    refine r_putI (pc := 50) O pf_m_M_137_0 d_M_exit_50 ?_
    refine r_aload_n (pc := 53) O d_M_exit_53 0 rfl ?_
    refine r_getI (x := t0) (pc := 54) O gf_m_M_137_0 d_M_exit_54 rfl ?_
    refine r_if_le (tgt := 61) (pc := 57) O d_M_exit_57 (by decide) (fun q57 => ?_) (fun q57 => ?_)
    · refine r_aload_n (pc := 61) O d_M_exit_61 0 rfl ?_
      refine r_getR (pc := 62) O gf_m_M_7_0 d_M_exit_62 ?_
      refine r_iconst (pc := 65) O d_M_exit_65 ic_4 ?_
      refine r_iload_n (pc := 66) O d_M_exit_66 1 rfl ?_
      refine r_imul (pc := 67) O d_M_exit_67 ?_
      refine r_iload_n (pc := 68) O d_M_exit_68 2 rfl ?_
      refine r_iadd (pc := 69) O d_M_exit_69 ?_
      refine r_iload_n (pc := 70) O d_M_exit_70 3 rfl ?_
      refine r_iconst (pc := 71) O d_M_exit_71 ic_1 ?_
      refine r_iadd (pc := 72) O d_M_exit_72 ?_
      refine r_iast (pc := 73) O rfl d_M_exit_73 ?_
      refine r_aload_n (pc := 74) O d_M_exit_74 0 rfl ?_
      refine r_getR (pc := 75) O gf_m_M_13_0 d_M_exit_75 ?_
      refine r_iconst (pc := 78) O d_M_exit_78 ic_4 ?_
      refine r_iload_n (pc := 79) O d_M_exit_79 1 rfl ?_
      refine r_imul (pc := 80) O d_M_exit_80 ?_
      refine r_iload_n (pc := 81) O d_M_exit_81 2 rfl ?_
      refine r_iadd (pc := 82) O d_M_exit_82 ?_
      refine r_iload (pc := 83) O d_M_exit_83 4 rfl ?_
      refine r_iconst (pc := 85) O d_M_exit_85 ic_1 ?_
      refine r_iadd (pc := 86) O d_M_exit_86 ?_
      refine r_iast (pc := 87) O rfl d_M_exit_87 ?_
      refine r_aload_n (pc := 88) O d_M_exit_88 0 rfl ?_
      refine r_callVv (pc := 89) O [] rfl rfl (R_M_renew n  (pI (pI (pI h 0 0 t0) 1 (ix ((4 * p1) + p2)) (p3 + 1)) 2 (ix ((4 * p1) + p2)) (p4 + 1))) cw_M_exit_89 wm_900 ws_M_renew rfl (Nat.le_of_ble_eq_true rfl) d_M_exit_89 rfl (fun v89 => ?_)
      exact r_vret (pc := 92) O rfl d_M_exit_92
    · exact r_vret (pc := 60) O rfl d_M_exit_60
  have hK45 : ∀ (h : sHp), sS Zm M V (sEb sOv) 45 [(0, .ref 0), (1, .int p1), (2, .int p2), (3, .int p3), (4, .int p4)] [.ref 0] h (K_M_exit_45 n p1 p2 p3 p4 h) := by
    intro h
    unfold K_M_exit_45
    refine r_iconst (pc := 45) O d_M_exit_45 ic_2 ?_
    refine r_goto (pc := 46) O d_M_exit_46 (tgt := 50) (by decide) ?_
    exact (hK50 2 h)
  have hK36 : ∀ (h : sHp), sS Zm M V (sEb sOv) 36 [(0, .ref 0), (1, .int p1), (2, .int p2), (3, .int p3), (4, .int p4)] [.ref 0] h (K_M_exit_36 n p1 p2 p3 p4 h) := by
    intro h
    unfold K_M_exit_36
    refine r_iload_n (pc := 36) O d_M_exit_36 2 rfl ?_
    refine r_if_lt (tgt := 45) (pc := 37) O d_M_exit_37 (by decide) (fun q37 => ?_) (fun q37 => ?_)
    · exact (hK45 h)
    · refine r_iload_n (pc := 40) O d_M_exit_40 2 rfl ?_
      refine r_iconst (pc := 41) O d_M_exit_41 ic_3 ?_
      refine r_icmp_le (tgt := 49) (pc := 42) O d_M_exit_42 (by decide) (fun q42 => ?_) (fun q42 => ?_)
      · refine r_iconst (pc := 49) O d_M_exit_49 ic_0 ?_
        exact (hK50 0 h)
      · exact (hK45 h)
  have hK32 : ∀ (h : sHp), sS Zm M V (sEb sOv) 32 [(0, .ref 0), (1, .int p1), (2, .int p2), (3, .int p3), (4, .int p4)] [.ref 0] h (K_M_exit_32 n p1 p2 p3 p4 h) := by
    intro h
    unfold K_M_exit_32
    refine r_iconst (pc := 32) O d_M_exit_32 ic_1 ?_
    refine r_goto (pc := 33) O d_M_exit_33 (tgt := 50) (by decide) ?_
    exact (hK50 1 h)
  refine r_aload_n (pc := 0) O d_M_exit_0 0 rfl ?_
  refine r_aload_n (pc := 1) O d_M_exit_1 0 rfl ?_
  refine r_iload_n (pc := 2) O d_M_exit_2 1 rfl ?_
  refine r_callVip (pc := 3) O [.int p1] rfl rfl (R_M_noRoom n p1 h) cw_M_exit_3 wm_1121 ws_M_noRoom rfl (Nat.le_of_ble_eq_true rfl) d_M_exit_3 rfl (fun v3 => ?_)
  refine r_if_ne (tgt := 32) (pc := 6) O d_M_exit_6 (by decide) (fun q6 => ?_) (fun q6 => ?_)
  · exact (hK32 h)
  · refine r_aload_n (pc := 9) O d_M_exit_9 0 rfl ?_
    refine r_iload_n (pc := 10) O d_M_exit_10 3 rfl ?_
    refine r_callVip (pc := 11) O [.int p3] rfl rfl (R_M_noRoom n p3 h) cw_M_exit_11 wm_1121 ws_M_noRoom rfl (Nat.le_of_ble_eq_true rfl) d_M_exit_11 rfl (fun v11 => ?_)
    refine r_if_ne (tgt := 32) (pc := 14) O d_M_exit_14 (by decide) (fun q14 => ?_) (fun q14 => ?_)
    · exact (hK32 h)
    · refine r_iload (pc := 17) O d_M_exit_17 4 rfl ?_
      refine r_iconst (pc := 19) O d_M_exit_19 ic_m1 ?_
      refine r_icmp_eq (tgt := 36) (pc := 20) O d_M_exit_20 (by decide) (fun q20 => ?_) (fun q20 => ?_)
      · exact (hK36 h)
      · refine r_aload_n (pc := 23) O d_M_exit_23 0 rfl ?_
        refine r_iload (pc := 24) O d_M_exit_24 4 rfl ?_
        refine r_callVip (pc := 26) O [.int p4] rfl rfl (R_M_noThing n p4 h) cw_M_exit_26 wm_1125 ws_M_noThing rfl (Nat.le_of_ble_eq_true rfl) d_M_exit_26 rfl (fun v26 => ?_)
        refine r_if_eq (tgt := 36) (pc := 29) O d_M_exit_29 (by decide) (fun q29 => ?_) (fun q29 => ?_)
        · exact (hK36 h)
        · exact (hK32 h)
def K_M_thing_51 (n : Nat) (p1 : Int32) (p2 : Int32) (t0 : Int32) (h : sHp) : Option (Int32 × sHp) :=
  if t0 ≤ 0 then (sGd (sIn (h.1 0 4) 6) (sGd (sIn (h.1 0 4) 6) ((J_M_renew n (pI (pI (pI (pI h 0 0 t0) 4 (ix (h.1 0 4)) p1) 3 (ix (h.1 0 4)) p2) 0 4 ((h.1 0 4) + 1))).bind fun v94 =>
  some (((v94.1 0 4) - 1), v94)))) else (some (0, (pI h 0 0 t0)))
def K_M_thing_33 (n : Nat) (p1 : Int32) (p2 : Int32) (h : sHp) : Option (Int32 × sHp) :=
  K_M_thing_51 n p1 p2 2 h
def J_M_thing (n : Nat) (p1 : Int32) (p2 : Int32) (h : sHp) : Option (Int32 × sHp) :=
  (J_M_noPlace n p1 h).bind fun v3 =>
  if v3 = 0 then (if p2 < 0 then (K_M_thing_33 n p1 p2 h) else (if 7 < p2 then (K_M_thing_33 n p1 p2 h) else (if p2 = 4 then (K_M_thing_33 n p1 p2 h) else (if p2 = 5 then (K_M_thing_33 n p1 p2 h) else (if (h.1 0 4) = 6 then (K_M_thing_51 n p1 p2 3 h) else (K_M_thing_51 n p1 p2 0 h)))))) else (K_M_thing_51 n p1 p2 1 h)
set_option maxRecDepth 20000 in
set_option maxHeartbeats 4000000 in
theorem R_M_thing (n : Nat) (p1 : Int32) (p2 : Int32) (h : sHp) : sM Zm sOi y_M_thing prog_10_method_17_code 3 (some .int) rm_M_thing [.ref 0, .int p1, .int p2] h (J_M_thing n p1 p2 h) := by
  refine sM_of (own := "StoryStatesModel") rfl (by decide) (Nat.le_of_ble_eq_true rfl) (fun M V O => ?_)
  unfold J_M_thing
  refine r_lv (lv' := [(0, .ref 0), (1, .int p1), (2, .int p2)]) [0, 1, 2] rfl ?_
  have hK51 : ∀ (t0 : Int32) (h : sHp), sS Zm M V (sEb sOi) 51 [(0, .ref 0), (1, .int p1), (2, .int p2)] [.int t0, .ref 0] h (K_M_thing_51 n p1 p2 t0 h) := by
    intro t0 h
    unfold K_M_thing_51
    refine r_putI (pc := 51) O pf_m_M_137_0 d_M_thing_51 ?_
    refine r_aload_n (pc := 54) O d_M_thing_54 0 rfl ?_
    refine r_getI (x := t0) (pc := 55) O gf_m_M_137_0 d_M_thing_55 rfl ?_
    refine r_if_le (tgt := 63) (pc := 58) O d_M_thing_58 (by decide) (fun q58 => ?_) (fun q58 => ?_)
    · refine r_aload_n (pc := 63) O d_M_thing_63 0 rfl ?_
      refine r_getR (pc := 64) O gf_m_M_19_0 d_M_thing_64 ?_
      refine r_aload_n (pc := 67) O d_M_thing_67 0 rfl ?_
      refine r_getI (x := (h.1 0 4)) (pc := 68) O gf_m_M_147_0 d_M_thing_68 rfl ?_
      refine r_iload_n (pc := 71) O d_M_thing_71 1 rfl ?_
      refine r_iast (pc := 72) O rfl d_M_thing_72 ?_
      refine r_aload_n (pc := 73) O d_M_thing_73 0 rfl ?_
      refine r_getR (pc := 74) O gf_m_M_16_0 d_M_thing_74 ?_
      refine r_aload_n (pc := 77) O d_M_thing_77 0 rfl ?_
      refine r_getI (x := (h.1 0 4)) (pc := 78) O gf_m_M_147_0 d_M_thing_78 rfl ?_
      refine r_iload_n (pc := 81) O d_M_thing_81 2 rfl ?_
      refine r_iast (pc := 82) O rfl d_M_thing_82 ?_
      refine r_aload_n (pc := 83) O d_M_thing_83 0 rfl ?_
      refine r_dup (pc := 84) O d_M_thing_84 rfl ?_
      refine r_getI (x := (h.1 0 4)) (pc := 85) O gf_m_M_147_0 d_M_thing_85 rfl ?_
      refine r_iconst (pc := 88) O d_M_thing_88 ic_1 ?_
      refine r_iadd (pc := 89) O d_M_thing_89 ?_
      refine r_putI (pc := 90) O pf_m_M_147_0 d_M_thing_90 ?_
      refine r_aload_n (pc := 93) O d_M_thing_93 0 rfl ?_
      refine r_callVv (pc := 94) O [] rfl rfl (R_M_renew n  (pI (pI (pI (pI h 0 0 t0) 4 (ix (h.1 0 4)) p1) 3 (ix (h.1 0 4)) p2) 0 4 ((h.1 0 4) + 1))) cw_M_thing_94 wm_900 ws_M_renew rfl (Nat.le_of_ble_eq_true rfl) d_M_thing_94 rfl (fun v94 => ?_)
      refine r_aload_n (pc := 97) O d_M_thing_97 0 rfl ?_
      refine r_getI (x := (v94.1 0 4)) (pc := 98) O gf_m_M_147_0 d_M_thing_98 rfl ?_
      refine r_iconst (pc := 101) O d_M_thing_101 ic_1 ?_
      refine r_isub (pc := 102) O d_M_thing_102 ?_
      exact r_iret (pc := 103) O rfl d_M_thing_103
    · refine r_iconst (pc := 61) O d_M_thing_61 ic_0 ?_
      exact r_iret (pc := 62) O rfl d_M_thing_62
  have hK33 : ∀ (h : sHp), sS Zm M V (sEb sOi) 33 [(0, .ref 0), (1, .int p1), (2, .int p2)] [.ref 0] h (K_M_thing_33 n p1 p2 h) := by
    intro h
    unfold K_M_thing_33
    refine r_iconst (pc := 33) O d_M_thing_33 ic_2 ?_
    refine r_goto (pc := 34) O d_M_thing_34 (tgt := 51) (by decide) ?_
    exact (hK51 2 h)
  refine r_aload_n (pc := 0) O d_M_thing_0 0 rfl ?_
  refine r_aload_n (pc := 1) O d_M_thing_1 0 rfl ?_
  refine r_iload_n (pc := 2) O d_M_thing_2 1 rfl ?_
  refine r_callVip (pc := 3) O [.int p1] rfl rfl (R_M_noPlace n p1 h) cw_M_thing_3 wm_1133 ws_M_noPlace rfl (Nat.le_of_ble_eq_true rfl) d_M_thing_3 rfl (fun v3 => ?_)
  refine r_if_eq (tgt := 13) (pc := 6) O d_M_thing_6 (by decide) (fun q6 => ?_) (fun q6 => ?_)
  · refine r_iload_n (pc := 13) O d_M_thing_13 2 rfl ?_
    refine r_if_lt (tgt := 33) (pc := 14) O d_M_thing_14 (by decide) (fun q14 => ?_) (fun q14 => ?_)
    · exact (hK33 h)
    · refine r_iload_n (pc := 17) O d_M_thing_17 2 rfl ?_
      refine r_bipush (pc := 18) O d_M_thing_18 bc_7 ?_
      refine r_icmp_gt (tgt := 33) (pc := 20) O d_M_thing_20 (by decide) (fun q20 => ?_) (fun q20 => ?_)
      · exact (hK33 h)
      · refine r_iload_n (pc := 23) O d_M_thing_23 2 rfl ?_
        refine r_iconst (pc := 24) O d_M_thing_24 ic_4 ?_
        refine r_icmp_eq (tgt := 33) (pc := 25) O d_M_thing_25 (by decide) (fun q25 => ?_) (fun q25 => ?_)
        · exact (hK33 h)
        · refine r_iload_n (pc := 28) O d_M_thing_28 2 rfl ?_
          refine r_iconst (pc := 29) O d_M_thing_29 ic_5 ?_
          refine r_icmp_ne (tgt := 37) (pc := 30) O d_M_thing_30 (by decide) (fun q30 => ?_) (fun q30 => ?_)
          · refine r_aload_n (pc := 37) O d_M_thing_37 0 rfl ?_
            refine r_getI (x := (h.1 0 4)) (pc := 38) O gf_m_M_147_0 d_M_thing_38 rfl ?_
            refine r_bipush (pc := 41) O d_M_thing_41 bc_6 ?_
            refine r_icmp_ne (tgt := 50) (pc := 43) O d_M_thing_43 (by decide) (fun q43 => ?_) (fun q43 => ?_)
            · refine r_iconst (pc := 50) O d_M_thing_50 ic_0 ?_
              exact (hK51 0 h)
            · refine r_iconst (pc := 46) O d_M_thing_46 ic_3 ?_
              refine r_goto (pc := 47) O d_M_thing_47 (tgt := 51) (by decide) ?_
              exact (hK51 3 h)
          · exact (hK33 h)
  · refine r_iconst (pc := 9) O d_M_thing_9 ic_1 ?_
    refine r_goto (pc := 10) O d_M_thing_10 (tgt := 51) (by decide) ?_
    exact (hK51 1 h)
