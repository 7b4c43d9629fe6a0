def F_M_isSeen_2 (n : Nat) (p1 : Int32) (h : sHp) (rec2 : Int32 → Option Int32) (q : Int32) : Option Int32 :=
  sGd (sIn q 6) (if (h.1 25 (ix q)) ≤ 6 then (sGd (sIn q 6) (if (h.1 25 (ix q)) = 6 then (some 1) else (sGd (sIn q 6) (if (h.1 25 (ix q)) = (h.1 0 32) then (some 1) else (some 0))))) else (sGd (sIn q 6) (sGd (sIn ((h.1 25 (ix q)) - 7) 6) (if (h.1 26 (ix ((h.1 25 (ix q)) - 7))) = 0 then (some 0) else (rec2 ((h.1 25 (ix q)) - 7))))))
def J_M_isSeen (n : Nat) (p1 : Int32) (h : sHp) : Option Int32 :=
  sFx (F_M_isSeen_2 n p1 h ) n p1
set_option maxRecDepth 20000 in
set_option maxHeartbeats 4000000 in
theorem R_M_isSeen (n : Nat) (p1 : Int32) (h : sHp) : sM Zm (sPi h) y_M_isSeen prog_10_method_26_code 3 (some .boolean) rm_M_isSeen [.ref 0, .int p1] h (J_M_isSeen n p1 h) := by
  refine sM_of (own := "StoryStatesModel") rfl (by decide) (Nat.le_of_ble_eq_true rfl) (fun M V O => ?_)
  unfold J_M_isSeen
  refine r_lv (lv' := [(0, .ref 0), (1, .int p1)]) [0, 1] rfl ?_
  have hL2 : ∀ (q : Int32), sS Zm M V (sEb (sPi h)) 2 [(0, .ref 0), (2, .int q)] [] h (sFx (F_M_isSeen_2 n p1 h ) n q) := by
    skip
    refine r_fx (fun q => [(0, .ref 0), (2, .int q)]) (fun q => h) (F_M_isSeen_2 n p1 h ) (fun rec2 hrec2 q => ?_) n
    skip
    show sS Zm M V (sEb (sPi h)) 2 [(0, .ref 0), (2, .int q)] [] h _
    unfold F_M_isSeen_2
    try dsimp only
    refine r_aload_n (pc := 2) O d_M_isSeen_2 0 rfl ?_
    refine r_getR (pc := 3) O gf_m_M_83_0 d_M_isSeen_3 ?_
    refine r_iload_n (pc := 6) O d_M_isSeen_6 1 rfl ?_
    refine r_iald (x := (h.1 25 (ix q))) (pc := 7) O rfl d_M_isSeen_7 rfl ?_
    refine r_bipush (pc := 8) O d_M_isSeen_8 bc_6 ?_
    refine r_icmp_le (tgt := 34) (pc := 10) O d_M_isSeen_10 (by decide) (fun q10 => ?_) (fun q10 => ?_)
    · refine r_aload_n (pc := 34) O d_M_isSeen_34 0 rfl ?_
      refine r_getR (pc := 35) O gf_m_M_83_0 d_M_isSeen_35 ?_
      refine r_iload_n (pc := 38) O d_M_isSeen_38 1 rfl ?_
      refine r_iald (x := (h.1 25 (ix q))) (pc := 39) O rfl d_M_isSeen_39 rfl ?_
      refine r_bipush (pc := 40) O d_M_isSeen_40 bc_6 ?_
      refine r_icmp_eq (tgt := 58) (pc := 42) O d_M_isSeen_42 (by decide) (fun q42 => ?_) (fun q42 => ?_)
      · refine r_iconst (pc := 58) O d_M_isSeen_58 ic_1 ?_
        refine r_goto (pc := 59) O d_M_isSeen_59 (tgt := 63) (by decide) ?_
        exact r_zret (pc := 63) O rfl d_M_isSeen_63 nb_1
      · refine r_aload_n (pc := 45) O d_M_isSeen_45 0 rfl ?_
        refine r_getR (pc := 46) O gf_m_M_83_0 d_M_isSeen_46 ?_
        refine r_iload_n (pc := 49) O d_M_isSeen_49 1 rfl ?_
        refine r_iald (x := (h.1 25 (ix q))) (pc := 50) O rfl d_M_isSeen_50 rfl ?_
        refine r_aload_n (pc := 51) O d_M_isSeen_51 0 rfl ?_
        refine r_getI (x := (h.1 0 32)) (pc := 52) O gf_m_M_141_0 d_M_isSeen_52 rfl ?_
        refine r_icmp_ne (tgt := 62) (pc := 55) O d_M_isSeen_55 (by decide) (fun q55 => ?_) (fun q55 => ?_)
        · refine r_iconst (pc := 62) O d_M_isSeen_62 ic_0 ?_
          exact r_zret (pc := 63) O rfl d_M_isSeen_63 nb_0
        · refine r_iconst (pc := 58) O d_M_isSeen_58 ic_1 ?_
          refine r_goto (pc := 59) O d_M_isSeen_59 (tgt := 63) (by decide) ?_
          exact r_zret (pc := 63) O rfl d_M_isSeen_63 nb_1
    · refine r_aload_n (pc := 13) O d_M_isSeen_13 0 rfl ?_
      refine r_getR (pc := 14) O gf_m_M_83_0 d_M_isSeen_14 ?_
      refine r_iload_n (pc := 17) O d_M_isSeen_17 1 rfl ?_
      refine r_iald (x := (h.1 25 (ix q))) (pc := 18) O rfl d_M_isSeen_18 rfl ?_
      refine r_bipush (pc := 19) O d_M_isSeen_19 bc_7 ?_
      refine r_isub (pc := 21) O d_M_isSeen_21 ?_
      refine r_istore_n (lv' := [(2, .int ((h.1 25 (ix q)) - 7)), (0, .ref 0)]) (pc := 22) O d_M_isSeen_22 rfl (by decide) rfl ?_
      refine r_aload_n (pc := 23) O d_M_isSeen_23 1 rfl ?_
      refine r_getR (pc := 24) O gf_m_M_86_0 d_M_isSeen_24 ?_
      refine r_iload_n (pc := 27) O d_M_isSeen_27 0 rfl ?_
      refine r_zald (x := (h.1 26 (ix ((h.1 25 (ix q)) - 7)))) (pc := 28) O rfl d_M_isSeen_28 rfl ?_
      refine r_if_ne (tgt := 2) (pc := 29) O d_M_isSeen_29 (by decide) (fun q29 => ?_) (fun q29 => ?_)
      · exact r_lv [1, 0] rfl (hrec2 ((h.1 25 (ix q)) - 7))
      · refine r_iconst (pc := 32) O d_M_isSeen_32 ic_0 ?_
        exact r_zret (pc := 33) O rfl d_M_isSeen_33 nb_0
  refine r_iload_n (pc := 0) O d_M_isSeen_0 1 rfl ?_
  refine r_istore_n (lv' := [(2, .int p1), (0, .ref 0), (1, .int p1)]) (pc := 1) O d_M_isSeen_1 rfl (by decide) rfl ?_
  exact r_lv [1, 0] rfl (hL2 p1)
def F_M_within_2 (n : Nat) (p1 : Int32) (p2 : Int32) (h : sHp) (rec2 : Int32 → Option Int32) (q : Int32) : Option Int32 :=
  if q = p2 then (if q = p2 then (some 1) else (some 0)) else (sGd (sIn q 6) (if (h.1 25 (ix q)) ≤ 6 then (if q = p2 then (some 1) else (some 0)) else (sGd (sIn q 6) (rec2 ((h.1 25 (ix q)) - 7)))))
def J_M_within (n : Nat) (p1 : Int32) (p2 : Int32) (h : sHp) : Option Int32 :=
  sFx (F_M_within_2 n p1 p2 h ) n p1
set_option maxRecDepth 20000 in
set_option maxHeartbeats 4000000 in
theorem R_M_within (n : Nat) (p1 : Int32) (p2 : Int32) (h : sHp) : sM Zm (sPi h) y_M_within prog_10_method_27_code 4 (some .boolean) rm_M_within [.ref 0, .int p1, .int p2] h (J_M_within n p1 p2 h) := by
  refine sM_of (own := "StoryStatesModel") rfl (by decide) (Nat.le_of_ble_eq_true rfl) (fun M V O => ?_)
  unfold J_M_within
  refine r_lv (lv' := [(0, .ref 0), (1, .int p1), (2, .int p2)]) [0, 1, 2] rfl ?_
  have hL2 : ∀ (q : Int32), sS Zm M V (sEb (sPi h)) 2 [(0, .ref 0), (2, .int p2), (3, .int q)] [] h (sFx (F_M_within_2 n p1 p2 h ) n q) := by
    skip
    refine r_fx (fun q => [(0, .ref 0), (2, .int p2), (3, .int q)]) (fun q => h) (F_M_within_2 n p1 p2 h ) (fun rec2 hrec2 q => ?_) n
    skip
    show sS Zm M V (sEb (sPi h)) 2 [(0, .ref 0), (2, .int p2), (3, .int q)] [] h _
    unfold F_M_within_2
    try dsimp only
    refine r_iload_n (pc := 2) O d_M_within_2 2 rfl ?_
    refine r_iload_n (pc := 3) O d_M_within_3 1 rfl ?_
    refine r_icmp_eq (tgt := 31) (pc := 4) O d_M_within_4 (by decide) (fun q4 => ?_) (fun q4 => ?_)
    · refine r_iload_n (pc := 31) O d_M_within_31 2 rfl ?_
      refine r_iload_n (pc := 32) O d_M_within_32 1 rfl ?_
      refine r_icmp_ne (tgt := 40) (pc := 33) O d_M_within_33 (by decide) (fun q33 => ?_) (fun q33 => ?_)
      · refine r_iconst (pc := 40) O d_M_within_40 ic_0 ?_
        exact r_zret (pc := 41) O rfl d_M_within_41 nb_0
      · refine r_iconst (pc := 36) O d_M_within_36 ic_1 ?_
        refine r_goto (pc := 37) O d_M_within_37 (tgt := 41) (by decide) ?_
        exact r_zret (pc := 41) O rfl d_M_within_41 nb_1
    · refine r_aload_n (pc := 7) O d_M_within_7 0 rfl ?_
      refine r_getR (pc := 8) O gf_m_M_83_0 d_M_within_8 ?_
      refine r_iload_n (pc := 11) O d_M_within_11 2 rfl ?_
      refine r_iald (x := (h.1 25 (ix q))) (pc := 12) O rfl d_M_within_12 rfl ?_
      refine r_bipush (pc := 13) O d_M_within_13 bc_6 ?_
      refine r_icmp_le (tgt := 31) (pc := 15) O d_M_within_15 (by decide) (fun q15 => ?_) (fun q15 => ?_)
      · refine r_iload_n (pc := 31) O d_M_within_31 2 rfl ?_
        refine r_iload_n (pc := 32) O d_M_within_32 1 rfl ?_
        refine r_icmp_ne (tgt := 40) (pc := 33) O d_M_within_33 (by decide) (fun q33 => ?_) (fun q33 => ?_)
        · refine r_iconst (pc := 40) O d_M_within_40 ic_0 ?_
          exact r_zret (pc := 41) O rfl d_M_within_41 nb_0
        · refine r_iconst (pc := 36) O d_M_within_36 ic_1 ?_
          refine r_goto (pc := 37) O d_M_within_37 (tgt := 41) (by decide) ?_
          exact r_zret (pc := 41) O rfl d_M_within_41 nb_1
      · refine r_aload_n (pc := 18) O d_M_within_18 0 rfl ?_
        refine r_getR (pc := 19) O gf_m_M_83_0 d_M_within_19 ?_
        refine r_iload_n (pc := 22) O d_M_within_22 2 rfl ?_
        refine r_iald (x := (h.1 25 (ix q))) (pc := 23) O rfl d_M_within_23 rfl ?_
        refine r_bipush (pc := 24) O d_M_within_24 bc_7 ?_
        refine r_isub (pc := 26) O d_M_within_26 ?_
        refine r_istore_n (lv' := [(3, .int ((h.1 25 (ix q)) - 7)), (0, .ref 0), (2, .int p2)]) (pc := 27) O d_M_within_27 rfl (by decide) rfl ?_
        refine r_goto (pc := 28) O d_M_within_28 (tgt := 2) (by decide) ?_
        exact r_lv [1, 2, 0] rfl (hrec2 ((h.1 25 (ix q)) - 7))
  refine r_iload_n (pc := 0) O d_M_within_0 1 rfl ?_
  refine r_istore_n (lv' := [(3, .int p1), (0, .ref 0), (1, .int p1), (2, .int p2)]) (pc := 1) O d_M_within_1 rfl (by decide) rfl ?_
  exact r_lv [1, 3, 0] rfl (hL2 p1)
def F_M_allSo_6 (n : Nat) (p1 : Int32) (h : sHp) (rec6 : Int32 × Int32 → Option Int32) (q : Int32 × Int32) : Option Int32 :=
  sGd (sIn p1 12) (if ((3 * p1) + (h.1 13 (ix p1))) ≤ q.2 then (sGd (jB q.1) (some q.1)) else (sGd (sIn q.2 36) (sGd (sIn q.2 36) (sGd (sIn q.2 36) (if (h.1 14 (ix q.2)) = 0 then (if q.1 = 0 then (rec6 (0, (q.2 + 1))) else (if (h.1 0 32) = (h.1 15 (ix q.2)) then (rec6 (1, (q.2 + 1))) else (rec6 (0, (q.2 + 1))))) else (if (h.1 14 (ix q.2)) = 1 then (if q.1 = 0 then (rec6 (0, (q.2 + 1))) else (sGd (sIn (h.1 15 (ix q.2)) 6) (if (h.1 25 (ix (h.1 15 (ix q.2)))) = (h.1 16 (ix q.2)) then (rec6 (1, (q.2 + 1))) else (rec6 (0, (q.2 + 1)))))) else (if (h.1 14 (ix q.2)) = 2 then (if q.1 = 0 then (rec6 (0, (q.2 + 1))) else (sGd (sIn (h.1 15 (ix q.2)) 6) (if (h.1 16 (ix q.2)) = 1 then (if (h.1 26 (ix (h.1 15 (ix q.2)))) = 1 then (rec6 (1, (q.2 + 1))) else (rec6 (0, (q.2 + 1)))) else (if (h.1 26 (ix (h.1 15 (ix q.2)))) = 0 then (rec6 (1, (q.2 + 1))) else (rec6 (0, (q.2 + 1))))))) else (if (h.1 14 (ix q.2)) = 3 then (if q.1 = 0 then (rec6 (0, (q.2 + 1))) else (sGd (sIn (h.1 15 (ix q.2)) 3) (if (h.1 27 (ix (h.1 15 (ix q.2)))) < (h.1 16 (ix q.2)) then (rec6 (0, (q.2 + 1))) else (rec6 (1, (q.2 + 1)))))) else (if q.1 = 0 then (rec6 (0, (q.2 + 1))) else (sGd (sIn (h.1 15 (ix q.2)) 3) (if (h.1 16 (ix q.2)) < (h.1 27 (ix (h.1 15 (ix q.2)))) then (rec6 (0, (q.2 + 1))) else (rec6 (1, (q.2 + 1))))))))))))))
def J_M_allSo (n : Nat) (p1 : Int32) (h : sHp) : Option Int32 :=
  sFx (F_M_allSo_6 n p1 h ) n (1, (3 * p1))
set_option maxRecDepth 20000 in
set_option maxHeartbeats 4000000 in
theorem R_M_allSo (n : Nat) (p1 : Int32) (h : sHp) : sM Zm (sPi h) y_M_allSo prog_10_method_28_code 6 (some .boolean) rm_M_allSo [.ref 0, .int p1] h (J_M_allSo n p1 h) := by
  refine sM_of (own := "StoryStatesModel") rfl (by decide) (Nat.le_of_ble_eq_true rfl) (fun M V O => ?_)
  unfold J_M_allSo
  refine r_lv (lv' := [(0, .ref 0), (1, .int p1)]) [0, 1] rfl ?_
  have hL6 : ∀ (q : Int32 × Int32), sS Zm M V (sEb (sPi h)) 6 [(0, .ref 0), (1, .int p1), (2, .int q.1), (3, .int q.2)] [] h (sFx (F_M_allSo_6 n p1 h ) n q) := by
    skip
    refine r_fx (fun q => [(0, .ref 0), (1, .int p1), (2, .int q.1), (3, .int q.2)]) (fun q => h) (F_M_allSo_6 n p1 h ) (fun rec6 hrec6 q => ?_) n
    obtain ⟨qv0, qv1⟩ := q
    show sS Zm M V (sEb (sPi h)) 6 [(0, .ref 0), (1, .int p1), (2, .int qv0), (3, .int qv1)] [] h _
    unfold F_M_allSo_6
    try dsimp only
    refine r_iload_n (pc := 6) O d_M_allSo_6 3 rfl ?_
    refine r_iconst (pc := 7) O d_M_allSo_7 ic_3 ?_
    refine r_iload_n (pc := 8) O d_M_allSo_8 1 rfl ?_
    refine r_imul (pc := 9) O d_M_allSo_9 ?_
    refine r_aload_n (pc := 10) O d_M_allSo_10 0 rfl ?_
    refine r_getR (pc := 11) O gf_m_M_47_0 d_M_allSo_11 ?_
    refine r_iload_n (pc := 14) O d_M_allSo_14 1 rfl ?_
    refine r_iald (x := (h.1 13 (ix p1))) (pc := 15) O rfl d_M_allSo_15 rfl ?_
    refine r_iadd (pc := 16) O d_M_allSo_16 ?_
    refine r_icmp_ge (tgt := 206) (pc := 17) O d_M_allSo_17 (by decide) (fun q17 => ?_) (fun q17 => ?_)
    · refine r_iload_n (pc := 206) O d_M_allSo_206 2 rfl ?_
      exact r_zretg (pc := 207) O rfl d_M_allSo_207
    · refine r_aload_n (pc := 20) O d_M_allSo_20 0 rfl ?_
      refine r_getR (pc := 21) O gf_m_M_53_0 d_M_allSo_21 ?_
      refine r_iload_n (pc := 24) O d_M_allSo_24 3 rfl ?_
      refine r_iald (x := (h.1 15 (ix qv1))) (pc := 25) O rfl d_M_allSo_25 rfl ?_
      refine r_istore (lv' := [(4, .int (h.1 15 (ix qv1))), (0, .ref 0), (1, .int p1), (2, .int qv0), (3, .int qv1)]) (pc := 26) O d_M_allSo_26 (by decide) rfl ?_
      refine r_aload_n (pc := 28) O d_M_allSo_28 1 rfl ?_
      refine r_getR (pc := 29) O gf_m_M_56_0 d_M_allSo_29 ?_
      refine r_iload_n (pc := 32) O d_M_allSo_32 4 rfl ?_
      refine r_iald (x := (h.1 16 (ix qv1))) (pc := 33) O rfl d_M_allSo_33 rfl ?_
      refine r_istore (lv' := [(5, .int (h.1 16 (ix qv1))), (4, .int (h.1 15 (ix qv1))), (0, .ref 0), (1, .int p1), (2, .int qv0), (3, .int qv1)]) (pc := 34) O d_M_allSo_34 (by decide) rfl ?_
      refine r_aload_n (pc := 36) O d_M_allSo_36 2 rfl ?_
      refine r_getR (pc := 37) O gf_m_M_50_0 d_M_allSo_37 ?_
      refine r_iload_n (pc := 40) O d_M_allSo_40 5 rfl ?_
      refine r_iald (x := (h.1 14 (ix qv1))) (pc := 41) O rfl d_M_allSo_41 rfl ?_
      refine r_ite (fun q42_0 => ?_) (fun q42_0 => ?_)
      · refine r_tin (tgt := 72) (pc := 42) O d_M_allSo_42 (by rw [q42_0] <;> decide) (by rw [q42_0] <;> decide) (by rw [q42_0] <;> rfl) (by decide) ?_
        refine r_iload_n (pc := 72) O d_M_allSo_72 4 rfl ?_
        refine r_if_eq (tgt := 89) (pc := 73) O d_M_allSo_73 (by decide) (fun q73 => ?_) (fun q73 => ?_)
        · refine r_iconst (pc := 89) O d_M_allSo_89 ic_0 ?_
          refine r_istore_n (lv' := [(2, .int 0), (5, .int (h.1 16 (ix qv1))), (4, .int (h.1 15 (ix qv1))), (0, .ref 0), (1, .int p1), (3, .int qv1)]) (pc := 90) O d_M_allSo_90 rfl (by decide) rfl ?_
          refine r_goto (pc := 91) O d_M_allSo_91 (tgt := 200) (by decide) ?_
          refine r_iinc (lv' := [(3, .int (qv1 + 1)), (2, .int 0), (5, .int (h.1 16 (ix qv1))), (4, .int (h.1 15 (ix qv1))), (0, .ref 0), (1, .int p1)]) (pc := 200) O d_M_allSo_200 5 rfl (congrArg (HAdd.hAdd _) ic_1) (by decide) rfl ?_
          refine r_goto (pc := 203) O d_M_allSo_203 (tgt := 6) (by decide) ?_
          exact r_lv [4, 5, 1, 0] rfl (hrec6 (0, (qv1 + 1)))
        · refine r_aload_n (pc := 76) O d_M_allSo_76 2 rfl ?_
          refine r_getI (x := (h.1 0 32)) (pc := 77) O gf_m_M_141_0 d_M_allSo_77 rfl ?_
          refine r_iload (pc := 80) O d_M_allSo_80 1 rfl ?_
          refine r_icmp_ne (tgt := 89) (pc := 82) O d_M_allSo_82 (by decide) (fun q82 => ?_) (fun q82 => ?_)
          · refine r_iconst (pc := 89) O d_M_allSo_89 ic_0 ?_
            refine r_istore_n (lv' := [(2, .int 0), (5, .int (h.1 16 (ix qv1))), (4, .int (h.1 15 (ix qv1))), (0, .ref 0), (1, .int p1), (3, .int qv1)]) (pc := 90) O d_M_allSo_90 rfl (by decide) rfl ?_
            refine r_goto (pc := 91) O d_M_allSo_91 (tgt := 200) (by decide) ?_
            refine r_iinc (lv' := [(3, .int (qv1 + 1)), (2, .int 0), (5, .int (h.1 16 (ix qv1))), (4, .int (h.1 15 (ix qv1))), (0, .ref 0), (1, .int p1)]) (pc := 200) O d_M_allSo_200 5 rfl (congrArg (HAdd.hAdd _) ic_1) (by decide) rfl ?_
            refine r_goto (pc := 203) O d_M_allSo_203 (tgt := 6) (by decide) ?_
            exact r_lv [4, 5, 1, 0] rfl (hrec6 (0, (qv1 + 1)))
          · refine r_iconst (pc := 85) O d_M_allSo_85 ic_1 ?_
            refine r_goto (pc := 86) O d_M_allSo_86 (tgt := 90) (by decide) ?_
            refine r_istore_n (lv' := [(2, .int 1), (5, .int (h.1 16 (ix qv1))), (4, .int (h.1 15 (ix qv1))), (0, .ref 0), (1, .int p1), (3, .int qv1)]) (pc := 90) O d_M_allSo_90 rfl (by decide) rfl ?_
            refine r_goto (pc := 91) O d_M_allSo_91 (tgt := 200) (by decide) ?_
            refine r_iinc (lv' := [(3, .int (qv1 + 1)), (2, .int 1), (5, .int (h.1 16 (ix qv1))), (4, .int (h.1 15 (ix qv1))), (0, .ref 0), (1, .int p1)]) (pc := 200) O d_M_allSo_200 5 rfl (congrArg (HAdd.hAdd _) ic_1) (by decide) rfl ?_
            refine r_goto (pc := 203) O d_M_allSo_203 (tgt := 6) (by decide) ?_
            exact r_lv [4, 5, 1, 0] rfl (hrec6 (1, (qv1 + 1)))
      · refine r_ite (fun q42_1 => ?_) (fun q42_1 => ?_)
        · refine r_tin (tgt := 94) (pc := 42) O d_M_allSo_42 (by rw [q42_1] <;> decide) (by rw [q42_1] <;> decide) (by rw [q42_1] <;> rfl) (by decide) ?_
          refine r_iload_n (pc := 94) O d_M_allSo_94 4 rfl ?_
          refine r_if_eq (tgt := 114) (pc := 95) O d_M_allSo_95 (by decide) (fun q95 => ?_) (fun q95 => ?_)
          · refine r_iconst (pc := 114) O d_M_allSo_114 ic_0 ?_
            refine r_istore_n (lv' := [(2, .int 0), (5, .int (h.1 16 (ix qv1))), (4, .int (h.1 15 (ix qv1))), (0, .ref 0), (1, .int p1), (3, .int qv1)]) (pc := 115) O d_M_allSo_115 rfl (by decide) rfl ?_
            refine r_goto (pc := 116) O d_M_allSo_116 (tgt := 200) (by decide) ?_
            refine r_iinc (lv' := [(3, .int (qv1 + 1)), (2, .int 0), (5, .int (h.1 16 (ix qv1))), (4, .int (h.1 15 (ix qv1))), (0, .ref 0), (1, .int p1)]) (pc := 200) O d_M_allSo_200 5 rfl (congrArg (HAdd.hAdd _) ic_1) (by decide) rfl ?_
            refine r_goto (pc := 203) O d_M_allSo_203 (tgt := 6) (by decide) ?_
            exact r_lv [4, 5, 1, 0] rfl (hrec6 (0, (qv1 + 1)))
          · refine r_aload_n (pc := 98) O d_M_allSo_98 2 rfl ?_
            refine r_getR (pc := 99) O gf_m_M_83_0 d_M_allSo_99 ?_
            refine r_iload (pc := 102) O d_M_allSo_102 1 rfl ?_
            refine r_iald (x := (h.1 25 (ix (h.1 15 (ix qv1))))) (pc := 104) O rfl d_M_allSo_104 rfl ?_
            refine r_iload (pc := 105) O d_M_allSo_105 0 rfl ?_
            refine r_icmp_ne (tgt := 114) (pc := 107) O d_M_allSo_107 (by decide) (fun q107 => ?_) (fun q107 => ?_)
            · refine r_iconst (pc := 114) O d_M_allSo_114 ic_0 ?_
              refine r_istore_n (lv' := [(2, .int 0), (5, .int (h.1 16 (ix qv1))), (4, .int (h.1 15 (ix qv1))), (0, .ref 0), (1, .int p1), (3, .int qv1)]) (pc := 115) O d_M_allSo_115 rfl (by decide) rfl ?_
              refine r_goto (pc := 116) O d_M_allSo_116 (tgt := 200) (by decide) ?_
              refine r_iinc (lv' := [(3, .int (qv1 + 1)), (2, .int 0), (5, .int (h.1 16 (ix qv1))), (4, .int (h.1 15 (ix qv1))), (0, .ref 0), (1, .int p1)]) (pc := 200) O d_M_allSo_200 5 rfl (congrArg (HAdd.hAdd _) ic_1) (by decide) rfl ?_
              refine r_goto (pc := 203) O d_M_allSo_203 (tgt := 6) (by decide) ?_
              exact r_lv [4, 5, 1, 0] rfl (hrec6 (0, (qv1 + 1)))
            · refine r_iconst (pc := 110) O d_M_allSo_110 ic_1 ?_
              refine r_goto (pc := 111) O d_M_allSo_111 (tgt := 115) (by decide) ?_
              refine r_istore_n (lv' := [(2, .int 1), (5, .int (h.1 16 (ix qv1))), (4, .int (h.1 15 (ix qv1))), (0, .ref 0), (1, .int p1), (3, .int qv1)]) (pc := 115) O d_M_allSo_115 rfl (by decide) rfl ?_
              refine r_goto (pc := 116) O d_M_allSo_116 (tgt := 200) (by decide) ?_
              refine r_iinc (lv' := [(3, .int (qv1 + 1)), (2, .int 1), (5, .int (h.1 16 (ix qv1))), (4, .int (h.1 15 (ix qv1))), (0, .ref 0), (1, .int p1)]) (pc := 200) O d_M_allSo_200 5 rfl (congrArg (HAdd.hAdd _) ic_1) (by decide) rfl ?_
              refine r_goto (pc := 203) O d_M_allSo_203 (tgt := 6) (by decide) ?_
              exact r_lv [4, 5, 1, 0] rfl (hrec6 (1, (qv1 + 1)))
        · refine r_ite (fun q42_2 => ?_) (fun q42_2 => ?_)
          · refine r_tin (tgt := 119) (pc := 42) O d_M_allSo_42 (by rw [q42_2] <;> decide) (by rw [q42_2] <;> decide) (by rw [q42_2] <;> rfl) (by decide) ?_
            refine r_iload_n (pc := 119) O d_M_allSo_119 4 rfl ?_
            refine r_if_eq (tgt := 148) (pc := 120) O d_M_allSo_120 (by decide) (fun q120 => ?_) (fun q120 => ?_)
            · refine r_iconst (pc := 148) O d_M_allSo_148 ic_0 ?_
              refine r_istore_n (lv' := [(2, .int 0), (5, .int (h.1 16 (ix qv1))), (4, .int (h.1 15 (ix qv1))), (0, .ref 0), (1, .int p1), (3, .int qv1)]) (pc := 149) O d_M_allSo_149 rfl (by decide) rfl ?_
              refine r_goto (pc := 150) O d_M_allSo_150 (tgt := 200) (by decide) ?_
              refine r_iinc (lv' := [(3, .int (qv1 + 1)), (2, .int 0), (5, .int (h.1 16 (ix qv1))), (4, .int (h.1 15 (ix qv1))), (0, .ref 0), (1, .int p1)]) (pc := 200) O d_M_allSo_200 5 rfl (congrArg (HAdd.hAdd _) ic_1) (by decide) rfl ?_
              refine r_goto (pc := 203) O d_M_allSo_203 (tgt := 6) (by decide) ?_
              exact r_lv [4, 5, 1, 0] rfl (hrec6 (0, (qv1 + 1)))
            · refine r_aload_n (pc := 123) O d_M_allSo_123 2 rfl ?_
              refine r_getR (pc := 124) O gf_m_M_86_0 d_M_allSo_124 ?_
              refine r_iload (pc := 127) O d_M_allSo_127 1 rfl ?_
              refine r_zald (x := (h.1 26 (ix (h.1 15 (ix qv1))))) (pc := 129) O rfl d_M_allSo_129 rfl ?_
              refine r_iload (pc := 130) O d_M_allSo_130 0 rfl ?_
              refine r_iconst (pc := 132) O d_M_allSo_132 ic_1 ?_
              refine r_icmp_ne (tgt := 140) (pc := 133) O d_M_allSo_133 (by decide) (fun q133 => ?_) (fun q133 => ?_)
              · refine r_iconst (pc := 140) O d_M_allSo_140 ic_0 ?_
                refine r_icmp_ne (tgt := 148) (pc := 141) O d_M_allSo_141 (by decide) (fun q141 => ?_) (fun q141 => ?_)
                · refine r_iconst (pc := 148) O d_M_allSo_148 ic_0 ?_
                  refine r_istore_n (lv' := [(2, .int 0), (5, .int (h.1 16 (ix qv1))), (4, .int (h.1 15 (ix qv1))), (0, .ref 0), (1, .int p1), (3, .int qv1)]) (pc := 149) O d_M_allSo_149 rfl (by decide) rfl ?_
                  refine r_goto (pc := 150) O d_M_allSo_150 (tgt := 200) (by decide) ?_
                  refine r_iinc (lv' := [(3, .int (qv1 + 1)), (2, .int 0), (5, .int (h.1 16 (ix qv1))), (4, .int (h.1 15 (ix qv1))), (0, .ref 0), (1, .int p1)]) (pc := 200) O d_M_allSo_200 5 rfl (congrArg (HAdd.hAdd _) ic_1) (by decide) rfl ?_
                  refine r_goto (pc := 203) O d_M_allSo_203 (tgt := 6) (by decide) ?_
                  exact r_lv [4, 5, 1, 0] rfl (hrec6 (0, (qv1 + 1)))
                · refine r_iconst (pc := 144) O d_M_allSo_144 ic_1 ?_
                  refine r_goto (pc := 145) O d_M_allSo_145 (tgt := 149) (by decide) ?_
                  refine r_istore_n (lv' := [(2, .int 1), (5, .int (h.1 16 (ix qv1))), (4, .int (h.1 15 (ix qv1))), (0, .ref 0), (1, .int p1), (3, .int qv1)]) (pc := 149) O d_M_allSo_149 rfl (by decide) rfl ?_
                  refine r_goto (pc := 150) O d_M_allSo_150 (tgt := 200) (by decide) ?_
                  refine r_iinc (lv' := [(3, .int (qv1 + 1)), (2, .int 1), (5, .int (h.1 16 (ix qv1))), (4, .int (h.1 15 (ix qv1))), (0, .ref 0), (1, .int p1)]) (pc := 200) O d_M_allSo_200 5 rfl (congrArg (HAdd.hAdd _) ic_1) (by decide) rfl ?_
                  refine r_goto (pc := 203) O d_M_allSo_203 (tgt := 6) (by decide) ?_
                  exact r_lv [4, 5, 1, 0] rfl (hrec6 (1, (qv1 + 1)))
              · refine r_iconst (pc := 136) O d_M_allSo_136 ic_1 ?_
                refine r_goto (pc := 137) O d_M_allSo_137 (tgt := 141) (by decide) ?_
                refine r_icmp_ne (tgt := 148) (pc := 141) O d_M_allSo_141 (by decide) (fun q141 => ?_) (fun q141 => ?_)
                · refine r_iconst (pc := 148) O d_M_allSo_148 ic_0 ?_
                  refine r_istore_n (lv' := [(2, .int 0), (5, .int (h.1 16 (ix qv1))), (4, .int (h.1 15 (ix qv1))), (0, .ref 0), (1, .int p1), (3, .int qv1)]) (pc := 149) O d_M_allSo_149 rfl (by decide) rfl ?_
                  refine r_goto (pc := 150) O d_M_allSo_150 (tgt := 200) (by decide) ?_
                  refine r_iinc (lv' := [(3, .int (qv1 + 1)), (2, .int 0), (5, .int (h.1 16 (ix qv1))), (4, .int (h.1 15 (ix qv1))), (0, .ref 0), (1, .int p1)]) (pc := 200) O d_M_allSo_200 5 rfl (congrArg (HAdd.hAdd _) ic_1) (by decide) rfl ?_
                  refine r_goto (pc := 203) O d_M_allSo_203 (tgt := 6) (by decide) ?_
                  exact r_lv [4, 5, 1, 0] rfl (hrec6 (0, (qv1 + 1)))
                · refine r_iconst (pc := 144) O d_M_allSo_144 ic_1 ?_
                  refine r_goto (pc := 145) O d_M_allSo_145 (tgt := 149) (by decide) ?_
                  refine r_istore_n (lv' := [(2, .int 1), (5, .int (h.1 16 (ix qv1))), (4, .int (h.1 15 (ix qv1))), (0, .ref 0), (1, .int p1), (3, .int qv1)]) (pc := 149) O d_M_allSo_149 rfl (by decide) rfl ?_
                  refine r_goto (pc := 150) O d_M_allSo_150 (tgt := 200) (by decide) ?_
                  refine r_iinc (lv' := [(3, .int (qv1 + 1)), (2, .int 1), (5, .int (h.1 16 (ix qv1))), (4, .int (h.1 15 (ix qv1))), (0, .ref 0), (1, .int p1)]) (pc := 200) O d_M_allSo_200 5 rfl (congrArg (HAdd.hAdd _) ic_1) (by decide) rfl ?_
                  refine r_goto (pc := 203) O d_M_allSo_203 (tgt := 6) (by decide) ?_
                  exact r_lv [4, 5, 1, 0] rfl (hrec6 (1, (qv1 + 1)))
          · refine r_ite (fun q42_3 => ?_) (fun q42_3 => ?_)
            · refine r_tin (tgt := 153) (pc := 42) O d_M_allSo_42 (by rw [q42_3] <;> decide) (by rw [q42_3] <;> decide) (by rw [q42_3] <;> rfl) (by decide) ?_
              refine r_iload_n (pc := 153) O d_M_allSo_153 4 rfl ?_
              refine r_if_eq (tgt := 173) (pc := 154) O d_M_allSo_154 (by decide) (fun q154 => ?_) (fun q154 => ?_)
              · refine r_iconst (pc := 173) O d_M_allSo_173 ic_0 ?_
                refine r_istore_n (lv' := [(2, .int 0), (5, .int (h.1 16 (ix qv1))), (4, .int (h.1 15 (ix qv1))), (0, .ref 0), (1, .int p1), (3, .int qv1)]) (pc := 174) O d_M_allSo_174 rfl (by decide) rfl ?_
                refine r_goto (pc := 175) O d_M_allSo_175 (tgt := 200) (by decide) ?_
                refine r_iinc (lv' := [(3, .int (qv1 + 1)), (2, .int 0), (5, .int (h.1 16 (ix qv1))), (4, .int (h.1 15 (ix qv1))), (0, .ref 0), (1, .int p1)]) (pc := 200) O d_M_allSo_200 5 rfl (congrArg (HAdd.hAdd _) ic_1) (by decide) rfl ?_
                refine r_goto (pc := 203) O d_M_allSo_203 (tgt := 6) (by decide) ?_
                exact r_lv [4, 5, 1, 0] rfl (hrec6 (0, (qv1 + 1)))
              · refine r_aload_n (pc := 157) O d_M_allSo_157 2 rfl ?_
                refine r_getR (pc := 158) O gf_m_M_89_0 d_M_allSo_158 ?_
                refine r_iload (pc := 161) O d_M_allSo_161 1 rfl ?_
                refine r_iald (x := (h.1 27 (ix (h.1 15 (ix qv1))))) (pc := 163) O rfl d_M_allSo_163 rfl ?_
                refine r_iload (pc := 164) O d_M_allSo_164 0 rfl ?_
                refine r_icmp_lt (tgt := 173) (pc := 166) O d_M_allSo_166 (by decide) (fun q166 => ?_) (fun q166 => ?_)
                · refine r_iconst (pc := 173) O d_M_allSo_173 ic_0 ?_
                  refine r_istore_n (lv' := [(2, .int 0), (5, .int (h.1 16 (ix qv1))), (4, .int (h.1 15 (ix qv1))), (0, .ref 0), (1, .int p1), (3, .int qv1)]) (pc := 174) O d_M_allSo_174 rfl (by decide) rfl ?_
                  refine r_goto (pc := 175) O d_M_allSo_175 (tgt := 200) (by decide) ?_
                  refine r_iinc (lv' := [(3, .int (qv1 + 1)), (2, .int 0), (5, .int (h.1 16 (ix qv1))), (4, .int (h.1 15 (ix qv1))), (0, .ref 0), (1, .int p1)]) (pc := 200) O d_M_allSo_200 5 rfl (congrArg (HAdd.hAdd _) ic_1) (by decide) rfl ?_
                  refine r_goto (pc := 203) O d_M_allSo_203 (tgt := 6) (by decide) ?_
                  exact r_lv [4, 5, 1, 0] rfl (hrec6 (0, (qv1 + 1)))
                · refine r_iconst (pc := 169) O d_M_allSo_169 ic_1 ?_
                  refine r_goto (pc := 170) O d_M_allSo_170 (tgt := 174) (by decide) ?_
                  refine r_istore_n (lv' := [(2, .int 1), (5, .int (h.1 16 (ix qv1))), (4, .int (h.1 15 (ix qv1))), (0, .ref 0), (1, .int p1), (3, .int qv1)]) (pc := 174) O d_M_allSo_174 rfl (by decide) rfl ?_
                  refine r_goto (pc := 175) O d_M_allSo_175 (tgt := 200) (by decide) ?_
                  refine r_iinc (lv' := [(3, .int (qv1 + 1)), (2, .int 1), (5, .int (h.1 16 (ix qv1))), (4, .int (h.1 15 (ix qv1))), (0, .ref 0), (1, .int p1)]) (pc := 200) O d_M_allSo_200 5 rfl (congrArg (HAdd.hAdd _) ic_1) (by decide) rfl ?_
                  refine r_goto (pc := 203) O d_M_allSo_203 (tgt := 6) (by decide) ?_
                  exact r_lv [4, 5, 1, 0] rfl (hrec6 (1, (qv1 + 1)))
            · refine r_tout (tgt := 178) (pc := 42) O d_M_allSo_42 (by have z0 := lv_neT (a := 0) q42_0 (by decide); have z1 := lv_neT (a := 1) q42_1 (by decide); have z2 := lv_neT (a := 2) q42_2 (by decide); have z3 := lv_neT (a := 3) q42_3 (by decide); omega) (by decide) ?_
              refine r_iload_n (pc := 178) O d_M_allSo_178 4 rfl ?_
              refine r_if_eq (tgt := 198) (pc := 179) O d_M_allSo_179 (by decide) (fun q179 => ?_) (fun q179 => ?_)
              · refine r_iconst (pc := 198) O d_M_allSo_198 ic_0 ?_
                refine r_istore_n (lv' := [(2, .int 0), (5, .int (h.1 16 (ix qv1))), (4, .int (h.1 15 (ix qv1))), (0, .ref 0), (1, .int p1), (3, .int qv1)]) (pc := 199) O d_M_allSo_199 rfl (by decide) rfl ?_
                refine r_iinc (lv' := [(3, .int (qv1 + 1)), (2, .int 0), (5, .int (h.1 16 (ix qv1))), (4, .int (h.1 15 (ix qv1))), (0, .ref 0), (1, .int p1)]) (pc := 200) O d_M_allSo_200 5 rfl (congrArg (HAdd.hAdd _) ic_1) (by decide) rfl ?_
                refine r_goto (pc := 203) O d_M_allSo_203 (tgt := 6) (by decide) ?_
                exact r_lv [4, 5, 1, 0] rfl (hrec6 (0, (qv1 + 1)))
              · refine r_aload_n (pc := 182) O d_M_allSo_182 2 rfl ?_
                refine r_getR (pc := 183) O gf_m_M_89_0 d_M_allSo_183 ?_
                refine r_iload (pc := 186) O d_M_allSo_186 1 rfl ?_
                refine r_iald (x := (h.1 27 (ix (h.1 15 (ix qv1))))) (pc := 188) O rfl d_M_allSo_188 rfl ?_
                refine r_iload (pc := 189) O d_M_allSo_189 0 rfl ?_
                refine r_icmp_gt (tgt := 198) (pc := 191) O d_M_allSo_191 (by decide) (fun q191 => ?_) (fun q191 => ?_)
                · refine r_iconst (pc := 198) O d_M_allSo_198 ic_0 ?_
                  refine r_istore_n (lv' := [(2, .int 0), (5, .int (h.1 16 (ix qv1))), (4, .int (h.1 15 (ix qv1))), (0, .ref 0), (1, .int p1), (3, .int qv1)]) (pc := 199) O d_M_allSo_199 rfl (by decide) rfl ?_
                  refine r_iinc (lv' := [(3, .int (qv1 + 1)), (2, .int 0), (5, .int (h.1 16 (ix qv1))), (4, .int (h.1 15 (ix qv1))), (0, .ref 0), (1, .int p1)]) (pc := 200) O d_M_allSo_200 5 rfl (congrArg (HAdd.hAdd _) ic_1) (by decide) rfl ?_
                  refine r_goto (pc := 203) O d_M_allSo_203 (tgt := 6) (by decide) ?_
                  exact r_lv [4, 5, 1, 0] rfl (hrec6 (0, (qv1 + 1)))
                · refine r_iconst (pc := 194) O d_M_allSo_194 ic_1 ?_
                  refine r_goto (pc := 195) O d_M_allSo_195 (tgt := 199) (by decide) ?_
                  refine r_istore_n (lv' := [(2, .int 1), (5, .int (h.1 16 (ix qv1))), (4, .int (h.1 15 (ix qv1))), (0, .ref 0), (1, .int p1), (3, .int qv1)]) (pc := 199) O d_M_allSo_199 rfl (by decide) rfl ?_
                  refine r_iinc (lv' := [(3, .int (qv1 + 1)), (2, .int 1), (5, .int (h.1 16 (ix qv1))), (4, .int (h.1 15 (ix qv1))), (0, .ref 0), (1, .int p1)]) (pc := 200) O d_M_allSo_200 5 rfl (congrArg (HAdd.hAdd _) ic_1) (by decide) rfl ?_
                  refine r_goto (pc := 203) O d_M_allSo_203 (tgt := 6) (by decide) ?_
                  exact r_lv [4, 5, 1, 0] rfl (hrec6 (1, (qv1 + 1)))
  refine r_iconst (pc := 0) O d_M_allSo_0 ic_1 ?_
  refine r_istore_n (lv' := [(2, .int 1), (0, .ref 0), (1, .int p1)]) (pc := 1) O d_M_allSo_1 rfl (by decide) rfl ?_
  refine r_iconst (pc := 2) O d_M_allSo_2 ic_3 ?_
  refine r_iload_n (pc := 3) O d_M_allSo_3 2 rfl ?_
  refine r_imul (pc := 4) O d_M_allSo_4 ?_
  refine r_istore_n (lv' := [(3, .int (3 * p1)), (2, .int 1), (0, .ref 0), (1, .int p1)]) (pc := 5) O d_M_allSo_5 rfl (by decide) rfl ?_
  exact r_lv [2, 3, 1, 0] rfl (hL6 (1, (3 * p1)))
def J_M_change (n : Nat) (p1 : Int32) (p2 : Int32) (p3 : Int32) (h : sHp) : Option sHp :=
  if p1 = 0 then (some (pI h 0 32 p2)) else (if p1 = 1 then (if p3 < 7 then (sGd (sIn p2 6) (some (pI h 25 (ix p2) p3))) else ((J_M_within n (p3 - 7) p2 h).bind fun v52 =>
  if v52 = 0 then (sGd (sIn p2 6) (some (pI h 25 (ix p2) p3))) else (some h))) else (if p1 = 2 then (if p3 = 1 then (sGd (sIn p2 6) (some (pI h 26 (ix p2) 1))) else (sGd (sIn p2 6) (some (pI h 26 (ix p2) 0)))) else (if p1 = 3 then (sGd (sIn p2 3) (if 0 ≤ ((h.1 27 (ix p2)) + p3) then (sGd (sIn p2 3) (if ((h.1 27 (ix p2)) + p3) ≤ (h.1 5 (ix p2)) then (sGd (sIn p2 3) (some (pI h 27 (ix p2) ((h.1 27 (ix p2)) + p3)))) else (sGd (sIn p2 3) (sGd (sIn p2 3) (some (pI h 27 (ix p2) (h.1 5 (ix p2)))))))) else (sGd (sIn p2 3) (some (pI h 27 (ix p2) 0))))) else (some (pI h 0 38 (p2 + 1))))))
set_option maxRecDepth 20000 in
set_option maxHeartbeats 4000000 in
theorem R_M_change (n : Nat) (p1 : Int32) (p2 : Int32) (p3 : Int32) (h : sHp) : sM Zm sOv y_M_change prog_10_method_29_code 5 none rm_M_change [.ref 0, .int p1, .int p2, .int p3] h (J_M_change n p1 p2 p3 h) := by
  refine sM_of (own := "StoryStatesModel") rfl (by decide) (Nat.le_of_ble_eq_true rfl) (fun M V O => ?_)
  unfold J_M_change
  refine r_lv (lv' := [(0, .ref 0), (1, .int p1), (2, .int p2), (3, .int p3)]) [0, 1, 2, 3] rfl ?_
  refine r_iload_n (pc := 0) O d_M_change_0 1 rfl ?_
  refine r_ite (fun q1_0 => ?_) (fun q1_0 => ?_)
  · refine r_tin (tgt := 32) (pc := 1) O d_M_change_1 (by rw [q1_0] <;> decide) (by rw [q1_0] <;> decide) (by rw [q1_0] <;> rfl) (by decide) ?_
    refine r_aload_n (pc := 32) O d_M_change_32 0 rfl ?_
    refine r_iload_n (pc := 33) O d_M_change_33 2 rfl ?_
    refine r_putI (pc := 34) O pf_m_M_141_0 d_M_change_34 ?_
    refine r_goto (pc := 37) O d_M_change_37 (tgt := 144) (by decide) ?_
    exact r_vret (pc := 144) O rfl d_M_change_144
  · refine r_ite (fun q1_1 => ?_) (fun q1_1 => ?_)
    · refine r_tin (tgt := 40) (pc := 1) O d_M_change_1 (by rw [q1_1] <;> decide) (by rw [q1_1] <;> decide) (by rw [q1_1] <;> rfl) (by decide) ?_
      refine r_iload_n (pc := 40) O d_M_change_40 3 rfl ?_
      refine r_bipush (pc := 41) O d_M_change_41 bc_7 ?_
      refine r_icmp_lt (tgt := 58) (pc := 43) O d_M_change_43 (by decide) (fun q43 => ?_) (fun q43 => ?_)
      · refine r_aload_n (pc := 58) O d_M_change_58 0 rfl ?_
        refine r_getR (pc := 59) O gf_m_M_83_0 d_M_change_59 ?_
        refine r_iload_n (pc := 62) O d_M_change_62 2 rfl ?_
        refine r_iload_n (pc := 63) O d_M_change_63 3 rfl ?_
        refine r_iast (pc := 64) O rfl d_M_change_64 ?_
        refine r_goto (pc := 65) O d_M_change_65 (tgt := 144) (by decide) ?_
        exact r_vret (pc := 144) O rfl d_M_change_144
      · refine r_aload_n (pc := 46) O d_M_change_46 0 rfl ?_
        refine r_iload_n (pc := 47) O d_M_change_47 3 rfl ?_
        refine r_bipush (pc := 48) O d_M_change_48 bc_7 ?_
        refine r_isub (pc := 50) O d_M_change_50 ?_
        refine r_iload_n (pc := 51) O d_M_change_51 2 rfl ?_
        refine r_callVip (pc := 52) O [.int (p3 - 7), .int p2] rfl rfl (R_M_within n (p3 - 7) p2 h) cw_M_change_52 wm_1221 ws_M_within rfl (Nat.le_of_ble_eq_true rfl) d_M_change_52 rfl (fun v52 => ?_)
        refine r_if_ne (tgt := 144) (pc := 55) O d_M_change_55 (by decide) (fun q55 => ?_) (fun q55 => ?_)
        · exact r_vret (pc := 144) O rfl d_M_change_144
        · refine r_aload_n (pc := 58) O d_M_change_58 0 rfl ?_
          refine r_getR (pc := 59) O gf_m_M_83_0 d_M_change_59 ?_
          refine r_iload_n (pc := 62) O d_M_change_62 2 rfl ?_
          refine r_iload_n (pc := 63) O d_M_change_63 3 rfl ?_
          refine r_iast (pc := 64) O rfl d_M_change_64 ?_
          refine r_goto (pc := 65) O d_M_change_65 (tgt := 144) (by decide) ?_
          exact r_vret (pc := 144) O rfl d_M_change_144
    · refine r_ite (fun q1_2 => ?_) (fun q1_2 => ?_)
      · refine r_tin (tgt := 68) (pc := 1) O d_M_change_1 (by rw [q1_2] <;> decide) (by rw [q1_2] <;> decide) (by rw [q1_2] <;> rfl) (by decide) ?_
        refine r_aload_n (pc := 68) O d_M_change_68 0 rfl ?_
        refine r_getR (pc := 69) O gf_m_M_86_0 d_M_change_69 ?_
        refine r_iload_n (pc := 72) O d_M_change_72 2 rfl ?_
        refine r_iload_n (pc := 73) O d_M_change_73 3 rfl ?_
        refine r_iconst (pc := 74) O d_M_change_74 ic_1 ?_
        refine r_icmp_ne (tgt := 82) (pc := 75) O d_M_change_75 (by decide) (fun q75 => ?_) (fun q75 => ?_)
        · refine r_iconst (pc := 82) O d_M_change_82 ic_0 ?_
          refine r_zast (pc := 83) O rfl d_M_change_83 nz_0 ?_
          refine r_goto (pc := 84) O d_M_change_84 (tgt := 144) (by decide) ?_
          exact r_vret (pc := 144) O rfl d_M_change_144
        · refine r_iconst (pc := 78) O d_M_change_78 ic_1 ?_
          refine r_goto (pc := 79) O d_M_change_79 (tgt := 83) (by decide) ?_
          refine r_zast (pc := 83) O rfl d_M_change_83 nz_1 ?_
          refine r_goto (pc := 84) O d_M_change_84 (tgt := 144) (by decide) ?_
          exact r_vret (pc := 144) O rfl d_M_change_144
      · refine r_ite (fun q1_3 => ?_) (fun q1_3 => ?_)
        · refine r_tin (tgt := 87) (pc := 1) O d_M_change_1 (by rw [q1_3] <;> decide) (by rw [q1_3] <;> decide) (by rw [q1_3] <;> rfl) (by decide) ?_
          refine r_aload_n (pc := 87) O d_M_change_87 0 rfl ?_
          refine r_getR (pc := 88) O gf_m_M_89_0 d_M_change_88 ?_
          refine r_iload_n (pc := 91) O d_M_change_91 2 rfl ?_
          refine r_iald (x := (h.1 27 (ix p2))) (pc := 92) O rfl d_M_change_92 rfl ?_
          refine r_iload_n (pc := 93) O d_M_change_93 3 rfl ?_
          refine r_iadd (pc := 94) O d_M_change_94 ?_
          refine r_istore (lv' := [(4, .int ((h.1 27 (ix p2)) + p3)), (0, .ref 0), (1, .int p1), (2, .int p2), (3, .int p3)]) (pc := 95) O d_M_change_95 (by decide) rfl ?_
          refine r_aload_n (pc := 97) O d_M_change_97 1 rfl ?_
          refine r_getR (pc := 98) O gf_m_M_89_0 d_M_change_98 ?_
          refine r_iload_n (pc := 101) O d_M_change_101 3 rfl ?_
          refine r_iload (pc := 102) O d_M_change_102 0 rfl ?_
          refine r_if_ge (tgt := 111) (pc := 104) O d_M_change_104 (by decide) (fun q104 => ?_) (fun q104 => ?_)
          · refine r_iload (pc := 111) O d_M_change_111 0 rfl ?_
            refine r_aload_n (pc := 113) O d_M_change_113 1 rfl ?_
            refine r_getR (pc := 114) O gf_m_M_22_0 d_M_change_114 ?_
            refine r_iload_n (pc := 117) O d_M_change_117 3 rfl ?_
            refine r_iald (x := (h.1 5 (ix p2))) (pc := 118) O rfl d_M_change_118 rfl ?_
            refine r_icmp_le (tgt := 131) (pc := 119) O d_M_change_119 (by decide) (fun q119 => ?_) (fun q119 => ?_)
            · refine r_iload (pc := 131) O d_M_change_131 0 rfl ?_
              refine r_iast (pc := 133) O rfl d_M_change_133 ?_
              refine r_goto (pc := 134) O d_M_change_134 (tgt := 144) (by decide) ?_
              exact r_vret (pc := 144) O rfl d_M_change_144
            · refine r_aload_n (pc := 122) O d_M_change_122 1 rfl ?_
              refine r_getR (pc := 123) O gf_m_M_22_0 d_M_change_123 ?_
              refine r_iload_n (pc := 126) O d_M_change_126 3 rfl ?_
              refine r_iald (x := (h.1 5 (ix p2))) (pc := 127) O rfl d_M_change_127 rfl ?_
              refine r_goto (pc := 128) O d_M_change_128 (tgt := 133) (by decide) ?_
              refine r_iast (pc := 133) O rfl d_M_change_133 ?_
              refine r_goto (pc := 134) O d_M_change_134 (tgt := 144) (by decide) ?_
              exact r_vret (pc := 144) O rfl d_M_change_144
          · refine r_iconst (pc := 107) O d_M_change_107 ic_0 ?_
            refine r_goto (pc := 108) O d_M_change_108 (tgt := 133) (by decide) ?_
            refine r_iast (pc := 133) O rfl d_M_change_133 ?_
            refine r_goto (pc := 134) O d_M_change_134 (tgt := 144) (by decide) ?_
            exact r_vret (pc := 144) O rfl d_M_change_144
        · refine r_tout (tgt := 137) (pc := 1) O d_M_change_1 (by have z0 := lv_neT (a := 0) q1_0 (by decide); have z1 := lv_neT (a := 1) q1_1 (by decide); have z2 := lv_neT (a := 2) q1_2 (by decide); have z3 := lv_neT (a := 3) q1_3 (by decide); omega) (by decide) ?_
          refine r_aload_n (pc := 137) O d_M_change_137 0 rfl ?_
          refine r_iload_n (pc := 138) O d_M_change_138 2 rfl ?_
          refine r_iconst (pc := 139) O d_M_change_139 ic_1 ?_
          refine r_iadd (pc := 140) O d_M_change_140 ?_
          refine r_putI (pc := 141) O pf_m_M_144_0 d_M_change_141 ?_
          exact r_vret (pc := 144) O rfl d_M_change_144
def J_M_say (n : Nat) (p1 : Int32) (h : sHp) : Option sHp :=
  sGd (sIn (h.1 0 39) 4) (some (pI (pI h 30 (ix (h.1 0 39)) p1) 0 39 ((h.1 0 39) + 1)))
set_option maxRecDepth 20000 in
set_option maxHeartbeats 4000000 in
theorem R_M_say (n : Nat) (p1 : Int32) (h : sHp) : sM Zm sOv y_M_say prog_10_method_30_code 2 none rm_M_say [.ref 0, .int p1] h (J_M_say n p1 h) := by
  refine sM_of (own := "StoryStatesModel") rfl (by decide) (Nat.le_of_ble_eq_true rfl) (fun M V O => ?_)
  unfold J_M_say
  refine r_lv (lv' := [(0, .ref 0), (1, .int p1)]) [0, 1] rfl ?_
  refine r_aload_n (pc := 0) O d_M_say_0 0 rfl ?_
  refine r_getR (pc := 1) O gf_m_M_98_0 d_M_say_1 ?_
  refine r_aload_n (pc := 4) O d_M_say_4 0 rfl ?_
  refine r_getI (x := (h.1 0 39)) (pc := 5) O gf_m_M_234_0 d_M_say_5 rfl ?_
  refine r_iload_n (pc := 8) O d_M_say_8 1 rfl ?_
  refine r_iast (pc := 9) O rfl d_M_say_9 ?_
  refine r_aload_n (pc := 10) O d_M_say_10 0 rfl ?_
  refine r_dup (pc := 11) O d_M_say_11 rfl ?_
  refine r_getI (x := (h.1 0 39)) (pc := 12) O gf_m_M_234_0 d_M_say_12 rfl ?_
  refine r_iconst (pc := 15) O d_M_say_15 ic_1 ?_
  refine r_iadd (pc := 16) O d_M_say_16 ?_
  refine r_putI (pc := 17) O pf_m_M_234_0 d_M_say_17 ?_
  exact r_vret (pc := 20) O rfl d_M_say_20
def F_M_fire_26 (n : Nat) (p1 : Int32) (rec26 : Int32 × sHp → Option sHp) (q : Int32 × sHp) : Option sHp :=
  sGd (sIn p1 12) (if ((3 * p1) + (q.2.1 17 (ix p1))) ≤ q.1 then (some q.2) else (if (q.2.1 0 38) = 0 then (sGd (sIn q.1 36) (sGd (sIn q.1 36) (sGd (sIn q.1 36) ((J_M_change n (q.2.1 18 (ix q.1)) (q.2.1 19 (ix q.1)) (q.2.1 20 (ix q.1)) q.2).bind fun v66 =>
  rec26 ((q.1 + 1), v66))))) else (some q.2)))
def J_M_fire (n : Nat) (p1 : Int32) (h : sHp) : Option sHp :=
  sGd (sIn p1 12) ((J_M_say n (h.1 11 (ix p1)) h).bind fun v7 =>
  sFx (F_M_fire_26 n p1 ) n ((3 * p1), (pI v7 0 41 ((v7.1 0 41) ||| (jIshl 1 p1)))))
set_option maxRecDepth 20000 in
set_option maxHeartbeats 4000000 in
theorem R_M_fire (n : Nat) (p1 : Int32) (h : sHp) : sM Zm sOv y_M_fire prog_10_method_31_code 3 none rm_M_fire [.ref 0, .int p1] h (J_M_fire n p1 h) := by
  refine sM_of (own := "StoryStatesModel") rfl (by decide) (Nat.le_of_ble_eq_true rfl) (fun M V O => ?_)
  unfold J_M_fire
  refine r_lv (lv' := [(0, .ref 0), (1, .int p1)]) [0, 1] rfl ?_
  have hL26 : ∀ (q : Int32 × sHp), sS Zm M V (sEb sOv) 26 [(0, .ref 0), (1, .int p1), (2, .int q.1)] [] q.2 (sFx (F_M_fire_26 n p1 ) n q) := by
    skip
    refine r_fx (fun q => [(0, .ref 0), (1, .int p1), (2, .int q.1)]) (fun q => q.2) (F_M_fire_26 n p1 ) (fun rec26 hrec26 q => ?_) n
    obtain ⟨qv0, qv1⟩ := q
    show sS Zm M V (sEb sOv) 26 [(0, .ref 0), (1, .int p1), (2, .int qv0)] [] qv1 _
    unfold F_M_fire_26
    try dsimp only
    refine r_iload_n (pc := 26) O d_M_fire_26 2 rfl ?_
    refine r_iconst (pc := 27) O d_M_fire_27 ic_3 ?_
    refine r_iload_n (pc := 28) O d_M_fire_28 1 rfl ?_
    refine r_imul (pc := 29) O d_M_fire_29 ?_
    refine r_aload_n (pc := 30) O d_M_fire_30 0 rfl ?_
    refine r_getR (pc := 31) O gf_m_M_59_0 d_M_fire_31 ?_
    refine r_iload_n (pc := 34) O d_M_fire_34 1 rfl ?_
    refine r_iald (x := (qv1.1 17 (ix p1))) (pc := 35) O rfl d_M_fire_35 rfl ?_
    refine r_iadd (pc := 36) O d_M_fire_36 ?_
    refine r_icmp_ge (tgt := 75) (pc := 37) O d_M_fire_37 (by decide) (fun q37 => ?_) (fun q37 => ?_)
    · exact r_vret (pc := 75) O rfl d_M_fire_75
    · refine r_aload_n (pc := 40) O d_M_fire_40 0 rfl ?_
      refine r_getI (x := (qv1.1 0 38)) (pc := 41) O gf_m_M_144_0 d_M_fire_41 rfl ?_
      refine r_if_ne (tgt := 75) (pc := 44) O d_M_fire_44 (by decide) (fun q44 => ?_) (fun q44 => ?_)
      · exact r_vret (pc := 75) O rfl d_M_fire_75
      · refine r_aload_n (pc := 47) O d_M_fire_47 0 rfl ?_
        refine r_aload_n (pc := 48) O d_M_fire_48 0 rfl ?_
        refine r_getR (pc := 49) O gf_m_M_62_0 d_M_fire_49 ?_
        refine r_iload_n (pc := 52) O d_M_fire_52 2 rfl ?_
        refine r_iald (x := (qv1.1 18 (ix qv0))) (pc := 53) O rfl d_M_fire_53 rfl ?_
        refine r_aload_n (pc := 54) O d_M_fire_54 0 rfl ?_
        refine r_getR (pc := 55) O gf_m_M_65_0 d_M_fire_55 ?_
        refine r_iload_n (pc := 58) O d_M_fire_58 2 rfl ?_
        refine r_iald (x := (qv1.1 19 (ix qv0))) (pc := 59) O rfl d_M_fire_59 rfl ?_
        refine r_aload_n (pc := 60) O d_M_fire_60 0 rfl ?_
        refine r_getR (pc := 61) O gf_m_M_68_0 d_M_fire_61 ?_
        refine r_iload_n (pc := 64) O d_M_fire_64 2 rfl ?_
        refine r_iald (x := (qv1.1 20 (ix qv0))) (pc := 65) O rfl d_M_fire_65 rfl ?_
        refine r_callVv (pc := 66) O [.int (qv1.1 18 (ix qv0)), .int (qv1.1 19 (ix qv0)), .int (qv1.1 20 (ix qv0))] rfl rfl (R_M_change n (qv1.1 18 (ix qv0)) (qv1.1 19 (ix qv0)) (qv1.1 20 (ix qv0)) qv1) cw_M_fire_66 wm_1217 ws_M_change rfl (Nat.le_of_ble_eq_true rfl) d_M_fire_66 rfl (fun v66 => ?_)
        refine r_iinc (lv' := [(2, .int (qv0 + 1)), (0, .ref 0), (1, .int p1)]) (pc := 69) O d_M_fire_69 2 rfl (congrArg (HAdd.hAdd _) ic_1) (by decide) rfl ?_
        refine r_goto (pc := 72) O d_M_fire_72 (tgt := 26) (by decide) ?_
        exact r_lv [1, 2, 0] rfl (hrec26 ((qv0 + 1), v66))
  refine r_aload_n (pc := 0) O d_M_fire_0 0 rfl ?_
  refine r_aload_n (pc := 1) O d_M_fire_1 0 rfl ?_
  refine r_getR (pc := 2) O gf_m_M_41_0 d_M_fire_2 ?_
  refine r_iload_n (pc := 5) O d_M_fire_5 1 rfl ?_
  refine r_iald (x := (h.1 11 (ix p1))) (pc := 6) O rfl d_M_fire_6 rfl ?_
  refine r_callVv (pc := 7) O [.int (h.1 11 (ix p1))] rfl rfl (R_M_say n (h.1 11 (ix p1)) h) cw_M_fire_7 wm_1213 ws_M_say rfl (Nat.le_of_ble_eq_true rfl) d_M_fire_7 rfl (fun v7 => ?_)
  refine r_aload_n (pc := 10) O d_M_fire_10 0 rfl ?_
  refine r_aload_n (pc := 11) O d_M_fire_11 0 rfl ?_
  refine r_getI (x := (v7.1 0 41)) (pc := 12) O gf_m_M_191_0 d_M_fire_12 rfl ?_
  refine r_iconst (pc := 15) O d_M_fire_15 ic_1 ?_
  refine r_iload_n (pc := 16) O d_M_fire_16 1 rfl ?_
  refine r_ishl (pc := 17) O d_M_fire_17 ?_
  refine r_ior (pc := 18) O d_M_fire_18 ?_
  refine r_putI (pc := 19) O pf_m_M_191_0 d_M_fire_19 ?_
  refine r_iconst (pc := 22) O d_M_fire_22 ic_3 ?_
  refine r_iload_n (pc := 23) O d_M_fire_23 1 rfl ?_
  refine r_imul (pc := 24) O d_M_fire_24 ?_
  refine r_istore_n (lv' := [(2, .int (3 * p1)), (0, .ref 0), (1, .int p1)]) (pc := 25) O d_M_fire_25 rfl (by decide) rfl ?_
  exact r_lv [1, 2, 0] rfl (hL26 ((3 * p1), (pI v7 0 41 ((v7.1 0 41) ||| (jIshl 1 p1)))))
def K_M_fitting_114 (n : Nat) (p1 : Int32) (p2 : Int32) (p3 : Int32) (h : sHp) (rec33 : (Int32 → Option Int32)) (x4 : Int32) (t0 : Int32) : Option Int32 :=
  if t0 = 0 then (rec33 (x4 + 1)) else ((J_M_allSo n x4 h).bind fun v124 =>
  if v124 = 0 then (rec33 (x4 + 1)) else (some x4))
def K_M_fitting_113 (n : Nat) (p1 : Int32) (p2 : Int32) (p3 : Int32) (h : sHp) (rec33 : (Int32 → Option Int32)) (x4 : Int32) : Option Int32 :=
  K_M_fitting_114 n p1 p2 p3 h rec33 x4 0
def K_M_fitting_109 (n : Nat) (p1 : Int32) (p2 : Int32) (p3 : Int32) (h : sHp) (rec33 : (Int32 → Option Int32)) (x4 : Int32) : Option Int32 :=
  K_M_fitting_114 n p1 p2 p3 h rec33 x4 1
def K_M_fitting_86 (n : Nat) (p1 : Int32) (p2 : Int32) (p3 : Int32) (h : sHp) (rec33 : (Int32 → Option Int32)) (x4 : Int32) : Option Int32 :=
  sGd (sIn x4 12) (if (h.1 10 (ix x4)) = (-2) then (K_M_fitting_109 n p1 p2 p3 h rec33 x4) else (sGd (sIn x4 12) (if (h.1 10 (ix x4)) = p3 then (K_M_fitting_109 n p1 p2 p3 h rec33 x4) else (K_M_fitting_113 n p1 p2 p3 h rec33 x4))))
def F_M_fitting_33 (n : Nat) (p1 : Int32) (p2 : Int32) (p3 : Int32) (h : sHp) (rec33 : Int32 → Option Int32) (q : Int32) : Option Int32 :=
  if (h.1 0 12) ≤ q then (some (-1)) else (sGd (sIn q 12) (if (h.1 12 (ix q)) = 0 then (sGd (sIn q 12) (if (h.1 8 (ix q)) = p1 then (sGd (sIn q 12) (if (h.1 9 (ix q)) = (-2) then (K_M_fitting_86 n p1 p2 p3 h rec33 q) else (sGd (sIn q 12) (if (h.1 9 (ix q)) = p2 then (K_M_fitting_86 n p1 p2 p3 h rec33 q) else (K_M_fitting_113 n p1 p2 p3 h rec33 q))))) else (K_M_fitting_113 n p1 p2 p3 h rec33 q))) else (K_M_fitting_113 n p1 p2 p3 h rec33 q)))
def K_M_fitting_30 (n : Nat) (p1 : Int32) (p2 : Int32) (p3 : Int32) (h : sHp) : Option Int32 :=
  sFx (F_M_fitting_33 n p1 p2 p3 h ) n 0
def K_M_fitting_16 (n : Nat) (p1 : Int32) (p2 : Int32) (p3 : Int32) (h : sHp) : Option Int32 :=
  if p3 < 0 then (K_M_fitting_30 n p1 p2 p3 h) else ((J_M_isSeen n p3 h).bind fun v22 =>
  if v22 = 0 then (some (-1)) else (K_M_fitting_30 n p1 p2 p3 h))
def J_M_fitting (n : Nat) (p1 : Int32) (p2 : Int32) (p3 : Int32) (h : sHp) : Option Int32 :=
  if p1 ≤ 0 then (K_M_fitting_30 n p1 p2 p3 h) else (if p2 < 0 then (K_M_fitting_16 n p1 p2 p3 h) else ((J_M_isSeen n p2 h).bind fun v10 =>
  if v10 = 0 then (some (-1)) else (K_M_fitting_16 n p1 p2 p3 h)))
set_option maxRecDepth 20000 in
set_option maxHeartbeats 4000000 in
theorem R_M_fitting (n : Nat) (p1 : Int32) (p2 : Int32) (p3 : Int32) (h : sHp) : sM Zm (sPi h) y_M_fitting prog_10_method_32_code 6 (some .int) rm_M_fitting [.ref 0, .int p1, .int p2, .int p3] h (J_M_fitting n p1 p2 p3 h) := by
  refine sM_of (own := "StoryStatesModel") rfl (by decide) (Nat.le_of_ble_eq_true rfl) (fun M V O => ?_)
  unfold J_M_fitting
  refine r_lv (lv' := [(0, .ref 0), (1, .int p1), (2, .int p2), (3, .int p3)]) [0, 1, 2, 3] rfl ?_
  have hL33 : ∀ (q : Int32), sS Zm M V (sEb (sPi h)) 33 [(0, .ref 0), (1, .int p1), (2, .int p2), (3, .int p3), (4, .int q)] [] h (sFx (F_M_fitting_33 n p1 p2 p3 h ) n q) := by
    skip
    refine r_fx (fun q => [(0, .ref 0), (1, .int p1), (2, .int p2), (3, .int p3), (4, .int q)]) (fun q => h) (F_M_fitting_33 n p1 p2 p3 h ) (fun rec33 hrec33 q => ?_) n
    skip
    show sS Zm M V (sEb (sPi h)) 33 [(0, .ref 0), (1, .int p1), (2, .int p2), (3, .int p3), (4, .int q)] [] h _
    unfold F_M_fitting_33
    try dsimp only
    have hK114 : ∀ (x4 : Int32) (t0 : Int32), sS Zm M V (sEb (sPi h)) 114 [(0, .ref 0), (1, .int p1), (2, .int p2), (3, .int p3), (4, .int x4)] [.int t0] h (K_M_fitting_114 n p1 p2 p3 h rec33 x4 t0) := by
      intro x4 t0
      unfold K_M_fitting_114
      refine r_istore (lv' := [(5, .int t0), (0, .ref 0), (1, .int p1), (2, .int p2), (3, .int p3), (4, .int x4)]) (pc := 114) O d_M_fitting_114 (by decide) rfl ?_
      refine r_iload (pc := 116) O d_M_fitting_116 0 rfl ?_
      refine r_if_eq (tgt := 133) (pc := 118) O d_M_fitting_118 (by decide) (fun q118 => ?_) (fun q118 => ?_)
      · refine r_iinc (lv' := [(4, .int (x4 + 1)), (5, .int t0), (0, .ref 0), (1, .int p1), (2, .int p2), (3, .int p3)]) (pc := 133) O d_M_fitting_133 5 rfl (congrArg (HAdd.hAdd _) ic_1) (by decide) rfl ?_
        refine r_goto (pc := 136) O d_M_fitting_136 (tgt := 33) (by decide) ?_
        exact r_lv [2, 3, 4, 5, 0] rfl (hrec33 (x4 + 1))
      · refine r_aload_n (pc := 121) O d_M_fitting_121 1 rfl ?_
        refine r_iload (pc := 122) O d_M_fitting_122 5 rfl ?_
        refine r_callVip (pc := 124) O [.int x4] rfl rfl (R_M_allSo n x4 h) cw_M_fitting_124 wm_1205 ws_M_allSo rfl (Nat.le_of_ble_eq_true rfl) d_M_fitting_124 rfl (fun v124 => ?_)
        refine r_if_eq (tgt := 133) (pc := 127) O d_M_fitting_127 (by decide) (fun q127 => ?_) (fun q127 => ?_)
        · refine r_iinc (lv' := [(4, .int (x4 + 1)), (5, .int t0), (0, .ref 0), (1, .int p1), (2, .int p2), (3, .int p3)]) (pc := 133) O d_M_fitting_133 5 rfl (congrArg (HAdd.hAdd _) ic_1) (by decide) rfl ?_
          refine r_goto (pc := 136) O d_M_fitting_136 (tgt := 33) (by decide) ?_
          exact r_lv [2, 3, 4, 5, 0] rfl (hrec33 (x4 + 1))
        · refine r_iload (pc := 130) O d_M_fitting_130 5 rfl ?_
          exact r_iret (pc := 132) O rfl d_M_fitting_132
    have hK113 : ∀ (x4 : Int32), sS Zm M V (sEb (sPi h)) 113 [(0, .ref 0), (1, .int p1), (2, .int p2), (3, .int p3), (4, .int x4)] [] h (K_M_fitting_113 n p1 p2 p3 h rec33 x4) := by
      intro x4
      unfold K_M_fitting_113
      refine r_iconst (pc := 113) O d_M_fitting_113 ic_0 ?_
      exact (hK114 x4 0)
    have hK109 : ∀ (x4 : Int32), sS Zm M V (sEb (sPi h)) 109 [(0, .ref 0), (1, .int p1), (2, .int p2), (3, .int p3), (4, .int x4)] [] h (K_M_fitting_109 n p1 p2 p3 h rec33 x4) := by
      intro x4
      unfold K_M_fitting_109
      refine r_iconst (pc := 109) O d_M_fitting_109 ic_1 ?_
      refine r_goto (pc := 110) O d_M_fitting_110 (tgt := 114) (by decide) ?_
      exact (hK114 x4 1)
    have hK86 : ∀ (x4 : Int32), sS Zm M V (sEb (sPi h)) 86 [(0, .ref 0), (1, .int p1), (2, .int p2), (3, .int p3), (4, .int x4)] [] h (K_M_fitting_86 n p1 p2 p3 h rec33 x4) := by
      intro x4
      unfold K_M_fitting_86
      refine r_aload_n (pc := 86) O d_M_fitting_86 0 rfl ?_
      refine r_getR (pc := 87) O gf_m_M_38_0 d_M_fitting_87 ?_
      refine r_iload (pc := 90) O d_M_fitting_90 4 rfl ?_
      refine r_iald (x := (h.1 10 (ix x4))) (pc := 92) O rfl d_M_fitting_92 rfl ?_
      refine r_bipush (pc := 93) O d_M_fitting_93 bc_m2 ?_
      refine r_icmp_eq (tgt := 109) (pc := 95) O d_M_fitting_95 (by decide) (fun q95 => ?_) (fun q95 => ?_)
      · exact (hK109 x4)
      · refine r_aload_n (pc := 98) O d_M_fitting_98 0 rfl ?_
        refine r_getR (pc := 99) O gf_m_M_38_0 d_M_fitting_99 ?_
        refine r_iload (pc := 102) O d_M_fitting_102 4 rfl ?_
        refine r_iald (x := (h.1 10 (ix x4))) (pc := 104) O rfl d_M_fitting_104 rfl ?_
        refine r_iload_n (pc := 105) O d_M_fitting_105 3 rfl ?_
        refine r_icmp_ne (tgt := 113) (pc := 106) O d_M_fitting_106 (by decide) (fun q106 => ?_) (fun q106 => ?_)
        · exact (hK113 x4)
        · exact (hK109 x4)
    refine r_iload (pc := 33) O d_M_fitting_33 4 rfl ?_
    refine r_aload_n (pc := 35) O d_M_fitting_35 0 rfl ?_
    refine r_getI (x := (h.1 0 12)) (pc := 36) O gf_m_M_208_0 d_M_fitting_36 rfl ?_
    refine r_icmp_ge (tgt := 139) (pc := 39) O d_M_fitting_39 (by decide) (fun q39 => ?_) (fun q39 => ?_)
    · refine r_iconst (pc := 139) O d_M_fitting_139 ic_m1 ?_
      exact r_iret (pc := 140) O rfl d_M_fitting_140
    · refine r_aload_n (pc := 42) O d_M_fitting_42 0 rfl ?_
      refine r_getR (pc := 43) O gf_m_M_44_0 d_M_fitting_43 ?_
      refine r_iload (pc := 46) O d_M_fitting_46 4 rfl ?_
      refine r_zald (x := (h.1 12 (ix q))) (pc := 48) O rfl d_M_fitting_48 rfl ?_
      refine r_if_ne (tgt := 113) (pc := 49) O d_M_fitting_49 (by decide) (fun q49 => ?_) (fun q49 => ?_)
      · exact (hK113 q)
      · refine r_aload_n (pc := 52) O d_M_fitting_52 0 rfl ?_
        refine r_getR (pc := 53) O gf_m_M_32_0 d_M_fitting_53 ?_
        refine r_iload (pc := 56) O d_M_fitting_56 4 rfl ?_
        refine r_iald (x := (h.1 8 (ix q))) (pc := 58) O rfl d_M_fitting_58 rfl ?_
        refine r_iload_n (pc := 59) O d_M_fitting_59 1 rfl ?_
        refine r_icmp_ne (tgt := 113) (pc := 60) O d_M_fitting_60 (by decide) (fun q60 => ?_) (fun q60 => ?_)
        · exact (hK113 q)
        · refine r_aload_n (pc := 63) O d_M_fitting_63 0 rfl ?_
          refine r_getR (pc := 64) O gf_m_M_35_0 d_M_fitting_64 ?_
          refine r_iload (pc := 67) O d_M_fitting_67 4 rfl ?_
          refine r_iald (x := (h.1 9 (ix q))) (pc := 69) O rfl d_M_fitting_69 rfl ?_
          refine r_bipush (pc := 70) O d_M_fitting_70 bc_m2 ?_
          refine r_icmp_eq (tgt := 86) (pc := 72) O d_M_fitting_72 (by decide) (fun q72 => ?_) (fun q72 => ?_)
          · exact (hK86 q)
          · refine r_aload_n (pc := 75) O d_M_fitting_75 0 rfl ?_
            refine r_getR (pc := 76) O gf_m_M_35_0 d_M_fitting_76 ?_
            refine r_iload (pc := 79) O d_M_fitting_79 4 rfl ?_
            refine r_iald (x := (h.1 9 (ix q))) (pc := 81) O rfl d_M_fitting_81 rfl ?_
            refine r_iload_n (pc := 82) O d_M_fitting_82 2 rfl ?_
            refine r_icmp_ne (tgt := 113) (pc := 83) O d_M_fitting_83 (by decide) (fun q83 => ?_) (fun q83 => ?_)
            · exact (hK113 q)
            · exact (hK86 q)
  have hK30 : sS Zm M V (sEb (sPi h)) 30 [(0, .ref 0), (1, .int p1), (2, .int p2), (3, .int p3)] [] h (K_M_fitting_30 n p1 p2 p3 h ) := by
    skip
    unfold K_M_fitting_30
    refine r_iconst (pc := 30) O d_M_fitting_30 ic_0 ?_
    refine r_istore (lv' := [(4, .int 0), (0, .ref 0), (1, .int p1), (2, .int p2), (3, .int p3)]) (pc := 31) O d_M_fitting_31 (by decide) rfl ?_
    exact r_lv [1, 2, 3, 4, 0] rfl (hL33 0)
  have hK16 : sS Zm M V (sEb (sPi h)) 16 [(0, .ref 0), (1, .int p1), (2, .int p2), (3, .int p3)] [] h (K_M_fitting_16 n p1 p2 p3 h ) := by
    skip
    unfold K_M_fitting_16
    refine r_iload_n (pc := 16) O d_M_fitting_16 3 rfl ?_
    refine r_if_lt (tgt := 30) (pc := 17) O d_M_fitting_17 (by decide) (fun q17 => ?_) (fun q17 => ?_)
    · exact (hK30 )
    · refine r_aload_n (pc := 20) O d_M_fitting_20 0 rfl ?_
      refine r_iload_n (pc := 21) O d_M_fitting_21 3 rfl ?_
      refine r_callVip (pc := 22) O [.int p3] rfl rfl (R_M_isSeen n p3 h) cw_M_fitting_22 wm_1201 ws_M_isSeen rfl (Nat.le_of_ble_eq_true rfl) d_M_fitting_22 rfl (fun v22 => ?_)
      refine r_if_ne (tgt := 30) (pc := 25) O d_M_fitting_25 (by decide) (fun q25 => ?_) (fun q25 => ?_)
      · exact (hK30 )
      · refine r_iconst (pc := 28) O d_M_fitting_28 ic_m1 ?_
        exact r_iret (pc := 29) O rfl d_M_fitting_29
  refine r_iload_n (pc := 0) O d_M_fitting_0 1 rfl ?_
  refine r_if_le (tgt := 30) (pc := 1) O d_M_fitting_1 (by decide) (fun q1 => ?_) (fun q1 => ?_)
  · exact (hK30 )
  · refine r_iload_n (pc := 4) O d_M_fitting_4 2 rfl ?_
    refine r_if_lt (tgt := 16) (pc := 5) O d_M_fitting_5 (by decide) (fun q5 => ?_) (fun q5 => ?_)
    · exact (hK16 )
    · refine r_aload_n (pc := 8) O d_M_fitting_8 0 rfl ?_
      refine r_iload_n (pc := 9) O d_M_fitting_9 2 rfl ?_
      refine r_callVip (pc := 10) O [.int p2] rfl rfl (R_M_isSeen n p2 h) cw_M_fitting_10 wm_1201 ws_M_isSeen rfl (Nat.le_of_ble_eq_true rfl) d_M_fitting_10 rfl (fun v10 => ?_)
      refine r_if_eq (tgt := 28) (pc := 13) O d_M_fitting_13 (by decide) (fun q13 => ?_) (fun q13 => ?_)
      · refine r_iconst (pc := 28) O d_M_fitting_28 ic_m1 ?_
        exact r_iret (pc := 29) O rfl d_M_fitting_29
      · exact (hK16 )
def K_M_plain_208 (n : Nat) (p1 : Int32) (p2 : Int32) (p3 : Int32) (t0 : Int32) (t1 : Int32) (h : sHp) : Option (Int32 × sHp) :=
  if t1 = t0 then (some (0, h)) else (if p1 = 3 then (sGd (sIn p2 6) (some (1, (pI h 26 (ix p2) 1)))) else (sGd (sIn p2 6) (some (1, (pI h 26 (ix p2) 0)))))
def K_M_plain_89 (n : Nat) (p1 : Int32) (p2 : Int32) (p3 : Int32) (x4 : Int32) (h : sHp) : Option (Int32 × sHp) :=
  sGd (sIn x4 24) (some (1, (pI h 0 32 ((h.1 1 (ix x4)) - 1))))
def J_M_plain (n : Nat) (p1 : Int32) (p2 : Int32) (p3 : Int32) (h : sHp) : Option (Int32 × sHp) :=
  if p1 = 0 then (sGd (sIn ((4 * (h.1 0 32)) + p2) 24) (if (h.1 1 (ix ((4 * (h.1 0 32)) + p2))) = 0 then (some (0, h)) else (sGd (sIn ((4 * (h.1 0 32)) + p2) 24) (if (h.1 2 (ix ((4 * (h.1 0 32)) + p2))) ≤ 0 then (K_M_plain_89 n p1 p2 p3 ((4 * (h.1 0 32)) + p2) h) else (sGd (sIn ((4 * (h.1 0 32)) + p2) 24) (sGd (sIn ((h.1 2 (ix ((4 * (h.1 0 32)) + p2))) - 1) 6) (if (h.1 26 (ix ((h.1 2 (ix ((4 * (h.1 0 32)) + p2))) - 1))) = 0 then (some (0, h)) else (K_M_plain_89 n p1 p2 p3 ((4 * (h.1 0 32)) + p2) h)))))))) else (if p1 = 1 then ((J_M_isSeen n p2 h).bind fun v106 =>
  if v106 = 0 then (some (0, h)) else (sGd (sIn p2 6) (if (jRem (h.1 3 (ix p2)) 2) = 0 then (some (0, h)) else (sGd (sIn p2 6) (if (h.1 25 (ix p2)) = 6 then (some (0, h)) else (sGd (sIn p2 6) (some (1, (pI h 25 (ix p2) 6))))))))) else (if p1 = 2 then (sGd (sIn p2 6) (if (h.1 25 (ix p2)) = 6 then (sGd (sIn p2 6) (some (1, (pI h 25 (ix p2) (h.1 0 32))))) else (some (0, h)))) else (if p1 = 3 then ((J_M_isSeen n p2 h).bind fun v173 =>
  if v173 = 0 then (some (0, h)) else (sGd (sIn p2 6) (if (jRem ((h.1 3 (ix p2)) / 2) 2) = 0 then (some (0, h)) else (sGd (sIn p2 6) (K_M_plain_208 n p1 p2 p3 1 (h.1 26 (ix p2)) h))))) else (if p1 = 4 then ((J_M_isSeen n p2 h).bind fun v173 =>
  if v173 = 0 then (some (0, h)) else (sGd (sIn p2 6) (if (jRem ((h.1 3 (ix p2)) / 2) 2) = 0 then (some (0, h)) else (sGd (sIn p2 6) (K_M_plain_208 n p1 p2 p3 0 (h.1 26 (ix p2)) h))))) else (if p1 = 5 then (sGd (sIn p2 6) (if (h.1 25 (ix p2)) = 6 then ((J_M_isSeen n p3 h).bind fun v244 =>
  if v244 = 0 then (some (0, h)) else (sGd (sIn p3 6) (if (jRem ((h.1 3 (ix p3)) / 2) 2) = 0 then (some (0, h)) else (sGd (sIn p3 6) (if (h.1 26 (ix p3)) = 0 then (some (0, h)) else ((J_M_within n p3 p2 h).bind fun v275 =>
  if v275 = 0 then (sGd (sIn p2 6) (some (1, (pI h 25 (ix p2) (7 + p3))))) else (some (0, h)))))))) else (some (0, h)))) else (if p1 = 6 then (some (1, h)) else (some (0, h))))))))
set_option maxRecDepth 20000 in
set_option maxHeartbeats 4000000 in
theorem R_M_plain (n : Nat) (p1 : Int32) (p2 : Int32) (p3 : Int32) (h : sHp) : sM Zm sOi y_M_plain prog_10_method_33_code 5 (some .boolean) rm_M_plain [.ref 0, .int p1, .int p2, .int p3] h (J_M_plain n p1 p2 p3 h) := by
  refine sM_of (own := "StoryStatesModel") rfl (by decide) (Nat.le_of_ble_eq_true rfl) (fun M V O => ?_)
  unfold J_M_plain
  refine r_lv (lv' := [(0, .ref 0), (1, .int p1), (2, .int p2), (3, .int p3)]) [0, 1, 2, 3] rfl ?_
  have hK208 : ∀ (t0 : Int32) (t1 : Int32) (h : sHp), sS Zm M V (sEb sOi) 208 [(0, .ref 0), (1, .int p1), (2, .int p2)] [.int t0, .int t1] h (K_M_plain_208 n p1 p2 p3 t0 t1 h) := by
    intro t0 t1 h
    unfold K_M_plain_208
    refine r_icmp_ne (tgt := 213) (pc := 208) O d_M_plain_208 (by decide) (fun q208 => ?_) (fun q208 => ?_)
    · refine r_aload_n (pc := 213) O d_M_plain_213 0 rfl ?_
      refine r_getR (pc := 214) O gf_m_M_86_0 d_M_plain_214 ?_
      refine r_iload_n (pc := 217) O d_M_plain_217 2 rfl ?_
      refine r_iload_n (pc := 218) O d_M_plain_218 1 rfl ?_
      refine r_iconst (pc := 219) O d_M_plain_219 ic_3 ?_
      refine r_icmp_ne (tgt := 227) (pc := 220) O d_M_plain_220 (by decide) (fun q220 => ?_) (fun q220 => ?_)
      · refine r_iconst (pc := 227) O d_M_plain_227 ic_0 ?_
        refine r_zast (pc := 228) O rfl d_M_plain_228 nz_0 ?_
        refine r_iconst (pc := 229) O d_M_plain_229 ic_1 ?_
        exact r_zret (pc := 230) O rfl d_M_plain_230 nb_1
      · refine r_iconst (pc := 223) O d_M_plain_223 ic_1 ?_
        refine r_goto (pc := 224) O d_M_plain_224 (tgt := 228) (by decide) ?_
        refine r_zast (pc := 228) O rfl d_M_plain_228 nz_1 ?_
        refine r_iconst (pc := 229) O d_M_plain_229 ic_1 ?_
        exact r_zret (pc := 230) O rfl d_M_plain_230 nb_1
    · refine r_iconst (pc := 211) O d_M_plain_211 ic_0 ?_
      exact r_zret (pc := 212) O rfl d_M_plain_212 nb_0
  have hK89 : ∀ (x4 : Int32) (h : sHp), sS Zm M V (sEb sOi) 89 [(0, .ref 0), (4, .int x4)] [] h (K_M_plain_89 n p1 p2 p3 x4 h) := by
    intro x4 h
    unfold K_M_plain_89
    refine r_aload_n (pc := 89) O d_M_plain_89 0 rfl ?_
    refine r_aload_n (pc := 90) O d_M_plain_90 0 rfl ?_
    refine r_getR (pc := 91) O gf_m_M_7_0 d_M_plain_91 ?_
    refine r_iload (pc := 94) O d_M_plain_94 1 rfl ?_
    refine r_iald (x := (h.1 1 (ix x4))) (pc := 96) O rfl d_M_plain_96 rfl ?_
    refine r_iconst (pc := 97) O d_M_plain_97 ic_1 ?_
    refine r_isub (pc := 98) O d_M_plain_98 ?_
    refine r_putI (pc := 99) O pf_m_M_141_0 d_M_plain_99 ?_
    refine r_iconst (pc := 102) O d_M_plain_102 ic_1 ?_
    exact r_zret (pc := 103) O rfl d_M_plain_103 nb_1
  refine r_iload_n (pc := 0) O d_M_plain_0 1 rfl ?_
  refine r_ite (fun q1_0 => ?_) (fun q1_0 => ?_)
  · refine r_tin (tgt := 40) (pc := 1) O d_M_plain_1 (by rw [q1_0] <;> decide) (by rw [q1_0] <;> decide) (by rw [q1_0] <;> rfl) (by decide) ?_
    refine r_iconst (pc := 40) O d_M_plain_40 ic_4 ?_
    refine r_aload_n (pc := 41) O d_M_plain_41 0 rfl ?_
    refine r_getI (x := (h.1 0 32)) (pc := 42) O gf_m_M_141_0 d_M_plain_42 rfl ?_
    refine r_imul (pc := 45) O d_M_plain_45 ?_
    refine r_iload_n (pc := 46) O d_M_plain_46 2 rfl ?_
    refine r_iadd (pc := 47) O d_M_plain_47 ?_
    refine r_istore (lv' := [(4, .int ((4 * (h.1 0 32)) + p2)), (0, .ref 0), (1, .int p1), (2, .int p2), (3, .int p3)]) (pc := 48) O d_M_plain_48 (by decide) rfl ?_
    refine r_aload_n (pc := 50) O d_M_plain_50 1 rfl ?_
    refine r_getR (pc := 51) O gf_m_M_7_0 d_M_plain_51 ?_
    refine r_iload (pc := 54) O d_M_plain_54 0 rfl ?_
    refine r_iald (x := (h.1 1 (ix ((4 * (h.1 0 32)) + p2)))) (pc := 56) O rfl d_M_plain_56 rfl ?_
    refine r_if_eq (tgt := 87) (pc := 57) O d_M_plain_57 (by decide) (fun q57 => ?_) (fun q57 => ?_)
    · refine r_iconst (pc := 87) O d_M_plain_87 ic_0 ?_
      exact r_zret (pc := 88) O rfl d_M_plain_88 nb_0
    · refine r_aload_n (pc := 60) O d_M_plain_60 1 rfl ?_
      refine r_getR (pc := 61) O gf_m_M_13_0 d_M_plain_61 ?_
      refine r_iload (pc := 64) O d_M_plain_64 0 rfl ?_
      refine r_iald (x := (h.1 2 (ix ((4 * (h.1 0 32)) + p2)))) (pc := 66) O rfl d_M_plain_66 rfl ?_
      refine r_if_le (tgt := 89) (pc := 67) O d_M_plain_67 (by decide) (fun q67 => ?_) (fun q67 => ?_)
      · exact r_lv [1, 0] rfl (hK89 ((4 * (h.1 0 32)) + p2) h)
      · refine r_aload_n (pc := 70) O d_M_plain_70 1 rfl ?_
        refine r_getR (pc := 71) O gf_m_M_86_0 d_M_plain_71 ?_
        refine r_aload_n (pc := 74) O d_M_plain_74 1 rfl ?_
        refine r_getR (pc := 75) O gf_m_M_13_0 d_M_plain_75 ?_
        refine r_iload (pc := 78) O d_M_plain_78 0 rfl ?_
        refine r_iald (x := (h.1 2 (ix ((4 * (h.1 0 32)) + p2)))) (pc := 80) O rfl d_M_plain_80 rfl ?_
        refine r_iconst (pc := 81) O d_M_plain_81 ic_1 ?_
        refine r_isub (pc := 82) O d_M_plain_82 ?_
        refine r_zald (x := (h.1 26 (ix ((h.1 2 (ix ((4 * (h.1 0 32)) + p2))) - 1)))) (pc := 83) O rfl d_M_plain_83 rfl ?_
        refine r_if_ne (tgt := 89) (pc := 84) O d_M_plain_84 (by decide) (fun q84 => ?_) (fun q84 => ?_)
        · exact r_lv [1, 0] rfl (hK89 ((4 * (h.1 0 32)) + p2) h)
        · refine r_iconst (pc := 87) O d_M_plain_87 ic_0 ?_
          exact r_zret (pc := 88) O rfl d_M_plain_88 nb_0
  · refine r_ite (fun q1_1 => ?_) (fun q1_1 => ?_)
    · refine r_tin (tgt := 104) (pc := 1) O d_M_plain_1 (by rw [q1_1] <;> decide) (by rw [q1_1] <;> decide) (by rw [q1_1] <;> rfl) (by decide) ?_
      refine r_aload_n (pc := 104) O d_M_plain_104 0 rfl ?_
      refine r_iload_n (pc := 105) O d_M_plain_105 2 rfl ?_
      refine r_callVip (pc := 106) O [.int p2] rfl rfl (R_M_isSeen n p2 h) cw_M_plain_106 wm_1201 ws_M_isSeen rfl (Nat.le_of_ble_eq_true rfl) d_M_plain_106 rfl (fun v106 => ?_)
      refine r_if_eq (tgt := 134) (pc := 109) O d_M_plain_109 (by decide) (fun q109 => ?_) (fun q109 => ?_)
      · refine r_iconst (pc := 134) O d_M_plain_134 ic_0 ?_
        exact r_zret (pc := 135) O rfl d_M_plain_135 nb_0
      · refine r_aload_n (pc := 112) O d_M_plain_112 0 rfl ?_
        refine r_getR (pc := 113) O gf_m_M_16_0 d_M_plain_113 ?_
        refine r_iload_n (pc := 116) O d_M_plain_116 2 rfl ?_
        refine r_iald (x := (h.1 3 (ix p2))) (pc := 117) O rfl d_M_plain_117 rfl ?_
        refine r_iconst (pc := 118) O d_M_plain_118 ic_2 ?_
        refine r_irem (pc := 119) O d_M_plain_119 (by decide) ?_
        refine r_if_eq (tgt := 134) (pc := 120) O d_M_plain_120 (by decide) (fun q120 => ?_) (fun q120 => ?_)
        · refine r_iconst (pc := 134) O d_M_plain_134 ic_0 ?_
          exact r_zret (pc := 135) O rfl d_M_plain_135 nb_0
        · refine r_aload_n (pc := 123) O d_M_plain_123 0 rfl ?_
          refine r_getR (pc := 124) O gf_m_M_83_0 d_M_plain_124 ?_
          refine r_iload_n (pc := 127) O d_M_plain_127 2 rfl ?_
          refine r_iald (x := (h.1 25 (ix p2))) (pc := 128) O rfl d_M_plain_128 rfl ?_
          refine r_bipush (pc := 129) O d_M_plain_129 bc_6 ?_
          refine r_icmp_ne (tgt := 136) (pc := 131) O d_M_plain_131 (by decide) (fun q131 => ?_) (fun q131 => ?_)
          · refine r_aload_n (pc := 136) O d_M_plain_136 0 rfl ?_
            refine r_getR (pc := 137) O gf_m_M_83_0 d_M_plain_137 ?_
            refine r_iload_n (pc := 140) O d_M_plain_140 2 rfl ?_
            refine r_bipush (pc := 141) O d_M_plain_141 bc_6 ?_
            refine r_iast (pc := 143) O rfl d_M_plain_143 ?_
            refine r_iconst (pc := 144) O d_M_plain_144 ic_1 ?_
            exact r_zret (pc := 145) O rfl d_M_plain_145 nb_1
          · refine r_iconst (pc := 134) O d_M_plain_134 ic_0 ?_
            exact r_zret (pc := 135) O rfl d_M_plain_135 nb_0
    · refine r_ite (fun q1_2 => ?_) (fun q1_2 => ?_)
      · refine r_tin (tgt := 146) (pc := 1) O d_M_plain_1 (by rw [q1_2] <;> decide) (by rw [q1_2] <;> decide) (by rw [q1_2] <;> rfl) (by decide) ?_
        refine r_aload_n (pc := 146) O d_M_plain_146 0 rfl ?_
        refine r_getR (pc := 147) O gf_m_M_83_0 d_M_plain_147 ?_
        refine r_iload_n (pc := 150) O d_M_plain_150 2 rfl ?_
        refine r_iald (x := (h.1 25 (ix p2))) (pc := 151) O rfl d_M_plain_151 rfl ?_
        refine r_bipush (pc := 152) O d_M_plain_152 bc_6 ?_
        refine r_icmp_eq (tgt := 159) (pc := 154) O d_M_plain_154 (by decide) (fun q154 => ?_) (fun q154 => ?_)
        · refine r_aload_n (pc := 159) O d_M_plain_159 0 rfl ?_
          refine r_getR (pc := 160) O gf_m_M_83_0 d_M_plain_160 ?_
          refine r_iload_n (pc := 163) O d_M_plain_163 2 rfl ?_
          refine r_aload_n (pc := 164) O d_M_plain_164 0 rfl ?_
          refine r_getI (x := (h.1 0 32)) (pc := 165) O gf_m_M_141_0 d_M_plain_165 rfl ?_
          refine r_iast (pc := 168) O rfl d_M_plain_168 ?_
          refine r_iconst (pc := 169) O d_M_plain_169 ic_1 ?_
          exact r_zret (pc := 170) O rfl d_M_plain_170 nb_1
        · refine r_iconst (pc := 157) O d_M_plain_157 ic_0 ?_
          exact r_zret (pc := 158) O rfl d_M_plain_158 nb_0
      · refine r_ite (fun q1_3 => ?_) (fun q1_3 => ?_)
        · refine r_tin (tgt := 171) (pc := 1) O d_M_plain_1 (by rw [q1_3] <;> decide) (by rw [q1_3] <;> decide) (by rw [q1_3] <;> rfl) (by decide) ?_
          refine r_aload_n (pc := 171) O d_M_plain_171 0 rfl ?_
          refine r_iload_n (pc := 172) O d_M_plain_172 2 rfl ?_
          refine r_callVip (pc := 173) O [.int p2] rfl rfl (R_M_isSeen n p2 h) cw_M_plain_173 wm_1201 ws_M_isSeen rfl (Nat.le_of_ble_eq_true rfl) d_M_plain_173 rfl (fun v173 => ?_)
          refine r_if_eq (tgt := 211) (pc := 176) O d_M_plain_176 (by decide) (fun q176 => ?_) (fun q176 => ?_)
          · refine r_iconst (pc := 211) O d_M_plain_211 ic_0 ?_
            exact r_zret (pc := 212) O rfl d_M_plain_212 nb_0
          · refine r_aload_n (pc := 179) O d_M_plain_179 0 rfl ?_
            refine r_getR (pc := 180) O gf_m_M_16_0 d_M_plain_180 ?_
            refine r_iload_n (pc := 183) O d_M_plain_183 2 rfl ?_
            refine r_iald (x := (h.1 3 (ix p2))) (pc := 184) O rfl d_M_plain_184 rfl ?_
            refine r_iconst (pc := 185) O d_M_plain_185 ic_2 ?_
            refine r_idiv (pc := 186) O d_M_plain_186 (by decide) ?_
            refine r_iconst (pc := 187) O d_M_plain_187 ic_2 ?_
            refine r_irem (pc := 188) O d_M_plain_188 (by decide) ?_
            refine r_if_eq (tgt := 211) (pc := 189) O d_M_plain_189 (by decide) (fun q189 => ?_) (fun q189 => ?_)
            · refine r_iconst (pc := 211) O d_M_plain_211 ic_0 ?_
              exact r_zret (pc := 212) O rfl d_M_plain_212 nb_0
            · refine r_aload_n (pc := 192) O d_M_plain_192 0 rfl ?_
              refine r_getR (pc := 193) O gf_m_M_86_0 d_M_plain_193 ?_
              refine r_iload_n (pc := 196) O d_M_plain_196 2 rfl ?_
              refine r_zald (x := (h.1 26 (ix p2))) (pc := 197) O rfl d_M_plain_197 rfl ?_
              refine r_iload_n (pc := 198) O d_M_plain_198 1 rfl ?_
              refine r_iconst (pc := 199) O d_M_plain_199 ic_3 ?_
              refine r_icmp_ne_f (tgt := 207) (pc := 200) O d_M_plain_200 (by decide) (by rw [q1_3] <;> decide) ?_
              refine r_iconst (pc := 203) O d_M_plain_203 ic_1 ?_
              refine r_goto (pc := 204) O d_M_plain_204 (tgt := 208) (by decide) ?_
              exact r_lv [0, 1, 2] rfl (hK208 1 (h.1 26 (ix p2)) h)
        · refine r_ite (fun q1_4 => ?_) (fun q1_4 => ?_)
          · refine r_tin (tgt := 171) (pc := 1) O d_M_plain_1 (by rw [q1_4] <;> decide) (by rw [q1_4] <;> decide) (by rw [q1_4] <;> rfl) (by decide) ?_
            refine r_aload_n (pc := 171) O d_M_plain_171 0 rfl ?_
            refine r_iload_n (pc := 172) O d_M_plain_172 2 rfl ?_
            refine r_callVip (pc := 173) O [.int p2] rfl rfl (R_M_isSeen n p2 h) cw_M_plain_173 wm_1201 ws_M_isSeen rfl (Nat.le_of_ble_eq_true rfl) d_M_plain_173 rfl (fun v173 => ?_)
            refine r_if_eq (tgt := 211) (pc := 176) O d_M_plain_176 (by decide) (fun q176 => ?_) (fun q176 => ?_)
            · refine r_iconst (pc := 211) O d_M_plain_211 ic_0 ?_
              exact r_zret (pc := 212) O rfl d_M_plain_212 nb_0
            · refine r_aload_n (pc := 179) O d_M_plain_179 0 rfl ?_
              refine r_getR (pc := 180) O gf_m_M_16_0 d_M_plain_180 ?_
              refine r_iload_n (pc := 183) O d_M_plain_183 2 rfl ?_
              refine r_iald (x := (h.1 3 (ix p2))) (pc := 184) O rfl d_M_plain_184 rfl ?_
              refine r_iconst (pc := 185) O d_M_plain_185 ic_2 ?_
              refine r_idiv (pc := 186) O d_M_plain_186 (by decide) ?_
              refine r_iconst (pc := 187) O d_M_plain_187 ic_2 ?_
              refine r_irem (pc := 188) O d_M_plain_188 (by decide) ?_
              refine r_if_eq (tgt := 211) (pc := 189) O d_M_plain_189 (by decide) (fun q189 => ?_) (fun q189 => ?_)
              · refine r_iconst (pc := 211) O d_M_plain_211 ic_0 ?_
                exact r_zret (pc := 212) O rfl d_M_plain_212 nb_0
              · refine r_aload_n (pc := 192) O d_M_plain_192 0 rfl ?_
                refine r_getR (pc := 193) O gf_m_M_86_0 d_M_plain_193 ?_
                refine r_iload_n (pc := 196) O d_M_plain_196 2 rfl ?_
                refine r_zald (x := (h.1 26 (ix p2))) (pc := 197) O rfl d_M_plain_197 rfl ?_
                refine r_iload_n (pc := 198) O d_M_plain_198 1 rfl ?_
                refine r_iconst (pc := 199) O d_M_plain_199 ic_3 ?_
                refine r_icmp_ne_t (tgt := 207) (pc := 200) O d_M_plain_200 (by decide) (by rw [q1_4] <;> decide) ?_
                refine r_iconst (pc := 207) O d_M_plain_207 ic_0 ?_
                exact r_lv [0, 1, 2] rfl (hK208 0 (h.1 26 (ix p2)) h)
          · refine r_ite (fun q1_5 => ?_) (fun q1_5 => ?_)
            · refine r_tin (tgt := 231) (pc := 1) O d_M_plain_1 (by rw [q1_5] <;> decide) (by rw [q1_5] <;> decide) (by rw [q1_5] <;> rfl) (by decide) ?_
              refine r_aload_n (pc := 231) O d_M_plain_231 0 rfl ?_
              refine r_getR (pc := 232) O gf_m_M_83_0 d_M_plain_232 ?_
              refine r_iload_n (pc := 235) O d_M_plain_235 2 rfl ?_
              refine r_iald (x := (h.1 25 (ix p2))) (pc := 236) O rfl d_M_plain_236 rfl ?_
              refine r_bipush (pc := 237) O d_M_plain_237 bc_6 ?_
              refine r_icmp_ne (tgt := 281) (pc := 239) O d_M_plain_239 (by decide) (fun q239 => ?_) (fun q239 => ?_)
              · refine r_iconst (pc := 281) O d_M_plain_281 ic_0 ?_
                exact r_zret (pc := 282) O rfl d_M_plain_282 nb_0
              · refine r_aload_n (pc := 242) O d_M_plain_242 0 rfl ?_
                refine r_iload_n (pc := 243) O d_M_plain_243 3 rfl ?_
                refine r_callVip (pc := 244) O [.int p3] rfl rfl (R_M_isSeen n p3 h) cw_M_plain_244 wm_1201 ws_M_isSeen rfl (Nat.le_of_ble_eq_true rfl) d_M_plain_244 rfl (fun v244 => ?_)
                refine r_if_eq (tgt := 281) (pc := 247) O d_M_plain_247 (by decide) (fun q247 => ?_) (fun q247 => ?_)
                · refine r_iconst (pc := 281) O d_M_plain_281 ic_0 ?_
                  exact r_zret (pc := 282) O rfl d_M_plain_282 nb_0
                · refine r_aload_n (pc := 250) O d_M_plain_250 0 rfl ?_
                  refine r_getR (pc := 251) O gf_m_M_16_0 d_M_plain_251 ?_
                  refine r_iload_n (pc := 254) O d_M_plain_254 3 rfl ?_
                  refine r_iald (x := (h.1 3 (ix p3))) (pc := 255) O rfl d_M_plain_255 rfl ?_
                  refine r_iconst (pc := 256) O d_M_plain_256 ic_2 ?_
                  refine r_idiv (pc := 257) O d_M_plain_257 (by decide) ?_
                  refine r_iconst (pc := 258) O d_M_plain_258 ic_2 ?_
                  refine r_irem (pc := 259) O d_M_plain_259 (by decide) ?_
                  refine r_if_eq (tgt := 281) (pc := 260) O d_M_plain_260 (by decide) (fun q260 => ?_) (fun q260 => ?_)
                  · refine r_iconst (pc := 281) O d_M_plain_281 ic_0 ?_
                    exact r_zret (pc := 282) O rfl d_M_plain_282 nb_0
                  · refine r_aload_n (pc := 263) O d_M_plain_263 0 rfl ?_
                    refine r_getR (pc := 264) O gf_m_M_86_0 d_M_plain_264 ?_
                    refine r_iload_n (pc := 267) O d_M_plain_267 3 rfl ?_
                    refine r_zald (x := (h.1 26 (ix p3))) (pc := 268) O rfl d_M_plain_268 rfl ?_
                    refine r_if_eq (tgt := 281) (pc := 269) O d_M_plain_269 (by decide) (fun q269 => ?_) (fun q269 => ?_)
                    · refine r_iconst (pc := 281) O d_M_plain_281 ic_0 ?_
                      exact r_zret (pc := 282) O rfl d_M_plain_282 nb_0
                    · refine r_aload_n (pc := 272) O d_M_plain_272 0 rfl ?_
                      refine r_iload_n (pc := 273) O d_M_plain_273 3 rfl ?_
                      refine r_iload_n (pc := 274) O d_M_plain_274 2 rfl ?_
                      refine r_callVip (pc := 275) O [.int p3, .int p2] rfl rfl (R_M_within n p3 p2 h) cw_M_plain_275 wm_1221 ws_M_within rfl (Nat.le_of_ble_eq_true rfl) d_M_plain_275 rfl (fun v275 => ?_)
                      refine r_if_eq (tgt := 283) (pc := 278) O d_M_plain_278 (by decide) (fun q278 => ?_) (fun q278 => ?_)
                      · refine r_aload_n (pc := 283) O d_M_plain_283 0 rfl ?_
                        refine r_getR (pc := 284) O gf_m_M_83_0 d_M_plain_284 ?_
                        refine r_iload_n (pc := 287) O d_M_plain_287 2 rfl ?_
                        refine r_bipush (pc := 288) O d_M_plain_288 bc_7 ?_
                        refine r_iload_n (pc := 290) O d_M_plain_290 3 rfl ?_
                        refine r_iadd (pc := 291) O d_M_plain_291 ?_
                        refine r_iast (pc := 292) O rfl d_M_plain_292 ?_
                        refine r_iconst (pc := 293) O d_M_plain_293 ic_1 ?_
                        exact r_zret (pc := 294) O rfl d_M_plain_294 nb_1
                      · refine r_iconst (pc := 281) O d_M_plain_281 ic_0 ?_
                        exact r_zret (pc := 282) O rfl d_M_plain_282 nb_0
            · refine r_tout (tgt := 295) (pc := 1) O d_M_plain_1 (by have z0 := lv_neT (a := 0) q1_0 (by decide); have z1 := lv_neT (a := 1) q1_1 (by decide); have z2 := lv_neT (a := 2) q1_2 (by decide); have z3 := lv_neT (a := 3) q1_3 (by decide); have z4 := lv_neT (a := 4) q1_4 (by decide); have z5 := lv_neT (a := 5) q1_5 (by decide); omega) (by decide) ?_
              refine r_iload_n (pc := 295) O d_M_plain_295 1 rfl ?_
              refine r_bipush (pc := 296) O d_M_plain_296 bc_6 ?_
              refine r_icmp_ne (tgt := 305) (pc := 298) O d_M_plain_298 (by decide) (fun q298 => ?_) (fun q298 => ?_)
              · refine r_iconst (pc := 305) O d_M_plain_305 ic_0 ?_
                exact r_zret (pc := 306) O rfl d_M_plain_306 nb_0
              · refine r_iconst (pc := 301) O d_M_plain_301 ic_1 ?_
                refine r_goto (pc := 302) O d_M_plain_302 (tgt := 306) (by decide) ?_
                exact r_zret (pc := 306) O rfl d_M_plain_306 nb_1
