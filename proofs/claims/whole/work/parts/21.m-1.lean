def K_M_number_38 (n : Nat) (p1 : Int32) (p2 : Int32) (t0 : Int32) (h : sHp) : Option (Int32 × sHp) :=
  if t0 ≤ 0 then (sGd (sIn (h.1 0 7) 3) (sGd (sIn (h.1 0 7) 3) ((J_M_renew n (pI (pI (pI (pI h 0 0 t0) 6 (ix (h.1 0 7)) p1) 5 (ix (h.1 0 7)) p2) 0 7 ((h.1 0 7) + 1))).bind fun v81 =>
  some (((v81.1 0 7) - 1), v81)))) else (some (0, (pI h 0 0 t0)))
def K_M_number_21 (n : Nat) (p1 : Int32) (p2 : Int32) (h : sHp) : Option (Int32 × sHp) :=
  K_M_number_38 n p1 p2 1 h
def J_M_number (n : Nat) (p1 : Int32) (p2 : Int32) (h : sHp) : Option (Int32 × sHp) :=
  if p2 < 1 then (K_M_number_21 n p1 p2 h) else (if 7 < p2 then (K_M_number_21 n p1 p2 h) else (if p1 < 0 then (K_M_number_21 n p1 p2 h) else (if p1 ≤ p2 then (if (h.1 0 7) = 3 then (K_M_number_38 n p1 p2 2 h) else (K_M_number_38 n p1 p2 0 h)) else (K_M_number_21 n p1 p2 h))))
set_option maxRecDepth 20000 in
set_option maxHeartbeats 4000000 in
theorem R_M_number (n : Nat) (p1 : Int32) (p2 : Int32) (h : sHp) : sM Zm sOi y_M_number prog_10_method_18_code 3 (some .int) rm_M_number [.ref 0, .int p1, .int p2] h (J_M_number n p1 p2 h) := by
  refine sM_of (own := "StoryStatesModel") rfl (by decide) (Nat.le_of_ble_eq_true rfl) (fun M V O => ?_)
  unfold J_M_number
  refine r_lv (lv' := [(0, .ref 0), (1, .int p1), (2, .int p2)]) [0, 1, 2] rfl ?_
  have hK38 : ∀ (t0 : Int32) (h : sHp), sS Zm M V (sEb sOi) 38 [(0, .ref 0), (1, .int p1), (2, .int p2)] [.int t0, .ref 0] h (K_M_number_38 n p1 p2 t0 h) := by
    intro t0 h
    unfold K_M_number_38
    refine r_putI (pc := 38) O pf_m_M_137_0 d_M_number_38 ?_
    refine r_aload_n (pc := 41) O d_M_number_41 0 rfl ?_
    refine r_getI (x := t0) (pc := 42) O gf_m_M_137_0 d_M_number_42 rfl ?_
    refine r_if_le (tgt := 50) (pc := 45) O d_M_number_45 (by decide) (fun q45 => ?_) (fun q45 => ?_)
    · refine r_aload_n (pc := 50) O d_M_number_50 0 rfl ?_
      refine r_getR (pc := 51) O gf_m_M_25_0 d_M_number_51 ?_
      refine r_aload_n (pc := 54) O d_M_number_54 0 rfl ?_
      refine r_getI (x := (h.1 0 7)) (pc := 55) O gf_m_M_150_0 d_M_number_55 rfl ?_
      refine r_iload_n (pc := 58) O d_M_number_58 1 rfl ?_
      refine r_iast (pc := 59) O rfl d_M_number_59 ?_
      refine r_aload_n (pc := 60) O d_M_number_60 0 rfl ?_
      refine r_getR (pc := 61) O gf_m_M_22_0 d_M_number_61 ?_
      refine r_aload_n (pc := 64) O d_M_number_64 0 rfl ?_
      refine r_getI (x := (h.1 0 7)) (pc := 65) O gf_m_M_150_0 d_M_number_65 rfl ?_
      refine r_iload_n (pc := 68) O d_M_number_68 2 rfl ?_
      refine r_iast (pc := 69) O rfl d_M_number_69 ?_
      refine r_aload_n (pc := 70) O d_M_number_70 0 rfl ?_
      refine r_dup (pc := 71) O d_M_number_71 rfl ?_
      refine r_getI (x := (h.1 0 7)) (pc := 72) O gf_m_M_150_0 d_M_number_72 rfl ?_
      refine r_iconst (pc := 75) O d_M_number_75 ic_1 ?_
      refine r_iadd (pc := 76) O d_M_number_76 ?_
      refine r_putI (pc := 77) O pf_m_M_150_0 d_M_number_77 ?_
      refine r_aload_n (pc := 80) O d_M_number_80 0 rfl ?_
      refine r_callVv (pc := 81) O [] rfl rfl (R_M_renew n  (pI (pI (pI (pI h 0 0 t0) 6 (ix (h.1 0 7)) p1) 5 (ix (h.1 0 7)) p2) 0 7 ((h.1 0 7) + 1))) cw_M_number_81 wm_900 ws_M_renew rfl (Nat.le_of_ble_eq_true rfl) d_M_number_81 rfl (fun v81 => ?_)
      refine r_aload_n (pc := 84) O d_M_number_84 0 rfl ?_
      refine r_getI (x := (v81.1 0 7)) (pc := 85) O gf_m_M_150_0 d_M_number_85 rfl ?_
      refine r_iconst (pc := 88) O d_M_number_88 ic_1 ?_
      refine r_isub (pc := 89) O d_M_number_89 ?_
      exact r_iret (pc := 90) O rfl d_M_number_90
    · refine r_iconst (pc := 48) O d_M_number_48 ic_0 ?_
      exact r_iret (pc := 49) O rfl d_M_number_49
  have hK21 : ∀ (h : sHp), sS Zm M V (sEb sOi) 21 [(0, .ref 0), (1, .int p1), (2, .int p2)] [.ref 0] h (K_M_number_21 n p1 p2 h) := by
    intro h
    unfold K_M_number_21
    refine r_iconst (pc := 21) O d_M_number_21 ic_1 ?_
    refine r_goto (pc := 22) O d_M_number_22 (tgt := 38) (by decide) ?_
    exact (hK38 1 h)
  refine r_aload_n (pc := 0) O d_M_number_0 0 rfl ?_
  refine r_iload_n (pc := 1) O d_M_number_1 2 rfl ?_
  refine r_iconst (pc := 2) O d_M_number_2 ic_1 ?_
  refine r_icmp_lt (tgt := 21) (pc := 3) O d_M_number_3 (by decide) (fun q3 => ?_) (fun q3 => ?_)
  · exact (hK21 h)
  · refine r_iload_n (pc := 6) O d_M_number_6 2 rfl ?_
    refine r_bipush (pc := 7) O d_M_number_7 bc_7 ?_
    refine r_icmp_gt (tgt := 21) (pc := 9) O d_M_number_9 (by decide) (fun q9 => ?_) (fun q9 => ?_)
    · exact (hK21 h)
    · refine r_iload_n (pc := 12) O d_M_number_12 1 rfl ?_
      refine r_if_lt (tgt := 21) (pc := 13) O d_M_number_13 (by decide) (fun q13 => ?_) (fun q13 => ?_)
      · exact (hK21 h)
      · refine r_iload_n (pc := 16) O d_M_number_16 1 rfl ?_
        refine r_iload_n (pc := 17) O d_M_number_17 2 rfl ?_
        refine r_icmp_le (tgt := 25) (pc := 18) O d_M_number_18 (by decide) (fun q18 => ?_) (fun q18 => ?_)
        · refine r_aload_n (pc := 25) O d_M_number_25 0 rfl ?_
          refine r_getI (x := (h.1 0 7)) (pc := 26) O gf_m_M_150_0 d_M_number_26 rfl ?_
          refine r_iconst (pc := 29) O d_M_number_29 ic_3 ?_
          refine r_icmp_ne (tgt := 37) (pc := 30) O d_M_number_30 (by decide) (fun q30 => ?_) (fun q30 => ?_)
          · refine r_iconst (pc := 37) O d_M_number_37 ic_0 ?_
            exact (hK38 0 h)
          · refine r_iconst (pc := 33) O d_M_number_33 ic_2 ?_
            refine r_goto (pc := 34) O d_M_number_34 (tgt := 38) (by decide) ?_
            exact (hK38 2 h)
        · exact (hK21 h)
def K_M_ending_14 (n : Nat) (p1 : Int32) (t0 : Int32) (h : sHp) : Option (Int32 × sHp) :=
  if t0 ≤ 0 then (sGd (sIn (h.1 0 10) 4) ((J_M_renew n (pI (pI (pI h 0 0 t0) 7 (ix (h.1 0 10)) (vp_nar .boolean p1)) 0 10 ((h.1 0 10) + 1))).bind fun v47 =>
  some (((v47.1 0 10) - 1), v47))) else (some (0, (pI h 0 0 t0)))
def J_M_ending (n : Nat) (p1 : Int32) (h : sHp) : Option (Int32 × sHp) :=
  if (h.1 0 10) = 4 then (K_M_ending_14 n p1 1 h) else (K_M_ending_14 n p1 0 h)
set_option maxRecDepth 20000 in
set_option maxHeartbeats 4000000 in
theorem R_M_ending (n : Nat) (p1 : Int32) (h : sHp) : sM Zm sOi y_M_ending prog_10_method_19_code 2 (some .int) rm_M_ending [.ref 0, .int p1] h (J_M_ending n p1 h) := by
  refine sM_of (own := "StoryStatesModel") rfl (by decide) (Nat.le_of_ble_eq_true rfl) (fun M V O => ?_)
  unfold J_M_ending
  refine r_lv (lv' := [(0, .ref 0), (1, .int p1)]) [0, 1] rfl ?_
  have hK14 : ∀ (t0 : Int32) (h : sHp), sS Zm M V (sEb sOi) 14 [(0, .ref 0), (1, .int p1)] [.int t0, .ref 0] h (K_M_ending_14 n p1 t0 h) := by
    intro t0 h
    unfold K_M_ending_14
    refine r_putI (pc := 14) O pf_m_M_137_0 d_M_ending_14 ?_
    refine r_aload_n (pc := 17) O d_M_ending_17 0 rfl ?_
    refine r_getI (x := t0) (pc := 18) O gf_m_M_137_0 d_M_ending_18 rfl ?_
    refine r_if_le (tgt := 26) (pc := 21) O d_M_ending_21 (by decide) (fun q21 => ?_) (fun q21 => ?_)
    · refine r_aload_n (pc := 26) O d_M_ending_26 0 rfl ?_
      refine r_getR (pc := 27) O gf_m_M_28_0 d_M_ending_27 ?_
      refine r_aload_n (pc := 30) O d_M_ending_30 0 rfl ?_
      refine r_getI (x := (h.1 0 10)) (pc := 31) O gf_m_M_211_0 d_M_ending_31 rfl ?_
      refine r_iload_n (pc := 34) O d_M_ending_34 1 rfl ?_
      refine r_zast (pc := 35) O rfl d_M_ending_35 rfl ?_
      refine r_aload_n (pc := 36) O d_M_ending_36 0 rfl ?_
      refine r_dup (pc := 37) O d_M_ending_37 rfl ?_
      refine r_getI (x := (h.1 0 10)) (pc := 38) O gf_m_M_211_0 d_M_ending_38 rfl ?_
      refine r_iconst (pc := 41) O d_M_ending_41 ic_1 ?_
      refine r_iadd (pc := 42) O d_M_ending_42 ?_
      refine r_putI (pc := 43) O pf_m_M_211_0 d_M_ending_43 ?_
      refine r_aload_n (pc := 46) O d_M_ending_46 0 rfl ?_
      refine r_callVv (pc := 47) O [] rfl rfl (R_M_renew n  (pI (pI (pI h 0 0 t0) 7 (ix (h.1 0 10)) (vp_nar .boolean p1)) 0 10 ((h.1 0 10) + 1))) cw_M_ending_47 wm_900 ws_M_renew rfl (Nat.le_of_ble_eq_true rfl) d_M_ending_47 rfl (fun v47 => ?_)
      refine r_aload_n (pc := 50) O d_M_ending_50 0 rfl ?_
      refine r_getI (x := (v47.1 0 10)) (pc := 51) O gf_m_M_211_0 d_M_ending_51 rfl ?_
      refine r_iconst (pc := 54) O d_M_ending_54 ic_1 ?_
      refine r_isub (pc := 55) O d_M_ending_55 ?_
      exact r_iret (pc := 56) O rfl d_M_ending_56
    · refine r_iconst (pc := 24) O d_M_ending_24 ic_0 ?_
      exact r_iret (pc := 25) O rfl d_M_ending_25
  refine r_aload_n (pc := 0) O d_M_ending_0 0 rfl ?_
  refine r_aload_n (pc := 1) O d_M_ending_1 0 rfl ?_
  refine r_getI (x := (h.1 0 10)) (pc := 2) O gf_m_M_211_0 d_M_ending_2 rfl ?_
  refine r_iconst (pc := 5) O d_M_ending_5 ic_4 ?_
  refine r_icmp_ne (tgt := 13) (pc := 6) O d_M_ending_6 (by decide) (fun q6 => ?_) (fun q6 => ?_)
  · refine r_iconst (pc := 13) O d_M_ending_13 ic_0 ?_
    exact (hK14 0 h)
  · refine r_iconst (pc := 9) O d_M_ending_9 ic_1 ?_
    refine r_goto (pc := 10) O d_M_ending_10 (tgt := 14) (by decide) ?_
    exact (hK14 1 h)
def K_M_rule_75 (n : Nat) (p1 : Int32) (p2 : Int32) (p3 : Int32) (p4 : Int32) (t0 : Int32) (h : sHp) : Option (Int32 × sHp) :=
  if t0 ≤ 0 then (sGd (sIn (h.1 0 12) 12) (sGd (sIn (h.1 0 12) 12) (sGd (sIn (h.1 0 12) 12) (sGd (sIn (h.1 0 12) 12) (sGd (sIn (h.1 0 12) 12) (sGd (sIn (h.1 0 12) 12) (sGd (sIn (h.1 0 12) 12) ((J_M_renew n (pI (pI (pI (pI (pI (pI (pI (pI (pI h 0 0 t0) 8 (ix (h.1 0 12)) p1) 9 (ix (h.1 0 12)) p2) 10 (ix (h.1 0 12)) p3) 11 (ix (h.1 0 12)) p4) 12 (ix (h.1 0 12)) 0) 13 (ix (h.1 0 12)) 0) 17 (ix (h.1 0 12)) 0) 0 12 ((h.1 0 12) + 1))).bind fun v169 =>
  some (((v169.1 0 12) - 1), v169))))))))) else (some (0, (pI h 0 0 t0)))
def K_M_rule_49 (n : Nat) (p1 : Int32) (p2 : Int32) (p3 : Int32) (p4 : Int32) (t0 : Int32) (h : sHp) : Option (Int32 × sHp) :=
  if t0 = 0 then (if (h.1 0 12) = 12 then (K_M_rule_75 n p1 p2 p3 p4 2 h) else (K_M_rule_75 n p1 p2 p3 p4 0 h)) else (K_M_rule_75 n p1 p2 p3 p4 1 h)
def K_M_rule_44 (n : Nat) (p1 : Int32) (p2 : Int32) (p3 : Int32) (p4 : Int32) (h : sHp) : Option (Int32 × sHp) :=
  K_M_rule_49 n p1 p2 p3 p4 1 h
def J_M_rule (n : Nat) (p1 : Int32) (p2 : Int32) (p3 : Int32) (p4 : Int32) (h : sHp) : Option (Int32 × sHp) :=
  if p1 < 0 then (K_M_rule_44 n p1 p2 p3 p4 h) else (if 8 < p1 then (K_M_rule_44 n p1 p2 p3 p4 h) else (if p2 < (-2) then (K_M_rule_44 n p1 p2 p3 p4 h) else (if 5 < p2 then (K_M_rule_44 n p1 p2 p3 p4 h) else (if p3 < (-2) then (K_M_rule_44 n p1 p2 p3 p4 h) else (if 5 < p3 then (K_M_rule_44 n p1 p2 p3 p4 h) else (if p4 < 0 then (K_M_rule_44 n p1 p2 p3 p4 h) else (if p4 ≤ 98 then (K_M_rule_49 n p1 p2 p3 p4 0 h) else (K_M_rule_44 n p1 p2 p3 p4 h))))))))
set_option maxRecDepth 20000 in
set_option maxHeartbeats 4000000 in
theorem R_M_rule (n : Nat) (p1 : Int32) (p2 : Int32) (p3 : Int32) (p4 : Int32) (h : sHp) : sM Zm sOi y_M_rule prog_10_method_20_code 6 (some .int) rm_M_rule [.ref 0, .int p1, .int p2, .int p3, .int p4] h (J_M_rule n p1 p2 p3 p4 h) := by
  refine sM_of (own := "StoryStatesModel") rfl (by decide) (Nat.le_of_ble_eq_true rfl) (fun M V O => ?_)
  unfold J_M_rule
  refine r_lv (lv' := [(0, .ref 0), (1, .int p1), (2, .int p2), (3, .int p3), (4, .int p4)]) [0, 1, 2, 3, 4] rfl ?_
  have hK75 : ∀ (t0 : Int32) (h : sHp), sS Zm M V (sEb sOi) 75 [(0, .ref 0), (1, .int p1), (2, .int p2), (3, .int p3), (4, .int p4)] [.int t0, .ref 0] h (K_M_rule_75 n p1 p2 p3 p4 t0 h) := by
    intro t0 h
    unfold K_M_rule_75
    refine r_putI (pc := 75) O pf_m_M_137_0 d_M_rule_75 ?_
    refine r_aload_n (pc := 78) O d_M_rule_78 0 rfl ?_
    refine r_getI (x := t0) (pc := 79) O gf_m_M_137_0 d_M_rule_79 rfl ?_
    refine r_if_le (tgt := 87) (pc := 82) O d_M_rule_82 (by decide) (fun q82 => ?_) (fun q82 => ?_)
    · refine r_aload_n (pc := 87) O d_M_rule_87 0 rfl ?_
      refine r_getR (pc := 88) O gf_m_M_32_0 d_M_rule_88 ?_
      refine r_aload_n (pc := 91) O d_M_rule_91 0 rfl ?_
      refine r_getI (x := (h.1 0 12)) (pc := 92) O gf_m_M_208_0 d_M_rule_92 rfl ?_
      refine r_iload_n (pc := 95) O d_M_rule_95 1 rfl ?_
      refine r_iast (pc := 96) O rfl d_M_rule_96 ?_
      refine r_aload_n (pc := 97) O d_M_rule_97 0 rfl ?_
      refine r_getR (pc := 98) O gf_m_M_35_0 d_M_rule_98 ?_
      refine r_aload_n (pc := 101) O d_M_rule_101 0 rfl ?_
      refine r_getI (x := (h.1 0 12)) (pc := 102) O gf_m_M_208_0 d_M_rule_102 rfl ?_
      refine r_iload_n (pc := 105) O d_M_rule_105 2 rfl ?_
      refine r_iast (pc := 106) O rfl d_M_rule_106 ?_
      refine r_aload_n (pc := 107) O d_M_rule_107 0 rfl ?_
      refine r_getR (pc := 108) O gf_m_M_38_0 d_M_rule_108 ?_
      refine r_aload_n (pc := 111) O d_M_rule_111 0 rfl ?_
      refine r_getI (x := (h.1 0 12)) (pc := 112) O gf_m_M_208_0 d_M_rule_112 rfl ?_
      refine r_iload_n (pc := 115) O d_M_rule_115 3 rfl ?_
      refine r_iast (pc := 116) O rfl d_M_rule_116 ?_
      refine r_aload_n (pc := 117) O d_M_rule_117 0 rfl ?_
      refine r_getR (pc := 118) O gf_m_M_41_0 d_M_rule_118 ?_
      refine r_aload_n (pc := 121) O d_M_rule_121 0 rfl ?_
      refine r_getI (x := (h.1 0 12)) (pc := 122) O gf_m_M_208_0 d_M_rule_122 rfl ?_
      refine r_iload (pc := 125) O d_M_rule_125 4 rfl ?_
      refine r_iast (pc := 127) O rfl d_M_rule_127 ?_
      refine r_aload_n (pc := 128) O d_M_rule_128 0 rfl ?_
      refine r_getR (pc := 129) O gf_m_M_44_0 d_M_rule_129 ?_
      refine r_aload_n (pc := 132) O d_M_rule_132 0 rfl ?_
      refine r_getI (x := (h.1 0 12)) (pc := 133) O gf_m_M_208_0 d_M_rule_133 rfl ?_
      refine r_iconst (pc := 136) O d_M_rule_136 ic_0 ?_
      refine r_zast (pc := 137) O rfl d_M_rule_137 nz_0 ?_
      refine r_aload_n (pc := 138) O d_M_rule_138 0 rfl ?_
      refine r_getR (pc := 139) O gf_m_M_47_0 d_M_rule_139 ?_
      refine r_aload_n (pc := 142) O d_M_rule_142 0 rfl ?_
      refine r_getI (x := (h.1 0 12)) (pc := 143) O gf_m_M_208_0 d_M_rule_143 rfl ?_
      refine r_iconst (pc := 146) O d_M_rule_146 ic_0 ?_
      refine r_iast (pc := 147) O rfl d_M_rule_147 ?_
      refine r_aload_n (pc := 148) O d_M_rule_148 0 rfl ?_
      refine r_getR (pc := 149) O gf_m_M_59_0 d_M_rule_149 ?_
      refine r_aload_n (pc := 152) O d_M_rule_152 0 rfl ?_
      refine r_getI (x := (h.1 0 12)) (pc := 153) O gf_m_M_208_0 d_M_rule_153 rfl ?_
      refine r_iconst (pc := 156) O d_M_rule_156 ic_0 ?_
      refine r_iast (pc := 157) O rfl d_M_rule_157 ?_
      refine r_aload_n (pc := 158) O d_M_rule_158 0 rfl ?_
      refine r_dup (pc := 159) O d_M_rule_159 rfl ?_
      refine r_getI (x := (h.1 0 12)) (pc := 160) O gf_m_M_208_0 d_M_rule_160 rfl ?_
      refine r_iconst (pc := 163) O d_M_rule_163 ic_1 ?_
      refine r_iadd (pc := 164) O d_M_rule_164 ?_
      refine r_putI (pc := 165) O pf_m_M_208_0 d_M_rule_165 ?_
      refine r_aload_n (pc := 168) O d_M_rule_168 0 rfl ?_
      refine r_callVv (pc := 169) O [] rfl rfl (R_M_renew n  (pI (pI (pI (pI (pI (pI (pI (pI (pI h 0 0 t0) 8 (ix (h.1 0 12)) p1) 9 (ix (h.1 0 12)) p2) 10 (ix (h.1 0 12)) p3) 11 (ix (h.1 0 12)) p4) 12 (ix (h.1 0 12)) 0) 13 (ix (h.1 0 12)) 0) 17 (ix (h.1 0 12)) 0) 0 12 ((h.1 0 12) + 1))) cw_M_rule_169 wm_900 ws_M_renew rfl (Nat.le_of_ble_eq_true rfl) d_M_rule_169 rfl (fun v169 => ?_)
      refine r_aload_n (pc := 172) O d_M_rule_172 0 rfl ?_
      refine r_getI (x := (v169.1 0 12)) (pc := 173) O gf_m_M_208_0 d_M_rule_173 rfl ?_
      refine r_iconst (pc := 176) O d_M_rule_176 ic_1 ?_
      refine r_isub (pc := 177) O d_M_rule_177 ?_
      exact r_iret (pc := 178) O rfl d_M_rule_178
    · refine r_iconst (pc := 85) O d_M_rule_85 ic_0 ?_
      exact r_iret (pc := 86) O rfl d_M_rule_86
  have hK49 : ∀ (t0 : Int32) (h : sHp), sS Zm M V (sEb sOi) 49 [(0, .ref 0), (1, .int p1), (2, .int p2), (3, .int p3), (4, .int p4)] [.int t0] h (K_M_rule_49 n p1 p2 p3 p4 t0 h) := by
    intro t0 h
    unfold K_M_rule_49
    refine r_istore (lv' := [(5, .int t0), (0, .ref 0), (1, .int p1), (2, .int p2), (3, .int p3), (4, .int p4)]) (pc := 49) O d_M_rule_49 (by decide) rfl ?_
    refine r_aload_n (pc := 51) O d_M_rule_51 1 rfl ?_
    refine r_iload (pc := 52) O d_M_rule_52 0 rfl ?_
    refine r_if_eq (tgt := 61) (pc := 54) O d_M_rule_54 (by decide) (fun q54 => ?_) (fun q54 => ?_)
    · refine r_aload_n (pc := 61) O d_M_rule_61 1 rfl ?_
      refine r_getI (x := (h.1 0 12)) (pc := 62) O gf_m_M_208_0 d_M_rule_62 rfl ?_
      refine r_bipush (pc := 65) O d_M_rule_65 bc_12 ?_
      refine r_icmp_ne (tgt := 74) (pc := 67) O d_M_rule_67 (by decide) (fun q67 => ?_) (fun q67 => ?_)
      · refine r_iconst (pc := 74) O d_M_rule_74 ic_0 ?_
        exact r_lv [1, 2, 3, 4, 5] rfl (hK75 0 h)
      · refine r_iconst (pc := 70) O d_M_rule_70 ic_2 ?_
        refine r_goto (pc := 71) O d_M_rule_71 (tgt := 75) (by decide) ?_
        exact r_lv [1, 2, 3, 4, 5] rfl (hK75 2 h)
    · refine r_iconst (pc := 57) O d_M_rule_57 ic_1 ?_
      refine r_goto (pc := 58) O d_M_rule_58 (tgt := 75) (by decide) ?_
      exact r_lv [1, 2, 3, 4, 5] rfl (hK75 1 h)
  have hK44 : ∀ (h : sHp), sS Zm M V (sEb sOi) 44 [(0, .ref 0), (1, .int p1), (2, .int p2), (3, .int p3), (4, .int p4)] [] h (K_M_rule_44 n p1 p2 p3 p4 h) := by
    intro h
    unfold K_M_rule_44
    refine r_iconst (pc := 44) O d_M_rule_44 ic_1 ?_
    refine r_goto (pc := 45) O d_M_rule_45 (tgt := 49) (by decide) ?_
    exact (hK49 1 h)
  refine r_iload_n (pc := 0) O d_M_rule_0 1 rfl ?_
  refine r_if_lt (tgt := 44) (pc := 1) O d_M_rule_1 (by decide) (fun q1 => ?_) (fun q1 => ?_)
  · exact (hK44 h)
  · refine r_iload_n (pc := 4) O d_M_rule_4 1 rfl ?_
    refine r_bipush (pc := 5) O d_M_rule_5 bc_8 ?_
    refine r_icmp_gt (tgt := 44) (pc := 7) O d_M_rule_7 (by decide) (fun q7 => ?_) (fun q7 => ?_)
    · exact (hK44 h)
    · refine r_iload_n (pc := 10) O d_M_rule_10 2 rfl ?_
      refine r_bipush (pc := 11) O d_M_rule_11 bc_m2 ?_
      refine r_icmp_lt (tgt := 44) (pc := 13) O d_M_rule_13 (by decide) (fun q13 => ?_) (fun q13 => ?_)
      · exact (hK44 h)
      · refine r_iload_n (pc := 16) O d_M_rule_16 2 rfl ?_
        refine r_iconst (pc := 17) O d_M_rule_17 ic_5 ?_
        refine r_icmp_gt (tgt := 44) (pc := 18) O d_M_rule_18 (by decide) (fun q18 => ?_) (fun q18 => ?_)
        · exact (hK44 h)
        · refine r_iload_n (pc := 21) O d_M_rule_21 3 rfl ?_
          refine r_bipush (pc := 22) O d_M_rule_22 bc_m2 ?_
          refine r_icmp_lt (tgt := 44) (pc := 24) O d_M_rule_24 (by decide) (fun q24 => ?_) (fun q24 => ?_)
          · exact (hK44 h)
          · refine r_iload_n (pc := 27) O d_M_rule_27 3 rfl ?_
            refine r_iconst (pc := 28) O d_M_rule_28 ic_5 ?_
            refine r_icmp_gt (tgt := 44) (pc := 29) O d_M_rule_29 (by decide) (fun q29 => ?_) (fun q29 => ?_)
            · exact (hK44 h)
            · refine r_iload (pc := 32) O d_M_rule_32 4 rfl ?_
              refine r_if_lt (tgt := 44) (pc := 34) O d_M_rule_34 (by decide) (fun q34 => ?_) (fun q34 => ?_)
              · exact (hK44 h)
              · refine r_iload (pc := 37) O d_M_rule_37 4 rfl ?_
                refine r_bipush (pc := 39) O d_M_rule_39 bc_98 ?_
                refine r_icmp_le (tgt := 48) (pc := 41) O d_M_rule_41 (by decide) (fun q41 => ?_) (fun q41 => ?_)
                · refine r_iconst (pc := 48) O d_M_rule_48 ic_0 ?_
                  exact (hK49 0 h)
                · exact (hK44 h)
def J_M_lacks (n : Nat) (p1 : Int32) (p2 : Int32) (p3 : Int32) (h : sHp) : Option Int32 :=
  if p1 = 0 then ((J_M_noRoom n p2 h).bind fun v6 =>
  sGd (jB v6) (some v6)) else (if p1 = 1 then ((J_M_noThing n p2 h).bind fun v19 =>
  if v19 = 0 then ((J_M_noPlace n p3 h).bind fun v27 =>
  if v27 = 0 then (some 0) else (some 1)) else (some 1)) else (if p1 = 2 then ((J_M_noThing n p2 h).bind fun v48 =>
  sGd (jB v48) (some v48)) else ((J_M_noNumber n p2 h).bind fun v56 =>
  sGd (jB v56) (some v56))))
set_option maxRecDepth 20000 in
set_option maxHeartbeats 4000000 in
theorem R_M_lacks (n : Nat) (p1 : Int32) (p2 : Int32) (p3 : Int32) (h : sHp) : sM Zm (sPi h) y_M_lacks prog_10_method_21_code 4 (some .boolean) rm_M_lacks [.ref 0, .int p1, .int p2, .int p3] h (J_M_lacks n p1 p2 p3 h) := by
  refine sM_of (own := "StoryStatesModel") rfl (by decide) (Nat.le_of_ble_eq_true rfl) (fun M V O => ?_)
  unfold J_M_lacks
  refine r_lv (lv' := [(0, .ref 0), (1, .int p1), (2, .int p2), (3, .int p3)]) [0, 1, 2, 3] rfl ?_
  refine r_iload_n (pc := 0) O d_M_lacks_0 1 rfl ?_
  refine r_if_ne (tgt := 12) (pc := 1) O d_M_lacks_1 (by decide) (fun q1 => ?_) (fun q1 => ?_)
  · refine r_iload_n (pc := 12) O d_M_lacks_12 1 rfl ?_
    refine r_iconst (pc := 13) O d_M_lacks_13 ic_1 ?_
    refine r_icmp_ne (tgt := 41) (pc := 14) O d_M_lacks_14 (by decide) (fun q14 => ?_) (fun q14 => ?_)
    · refine r_iload_n (pc := 41) O d_M_lacks_41 1 rfl ?_
      refine r_iconst (pc := 42) O d_M_lacks_42 ic_2 ?_
      refine r_icmp_ne (tgt := 54) (pc := 43) O d_M_lacks_43 (by decide) (fun q43 => ?_) (fun q43 => ?_)
      · refine r_aload_n (pc := 54) O d_M_lacks_54 0 rfl ?_
        refine r_iload_n (pc := 55) O d_M_lacks_55 2 rfl ?_
        refine r_callVip (pc := 56) O [.int p2] rfl rfl (R_M_noNumber n p2 h) cw_M_lacks_56 wm_1161 ws_M_noNumber rfl (Nat.le_of_ble_eq_true rfl) d_M_lacks_56 rfl (fun v56 => ?_)
        exact r_zretg (pc := 59) O rfl d_M_lacks_59
      · refine r_aload_n (pc := 46) O d_M_lacks_46 0 rfl ?_
        refine r_iload_n (pc := 47) O d_M_lacks_47 2 rfl ?_
        refine r_callVip (pc := 48) O [.int p2] rfl rfl (R_M_noThing n p2 h) cw_M_lacks_48 wm_1125 ws_M_noThing rfl (Nat.le_of_ble_eq_true rfl) d_M_lacks_48 rfl (fun v48 => ?_)
        refine r_goto (pc := 51) O d_M_lacks_51 (tgt := 59) (by decide) ?_
        exact r_zretg (pc := 59) O rfl d_M_lacks_59
    · refine r_aload_n (pc := 17) O d_M_lacks_17 0 rfl ?_
      refine r_iload_n (pc := 18) O d_M_lacks_18 2 rfl ?_
      refine r_callVip (pc := 19) O [.int p2] rfl rfl (R_M_noThing n p2 h) cw_M_lacks_19 wm_1125 ws_M_noThing rfl (Nat.le_of_ble_eq_true rfl) d_M_lacks_19 rfl (fun v19 => ?_)
      refine r_if_ne (tgt := 33) (pc := 22) O d_M_lacks_22 (by decide) (fun q22 => ?_) (fun q22 => ?_)
      · refine r_iconst (pc := 33) O d_M_lacks_33 ic_1 ?_
        refine r_goto (pc := 34) O d_M_lacks_34 (tgt := 59) (by decide) ?_
        exact r_zret (pc := 59) O rfl d_M_lacks_59 nb_1
      · refine r_aload_n (pc := 25) O d_M_lacks_25 0 rfl ?_
        refine r_iload_n (pc := 26) O d_M_lacks_26 3 rfl ?_
        refine r_callVip (pc := 27) O [.int p3] rfl rfl (R_M_noPlace n p3 h) cw_M_lacks_27 wm_1133 ws_M_noPlace rfl (Nat.le_of_ble_eq_true rfl) d_M_lacks_27 rfl (fun v27 => ?_)
        refine r_if_eq (tgt := 37) (pc := 30) O d_M_lacks_30 (by decide) (fun q30 => ?_) (fun q30 => ?_)
        · refine r_iconst (pc := 37) O d_M_lacks_37 ic_0 ?_
          refine r_goto (pc := 38) O d_M_lacks_38 (tgt := 59) (by decide) ?_
          exact r_zret (pc := 59) O rfl d_M_lacks_59 nb_0
        · refine r_iconst (pc := 33) O d_M_lacks_33 ic_1 ?_
          refine r_goto (pc := 34) O d_M_lacks_34 (tgt := 59) (by decide) ?_
          exact r_zret (pc := 59) O rfl d_M_lacks_59 nb_1
  · refine r_aload_n (pc := 4) O d_M_lacks_4 0 rfl ?_
    refine r_iload_n (pc := 5) O d_M_lacks_5 2 rfl ?_
    refine r_callVip (pc := 6) O [.int p2] rfl rfl (R_M_noRoom n p2 h) cw_M_lacks_6 wm_1121 ws_M_noRoom rfl (Nat.le_of_ble_eq_true rfl) d_M_lacks_6 rfl (fun v6 => ?_)
    refine r_goto (pc := 9) O d_M_lacks_9 (tgt := 59) (by decide) ?_
    exact r_zretg (pc := 59) O rfl d_M_lacks_59
def K_M_condition_118 (n : Nat) (p1 : Int32) (p2 : Int32) (p3 : Int32) (p4 : Int32) (t0 : Int32) (h : sHp) : Option sHp :=
  if t0 ≤ 0 then (sGd (sIn p1 12) (sGd (sIn ((3 * p1) + (h.1 13 (ix p1))) 36) (sGd (sIn ((3 * p1) + (h.1 13 (ix p1))) 36) (sGd (sIn ((3 * p1) + (h.1 13 (ix p1))) 36) (sGd (sIn p1 12) (sGd (sIn p1 12) ((J_M_renew n (pI (pI (pI (pI (pI h 0 0 t0) 14 (ix ((3 * p1) + (h.1 13 (ix p1)))) p2) 15 (ix ((3 * p1) + (h.1 13 (ix p1)))) p3) 16 (ix ((3 * p1) + (h.1 13 (ix p1)))) p4) 13 (ix p1) ((h.1 13 (ix p1)) + 1))).bind fun v177 =>
  some v177))))))) else (some (pI h 0 0 t0))
def K_M_condition_91 (n : Nat) (p1 : Int32) (p2 : Int32) (p3 : Int32) (p4 : Int32) (t0 : Int32) (h : sHp) : Option sHp :=
  if t0 = 0 then (sGd (sIn p1 12) (if (h.1 13 (ix p1)) = 3 then (K_M_condition_118 n p1 p2 p3 p4 3 h) else (K_M_condition_118 n p1 p2 p3 p4 0 h))) else (K_M_condition_118 n p1 p2 p3 p4 2 h)
def K_M_condition_90 (n : Nat) (p1 : Int32) (p2 : Int32) (p3 : Int32) (p4 : Int32) (h : sHp) : Option sHp :=
  K_M_condition_91 n p1 p2 p3 p4 0 h
def K_M_condition_86 (n : Nat) (p1 : Int32) (p2 : Int32) (p3 : Int32) (p4 : Int32) (h : sHp) : Option sHp :=
  K_M_condition_91 n p1 p2 p3 p4 1 h
def K_M_condition_69 (n : Nat) (p1 : Int32) (p2 : Int32) (p3 : Int32) (p4 : Int32) (h : sHp) : Option sHp :=
  if p2 ≤ 2 then (K_M_condition_90 n p1 p2 p3 p4 h) else (if p4 < 0 then (K_M_condition_86 n p1 p2 p3 p4 h) else (if p4 ≤ 7 then (K_M_condition_90 n p1 p2 p3 p4 h) else (K_M_condition_86 n p1 p2 p3 p4 h)))
def K_M_condition_42 (n : Nat) (p1 : Int32) (p2 : Int32) (p3 : Int32) (p4 : Int32) (t0 : Int32) (h : sHp) : Option sHp :=
  if t0 ≤ 0 then (if p2 = 2 then (if p4 < 0 then (K_M_condition_86 n p1 p2 p3 p4 (pI h 0 0 t0)) else (if 1 < p4 then (K_M_condition_86 n p1 p2 p3 p4 (pI h 0 0 t0)) else (K_M_condition_69 n p1 p2 p3 p4 (pI h 0 0 t0)))) else (K_M_condition_69 n p1 p2 p3 p4 (pI h 0 0 t0))) else (some (pI h 0 0 t0))
def K_M_condition_22 (n : Nat) (p1 : Int32) (p2 : Int32) (p3 : Int32) (p4 : Int32) (h : sHp) : Option sHp :=
  K_M_condition_42 n p1 p2 p3 p4 2 h
def J_M_condition (n : Nat) (p1 : Int32) (p2 : Int32) (p3 : Int32) (p4 : Int32) (h : sHp) : Option sHp :=
  (J_M_noRule n p1 h).bind fun v3 =>
  if v3 = 0 then (if p2 < 0 then (K_M_condition_22 n p1 p2 p3 p4 h) else (if p2 ≤ 4 then ((J_M_lacks n p2 p3 p4 h).bind fun v31 =>
  if v31 = 0 then (K_M_condition_42 n p1 p2 p3 p4 0 h) else (K_M_condition_42 n p1 p2 p3 p4 1 h)) else (K_M_condition_22 n p1 p2 p3 p4 h))) else (K_M_condition_42 n p1 p2 p3 p4 1 h)
set_option maxRecDepth 20000 in
set_option maxHeartbeats 4000000 in
theorem R_M_condition (n : Nat) (p1 : Int32) (p2 : Int32) (p3 : Int32) (p4 : Int32) (h : sHp) : sM Zm sOv y_M_condition prog_10_method_22_code 7 none rm_M_condition [.ref 0, .int p1, .int p2, .int p3, .int p4] h (J_M_condition n p1 p2 p3 p4 h) := by
  refine sM_of (own := "StoryStatesModel") rfl (by decide) (Nat.le_of_ble_eq_true rfl) (fun M V O => ?_)
  unfold J_M_condition
  refine r_lv (lv' := [(0, .ref 0), (1, .int p1), (2, .int p2), (3, .int p3), (4, .int p4)]) [0, 1, 2, 3, 4] rfl ?_
  have hK118 : ∀ (t0 : Int32) (h : sHp), sS Zm M V (sEb sOv) 118 [(0, .ref 0), (1, .int p1), (2, .int p2), (3, .int p3), (4, .int p4)] [.int t0, .ref 0] h (K_M_condition_118 n p1 p2 p3 p4 t0 h) := by
    intro t0 h
    unfold K_M_condition_118
    refine r_putI (pc := 118) O pf_m_M_137_0 d_M_condition_118 ?_
    refine r_aload_n (pc := 121) O d_M_condition_121 0 rfl ?_
    refine r_getI (x := t0) (pc := 122) O gf_m_M_137_0 d_M_condition_122 rfl ?_
    refine r_if_le (tgt := 129) (pc := 125) O d_M_condition_125 (by decide) (fun q125 => ?_) (fun q125 => ?_)
    · refine r_iconst (pc := 129) O d_M_condition_129 ic_3 ?_
      refine r_iload_n (pc := 130) O d_M_condition_130 1 rfl ?_
      refine r_imul (pc := 131) O d_M_condition_131 ?_
      refine r_aload_n (pc := 132) O d_M_condition_132 0 rfl ?_
      refine r_getR (pc := 133) O gf_m_M_47_0 d_M_condition_133 ?_
      refine r_iload_n (pc := 136) O d_M_condition_136 1 rfl ?_
      refine r_iald (x := (h.1 13 (ix p1))) (pc := 137) O rfl d_M_condition_137 rfl ?_
      refine r_iadd (pc := 138) O d_M_condition_138 ?_
      refine r_istore (lv' := [(6, .int ((3 * p1) + (h.1 13 (ix p1)))), (0, .ref 0), (1, .int p1), (2, .int p2), (3, .int p3), (4, .int p4)]) (pc := 139) O d_M_condition_139 (by decide) rfl ?_
      refine r_aload_n (pc := 141) O d_M_condition_141 1 rfl ?_
      refine r_getR (pc := 142) O gf_m_M_50_0 d_M_condition_142 ?_
      refine r_iload (pc := 145) O d_M_condition_145 0 rfl ?_
      refine r_iload_n (pc := 147) O d_M_condition_147 3 rfl ?_
      refine r_iast (pc := 148) O rfl d_M_condition_148 ?_
      refine r_aload_n (pc := 149) O d_M_condition_149 1 rfl ?_
      refine r_getR (pc := 150) O gf_m_M_53_0 d_M_condition_150 ?_
      refine r_iload (pc := 153) O d_M_condition_153 0 rfl ?_
      refine r_iload_n (pc := 155) O d_M_condition_155 4 rfl ?_
      refine r_iast (pc := 156) O rfl d_M_condition_156 ?_
      refine r_aload_n (pc := 157) O d_M_condition_157 1 rfl ?_
      refine r_getR (pc := 158) O gf_m_M_56_0 d_M_condition_158 ?_
      refine r_iload (pc := 161) O d_M_condition_161 0 rfl ?_
      refine r_iload (pc := 163) O d_M_condition_163 5 rfl ?_
      refine r_iast (pc := 165) O rfl d_M_condition_165 ?_
      refine r_aload_n (pc := 166) O d_M_condition_166 1 rfl ?_
      refine r_getR (pc := 167) O gf_m_M_47_0 d_M_condition_167 ?_
      refine r_iload_n (pc := 170) O d_M_condition_170 2 rfl ?_
      refine r_dup2_11 (pc := 171) O d_M_condition_171 rfl rfl ?_
      refine r_iald (x := (h.1 13 (ix p1))) (pc := 172) O rfl d_M_condition_172 rfl ?_
      refine r_iconst (pc := 173) O d_M_condition_173 ic_1 ?_
      refine r_iadd (pc := 174) O d_M_condition_174 ?_
      refine r_iast (pc := 175) O rfl d_M_condition_175 ?_
      refine r_aload_n (pc := 176) O d_M_condition_176 1 rfl ?_
      refine r_callVv (pc := 177) O [] rfl rfl (R_M_renew n  (pI (pI (pI (pI (pI h 0 0 t0) 14 (ix ((3 * p1) + (h.1 13 (ix p1)))) p2) 15 (ix ((3 * p1) + (h.1 13 (ix p1)))) p3) 16 (ix ((3 * p1) + (h.1 13 (ix p1)))) p4) 13 (ix p1) ((h.1 13 (ix p1)) + 1))) cw_M_condition_177 wm_900 ws_M_renew rfl (Nat.le_of_ble_eq_true rfl) d_M_condition_177 rfl (fun v177 => ?_)
      exact r_vret (pc := 180) O rfl d_M_condition_180
    · exact r_vret (pc := 128) O rfl d_M_condition_128
  have hK91 : ∀ (t0 : Int32) (h : sHp), sS Zm M V (sEb sOv) 91 [(0, .ref 0), (1, .int p1), (2, .int p2), (3, .int p3), (4, .int p4)] [.int t0] h (K_M_condition_91 n p1 p2 p3 p4 t0 h) := by
    intro t0 h
    unfold K_M_condition_91
    refine r_istore (lv' := [(5, .int t0), (0, .ref 0), (1, .int p1), (2, .int p2), (3, .int p3), (4, .int p4)]) (pc := 91) O d_M_condition_91 (by decide) rfl ?_
    refine r_aload_n (pc := 93) O d_M_condition_93 1 rfl ?_
    refine r_iload (pc := 94) O d_M_condition_94 0 rfl ?_
    refine r_if_eq (tgt := 103) (pc := 96) O d_M_condition_96 (by decide) (fun q96 => ?_) (fun q96 => ?_)
    · refine r_aload_n (pc := 103) O d_M_condition_103 1 rfl ?_
      refine r_getR (pc := 104) O gf_m_M_47_0 d_M_condition_104 ?_
      refine r_iload_n (pc := 107) O d_M_condition_107 2 rfl ?_
      refine r_iald (x := (h.1 13 (ix p1))) (pc := 108) O rfl d_M_condition_108 rfl ?_
      refine r_iconst (pc := 109) O d_M_condition_109 ic_3 ?_
      refine r_icmp_ne (tgt := 117) (pc := 110) O d_M_condition_110 (by decide) (fun q110 => ?_) (fun q110 => ?_)
      · refine r_iconst (pc := 117) O d_M_condition_117 ic_0 ?_
        exact r_lv [1, 2, 3, 4, 5] rfl (hK118 0 h)
      · refine r_iconst (pc := 113) O d_M_condition_113 ic_3 ?_
        refine r_goto (pc := 114) O d_M_condition_114 (tgt := 118) (by decide) ?_
        exact r_lv [1, 2, 3, 4, 5] rfl (hK118 3 h)
    · refine r_iconst (pc := 99) O d_M_condition_99 ic_2 ?_
      refine r_goto (pc := 100) O d_M_condition_100 (tgt := 118) (by decide) ?_
      exact r_lv [1, 2, 3, 4, 5] rfl (hK118 2 h)
  have hK90 : ∀ (h : sHp), sS Zm M V (sEb sOv) 90 [(0, .ref 0), (1, .int p1), (2, .int p2), (3, .int p3), (4, .int p4)] [] h (K_M_condition_90 n p1 p2 p3 p4 h) := by
    intro h
    unfold K_M_condition_90
    refine r_iconst (pc := 90) O d_M_condition_90 ic_0 ?_
    exact (hK91 0 h)
  have hK86 : ∀ (h : sHp), sS Zm M V (sEb sOv) 86 [(0, .ref 0), (1, .int p1), (2, .int p2), (3, .int p3), (4, .int p4)] [] h (K_M_condition_86 n p1 p2 p3 p4 h) := by
    intro h
    unfold K_M_condition_86
    refine r_iconst (pc := 86) O d_M_condition_86 ic_1 ?_
    refine r_goto (pc := 87) O d_M_condition_87 (tgt := 91) (by decide) ?_
    exact (hK91 1 h)
  have hK69 : ∀ (h : sHp), sS Zm M V (sEb sOv) 69 [(0, .ref 0), (1, .int p1), (2, .int p2), (3, .int p3), (4, .int p4)] [] h (K_M_condition_69 n p1 p2 p3 p4 h) := by
    intro h
    unfold K_M_condition_69
    refine r_iload_n (pc := 69) O d_M_condition_69 2 rfl ?_
    refine r_iconst (pc := 70) O d_M_condition_70 ic_2 ?_
    refine r_icmp_le (tgt := 90) (pc := 71) O d_M_condition_71 (by decide) (fun q71 => ?_) (fun q71 => ?_)
    · exact (hK90 h)
    · refine r_iload (pc := 74) O d_M_condition_74 4 rfl ?_
      refine r_if_lt (tgt := 86) (pc := 76) O d_M_condition_76 (by decide) (fun q76 => ?_) (fun q76 => ?_)
      · exact (hK86 h)
      · refine r_iload (pc := 79) O d_M_condition_79 4 rfl ?_
        refine r_bipush (pc := 81) O d_M_condition_81 bc_7 ?_
        refine r_icmp_le (tgt := 90) (pc := 83) O d_M_condition_83 (by decide) (fun q83 => ?_) (fun q83 => ?_)
        · exact (hK90 h)
        · exact (hK86 h)
  have hK42 : ∀ (t0 : Int32) (h : sHp), sS Zm M V (sEb sOv) 42 [(0, .ref 0), (1, .int p1), (2, .int p2), (3, .int p3), (4, .int p4)] [.int t0, .ref 0] h (K_M_condition_42 n p1 p2 p3 p4 t0 h) := by
    intro t0 h
    unfold K_M_condition_42
    refine r_putI (pc := 42) O pf_m_M_137_0 d_M_condition_42 ?_
    refine r_aload_n (pc := 45) O d_M_condition_45 0 rfl ?_
    refine r_getI (x := t0) (pc := 46) O gf_m_M_137_0 d_M_condition_46 rfl ?_
    refine r_if_le (tgt := 53) (pc := 49) O d_M_condition_49 (by decide) (fun q49 => ?_) (fun q49 => ?_)
    · refine r_iload_n (pc := 53) O d_M_condition_53 2 rfl ?_
      refine r_iconst (pc := 54) O d_M_condition_54 ic_2 ?_
      refine r_icmp_ne (tgt := 69) (pc := 55) O d_M_condition_55 (by decide) (fun q55 => ?_) (fun q55 => ?_)
      · exact (hK69 (pI h 0 0 t0))
      · refine r_iload (pc := 58) O d_M_condition_58 4 rfl ?_
        refine r_if_lt (tgt := 86) (pc := 60) O d_M_condition_60 (by decide) (fun q60 => ?_) (fun q60 => ?_)
        · exact (hK86 (pI h 0 0 t0))
        · refine r_iload (pc := 63) O d_M_condition_63 4 rfl ?_
          refine r_iconst (pc := 65) O d_M_condition_65 ic_1 ?_
          refine r_icmp_gt (tgt := 86) (pc := 66) O d_M_condition_66 (by decide) (fun q66 => ?_) (fun q66 => ?_)
          · exact (hK86 (pI h 0 0 t0))
          · exact (hK69 (pI h 0 0 t0))
    · exact r_vret (pc := 52) O rfl d_M_condition_52
  have hK22 : ∀ (h : sHp), sS Zm M V (sEb sOv) 22 [(0, .ref 0), (1, .int p1), (2, .int p2), (3, .int p3), (4, .int p4)] [.ref 0] h (K_M_condition_22 n p1 p2 p3 p4 h) := by
    intro h
    unfold K_M_condition_22
    refine r_iconst (pc := 22) O d_M_condition_22 ic_2 ?_
    refine r_goto (pc := 23) O d_M_condition_23 (tgt := 42) (by decide) ?_
    exact (hK42 2 h)
  refine r_aload_n (pc := 0) O d_M_condition_0 0 rfl ?_
  refine r_aload_n (pc := 1) O d_M_condition_1 0 rfl ?_
  refine r_iload_n (pc := 2) O d_M_condition_2 1 rfl ?_
  refine r_callVip (pc := 3) O [.int p1] rfl rfl (R_M_noRule n p1 h) cw_M_condition_3 wm_1153 ws_M_noRule rfl (Nat.le_of_ble_eq_true rfl) d_M_condition_3 rfl (fun v3 => ?_)
  refine r_if_eq (tgt := 13) (pc := 6) O d_M_condition_6 (by decide) (fun q6 => ?_) (fun q6 => ?_)
  · refine r_iload_n (pc := 13) O d_M_condition_13 2 rfl ?_
    refine r_if_lt (tgt := 22) (pc := 14) O d_M_condition_14 (by decide) (fun q14 => ?_) (fun q14 => ?_)
    · exact (hK22 h)
    · refine r_iload_n (pc := 17) O d_M_condition_17 2 rfl ?_
      refine r_iconst (pc := 18) O d_M_condition_18 ic_4 ?_
      refine r_icmp_le (tgt := 26) (pc := 19) O d_M_condition_19 (by decide) (fun q19 => ?_) (fun q19 => ?_)
      · refine r_aload_n (pc := 26) O d_M_condition_26 0 rfl ?_
        refine r_iload_n (pc := 27) O d_M_condition_27 2 rfl ?_
        refine r_iload_n (pc := 28) O d_M_condition_28 3 rfl ?_
        refine r_iload (pc := 29) O d_M_condition_29 4 rfl ?_
        refine r_callVip (pc := 31) O [.int p2, .int p3, .int p4] rfl rfl (R_M_lacks n p2 p3 p4 h) cw_M_condition_31 wm_1157 ws_M_lacks rfl (Nat.le_of_ble_eq_true rfl) d_M_condition_31 rfl (fun v31 => ?_)
        refine r_if_eq (tgt := 41) (pc := 34) O d_M_condition_34 (by decide) (fun q34 => ?_) (fun q34 => ?_)
        · refine r_iconst (pc := 41) O d_M_condition_41 ic_0 ?_
          exact (hK42 0 h)
        · refine r_iconst (pc := 37) O d_M_condition_37 ic_1 ?_
          refine r_goto (pc := 38) O d_M_condition_38 (tgt := 42) (by decide) ?_
          exact (hK42 1 h)
      · exact (hK22 h)
  · refine r_iconst (pc := 9) O d_M_condition_9 ic_1 ?_
    refine r_goto (pc := 10) O d_M_condition_10 (tgt := 42) (by decide) ?_
    exact (hK42 1 h)
def K_M_effect_149 (n : Nat) (p1 : Int32) (p2 : Int32) (p3 : Int32) (p4 : Int32) (t0 : Int32) (h : sHp) : Option sHp :=
  if t0 ≤ 0 then (sGd (sIn p1 12) (sGd (sIn ((3 * p1) + (h.1 17 (ix p1))) 36) (sGd (sIn ((3 * p1) + (h.1 17 (ix p1))) 36) (sGd (sIn ((3 * p1) + (h.1 17 (ix p1))) 36) (sGd (sIn p1 12) (sGd (sIn p1 12) ((J_M_renew n (pI (pI (pI (pI (pI h 0 0 t0) 18 (ix ((3 * p1) + (h.1 17 (ix p1)))) p2) 19 (ix ((3 * p1) + (h.1 17 (ix p1)))) p3) 20 (ix ((3 * p1) + (h.1 17 (ix p1)))) p4) 17 (ix p1) ((h.1 17 (ix p1)) + 1))).bind fun v208 =>
  some v208))))))) else (some (pI h 0 0 t0))
def K_M_effect_122 (n : Nat) (p1 : Int32) (p2 : Int32) (p3 : Int32) (p4 : Int32) (t0 : Int32) (h : sHp) : Option sHp :=
  if t0 = 0 then (sGd (sIn p1 12) (if (h.1 17 (ix p1)) = 3 then (K_M_effect_149 n p1 p2 p3 p4 3 h) else (K_M_effect_149 n p1 p2 p3 p4 0 h))) else (K_M_effect_149 n p1 p2 p3 p4 2 h)
def K_M_effect_121 (n : Nat) (p1 : Int32) (p2 : Int32) (p3 : Int32) (p4 : Int32) (h : sHp) : Option sHp :=
  K_M_effect_122 n p1 p2 p3 p4 0 h
def K_M_effect_117 (n : Nat) (p1 : Int32) (p2 : Int32) (p3 : Int32) (p4 : Int32) (h : sHp) : Option sHp :=
  K_M_effect_122 n p1 p2 p3 p4 1 h
def K_M_effect_98 (n : Nat) (p1 : Int32) (p2 : Int32) (p3 : Int32) (p4 : Int32) (h : sHp) : Option sHp :=
  if p2 = 3 then (if p4 < (-7) then (K_M_effect_117 n p1 p2 p3 p4 h) else (if p4 ≤ 7 then (K_M_effect_121 n p1 p2 p3 p4 h) else (K_M_effect_117 n p1 p2 p3 p4 h))) else (K_M_effect_121 n p1 p2 p3 p4 h)
def K_M_effect_71 (n : Nat) (p1 : Int32) (p2 : Int32) (p3 : Int32) (p4 : Int32) (t0 : Int32) (h : sHp) : Option sHp :=
  if t0 ≤ 0 then (if p2 = 2 then (if p4 < 0 then (K_M_effect_117 n p1 p2 p3 p4 (pI h 0 0 t0)) else (if 1 < p4 then (K_M_effect_117 n p1 p2 p3 p4 (pI h 0 0 t0)) else (K_M_effect_98 n p1 p2 p3 p4 (pI h 0 0 t0)))) else (K_M_effect_98 n p1 p2 p3 p4 (pI h 0 0 t0))) else (some (pI h 0 0 t0))
def K_M_effect_57 (n : Nat) (p1 : Int32) (p2 : Int32) (p3 : Int32) (p4 : Int32) (h : sHp) : Option sHp :=
  K_M_effect_71 n p1 p2 p3 p4 2 h
def K_M_effect_33 (n : Nat) (p1 : Int32) (p2 : Int32) (p3 : Int32) (p4 : Int32) (t0 : Int32) (h : sHp) : Option sHp :=
  (J_M_noRule n p1 h).bind fun v38 =>
  if v38 = 0 then (if p2 < 0 then (K_M_effect_57 n p1 p2 p3 p4 h) else (if p2 ≤ 4 then (if t0 = 0 then (K_M_effect_71 n p1 p2 p3 p4 0 h) else (K_M_effect_71 n p1 p2 p3 p4 1 h)) else (K_M_effect_57 n p1 p2 p3 p4 h))) else (K_M_effect_71 n p1 p2 p3 p4 1 h)
def K_M_effect_17 (n : Nat) (p1 : Int32) (p2 : Int32) (p3 : Int32) (p4 : Int32) (h : sHp) : Option sHp :=
  K_M_effect_33 n p1 p2 p3 p4 1 h
def J_M_effect (n : Nat) (p1 : Int32) (p2 : Int32) (p3 : Int32) (p4 : Int32) (h : sHp) : Option sHp :=
  if p2 = 4 then (if p3 < 0 then (K_M_effect_17 n p1 p2 p3 p4 h) else (if p3 < (h.1 0 10) then (K_M_effect_33 n p1 p2 p3 p4 0 h) else (K_M_effect_17 n p1 p2 p3 p4 h))) else ((J_M_lacks n p2 p3 p4 h).bind fun v30 =>
  K_M_effect_33 n p1 p2 p3 p4 v30 h)
set_option maxRecDepth 20000 in
set_option maxHeartbeats 4000000 in
theorem R_M_effect (n : Nat) (p1 : Int32) (p2 : Int32) (p3 : Int32) (p4 : Int32) (h : sHp) : sM Zm sOv y_M_effect prog_10_method_23_code 8 none rm_M_effect [.ref 0, .int p1, .int p2, .int p3, .int p4] h (J_M_effect n p1 p2 p3 p4 h) := by
  refine sM_of (own := "StoryStatesModel") rfl (by decide) (Nat.le_of_ble_eq_true rfl) (fun M V O => ?_)
  unfold J_M_effect
  refine r_lv (lv' := [(0, .ref 0), (1, .int p1), (2, .int p2), (3, .int p3), (4, .int p4)]) [0, 1, 2, 3, 4] rfl ?_
  have hK149 : ∀ (t0 : Int32) (h : sHp), sS Zm M V (sEb sOv) 149 [(0, .ref 0), (1, .int p1), (2, .int p2), (3, .int p3), (4, .int p4)] [.int t0, .ref 0] h (K_M_effect_149 n p1 p2 p3 p4 t0 h) := by
    intro t0 h
    unfold K_M_effect_149
    refine r_putI (pc := 149) O pf_m_M_137_0 d_M_effect_149 ?_
    refine r_aload_n (pc := 152) O d_M_effect_152 0 rfl ?_
    refine r_getI (x := t0) (pc := 153) O gf_m_M_137_0 d_M_effect_153 rfl ?_
    refine r_if_le (tgt := 160) (pc := 156) O d_M_effect_156 (by decide) (fun q156 => ?_) (fun q156 => ?_)
    · refine r_iconst (pc := 160) O d_M_effect_160 ic_3 ?_
      refine r_iload_n (pc := 161) O d_M_effect_161 1 rfl ?_
      refine r_imul (pc := 162) O d_M_effect_162 ?_
      refine r_aload_n (pc := 163) O d_M_effect_163 0 rfl ?_
      refine r_getR (pc := 164) O gf_m_M_59_0 d_M_effect_164 ?_
      refine r_iload_n (pc := 167) O d_M_effect_167 1 rfl ?_
      refine r_iald (x := (h.1 17 (ix p1))) (pc := 168) O rfl d_M_effect_168 rfl ?_
      refine r_iadd (pc := 169) O d_M_effect_169 ?_
      refine r_istore (lv' := [(7, .int ((3 * p1) + (h.1 17 (ix p1)))), (0, .ref 0), (1, .int p1), (2, .int p2), (3, .int p3), (4, .int p4)]) (pc := 170) O d_M_effect_170 (by decide) rfl ?_
      refine r_aload_n (pc := 172) O d_M_effect_172 1 rfl ?_
      refine r_getR (pc := 173) O gf_m_M_62_0 d_M_effect_173 ?_
      refine r_iload (pc := 176) O d_M_effect_176 0 rfl ?_
      refine r_iload_n (pc := 178) O d_M_effect_178 3 rfl ?_
      refine r_iast (pc := 179) O rfl d_M_effect_179 ?_
      refine r_aload_n (pc := 180) O d_M_effect_180 1 rfl ?_
      refine r_getR (pc := 181) O gf_m_M_65_0 d_M_effect_181 ?_
      refine r_iload (pc := 184) O d_M_effect_184 0 rfl ?_
      refine r_iload_n (pc := 186) O d_M_effect_186 4 rfl ?_
      refine r_iast (pc := 187) O rfl d_M_effect_187 ?_
      refine r_aload_n (pc := 188) O d_M_effect_188 1 rfl ?_
      refine r_getR (pc := 189) O gf_m_M_68_0 d_M_effect_189 ?_
      refine r_iload (pc := 192) O d_M_effect_192 0 rfl ?_
      refine r_iload (pc := 194) O d_M_effect_194 5 rfl ?_
      refine r_iast (pc := 196) O rfl d_M_effect_196 ?_
      refine r_aload_n (pc := 197) O d_M_effect_197 1 rfl ?_
      refine r_getR (pc := 198) O gf_m_M_59_0 d_M_effect_198 ?_
      refine r_iload_n (pc := 201) O d_M_effect_201 2 rfl ?_
      refine r_dup2_11 (pc := 202) O d_M_effect_202 rfl rfl ?_
      refine r_iald (x := (h.1 17 (ix p1))) (pc := 203) O rfl d_M_effect_203 rfl ?_
      refine r_iconst (pc := 204) O d_M_effect_204 ic_1 ?_
      refine r_iadd (pc := 205) O d_M_effect_205 ?_
      refine r_iast (pc := 206) O rfl d_M_effect_206 ?_
      refine r_aload_n (pc := 207) O d_M_effect_207 1 rfl ?_
      refine r_callVv (pc := 208) O [] rfl rfl (R_M_renew n  (pI (pI (pI (pI (pI h 0 0 t0) 18 (ix ((3 * p1) + (h.1 17 (ix p1)))) p2) 19 (ix ((3 * p1) + (h.1 17 (ix p1)))) p3) 20 (ix ((3 * p1) + (h.1 17 (ix p1)))) p4) 17 (ix p1) ((h.1 17 (ix p1)) + 1))) cw_M_effect_208 wm_900 ws_M_renew rfl (Nat.le_of_ble_eq_true rfl) d_M_effect_208 rfl (fun v208 => ?_)
      exact r_vret (pc := 211) O rfl d_M_effect_211
    · exact r_vret (pc := 159) O rfl d_M_effect_159
  have hK122 : ∀ (t0 : Int32) (h : sHp), sS Zm M V (sEb sOv) 122 [(0, .ref 0), (1, .int p1), (2, .int p2), (3, .int p3), (4, .int p4)] [.int t0] h (K_M_effect_122 n p1 p2 p3 p4 t0 h) := by
    intro t0 h
    unfold K_M_effect_122
    refine r_istore (lv' := [(6, .int t0), (0, .ref 0), (1, .int p1), (2, .int p2), (3, .int p3), (4, .int p4)]) (pc := 122) O d_M_effect_122 (by decide) rfl ?_
    refine r_aload_n (pc := 124) O d_M_effect_124 1 rfl ?_
    refine r_iload (pc := 125) O d_M_effect_125 0 rfl ?_
    refine r_if_eq (tgt := 134) (pc := 127) O d_M_effect_127 (by decide) (fun q127 => ?_) (fun q127 => ?_)
    · refine r_aload_n (pc := 134) O d_M_effect_134 1 rfl ?_
      refine r_getR (pc := 135) O gf_m_M_59_0 d_M_effect_135 ?_
      refine r_iload_n (pc := 138) O d_M_effect_138 2 rfl ?_
      refine r_iald (x := (h.1 17 (ix p1))) (pc := 139) O rfl d_M_effect_139 rfl ?_
      refine r_iconst (pc := 140) O d_M_effect_140 ic_3 ?_
      refine r_icmp_ne (tgt := 148) (pc := 141) O d_M_effect_141 (by decide) (fun q141 => ?_) (fun q141 => ?_)
      · refine r_iconst (pc := 148) O d_M_effect_148 ic_0 ?_
        exact r_lv [1, 2, 3, 4, 5] rfl (hK149 0 h)
      · refine r_iconst (pc := 144) O d_M_effect_144 ic_3 ?_
        refine r_goto (pc := 145) O d_M_effect_145 (tgt := 149) (by decide) ?_
        exact r_lv [1, 2, 3, 4, 5] rfl (hK149 3 h)
    · refine r_iconst (pc := 130) O d_M_effect_130 ic_2 ?_
      refine r_goto (pc := 131) O d_M_effect_131 (tgt := 149) (by decide) ?_
      exact r_lv [1, 2, 3, 4, 5] rfl (hK149 2 h)
  have hK121 : ∀ (h : sHp), sS Zm M V (sEb sOv) 121 [(0, .ref 0), (1, .int p1), (2, .int p2), (3, .int p3), (4, .int p4)] [] h (K_M_effect_121 n p1 p2 p3 p4 h) := by
    intro h
    unfold K_M_effect_121
    refine r_iconst (pc := 121) O d_M_effect_121 ic_0 ?_
    exact (hK122 0 h)
  have hK117 : ∀ (h : sHp), sS Zm M V (sEb sOv) 117 [(0, .ref 0), (1, .int p1), (2, .int p2), (3, .int p3), (4, .int p4)] [] h (K_M_effect_117 n p1 p2 p3 p4 h) := by
    intro h
    unfold K_M_effect_117
    refine r_iconst (pc := 117) O d_M_effect_117 ic_1 ?_
    refine r_goto (pc := 118) O d_M_effect_118 (tgt := 122) (by decide) ?_
    exact (hK122 1 h)
  have hK98 : ∀ (h : sHp), sS Zm M V (sEb sOv) 98 [(0, .ref 0), (1, .int p1), (2, .int p2), (3, .int p3), (4, .int p4)] [] h (K_M_effect_98 n p1 p2 p3 p4 h) := by
    intro h
    unfold K_M_effect_98
    refine r_iload_n (pc := 98) O d_M_effect_98 2 rfl ?_
    refine r_iconst (pc := 99) O d_M_effect_99 ic_3 ?_
    refine r_icmp_ne (tgt := 121) (pc := 100) O d_M_effect_100 (by decide) (fun q100 => ?_) (fun q100 => ?_)
    · exact (hK121 h)
    · refine r_iload (pc := 103) O d_M_effect_103 4 rfl ?_
      refine r_bipush (pc := 105) O d_M_effect_105 bc_m7 ?_
      refine r_icmp_lt (tgt := 117) (pc := 107) O d_M_effect_107 (by decide) (fun q107 => ?_) (fun q107 => ?_)
      · exact (hK117 h)
      · refine r_iload (pc := 110) O d_M_effect_110 4 rfl ?_
        refine r_bipush (pc := 112) O d_M_effect_112 bc_7 ?_
        refine r_icmp_le (tgt := 121) (pc := 114) O d_M_effect_114 (by decide) (fun q114 => ?_) (fun q114 => ?_)
        · exact (hK121 h)
        · exact (hK117 h)
  have hK71 : ∀ (t0 : Int32) (h : sHp), sS Zm M V (sEb sOv) 71 [(0, .ref 0), (1, .int p1), (2, .int p2), (3, .int p3), (4, .int p4)] [.int t0, .ref 0] h (K_M_effect_71 n p1 p2 p3 p4 t0 h) := by
    intro t0 h
    unfold K_M_effect_71
    refine r_putI (pc := 71) O pf_m_M_137_0 d_M_effect_71 ?_
    refine r_aload_n (pc := 74) O d_M_effect_74 0 rfl ?_
    refine r_getI (x := t0) (pc := 75) O gf_m_M_137_0 d_M_effect_75 rfl ?_
    refine r_if_le (tgt := 82) (pc := 78) O d_M_effect_78 (by decide) (fun q78 => ?_) (fun q78 => ?_)
    · refine r_iload_n (pc := 82) O d_M_effect_82 2 rfl ?_
      refine r_iconst (pc := 83) O d_M_effect_83 ic_2 ?_
      refine r_icmp_ne (tgt := 98) (pc := 84) O d_M_effect_84 (by decide) (fun q84 => ?_) (fun q84 => ?_)
      · exact (hK98 (pI h 0 0 t0))
      · refine r_iload (pc := 87) O d_M_effect_87 4 rfl ?_
        refine r_if_lt (tgt := 117) (pc := 89) O d_M_effect_89 (by decide) (fun q89 => ?_) (fun q89 => ?_)
        · exact (hK117 (pI h 0 0 t0))
        · refine r_iload (pc := 92) O d_M_effect_92 4 rfl ?_
          refine r_iconst (pc := 94) O d_M_effect_94 ic_1 ?_
          refine r_icmp_gt (tgt := 117) (pc := 95) O d_M_effect_95 (by decide) (fun q95 => ?_) (fun q95 => ?_)
          · exact (hK117 (pI h 0 0 t0))
          · exact (hK98 (pI h 0 0 t0))
    · exact r_vret (pc := 81) O rfl d_M_effect_81
  have hK57 : ∀ (h : sHp), sS Zm M V (sEb sOv) 57 [(0, .ref 0), (1, .int p1), (2, .int p2), (3, .int p3), (4, .int p4)] [.ref 0] h (K_M_effect_57 n p1 p2 p3 p4 h) := by
    intro h
    unfold K_M_effect_57
    refine r_iconst (pc := 57) O d_M_effect_57 ic_2 ?_
    refine r_goto (pc := 58) O d_M_effect_58 (tgt := 71) (by decide) ?_
    exact (hK71 2 h)
  have hK33 : ∀ (t0 : Int32) (h : sHp), sS Zm M V (sEb sOv) 33 [(0, .ref 0), (1, .int p1), (2, .int p2), (3, .int p3), (4, .int p4)] [.int t0] h (K_M_effect_33 n p1 p2 p3 p4 t0 h) := by
    intro t0 h
    unfold K_M_effect_33
    refine r_istore (lv' := [(5, .int t0), (0, .ref 0), (1, .int p1), (2, .int p2), (3, .int p3), (4, .int p4)]) (pc := 33) O d_M_effect_33 (by decide) rfl ?_
    refine r_aload_n (pc := 35) O d_M_effect_35 1 rfl ?_
    refine r_aload_n (pc := 36) O d_M_effect_36 1 rfl ?_
    refine r_iload_n (pc := 37) O d_M_effect_37 2 rfl ?_
    refine r_callVip (pc := 38) O [.int p1] rfl rfl (R_M_noRule n p1 h) cw_M_effect_38 wm_1153 ws_M_noRule rfl (Nat.le_of_ble_eq_true rfl) d_M_effect_38 rfl (fun v38 => ?_)
    refine r_if_eq (tgt := 48) (pc := 41) O d_M_effect_41 (by decide) (fun q41 => ?_) (fun q41 => ?_)
    · refine r_iload_n (pc := 48) O d_M_effect_48 3 rfl ?_
      refine r_if_lt (tgt := 57) (pc := 49) O d_M_effect_49 (by decide) (fun q49 => ?_) (fun q49 => ?_)
      · exact r_lv [1, 2, 3, 4, 5] rfl (hK57 h)
      · refine r_iload_n (pc := 52) O d_M_effect_52 3 rfl ?_
        refine r_iconst (pc := 53) O d_M_effect_53 ic_4 ?_
        refine r_icmp_le (tgt := 61) (pc := 54) O d_M_effect_54 (by decide) (fun q54 => ?_) (fun q54 => ?_)
        · refine r_iload (pc := 61) O d_M_effect_61 0 rfl ?_
          refine r_if_eq (tgt := 70) (pc := 63) O d_M_effect_63 (by decide) (fun q63 => ?_) (fun q63 => ?_)
          · refine r_iconst (pc := 70) O d_M_effect_70 ic_0 ?_
            exact r_lv [1, 2, 3, 4, 5] rfl (hK71 0 h)
          · refine r_iconst (pc := 66) O d_M_effect_66 ic_1 ?_
            refine r_goto (pc := 67) O d_M_effect_67 (tgt := 71) (by decide) ?_
            exact r_lv [1, 2, 3, 4, 5] rfl (hK71 1 h)
        · exact r_lv [1, 2, 3, 4, 5] rfl (hK57 h)
    · refine r_iconst (pc := 44) O d_M_effect_44 ic_1 ?_
      refine r_goto (pc := 45) O d_M_effect_45 (tgt := 71) (by decide) ?_
      exact r_lv [1, 2, 3, 4, 5] rfl (hK71 1 h)
  have hK17 : ∀ (h : sHp), sS Zm M V (sEb sOv) 17 [(0, .ref 0), (1, .int p1), (2, .int p2), (3, .int p3), (4, .int p4)] [] h (K_M_effect_17 n p1 p2 p3 p4 h) := by
    intro h
    unfold K_M_effect_17
    refine r_iconst (pc := 17) O d_M_effect_17 ic_1 ?_
    refine r_goto (pc := 18) O d_M_effect_18 (tgt := 33) (by decide) ?_
    exact (hK33 1 h)
  refine r_iload_n (pc := 0) O d_M_effect_0 2 rfl ?_
  refine r_iconst (pc := 1) O d_M_effect_1 ic_4 ?_
  refine r_icmp_ne (tgt := 25) (pc := 2) O d_M_effect_2 (by decide) (fun q2 => ?_) (fun q2 => ?_)
  · refine r_aload_n (pc := 25) O d_M_effect_25 0 rfl ?_
    refine r_iload_n (pc := 26) O d_M_effect_26 2 rfl ?_
    refine r_iload_n (pc := 27) O d_M_effect_27 3 rfl ?_
    refine r_iload (pc := 28) O d_M_effect_28 4 rfl ?_
    refine r_callVip (pc := 30) O [.int p2, .int p3, .int p4] rfl rfl (R_M_lacks n p2 p3 p4 h) cw_M_effect_30 wm_1157 ws_M_lacks rfl (Nat.le_of_ble_eq_true rfl) d_M_effect_30 rfl (fun v30 => ?_)
    exact (hK33 v30 h)
  · refine r_iload_n (pc := 5) O d_M_effect_5 3 rfl ?_
    refine r_if_lt (tgt := 17) (pc := 6) O d_M_effect_6 (by decide) (fun q6 => ?_) (fun q6 => ?_)
    · exact (hK17 h)
    · refine r_iload_n (pc := 9) O d_M_effect_9 3 rfl ?_
      refine r_aload_n (pc := 10) O d_M_effect_10 0 rfl ?_
      refine r_getI (x := (h.1 0 10)) (pc := 11) O gf_m_M_211_0 d_M_effect_11 rfl ?_
      refine r_icmp_lt (tgt := 21) (pc := 14) O d_M_effect_14 (by decide) (fun q14 => ?_) (fun q14 => ?_)
      · refine r_iconst (pc := 21) O d_M_effect_21 ic_0 ?_
        refine r_goto (pc := 22) O d_M_effect_22 (tgt := 33) (by decide) ?_
        exact (hK33 0 h)
      · exact (hK17 h)
def K_M_walker_100 (n : Nat) (p1 : Int32) (p2 : Int32) (p3 : Int32) (p4 : Int32) (t0 : Int32) (h : sHp) : Option sHp :=
  if t0 ≤ 0 then (sGd (sIn (h.1 0 26) 2) (sGd (sIn (3 * (h.1 0 26)) 6) (sGd (sIn ((3 * (h.1 0 26)) + 1) 6) (sGd (sIn ((3 * (h.1 0 26)) + 2) 6) (sGd (sIn p1 6) ((J_M_renew n (pI (pI (pI (pI (pI (pI (pI h 0 0 t0) 21 (ix (h.1 0 26)) p1) 22 (ix (3 * (h.1 0 26))) p2) 22 (ix ((3 * (h.1 0 26)) + 1)) p3) 22 (ix ((3 * (h.1 0 26)) + 2)) p4) 0 26 ((h.1 0 26) + 1)) 4 (ix p1) p2)).bind fun v180 =>
  some v180)))))) else (some (pI h 0 0 t0))
def K_M_walker_95 (n : Nat) (p1 : Int32) (p2 : Int32) (p3 : Int32) (p4 : Int32) (h : sHp) : Option sHp :=
  K_M_walker_100 n p1 p2 p3 p4 2 h
def K_M_walker_78 (n : Nat) (p1 : Int32) (p2 : Int32) (p3 : Int32) (p4 : Int32) (h : sHp) : Option sHp :=
  K_M_walker_100 n p1 p2 p3 p4 1 h
def F_M_walker_6 (n : Nat) (p1 : Int32) (p2 : Int32) (p3 : Int32) (p4 : Int32) (h : sHp) (rec6 : Int32 × Int32 → Option sHp) (q : Int32 × Int32) : Option sHp :=
  if (h.1 0 26) ≤ q.2 then ((J_M_noThing n p1 h).bind fun v47 =>
  if v47 = 0 then ((J_M_noRoom n p2 h).bind fun v55 =>
  if v55 = 0 then ((J_M_noRoom n p3 h).bind fun v63 =>
  if v63 = 0 then ((J_M_noRoom n p4 h).bind fun v72 =>
  if v72 = 0 then (if (h.1 0 26) = 2 then (K_M_walker_95 n p1 p2 p3 p4 h) else (if q.1 = 0 then (K_M_walker_100 n p1 p2 p3 p4 0 h) else (K_M_walker_95 n p1 p2 p3 p4 h))) else (K_M_walker_78 n p1 p2 p3 p4 h)) else (K_M_walker_78 n p1 p2 p3 p4 h)) else (K_M_walker_78 n p1 p2 p3 p4 h)) else (K_M_walker_78 n p1 p2 p3 p4 h)) else (if q.1 = 0 then (sGd (sIn q.2 2) (if (h.1 21 (ix q.2)) = p1 then (rec6 (1, (q.2 + 1))) else (rec6 (0, (q.2 + 1))))) else (rec6 (1, (q.2 + 1))))
def J_M_walker (n : Nat) (p1 : Int32) (p2 : Int32) (p3 : Int32) (p4 : Int32) (h : sHp) : Option sHp :=
  sFx (F_M_walker_6 n p1 p2 p3 p4 h) n (0, 0)
set_option maxRecDepth 20000 in
set_option maxHeartbeats 4000000 in
theorem R_M_walker (n : Nat) (p1 : Int32) (p2 : Int32) (p3 : Int32) (p4 : Int32) (h : sHp) : sM Zm sOv y_M_walker prog_10_method_24_code 7 none rm_M_walker [.ref 0, .int p1, .int p2, .int p3, .int p4] h (J_M_walker n p1 p2 p3 p4 h) := by
  refine sM_of (own := "StoryStatesModel") rfl (by decide) (Nat.le_of_ble_eq_true rfl) (fun M V O => ?_)
  unfold J_M_walker
  refine r_lv (lv' := [(0, .ref 0), (1, .int p1), (2, .int p2), (3, .int p3), (4, .int p4)]) [0, 1, 2, 3, 4] rfl ?_
  have hK100 : ∀ (t0 : Int32) (h : sHp), sS Zm M V (sEb sOv) 100 [(0, .ref 0), (1, .int p1), (2, .int p2), (3, .int p3), (4, .int p4)] [.int t0, .ref 0] h (K_M_walker_100 n p1 p2 p3 p4 t0 h) := by
    intro t0 h
    unfold K_M_walker_100
    refine r_putI (pc := 100) O pf_m_M_137_0 d_M_walker_100 ?_
    refine r_aload_n (pc := 103) O d_M_walker_103 0 rfl ?_
    refine r_getI (x := t0) (pc := 104) O gf_m_M_137_0 d_M_walker_104 rfl ?_
    refine r_if_le (tgt := 111) (pc := 107) O d_M_walker_107 (by decide) (fun q107 => ?_) (fun q107 => ?_)
    · refine r_aload_n (pc := 111) O d_M_walker_111 0 rfl ?_
      refine r_getR (pc := 112) O gf_m_M_71_0 d_M_walker_112 ?_
      refine r_aload_n (pc := 115) O d_M_walker_115 0 rfl ?_
      refine r_getI (x := (h.1 0 26)) (pc := 116) O gf_m_M_214_0 d_M_walker_116 rfl ?_
      refine r_iload_n (pc := 119) O d_M_walker_119 1 rfl ?_
      refine r_iast (pc := 120) O rfl d_M_walker_120 ?_
      refine r_aload_n (pc := 121) O d_M_walker_121 0 rfl ?_
      refine r_getR (pc := 122) O gf_m_M_74_0 d_M_walker_122 ?_
      refine r_iconst (pc := 125) O d_M_walker_125 ic_3 ?_
      refine r_aload_n (pc := 126) O d_M_walker_126 0 rfl ?_
      refine r_getI (x := (h.1 0 26)) (pc := 127) O gf_m_M_214_0 d_M_walker_127 rfl ?_
      refine r_imul (pc := 130) O d_M_walker_130 ?_
      refine r_iload_n (pc := 131) O d_M_walker_131 2 rfl ?_
      refine r_iast (pc := 132) O rfl d_M_walker_132 ?_
      refine r_aload_n (pc := 133) O d_M_walker_133 0 rfl ?_
      refine r_getR (pc := 134) O gf_m_M_74_0 d_M_walker_134 ?_
      refine r_iconst (pc := 137) O d_M_walker_137 ic_3 ?_
      refine r_aload_n (pc := 138) O d_M_walker_138 0 rfl ?_
      refine r_getI (x := (h.1 0 26)) (pc := 139) O gf_m_M_214_0 d_M_walker_139 rfl ?_
      refine r_imul (pc := 142) O d_M_walker_142 ?_
      refine r_iconst (pc := 143) O d_M_walker_143 ic_1 ?_
      refine r_iadd (pc := 144) O d_M_walker_144 ?_
      refine r_iload_n (pc := 145) O d_M_walker_145 3 rfl ?_
      refine r_iast (pc := 146) O rfl d_M_walker_146 ?_
      refine r_aload_n (pc := 147) O d_M_walker_147 0 rfl ?_
      refine r_getR (pc := 148) O gf_m_M_74_0 d_M_walker_148 ?_
      refine r_iconst (pc := 151) O d_M_walker_151 ic_3 ?_
      refine r_aload_n (pc := 152) O d_M_walker_152 0 rfl ?_
      refine r_getI (x := (h.1 0 26)) (pc := 153) O gf_m_M_214_0 d_M_walker_153 rfl ?_
      refine r_imul (pc := 156) O d_M_walker_156 ?_
      refine r_iconst (pc := 157) O d_M_walker_157 ic_2 ?_
      refine r_iadd (pc := 158) O d_M_walker_158 ?_
      refine r_iload (pc := 159) O d_M_walker_159 4 rfl ?_
      refine r_iast (pc := 161) O rfl d_M_walker_161 ?_
      refine r_aload_n (pc := 162) O d_M_walker_162 0 rfl ?_
      refine r_dup (pc := 163) O d_M_walker_163 rfl ?_
      refine r_getI (x := (h.1 0 26)) (pc := 164) O gf_m_M_214_0 d_M_walker_164 rfl ?_
      refine r_iconst (pc := 167) O d_M_walker_167 ic_1 ?_
      refine r_iadd (pc := 168) O d_M_walker_168 ?_
      refine r_putI (pc := 169) O pf_m_M_214_0 d_M_walker_169 ?_
      refine r_aload_n (pc := 172) O d_M_walker_172 0 rfl ?_
      refine r_getR (pc := 173) O gf_m_M_19_0 d_M_walker_173 ?_
      refine r_iload_n (pc := 176) O d_M_walker_176 1 rfl ?_
      refine r_iload_n (pc := 177) O d_M_walker_177 2 rfl ?_
      refine r_iast (pc := 178) O rfl d_M_walker_178 ?_
      refine r_aload_n (pc := 179) O d_M_walker_179 0 rfl ?_
      refine r_callVv (pc := 180) O [] rfl rfl (R_M_renew n  (pI (pI (pI (pI (pI (pI (pI h 0 0 t0) 21 (ix (h.1 0 26)) p1) 22 (ix (3 * (h.1 0 26))) p2) 22 (ix ((3 * (h.1 0 26)) + 1)) p3) 22 (ix ((3 * (h.1 0 26)) + 2)) p4) 0 26 ((h.1 0 26) + 1)) 4 (ix p1) p2)) cw_M_walker_180 wm_900 ws_M_renew rfl (Nat.le_of_ble_eq_true rfl) d_M_walker_180 rfl (fun v180 => ?_)
      exact r_vret (pc := 183) O rfl d_M_walker_183
    · exact r_vret (pc := 110) O rfl d_M_walker_110
  have hK95 : ∀ (h : sHp), sS Zm M V (sEb sOv) 95 [(0, .ref 0), (1, .int p1), (2, .int p2), (3, .int p3), (4, .int p4)] [.ref 0] h (K_M_walker_95 n p1 p2 p3 p4 h) := by
    intro h
    unfold K_M_walker_95
    refine r_iconst (pc := 95) O d_M_walker_95 ic_2 ?_
    refine r_goto (pc := 96) O d_M_walker_96 (tgt := 100) (by decide) ?_
    exact (hK100 2 h)
  have hK78 : ∀ (h : sHp), sS Zm M V (sEb sOv) 78 [(0, .ref 0), (1, .int p1), (2, .int p2), (3, .int p3), (4, .int p4)] [.ref 0] h (K_M_walker_78 n p1 p2 p3 p4 h) := by
    intro h
    unfold K_M_walker_78
    refine r_iconst (pc := 78) O d_M_walker_78 ic_1 ?_
    refine r_goto (pc := 79) O d_M_walker_79 (tgt := 100) (by decide) ?_
    exact (hK100 1 h)
  have hL6 : ∀ (h : sHp) (q : Int32 × Int32), sS Zm M V (sEb sOv) 6 [(0, .ref 0), (1, .int p1), (2, .int p2), (3, .int p3), (4, .int p4), (5, .int q.1), (6, .int q.2)] [] h (sFx (F_M_walker_6 n p1 p2 p3 p4 h) n q) := by
    intro h
    refine r_fx (fun q => [(0, .ref 0), (1, .int p1), (2, .int p2), (3, .int p3), (4, .int p4), (5, .int q.1), (6, .int q.2)]) (fun q => h) (F_M_walker_6 n p1 p2 p3 p4 h) (fun rec6 hrec6 q => ?_) n
    obtain ⟨qv0, qv1⟩ := q
    show sS Zm M V (sEb sOv) 6 [(0, .ref 0), (1, .int p1), (2, .int p2), (3, .int p3), (4, .int p4), (5, .int qv0), (6, .int qv1)] [] h _
    unfold F_M_walker_6
    try dsimp only
    refine r_iload (pc := 6) O d_M_walker_6 6 rfl ?_
    refine r_aload_n (pc := 8) O d_M_walker_8 0 rfl ?_
    refine r_getI (x := (h.1 0 26)) (pc := 9) O gf_m_M_214_0 d_M_walker_9 rfl ?_
    refine r_icmp_ge (tgt := 44) (pc := 12) O d_M_walker_12 (by decide) (fun q12 => ?_) (fun q12 => ?_)
    · refine r_aload_n (pc := 44) O d_M_walker_44 0 rfl ?_
      refine r_aload_n (pc := 45) O d_M_walker_45 0 rfl ?_
      refine r_iload_n (pc := 46) O d_M_walker_46 1 rfl ?_
      refine r_callVip (pc := 47) O [.int p1] rfl rfl (R_M_noThing n p1 h) cw_M_walker_47 wm_1125 ws_M_noThing rfl (Nat.le_of_ble_eq_true rfl) d_M_walker_47 rfl (fun v47 => ?_)
      refine r_if_ne (tgt := 78) (pc := 50) O d_M_walker_50 (by decide) (fun q50 => ?_) (fun q50 => ?_)
      · exact r_lv [0, 1, 2, 3, 4] rfl (hK78 h)
      · refine r_aload_n (pc := 53) O d_M_walker_53 0 rfl ?_
        refine r_iload_n (pc := 54) O d_M_walker_54 2 rfl ?_
        refine r_callVip (pc := 55) O [.int p2] rfl rfl (R_M_noRoom n p2 h) cw_M_walker_55 wm_1121 ws_M_noRoom rfl (Nat.le_of_ble_eq_true rfl) d_M_walker_55 rfl (fun v55 => ?_)
        refine r_if_ne (tgt := 78) (pc := 58) O d_M_walker_58 (by decide) (fun q58 => ?_) (fun q58 => ?_)
        · exact r_lv [0, 1, 2, 3, 4] rfl (hK78 h)
        · refine r_aload_n (pc := 61) O d_M_walker_61 0 rfl ?_
          refine r_iload_n (pc := 62) O d_M_walker_62 3 rfl ?_
          refine r_callVip (pc := 63) O [.int p3] rfl rfl (R_M_noRoom n p3 h) cw_M_walker_63 wm_1121 ws_M_noRoom rfl (Nat.le_of_ble_eq_true rfl) d_M_walker_63 rfl (fun v63 => ?_)
          refine r_if_ne (tgt := 78) (pc := 66) O d_M_walker_66 (by decide) (fun q66 => ?_) (fun q66 => ?_)
          · exact r_lv [0, 1, 2, 3, 4] rfl (hK78 h)
          · refine r_aload_n (pc := 69) O d_M_walker_69 0 rfl ?_
            refine r_iload (pc := 70) O d_M_walker_70 4 rfl ?_
            refine r_callVip (pc := 72) O [.int p4] rfl rfl (R_M_noRoom n p4 h) cw_M_walker_72 wm_1121 ws_M_noRoom rfl (Nat.le_of_ble_eq_true rfl) d_M_walker_72 rfl (fun v72 => ?_)
            refine r_if_eq (tgt := 82) (pc := 75) O d_M_walker_75 (by decide) (fun q75 => ?_) (fun q75 => ?_)
            · refine r_aload_n (pc := 82) O d_M_walker_82 0 rfl ?_
              refine r_getI (x := (h.1 0 26)) (pc := 83) O gf_m_M_214_0 d_M_walker_83 rfl ?_
              refine r_iconst (pc := 86) O d_M_walker_86 ic_2 ?_
              refine r_icmp_eq (tgt := 95) (pc := 87) O d_M_walker_87 (by decide) (fun q87 => ?_) (fun q87 => ?_)
              · exact r_lv [0, 1, 2, 3, 4] rfl (hK95 h)
              · refine r_iload (pc := 90) O d_M_walker_90 5 rfl ?_
                refine r_if_eq (tgt := 99) (pc := 92) O d_M_walker_92 (by decide) (fun q92 => ?_) (fun q92 => ?_)
                · refine r_iconst (pc := 99) O d_M_walker_99 ic_0 ?_
                  exact r_lv [0, 1, 2, 3, 4] rfl (hK100 0 h)
                · exact r_lv [0, 1, 2, 3, 4] rfl (hK95 h)
            · exact r_lv [0, 1, 2, 3, 4] rfl (hK78 h)
    · refine r_iload (pc := 15) O d_M_walker_15 5 rfl ?_
      refine r_if_ne (tgt := 31) (pc := 17) O d_M_walker_17 (by decide) (fun q17 => ?_) (fun q17 => ?_)
      · refine r_iconst (pc := 31) O d_M_walker_31 ic_1 ?_
        refine r_goto (pc := 32) O d_M_walker_32 (tgt := 36) (by decide) ?_
        refine r_istore (lv' := [(5, .int 1), (0, .ref 0), (1, .int p1), (2, .int p2), (3, .int p3), (4, .int p4), (6, .int qv1)]) (pc := 36) O d_M_walker_36 (by decide) rfl ?_
        refine r_iinc (lv' := [(6, .int (qv1 + 1)), (5, .int 1), (0, .ref 0), (1, .int p1), (2, .int p2), (3, .int p3), (4, .int p4)]) (pc := 38) O d_M_walker_38 6 rfl (congrArg (HAdd.hAdd _) ic_1) (by decide) rfl ?_
        refine r_goto (pc := 41) O d_M_walker_41 (tgt := 6) (by decide) ?_
        exact r_lv [2, 3, 4, 5, 6, 1, 0] rfl (hrec6 (1, (qv1 + 1)))
      · refine r_aload_n (pc := 20) O d_M_walker_20 0 rfl ?_
        refine r_getR (pc := 21) O gf_m_M_71_0 d_M_walker_21 ?_
        refine r_iload (pc := 24) O d_M_walker_24 6 rfl ?_
        refine r_iald (x := (h.1 21 (ix qv1))) (pc := 26) O rfl d_M_walker_26 rfl ?_
        refine r_iload_n (pc := 27) O d_M_walker_27 1 rfl ?_
        refine r_icmp_ne (tgt := 35) (pc := 28) O d_M_walker_28 (by decide) (fun q28 => ?_) (fun q28 => ?_)
        · refine r_iconst (pc := 35) O d_M_walker_35 ic_0 ?_
          refine r_istore (lv' := [(5, .int 0), (0, .ref 0), (1, .int p1), (2, .int p2), (3, .int p3), (4, .int p4), (6, .int qv1)]) (pc := 36) O d_M_walker_36 (by decide) rfl ?_
          refine r_iinc (lv' := [(6, .int (qv1 + 1)), (5, .int 0), (0, .ref 0), (1, .int p1), (2, .int p2), (3, .int p3), (4, .int p4)]) (pc := 38) O d_M_walker_38 6 rfl (congrArg (HAdd.hAdd _) ic_1) (by decide) rfl ?_
          refine r_goto (pc := 41) O d_M_walker_41 (tgt := 6) (by decide) ?_
          exact r_lv [2, 3, 4, 5, 6, 1, 0] rfl (hrec6 (0, (qv1 + 1)))
        · refine r_iconst (pc := 31) O d_M_walker_31 ic_1 ?_
          refine r_goto (pc := 32) O d_M_walker_32 (tgt := 36) (by decide) ?_
          refine r_istore (lv' := [(5, .int 1), (0, .ref 0), (1, .int p1), (2, .int p2), (3, .int p3), (4, .int p4), (6, .int qv1)]) (pc := 36) O d_M_walker_36 (by decide) rfl ?_
          refine r_iinc (lv' := [(6, .int (qv1 + 1)), (5, .int 1), (0, .ref 0), (1, .int p1), (2, .int p2), (3, .int p3), (4, .int p4)]) (pc := 38) O d_M_walker_38 6 rfl (congrArg (HAdd.hAdd _) ic_1) (by decide) rfl ?_
          refine r_goto (pc := 41) O d_M_walker_41 (tgt := 6) (by decide) ?_
          exact r_lv [2, 3, 4, 5, 6, 1, 0] rfl (hrec6 (1, (qv1 + 1)))
  refine r_iconst (pc := 0) O d_M_walker_0 ic_0 ?_
  refine r_istore (lv' := [(5, .int 0), (0, .ref 0), (1, .int p1), (2, .int p2), (3, .int p3), (4, .int p4)]) (pc := 1) O d_M_walker_1 (by decide) rfl ?_
  refine r_iconst (pc := 3) O d_M_walker_3 ic_0 ?_
  refine r_istore (lv' := [(6, .int 0), (5, .int 0), (0, .ref 0), (1, .int p1), (2, .int p2), (3, .int p3), (4, .int p4)]) (pc := 4) O d_M_walker_4 (by decide) rfl ?_
  exact r_lv [2, 3, 4, 5, 6, 1, 0] rfl (hL6 h (0, 0))
def K_M_timer_50 (n : Nat) (p1 : Int32) (p2 : Int32) (t0 : Int32) (h : sHp) : Option sHp :=
  if t0 ≤ 0 then (sGd (sIn p1 12) (sGd (sIn (h.1 0 29) 2) (sGd (sIn (h.1 0 29) 2) ((J_M_renew n (pI (pI (pI (pI (pI h 0 0 t0) 12 (ix p1) 1) 23 (ix (h.1 0 29)) p1) 24 (ix (h.1 0 29)) p2) 0 29 ((h.1 0 29) + 1))).bind fun v99 =>
  some v99)))) else (some (pI h 0 0 t0))
def K_M_timer_45 (n : Nat) (p1 : Int32) (p2 : Int32) (h : sHp) : Option sHp :=
  K_M_timer_50 n p1 p2 3 h
def K_M_timer_24 (n : Nat) (p1 : Int32) (p2 : Int32) (h : sHp) : Option sHp :=
  K_M_timer_50 n p1 p2 2 h
def J_M_timer (n : Nat) (p1 : Int32) (p2 : Int32) (h : sHp) : Option sHp :=
  (J_M_noRule n p1 h).bind fun v3 =>
  if v3 = 0 then (if p2 < 1 then (K_M_timer_24 n p1 p2 h) else (if p2 ≤ 15 then (if (h.1 0 29) = 2 then (K_M_timer_45 n p1 p2 h) else (sGd (sIn p1 12) (if (h.1 12 (ix p1)) = 0 then (K_M_timer_50 n p1 p2 0 h) else (K_M_timer_45 n p1 p2 h)))) else (K_M_timer_24 n p1 p2 h))) else (K_M_timer_50 n p1 p2 1 h)
set_option maxRecDepth 20000 in
set_option maxHeartbeats 4000000 in
theorem R_M_timer (n : Nat) (p1 : Int32) (p2 : Int32) (h : sHp) : sM Zm sOv y_M_timer prog_10_method_25_code 3 none rm_M_timer [.ref 0, .int p1, .int p2] h (J_M_timer n p1 p2 h) := by
  refine sM_of (own := "StoryStatesModel") rfl (by decide) (Nat.le_of_ble_eq_true rfl) (fun M V O => ?_)
  unfold J_M_timer
  refine r_lv (lv' := [(0, .ref 0), (1, .int p1), (2, .int p2)]) [0, 1, 2] rfl ?_
  have hK50 : ∀ (t0 : Int32) (h : sHp), sS Zm M V (sEb sOv) 50 [(0, .ref 0), (1, .int p1), (2, .int p2)] [.int t0, .ref 0] h (K_M_timer_50 n p1 p2 t0 h) := by
    intro t0 h
    unfold K_M_timer_50
    refine r_putI (pc := 50) O pf_m_M_137_0 d_M_timer_50 ?_
    refine r_aload_n (pc := 53) O d_M_timer_53 0 rfl ?_
    refine r_getI (x := t0) (pc := 54) O gf_m_M_137_0 d_M_timer_54 rfl ?_
    refine r_if_le (tgt := 61) (pc := 57) O d_M_timer_57 (by decide) (fun q57 => ?_) (fun q57 => ?_)
    · refine r_aload_n (pc := 61) O d_M_timer_61 0 rfl ?_
      refine r_getR (pc := 62) O gf_m_M_44_0 d_M_timer_62 ?_
      refine r_iload_n (pc := 65) O d_M_timer_65 1 rfl ?_
      refine r_iconst (pc := 66) O d_M_timer_66 ic_1 ?_
      refine r_zast (pc := 67) O rfl d_M_timer_67 nz_1 ?_
      refine r_aload_n (pc := 68) O d_M_timer_68 0 rfl ?_
      refine r_getR (pc := 69) O gf_m_M_77_0 d_M_timer_69 ?_
      refine r_aload_n (pc := 72) O d_M_timer_72 0 rfl ?_
      refine r_getI (x := (h.1 0 29)) (pc := 73) O gf_m_M_153_0 d_M_timer_73 rfl ?_
      refine r_iload_n (pc := 76) O d_M_timer_76 1 rfl ?_
      refine r_iast (pc := 77) O rfl d_M_timer_77 ?_
      refine r_aload_n (pc := 78) O d_M_timer_78 0 rfl ?_
      refine r_getR (pc := 79) O gf_m_M_80_0 d_M_timer_79 ?_
      refine r_aload_n (pc := 82) O d_M_timer_82 0 rfl ?_
      refine r_getI (x := (h.1 0 29)) (pc := 83) O gf_m_M_153_0 d_M_timer_83 rfl ?_
      refine r_iload_n (pc := 86) O d_M_timer_86 2 rfl ?_
      refine r_iast (pc := 87) O rfl d_M_timer_87 ?_
      refine r_aload_n (pc := 88) O d_M_timer_88 0 rfl ?_
      refine r_dup (pc := 89) O d_M_timer_89 rfl ?_
      refine r_getI (x := (h.1 0 29)) (pc := 90) O gf_m_M_153_0 d_M_timer_90 rfl ?_
      refine r_iconst (pc := 93) O d_M_timer_93 ic_1 ?_
      refine r_iadd (pc := 94) O d_M_timer_94 ?_
      refine r_putI (pc := 95) O pf_m_M_153_0 d_M_timer_95 ?_
      refine r_aload_n (pc := 98) O d_M_timer_98 0 rfl ?_
      refine r_callVv (pc := 99) O [] rfl rfl (R_M_renew n  (pI (pI (pI (pI (pI h 0 0 t0) 12 (ix p1) 1) 23 (ix (h.1 0 29)) p1) 24 (ix (h.1 0 29)) p2) 0 29 ((h.1 0 29) + 1))) cw_M_timer_99 wm_900 ws_M_renew rfl (Nat.le_of_ble_eq_true rfl) d_M_timer_99 rfl (fun v99 => ?_)
      exact r_vret (pc := 102) O rfl d_M_timer_102
    · exact r_vret (pc := 60) O rfl d_M_timer_60
  have hK45 : ∀ (h : sHp), sS Zm M V (sEb sOv) 45 [(0, .ref 0), (1, .int p1), (2, .int p2)] [.ref 0] h (K_M_timer_45 n p1 p2 h) := by
    intro h
    unfold K_M_timer_45
    refine r_iconst (pc := 45) O d_M_timer_45 ic_3 ?_
    refine r_goto (pc := 46) O d_M_timer_46 (tgt := 50) (by decide) ?_
    exact (hK50 3 h)
  have hK24 : ∀ (h : sHp), sS Zm M V (sEb sOv) 24 [(0, .ref 0), (1, .int p1), (2, .int p2)] [.ref 0] h (K_M_timer_24 n p1 p2 h) := by
    intro h
    unfold K_M_timer_24
    refine r_iconst (pc := 24) O d_M_timer_24 ic_2 ?_
    refine r_goto (pc := 25) O d_M_timer_25 (tgt := 50) (by decide) ?_
    exact (hK50 2 h)
  refine r_aload_n (pc := 0) O d_M_timer_0 0 rfl ?_
  refine r_aload_n (pc := 1) O d_M_timer_1 0 rfl ?_
  refine r_iload_n (pc := 2) O d_M_timer_2 1 rfl ?_
  refine r_callVip (pc := 3) O [.int p1] rfl rfl (R_M_noRule n p1 h) cw_M_timer_3 wm_1153 ws_M_noRule rfl (Nat.le_of_ble_eq_true rfl) d_M_timer_3 rfl (fun v3 => ?_)
  refine r_if_eq (tgt := 13) (pc := 6) O d_M_timer_6 (by decide) (fun q6 => ?_) (fun q6 => ?_)
  · refine r_iload_n (pc := 13) O d_M_timer_13 2 rfl ?_
    refine r_iconst (pc := 14) O d_M_timer_14 ic_1 ?_
    refine r_icmp_lt (tgt := 24) (pc := 15) O d_M_timer_15 (by decide) (fun q15 => ?_) (fun q15 => ?_)
    · exact (hK24 h)
    · refine r_iload_n (pc := 18) O d_M_timer_18 2 rfl ?_
      refine r_bipush (pc := 19) O d_M_timer_19 bc_15 ?_
      refine r_icmp_le (tgt := 28) (pc := 21) O d_M_timer_21 (by decide) (fun q21 => ?_) (fun q21 => ?_)
      · refine r_aload_n (pc := 28) O d_M_timer_28 0 rfl ?_
        refine r_getI (x := (h.1 0 29)) (pc := 29) O gf_m_M_153_0 d_M_timer_29 rfl ?_
        refine r_iconst (pc := 32) O d_M_timer_32 ic_2 ?_
        refine r_icmp_eq (tgt := 45) (pc := 33) O d_M_timer_33 (by decide) (fun q33 => ?_) (fun q33 => ?_)
        · exact (hK45 h)
        · refine r_aload_n (pc := 36) O d_M_timer_36 0 rfl ?_
          refine r_getR (pc := 37) O gf_m_M_44_0 d_M_timer_37 ?_
          refine r_iload_n (pc := 40) O d_M_timer_40 1 rfl ?_
          refine r_zald (x := (h.1 12 (ix p1))) (pc := 41) O rfl d_M_timer_41 rfl ?_
          refine r_if_eq (tgt := 49) (pc := 42) O d_M_timer_42 (by decide) (fun q42 => ?_) (fun q42 => ?_)
          · refine r_iconst (pc := 49) O d_M_timer_49 ic_0 ?_
            exact (hK50 0 h)
          · exact (hK45 h)
      · exact (hK24 h)
  · refine r_iconst (pc := 9) O d_M_timer_9 ic_1 ?_
    refine r_goto (pc := 10) O d_M_timer_10 (tgt := 50) (by decide) ?_
    exact (hK50 1 h)
