def F_M_turn_159 (n : Nat) (p1 : Int32) (p2 : Int32) (p3 : Int32) (rec159 : Int32 × sHp → Option sHp) (q : Int32 × sHp) : Option sHp :=
  if (q.2.1 0 29) ≤ q.1 then (some q.2) else (if (q.2.1 0 38) = 0 then (sGd (sIn q.1 2) (if (q.2.1 29 (ix q.1)) ≤ 0 then (rec159 ((q.1 + 1), q.2)) else (sGd (sIn q.1 2) (sGd (sIn q.1 2) (sGd (sIn q.1 2) (if ((pI q.2 29 (ix q.1) ((q.2.1 29 (ix q.1)) - 1))).1 29 (ix q.1) = 0 then (sGd (sIn q.1 2) ((J_M_allSo n (q.2.1 23 (ix q.1)) (pI q.2 29 (ix q.1) ((q.2.1 29 (ix q.1)) - 1))).bind fun v214 =>
  if v214 = 0 then (rec159 ((q.1 + 1), (pI q.2 29 (ix q.1) ((q.2.1 29 (ix q.1)) - 1)))) else (sGd (sIn q.1 2) ((J_M_fire n (q.2.1 23 (ix q.1)) (pI q.2 29 (ix q.1) ((q.2.1 29 (ix q.1)) - 1))).bind fun v228 =>
  rec159 ((q.1 + 1), v228))))) else (rec159 ((q.1 + 1), (pI q.2 29 (ix q.1) ((q.2.1 29 (ix q.1)) - 1)))))))))) else (some q.2))
def K_M_turn_156 (n : Nat) (p1 : Int32) (p2 : Int32) (p3 : Int32) (h : sHp) : Option sHp :=
  sFx (F_M_turn_159 n p1 p2 p3 ) n (0, h)
def K_M_turn_125 (n : Nat) (p1 : Int32) (p2 : Int32) (p3 : Int32) (rec58 : (Int32 × sHp → Option sHp)) (x5 : Int32) (x6 : Int32) (t0 : Int32) (t1 : Int32) (h : sHp) : Option sHp :=
  sGd (sIn t1 2) (sGd (sIn x5 2) (sGd (sIn ((3 * x5) + ((pI h 28 (ix t1) t0).1 28 (ix x5))) 6) (sGd (sIn x6 6) (rec58 ((x5 + 1), (pI (pI h 28 (ix t1) t0) 25 (ix x6) (h.1 22 (ix ((3 * x5) + ((pI h 28 (ix t1) t0).1 28 (ix x5)))))))))))
def F_M_turn_58 (n : Nat) (p1 : Int32) (p2 : Int32) (p3 : Int32) (rec58 : Int32 × sHp → Option sHp) (q : Int32 × sHp) : Option sHp :=
  if (q.2.1 0 26) ≤ q.1 then (K_M_turn_156 n p1 p2 p3 q.2) else (if (q.2.1 0 38) = 0 then (sGd (sIn q.1 2) (sGd (sIn (q.2.1 21 (ix q.1)) 6) (if 6 ≤ (q.2.1 25 (ix (q.2.1 21 (ix q.1)))) then (rec58 ((q.1 + 1), q.2)) else (sGd (sIn q.1 2) (if (q.2.1 28 (ix q.1)) = 2 then (K_M_turn_125 n p1 p2 p3 rec58 q.1 (q.2.1 21 (ix q.1)) 0 q.1 q.2) else (sGd (sIn q.1 2) (K_M_turn_125 n p1 p2 p3 rec58 q.1 (q.2.1 21 (ix q.1)) ((q.2.1 28 (ix q.1)) + 1) q.1 q.2))))))) else (K_M_turn_156 n p1 p2 p3 q.2))
def K_M_turn_55 (n : Nat) (p1 : Int32) (p2 : Int32) (p3 : Int32) (h : sHp) : Option sHp :=
  sFx (F_M_turn_58 n p1 p2 p3 ) n (0, h)
def K_M_turn_52 (n : Nat) (p1 : Int32) (p2 : Int32) (p3 : Int32) (t0 : Int32) (h : sHp) : Option sHp :=
  (J_M_say n t0 h).bind fun v52 =>
  K_M_turn_55 n p1 p2 p3 v52
def J_M_turn (n : Nat) (p1 : Int32) (p2 : Int32) (p3 : Int32) (h : sHp) : Option sHp :=
  (J_M_fitting n p1 p2 p3 (pI h 0 39 0)).bind fun v9 =>
  if v9 < 0 then ((J_M_plain n p1 p2 p3 (pI h 0 39 0)).bind fun v32 =>
  if v32.1 = 0 then (K_M_turn_52 n p1 p2 p3 99 v32.2) else (K_M_turn_52 n p1 p2 p3 (100 + p1) v32.2)) else ((J_M_fire n v9 (pI h 0 39 0)).bind fun v22 =>
  K_M_turn_55 n p1 p2 p3 v22)
set_option maxRecDepth 20000 in
set_option maxHeartbeats 4000000 in
theorem R_M_turn (n : Nat) (p1 : Int32) (p2 : Int32) (p3 : Int32) (h : sHp) : sM Zm sOv y_M_turn prog_10_method_34_code 7 none rm_M_turn [.ref 0, .int p1, .int p2, .int p3] h (J_M_turn n p1 p2 p3 h) := by
  refine sM_of (own := "StoryStatesModel") rfl (by decide) (Nat.le_of_ble_eq_true rfl) (fun M V O => ?_)
  unfold J_M_turn
  refine r_lv (lv' := [(0, .ref 0), (1, .int p1), (2, .int p2), (3, .int p3)]) [0, 1, 2, 3] rfl ?_
  have hL159 : ∀ (q : Int32 × sHp), sS Zm M V (sEb sOv) 159 [(0, .ref 0), (5, .int q.1)] [] q.2 (sFx (F_M_turn_159 n p1 p2 p3 ) n q) := by
    skip
    refine r_fx (fun q => [(0, .ref 0), (5, .int q.1)]) (fun q => q.2) (F_M_turn_159 n p1 p2 p3 ) (fun rec159 hrec159 q => ?_) n
    obtain ⟨qv0, qv1⟩ := q
    show sS Zm M V (sEb sOv) 159 [(0, .ref 0), (5, .int qv0)] [] qv1 _
    unfold F_M_turn_159
    try dsimp only
    refine r_iload (pc := 159) O d_M_turn_159 1 rfl ?_
    refine r_aload_n (pc := 161) O d_M_turn_161 0 rfl ?_
    refine r_getI (x := (qv1.1 0 29)) (pc := 162) O gf_m_M_153_0 d_M_turn_162 rfl ?_
    refine r_icmp_ge (tgt := 237) (pc := 165) O d_M_turn_165 (by decide) (fun q165 => ?_) (fun q165 => ?_)
    · exact r_vret (pc := 237) O rfl d_M_turn_237
    · refine r_aload_n (pc := 168) O d_M_turn_168 0 rfl ?_
      refine r_getI (x := (qv1.1 0 38)) (pc := 169) O gf_m_M_144_0 d_M_turn_169 rfl ?_
      refine r_if_ne (tgt := 237) (pc := 172) O d_M_turn_172 (by decide) (fun q172 => ?_) (fun q172 => ?_)
      · exact r_vret (pc := 237) O rfl d_M_turn_237
      · refine r_aload_n (pc := 175) O d_M_turn_175 0 rfl ?_
        refine r_getR (pc := 176) O gf_m_M_95_0 d_M_turn_176 ?_
        refine r_iload (pc := 179) O d_M_turn_179 1 rfl ?_
        refine r_iald (x := (qv1.1 29 (ix qv0))) (pc := 181) O rfl d_M_turn_181 rfl ?_
        refine r_if_le (tgt := 231) (pc := 182) O d_M_turn_182 (by decide) (fun q182 => ?_) (fun q182 => ?_)
        · refine r_iinc (lv' := [(5, .int (qv0 + 1)), (0, .ref 0)]) (pc := 231) O d_M_turn_231 1 rfl (congrArg (HAdd.hAdd _) ic_1) (by decide) rfl ?_
          refine r_goto (pc := 234) O d_M_turn_234 (tgt := 159) (by decide) ?_
          exact r_lv [1, 0] rfl (hrec159 ((qv0 + 1), qv1))
        · refine r_aload_n (pc := 185) O d_M_turn_185 0 rfl ?_
          refine r_getR (pc := 186) O gf_m_M_95_0 d_M_turn_186 ?_
          refine r_iload (pc := 189) O d_M_turn_189 1 rfl ?_
          refine r_dup2_11 (pc := 191) O d_M_turn_191 rfl rfl ?_
          refine r_iald (x := (qv1.1 29 (ix qv0))) (pc := 192) O rfl d_M_turn_192 rfl ?_
          refine r_iconst (pc := 193) O d_M_turn_193 ic_1 ?_
          refine r_isub (pc := 194) O d_M_turn_194 ?_
          refine r_iast (pc := 195) O rfl d_M_turn_195 ?_
          refine r_aload_n (pc := 196) O d_M_turn_196 0 rfl ?_
          refine r_getR (pc := 197) O gf_m_M_95_0 d_M_turn_197 ?_
          refine r_iload (pc := 200) O d_M_turn_200 1 rfl ?_
          refine r_iald (x := ((pI qv1 29 (ix qv0) ((qv1.1 29 (ix qv0)) - 1))).1 29 (ix qv0)) (pc := 202) O rfl d_M_turn_202 rfl ?_
          refine r_if_ne (tgt := 231) (pc := 203) O d_M_turn_203 (by decide) (fun q203 => ?_) (fun q203 => ?_)
          · refine r_iinc (lv' := [(5, .int (qv0 + 1)), (0, .ref 0)]) (pc := 231) O d_M_turn_231 1 rfl (congrArg (HAdd.hAdd _) ic_1) (by decide) rfl ?_
            refine r_goto (pc := 234) O d_M_turn_234 (tgt := 159) (by decide) ?_
            exact r_lv [1, 0] rfl (hrec159 ((qv0 + 1), (pI qv1 29 (ix qv0) ((qv1.1 29 (ix qv0)) - 1))))
          · refine r_aload_n (pc := 206) O d_M_turn_206 0 rfl ?_
            refine r_aload_n (pc := 207) O d_M_turn_207 0 rfl ?_
            refine r_getR (pc := 208) O gf_m_M_77_0 d_M_turn_208 ?_
            refine r_iload (pc := 211) O d_M_turn_211 1 rfl ?_
            refine r_iald (x := (qv1.1 23 (ix qv0))) (pc := 213) O rfl d_M_turn_213 rfl ?_
            refine r_callVip (pc := 214) O [.int (qv1.1 23 (ix qv0))] rfl rfl (R_M_allSo n (qv1.1 23 (ix qv0)) (pI qv1 29 (ix qv0) ((qv1.1 29 (ix qv0)) - 1))) cw_M_turn_214 wm_1205 ws_M_allSo rfl (Nat.le_of_ble_eq_true rfl) d_M_turn_214 rfl (fun v214 => ?_)
            refine r_if_eq (tgt := 231) (pc := 217) O d_M_turn_217 (by decide) (fun q217 => ?_) (fun q217 => ?_)
            · refine r_iinc (lv' := [(5, .int (qv0 + 1)), (0, .ref 0)]) (pc := 231) O d_M_turn_231 1 rfl (congrArg (HAdd.hAdd _) ic_1) (by decide) rfl ?_
              refine r_goto (pc := 234) O d_M_turn_234 (tgt := 159) (by decide) ?_
              exact r_lv [1, 0] rfl (hrec159 ((qv0 + 1), (pI qv1 29 (ix qv0) ((qv1.1 29 (ix qv0)) - 1))))
            · refine r_aload_n (pc := 220) O d_M_turn_220 0 rfl ?_
              refine r_aload_n (pc := 221) O d_M_turn_221 0 rfl ?_
              refine r_getR (pc := 222) O gf_m_M_77_0 d_M_turn_222 ?_
              refine r_iload (pc := 225) O d_M_turn_225 1 rfl ?_
              refine r_iald (x := (qv1.1 23 (ix qv0))) (pc := 227) O rfl d_M_turn_227 rfl ?_
              refine r_callVv (pc := 228) O [.int (qv1.1 23 (ix qv0))] rfl rfl (R_M_fire n (qv1.1 23 (ix qv0)) (pI qv1 29 (ix qv0) ((qv1.1 29 (ix qv0)) - 1))) cw_M_turn_228 wm_1209 ws_M_fire rfl (Nat.le_of_ble_eq_true rfl) d_M_turn_228 rfl (fun v228 => ?_)
              refine r_iinc (lv' := [(5, .int (qv0 + 1)), (0, .ref 0)]) (pc := 231) O d_M_turn_231 1 rfl (congrArg (HAdd.hAdd _) ic_1) (by decide) rfl ?_
              refine r_goto (pc := 234) O d_M_turn_234 (tgt := 159) (by decide) ?_
              exact r_lv [1, 0] rfl (hrec159 ((qv0 + 1), v228))
  have hK156 : ∀ (h : sHp), sS Zm M V (sEb sOv) 156 [(0, .ref 0)] [] h (K_M_turn_156 n p1 p2 p3 h) := by
    intro h
    unfold K_M_turn_156
    refine r_iconst (pc := 156) O d_M_turn_156 ic_0 ?_
    refine r_istore (lv' := [(5, .int 0), (0, .ref 0)]) (pc := 157) O d_M_turn_157 (by decide) rfl ?_
    exact r_lv [1, 0] rfl (hL159 (0, h))
  have hL58 : ∀ (q : Int32 × sHp), sS Zm M V (sEb sOv) 58 [(0, .ref 0), (5, .int q.1)] [] q.2 (sFx (F_M_turn_58 n p1 p2 p3 ) n q) := by
    skip
    refine r_fx (fun q => [(0, .ref 0), (5, .int q.1)]) (fun q => q.2) (F_M_turn_58 n p1 p2 p3 ) (fun rec58 hrec58 q => ?_) n
    obtain ⟨qv0, qv1⟩ := q
    show sS Zm M V (sEb sOv) 58 [(0, .ref 0), (5, .int qv0)] [] qv1 _
    unfold F_M_turn_58
    try dsimp only
    have hK125 : ∀ (x5 : Int32) (x6 : Int32) (t0 : Int32) (t1 : Int32) (h : sHp), sS Zm M V (sEb sOv) 125 [(0, .ref 0), (5, .int x5), (6, .int x6)] [.int t0, .int t1, .ref 28] h (K_M_turn_125 n p1 p2 p3 rec58 x5 x6 t0 t1 h) := by
      intro x5 x6 t0 t1 h
      unfold K_M_turn_125
      refine r_iast (pc := 125) O rfl d_M_turn_125 ?_
      refine r_aload_n (pc := 126) O d_M_turn_126 0 rfl ?_
      refine r_getR (pc := 127) O gf_m_M_83_0 d_M_turn_127 ?_
      refine r_iload (pc := 130) O d_M_turn_130 2 rfl ?_
      refine r_aload_n (pc := 132) O d_M_turn_132 0 rfl ?_
      refine r_getR (pc := 133) O gf_m_M_74_0 d_M_turn_133 ?_
      refine r_iconst (pc := 136) O d_M_turn_136 ic_3 ?_
      refine r_iload (pc := 137) O d_M_turn_137 1 rfl ?_
      refine r_imul (pc := 139) O d_M_turn_139 ?_
      refine r_aload_n (pc := 140) O d_M_turn_140 0 rfl ?_
      refine r_getR (pc := 141) O gf_m_M_92_0 d_M_turn_141 ?_
      refine r_iload (pc := 144) O d_M_turn_144 1 rfl ?_
      refine r_iald (x := ((pI h 28 (ix t1) t0).1 28 (ix x5))) (pc := 146) O rfl d_M_turn_146 rfl ?_
      refine r_iadd (pc := 147) O d_M_turn_147 ?_
      refine r_iald (x := (h.1 22 (ix ((3 * x5) + ((pI h 28 (ix t1) t0).1 28 (ix x5)))))) (pc := 148) O rfl d_M_turn_148 rfl ?_
      refine r_iast (pc := 149) O rfl d_M_turn_149 ?_
      refine r_iinc (lv' := [(5, .int (x5 + 1)), (0, .ref 0), (6, .int x6)]) (pc := 150) O d_M_turn_150 1 rfl (congrArg (HAdd.hAdd _) ic_1) (by decide) rfl ?_
      refine r_goto (pc := 153) O d_M_turn_153 (tgt := 58) (by decide) ?_
      exact r_lv [1, 0] rfl (hrec58 ((x5 + 1), (pI (pI h 28 (ix t1) t0) 25 (ix x6) (h.1 22 (ix ((3 * x5) + ((pI h 28 (ix t1) t0).1 28 (ix x5))))))))
    refine r_iload (pc := 58) O d_M_turn_58 1 rfl ?_
    refine r_aload_n (pc := 60) O d_M_turn_60 0 rfl ?_
    refine r_getI (x := (qv1.1 0 26)) (pc := 61) O gf_m_M_214_0 d_M_turn_61 rfl ?_
    refine r_icmp_ge (tgt := 156) (pc := 64) O d_M_turn_64 (by decide) (fun q64 => ?_) (fun q64 => ?_)
    · exact r_lv [0] rfl (hK156 qv1)
    · refine r_aload_n (pc := 67) O d_M_turn_67 0 rfl ?_
      refine r_getI (x := (qv1.1 0 38)) (pc := 68) O gf_m_M_144_0 d_M_turn_68 rfl ?_
      refine r_if_ne (tgt := 156) (pc := 71) O d_M_turn_71 (by decide) (fun q71 => ?_) (fun q71 => ?_)
      · exact r_lv [0] rfl (hK156 qv1)
      · refine r_aload_n (pc := 74) O d_M_turn_74 0 rfl ?_
        refine r_getR (pc := 75) O gf_m_M_71_0 d_M_turn_75 ?_
        refine r_iload (pc := 78) O d_M_turn_78 1 rfl ?_
        refine r_iald (x := (qv1.1 21 (ix qv0))) (pc := 80) O rfl d_M_turn_80 rfl ?_
        refine r_istore (lv' := [(6, .int (qv1.1 21 (ix qv0))), (0, .ref 0), (5, .int qv0)]) (pc := 81) O d_M_turn_81 (by decide) rfl ?_
        refine r_aload_n (pc := 83) O d_M_turn_83 1 rfl ?_
        refine r_getR (pc := 84) O gf_m_M_83_0 d_M_turn_84 ?_
        refine r_iload (pc := 87) O d_M_turn_87 0 rfl ?_
        refine r_iald (x := (qv1.1 25 (ix (qv1.1 21 (ix qv0))))) (pc := 89) O rfl d_M_turn_89 rfl ?_
        refine r_bipush (pc := 90) O d_M_turn_90 bc_6 ?_
        refine r_icmp_ge (tgt := 150) (pc := 92) O d_M_turn_92 (by decide) (fun q92 => ?_) (fun q92 => ?_)
        · refine r_iinc (lv' := [(5, .int (qv0 + 1)), (6, .int (qv1.1 21 (ix qv0))), (0, .ref 0)]) (pc := 150) O d_M_turn_150 2 rfl (congrArg (HAdd.hAdd _) ic_1) (by decide) rfl ?_
          refine r_goto (pc := 153) O d_M_turn_153 (tgt := 58) (by decide) ?_
          exact r_lv [2, 0] rfl (hrec58 ((qv0 + 1), qv1))
        · refine r_aload_n (pc := 95) O d_M_turn_95 1 rfl ?_
          refine r_getR (pc := 96) O gf_m_M_92_0 d_M_turn_96 ?_
          refine r_iload (pc := 99) O d_M_turn_99 2 rfl ?_
          refine r_aload_n (pc := 101) O d_M_turn_101 1 rfl ?_
          refine r_getR (pc := 102) O gf_m_M_92_0 d_M_turn_102 ?_
          refine r_iload (pc := 105) O d_M_turn_105 2 rfl ?_
          refine r_iald (x := (qv1.1 28 (ix qv0))) (pc := 107) O rfl d_M_turn_107 rfl ?_
          refine r_iconst (pc := 108) O d_M_turn_108 ic_2 ?_
          refine r_icmp_ne (tgt := 116) (pc := 109) O d_M_turn_109 (by decide) (fun q109 => ?_) (fun q109 => ?_)
          · refine r_aload_n (pc := 116) O d_M_turn_116 1 rfl ?_
            refine r_getR (pc := 117) O gf_m_M_92_0 d_M_turn_117 ?_
            refine r_iload (pc := 120) O d_M_turn_120 2 rfl ?_
            refine r_iald (x := (qv1.1 28 (ix qv0))) (pc := 122) O rfl d_M_turn_122 rfl ?_
            refine r_iconst (pc := 123) O d_M_turn_123 ic_1 ?_
            refine r_iadd (pc := 124) O d_M_turn_124 ?_
            exact r_lv [1, 2, 0] rfl (hK125 qv0 (qv1.1 21 (ix qv0)) ((qv1.1 28 (ix qv0)) + 1) qv0 qv1)
          · refine r_iconst (pc := 112) O d_M_turn_112 ic_0 ?_
            refine r_goto (pc := 113) O d_M_turn_113 (tgt := 125) (by decide) ?_
            exact r_lv [1, 2, 0] rfl (hK125 qv0 (qv1.1 21 (ix qv0)) 0 qv0 qv1)
  have hK55 : ∀ (h : sHp), sS Zm M V (sEb sOv) 55 [(0, .ref 0)] [] h (K_M_turn_55 n p1 p2 p3 h) := by
    intro h
    unfold K_M_turn_55
    refine r_iconst (pc := 55) O d_M_turn_55 ic_0 ?_
    refine r_istore (lv' := [(5, .int 0), (0, .ref 0)]) (pc := 56) O d_M_turn_56 (by decide) rfl ?_
    exact r_lv [1, 0] rfl (hL58 (0, h))
  have hK52 : ∀ (t0 : Int32) (h : sHp), sS Zm M V (sEb sOv) 52 [(0, .ref 0)] [.int t0, .ref 0] h (K_M_turn_52 n p1 p2 p3 t0 h) := by
    intro t0 h
    unfold K_M_turn_52
    refine r_callVv (pc := 52) O [.int t0] rfl rfl (R_M_say n t0 h) cw_M_turn_52 wm_1213 ws_M_say rfl (Nat.le_of_ble_eq_true rfl) d_M_turn_52 rfl (fun v52 => ?_)
    exact (hK55 v52)
  refine r_aload_n (pc := 0) O d_M_turn_0 0 rfl ?_
  refine r_iconst (pc := 1) O d_M_turn_1 ic_0 ?_
  refine r_putI (pc := 2) O pf_m_M_234_0 d_M_turn_2 ?_
  refine r_aload_n (pc := 5) O d_M_turn_5 0 rfl ?_
  refine r_iload_n (pc := 6) O d_M_turn_6 1 rfl ?_
  refine r_iload_n (pc := 7) O d_M_turn_7 2 rfl ?_
  refine r_iload_n (pc := 8) O d_M_turn_8 3 rfl ?_
  refine r_callVip (pc := 9) O [.int p1, .int p2, .int p3] rfl rfl (R_M_fitting n p1 p2 p3 (pI h 0 39 0)) cw_M_turn_9 wm_1197 ws_M_fitting rfl (Nat.le_of_ble_eq_true rfl) d_M_turn_9 rfl (fun v9 => ?_)
  refine r_istore (lv' := [(4, .int v9), (0, .ref 0), (1, .int p1), (2, .int p2), (3, .int p3)]) (pc := 12) O d_M_turn_12 (by decide) rfl ?_
  refine r_iload (pc := 14) O d_M_turn_14 0 rfl ?_
  refine r_if_lt (tgt := 28) (pc := 16) O d_M_turn_16 (by decide) (fun q16 => ?_) (fun q16 => ?_)
  · refine r_aload_n (pc := 28) O d_M_turn_28 1 rfl ?_
    refine r_iload_n (pc := 29) O d_M_turn_29 2 rfl ?_
    refine r_iload_n (pc := 30) O d_M_turn_30 3 rfl ?_
    refine r_iload_n (pc := 31) O d_M_turn_31 4 rfl ?_
    refine r_callVi (pc := 32) O [.int p1, .int p2, .int p3] rfl rfl (R_M_plain n p1 p2 p3 (pI h 0 39 0)) cw_M_turn_32 wm_1225 ws_M_plain rfl (Nat.le_of_ble_eq_true rfl) d_M_turn_32 rfl (fun v32 => ?_)
    refine r_istore (lv' := [(5, .int v32.1), (4, .int v9), (0, .ref 0), (1, .int p1), (2, .int p2), (3, .int p3)]) (pc := 35) O d_M_turn_35 (by decide) rfl ?_
    refine r_aload_n (pc := 37) O d_M_turn_37 2 rfl ?_
    refine r_iload (pc := 38) O d_M_turn_38 0 rfl ?_
    refine r_if_eq (tgt := 50) (pc := 40) O d_M_turn_40 (by decide) (fun q40 => ?_) (fun q40 => ?_)
    · refine r_bipush (pc := 50) O d_M_turn_50 bc_99 ?_
      exact r_lv [2] rfl (hK52 99 v32.2)
    · refine r_bipush (pc := 43) O d_M_turn_43 bc_100 ?_
      refine r_iload_n (pc := 45) O d_M_turn_45 3 rfl ?_
      refine r_iadd (pc := 46) O d_M_turn_46 ?_
      refine r_goto (pc := 47) O d_M_turn_47 (tgt := 52) (by decide) ?_
      exact r_lv [2] rfl (hK52 (100 + p1) v32.2)
  · refine r_aload_n (pc := 19) O d_M_turn_19 1 rfl ?_
    refine r_iload (pc := 20) O d_M_turn_20 0 rfl ?_
    refine r_callVv (pc := 22) O [.int v9] rfl rfl (R_M_fire n v9 (pI h 0 39 0)) cw_M_turn_22 wm_1209 ws_M_fire rfl (Nat.le_of_ble_eq_true rfl) d_M_turn_22 rfl (fun v22 => ?_)
    refine r_goto (pc := 25) O d_M_turn_25 (tgt := 55) (by decide) ?_
    exact r_lv [1] rfl (hK55 v22)
def K_M_isCommand_166 (n : Nat) (p1 : Int32) (p2 : Int32) (p3 : Int32) (h : sHp) (x5 : Int32) : Option Int32 :=
  if x5 = 0 then ((J_M_noThing n p3 h).bind fun v173 =>
  if v173 = 0 then (some 1) else (some 0)) else (some 1)
def K_M_isCommand_22 (n : Nat) (p1 : Int32) (p2 : Int32) (p3 : Int32) (h : sHp) (x4 : Int32) (t0 : Int32) : Option Int32 :=
  if p1 = 0 then (if p2 < 0 then (some 0) else (if 3 < p2 then (some 0) else (if t0 = 0 then (some 0) else (some 1)))) else (if p1 = 1 then ((J_M_noThing n p2 h).bind fun v98 =>
  if v98 = 0 then (if t0 = 0 then (some 0) else (some 1)) else (some 0)) else (if p1 = 2 then ((J_M_noThing n p2 h).bind fun v98 =>
  if v98 = 0 then (if t0 = 0 then (some 0) else (some 1)) else (some 0)) else (if p1 = 3 then ((J_M_noThing n p2 h).bind fun v98 =>
  if v98 = 0 then (if t0 = 0 then (some 0) else (some 1)) else (some 0)) else (if p1 = 4 then ((J_M_noThing n p2 h).bind fun v98 =>
  if v98 = 0 then (if t0 = 0 then (some 0) else (some 1)) else (some 0)) else (if p1 = 5 then ((J_M_noThing n p2 h).bind fun v117 =>
  if v117 = 0 then ((J_M_noThing n p3 h).bind fun v125 =>
  if v125 = 0 then (some 1) else (some 0)) else (some 0)) else (if p1 = 6 then (if x4 = 0 then (some 0) else (if t0 = 0 then (some 0) else (some 1))) else (if p1 = 7 then (if x4 = 0 then ((J_M_noThing n p2 h).bind fun v160 =>
  if v160 = 0 then (K_M_isCommand_166 n p1 p2 p3 h t0) else (some 0)) else (K_M_isCommand_166 n p1 p2 p3 h t0)) else (if p1 = 8 then (if x4 = 0 then ((J_M_noThing n p2 h).bind fun v160 =>
  if v160 = 0 then (K_M_isCommand_166 n p1 p2 p3 h t0) else (some 0)) else (K_M_isCommand_166 n p1 p2 p3 h t0)) else (some 0)))))))))
def K_M_isCommand_10 (n : Nat) (p1 : Int32) (p2 : Int32) (p3 : Int32) (h : sHp) (t0 : Int32) : Option Int32 :=
  if p3 = (-1) then (K_M_isCommand_22 n p1 p2 p3 h t0 1) else (K_M_isCommand_22 n p1 p2 p3 h t0 0)
def J_M_isCommand (n : Nat) (p1 : Int32) (p2 : Int32) (p3 : Int32) (h : sHp) : Option Int32 :=
  if p2 = (-1) then (K_M_isCommand_10 n p1 p2 p3 h 1) else (K_M_isCommand_10 n p1 p2 p3 h 0)
set_option maxRecDepth 20000 in
set_option maxHeartbeats 4000000 in
theorem R_M_isCommand (n : Nat) (p1 : Int32) (p2 : Int32) (p3 : Int32) (h : sHp) : sM Zm (sPi h) y_M_isCommand prog_10_method_35_code 6 (some .boolean) rm_M_isCommand [.ref 0, .int p1, .int p2, .int p3] h (J_M_isCommand n p1 p2 p3 h) := by
  refine sM_of (own := "StoryStatesModel") rfl (by decide) (Nat.le_of_ble_eq_true rfl) (fun M V O => ?_)
  unfold J_M_isCommand
  refine r_lv (lv' := [(0, .ref 0), (1, .int p1), (2, .int p2), (3, .int p3)]) [0, 1, 2, 3] rfl ?_
  have hK166 : ∀ (x5 : Int32), sS Zm M V (sEb (sPi h)) 166 [(0, .ref 0), (3, .int p3), (5, .int x5)] [] h (K_M_isCommand_166 n p1 p2 p3 h x5) := by
    intro x5
    unfold K_M_isCommand_166
    refine r_iload (pc := 166) O d_M_isCommand_166 2 rfl ?_
    refine r_if_ne (tgt := 179) (pc := 168) O d_M_isCommand_168 (by decide) (fun q168 => ?_) (fun q168 => ?_)
    · refine r_iconst (pc := 179) O d_M_isCommand_179 ic_1 ?_
      refine r_goto (pc := 180) O d_M_isCommand_180 (tgt := 184) (by decide) ?_
      exact r_zret (pc := 184) O rfl d_M_isCommand_184 nb_1
    · refine r_aload_n (pc := 171) O d_M_isCommand_171 0 rfl ?_
      refine r_iload_n (pc := 172) O d_M_isCommand_172 1 rfl ?_
      refine r_callVip (pc := 173) O [.int p3] rfl rfl (R_M_noThing n p3 h) cw_M_isCommand_173 wm_1125 ws_M_noThing rfl (Nat.le_of_ble_eq_true rfl) d_M_isCommand_173 rfl (fun v173 => ?_)
      refine r_if_ne (tgt := 183) (pc := 176) O d_M_isCommand_176 (by decide) (fun q176 => ?_) (fun q176 => ?_)
      · refine r_iconst (pc := 183) O d_M_isCommand_183 ic_0 ?_
        exact r_zret (pc := 184) O rfl d_M_isCommand_184 nb_0
      · refine r_iconst (pc := 179) O d_M_isCommand_179 ic_1 ?_
        refine r_goto (pc := 180) O d_M_isCommand_180 (tgt := 184) (by decide) ?_
        exact r_zret (pc := 184) O rfl d_M_isCommand_184 nb_1
  have hK22 : ∀ (x4 : Int32) (t0 : Int32), sS Zm M V (sEb (sPi h)) 22 [(0, .ref 0), (1, .int p1), (2, .int p2), (3, .int p3), (4, .int x4)] [.int t0] h (K_M_isCommand_22 n p1 p2 p3 h x4 t0) := by
    intro x4 t0
    unfold K_M_isCommand_22
    refine r_istore (lv' := [(5, .int t0), (0, .ref 0), (1, .int p1), (2, .int p2), (3, .int p3), (4, .int x4)]) (pc := 22) O d_M_isCommand_22 (by decide) rfl ?_
    refine r_iload_n (pc := 24) O d_M_isCommand_24 2 rfl ?_
    refine r_ite (fun q25_0 => ?_) (fun q25_0 => ?_)
    · refine r_tin (tgt := 76) (pc := 25) O d_M_isCommand_25 (by rw [q25_0] <;> decide) (by rw [q25_0] <;> decide) (by rw [q25_0] <;> rfl) (by decide) ?_
      refine r_iload_n (pc := 76) O d_M_isCommand_76 3 rfl ?_
      refine r_if_lt (tgt := 94) (pc := 77) O d_M_isCommand_77 (by decide) (fun q77 => ?_) (fun q77 => ?_)
      · refine r_iconst (pc := 94) O d_M_isCommand_94 ic_0 ?_
        exact r_zret (pc := 95) O rfl d_M_isCommand_95 nb_0
      · refine r_iload_n (pc := 80) O d_M_isCommand_80 3 rfl ?_
        refine r_iconst (pc := 81) O d_M_isCommand_81 ic_3 ?_
        refine r_icmp_gt (tgt := 94) (pc := 82) O d_M_isCommand_82 (by decide) (fun q82 => ?_) (fun q82 => ?_)
        · refine r_iconst (pc := 94) O d_M_isCommand_94 ic_0 ?_
          exact r_zret (pc := 95) O rfl d_M_isCommand_95 nb_0
        · refine r_iload (pc := 85) O d_M_isCommand_85 0 rfl ?_
          refine r_if_eq (tgt := 94) (pc := 87) O d_M_isCommand_87 (by decide) (fun q87 => ?_) (fun q87 => ?_)
          · refine r_iconst (pc := 94) O d_M_isCommand_94 ic_0 ?_
            exact r_zret (pc := 95) O rfl d_M_isCommand_95 nb_0
          · refine r_iconst (pc := 90) O d_M_isCommand_90 ic_1 ?_
            refine r_goto (pc := 91) O d_M_isCommand_91 (tgt := 95) (by decide) ?_
            exact r_zret (pc := 95) O rfl d_M_isCommand_95 nb_1
    · refine r_ite (fun q25_1 => ?_) (fun q25_1 => ?_)
      · refine r_tin (tgt := 96) (pc := 25) O d_M_isCommand_25 (by rw [q25_1] <;> decide) (by rw [q25_1] <;> decide) (by rw [q25_1] <;> rfl) (by decide) ?_
        refine r_aload_n (pc := 96) O d_M_isCommand_96 1 rfl ?_
        refine r_iload_n (pc := 97) O d_M_isCommand_97 3 rfl ?_
        refine r_callVip (pc := 98) O [.int p2] rfl rfl (R_M_noThing n p2 h) cw_M_isCommand_98 wm_1125 ws_M_noThing rfl (Nat.le_of_ble_eq_true rfl) d_M_isCommand_98 rfl (fun v98 => ?_)
        refine r_if_ne (tgt := 113) (pc := 101) O d_M_isCommand_101 (by decide) (fun q101 => ?_) (fun q101 => ?_)
        · refine r_iconst (pc := 113) O d_M_isCommand_113 ic_0 ?_
          exact r_zret (pc := 114) O rfl d_M_isCommand_114 nb_0
        · refine r_iload (pc := 104) O d_M_isCommand_104 0 rfl ?_
          refine r_if_eq (tgt := 113) (pc := 106) O d_M_isCommand_106 (by decide) (fun q106 => ?_) (fun q106 => ?_)
          · refine r_iconst (pc := 113) O d_M_isCommand_113 ic_0 ?_
            exact r_zret (pc := 114) O rfl d_M_isCommand_114 nb_0
          · refine r_iconst (pc := 109) O d_M_isCommand_109 ic_1 ?_
            refine r_goto (pc := 110) O d_M_isCommand_110 (tgt := 114) (by decide) ?_
            exact r_zret (pc := 114) O rfl d_M_isCommand_114 nb_1
      · refine r_ite (fun q25_2 => ?_) (fun q25_2 => ?_)
        · refine r_tin (tgt := 96) (pc := 25) O d_M_isCommand_25 (by rw [q25_2] <;> decide) (by rw [q25_2] <;> decide) (by rw [q25_2] <;> rfl) (by decide) ?_
          refine r_aload_n (pc := 96) O d_M_isCommand_96 1 rfl ?_
          refine r_iload_n (pc := 97) O d_M_isCommand_97 3 rfl ?_
          refine r_callVip (pc := 98) O [.int p2] rfl rfl (R_M_noThing n p2 h) cw_M_isCommand_98 wm_1125 ws_M_noThing rfl (Nat.le_of_ble_eq_true rfl) d_M_isCommand_98 rfl (fun v98 => ?_)
          refine r_if_ne (tgt := 113) (pc := 101) O d_M_isCommand_101 (by decide) (fun q101 => ?_) (fun q101 => ?_)
          · refine r_iconst (pc := 113) O d_M_isCommand_113 ic_0 ?_
            exact r_zret (pc := 114) O rfl d_M_isCommand_114 nb_0
          · refine r_iload (pc := 104) O d_M_isCommand_104 0 rfl ?_
            refine r_if_eq (tgt := 113) (pc := 106) O d_M_isCommand_106 (by decide) (fun q106 => ?_) (fun q106 => ?_)
            · refine r_iconst (pc := 113) O d_M_isCommand_113 ic_0 ?_
              exact r_zret (pc := 114) O rfl d_M_isCommand_114 nb_0
            · refine r_iconst (pc := 109) O d_M_isCommand_109 ic_1 ?_
              refine r_goto (pc := 110) O d_M_isCommand_110 (tgt := 114) (by decide) ?_
              exact r_zret (pc := 114) O rfl d_M_isCommand_114 nb_1
        · refine r_ite (fun q25_3 => ?_) (fun q25_3 => ?_)
          · refine r_tin (tgt := 96) (pc := 25) O d_M_isCommand_25 (by rw [q25_3] <;> decide) (by rw [q25_3] <;> decide) (by rw [q25_3] <;> rfl) (by decide) ?_
            refine r_aload_n (pc := 96) O d_M_isCommand_96 1 rfl ?_
            refine r_iload_n (pc := 97) O d_M_isCommand_97 3 rfl ?_
            refine r_callVip (pc := 98) O [.int p2] rfl rfl (R_M_noThing n p2 h) cw_M_isCommand_98 wm_1125 ws_M_noThing rfl (Nat.le_of_ble_eq_true rfl) d_M_isCommand_98 rfl (fun v98 => ?_)
            refine r_if_ne (tgt := 113) (pc := 101) O d_M_isCommand_101 (by decide) (fun q101 => ?_) (fun q101 => ?_)
            · refine r_iconst (pc := 113) O d_M_isCommand_113 ic_0 ?_
              exact r_zret (pc := 114) O rfl d_M_isCommand_114 nb_0
            · refine r_iload (pc := 104) O d_M_isCommand_104 0 rfl ?_
              refine r_if_eq (tgt := 113) (pc := 106) O d_M_isCommand_106 (by decide) (fun q106 => ?_) (fun q106 => ?_)
              · refine r_iconst (pc := 113) O d_M_isCommand_113 ic_0 ?_
                exact r_zret (pc := 114) O rfl d_M_isCommand_114 nb_0
              · refine r_iconst (pc := 109) O d_M_isCommand_109 ic_1 ?_
                refine r_goto (pc := 110) O d_M_isCommand_110 (tgt := 114) (by decide) ?_
                exact r_zret (pc := 114) O rfl d_M_isCommand_114 nb_1
          · refine r_ite (fun q25_4 => ?_) (fun q25_4 => ?_)
            · refine r_tin (tgt := 96) (pc := 25) O d_M_isCommand_25 (by rw [q25_4] <;> decide) (by rw [q25_4] <;> decide) (by rw [q25_4] <;> rfl) (by decide) ?_
              refine r_aload_n (pc := 96) O d_M_isCommand_96 1 rfl ?_
              refine r_iload_n (pc := 97) O d_M_isCommand_97 3 rfl ?_
              refine r_callVip (pc := 98) O [.int p2] rfl rfl (R_M_noThing n p2 h) cw_M_isCommand_98 wm_1125 ws_M_noThing rfl (Nat.le_of_ble_eq_true rfl) d_M_isCommand_98 rfl (fun v98 => ?_)
              refine r_if_ne (tgt := 113) (pc := 101) O d_M_isCommand_101 (by decide) (fun q101 => ?_) (fun q101 => ?_)
              · refine r_iconst (pc := 113) O d_M_isCommand_113 ic_0 ?_
                exact r_zret (pc := 114) O rfl d_M_isCommand_114 nb_0
              · refine r_iload (pc := 104) O d_M_isCommand_104 0 rfl ?_
                refine r_if_eq (tgt := 113) (pc := 106) O d_M_isCommand_106 (by decide) (fun q106 => ?_) (fun q106 => ?_)
                · refine r_iconst (pc := 113) O d_M_isCommand_113 ic_0 ?_
                  exact r_zret (pc := 114) O rfl d_M_isCommand_114 nb_0
                · refine r_iconst (pc := 109) O d_M_isCommand_109 ic_1 ?_
                  refine r_goto (pc := 110) O d_M_isCommand_110 (tgt := 114) (by decide) ?_
                  exact r_zret (pc := 114) O rfl d_M_isCommand_114 nb_1
            · refine r_ite (fun q25_5 => ?_) (fun q25_5 => ?_)
              · refine r_tin (tgt := 115) (pc := 25) O d_M_isCommand_25 (by rw [q25_5] <;> decide) (by rw [q25_5] <;> decide) (by rw [q25_5] <;> rfl) (by decide) ?_
                refine r_aload_n (pc := 115) O d_M_isCommand_115 1 rfl ?_
                refine r_iload_n (pc := 116) O d_M_isCommand_116 3 rfl ?_
                refine r_callVip (pc := 117) O [.int p2] rfl rfl (R_M_noThing n p2 h) cw_M_isCommand_117 wm_1125 ws_M_noThing rfl (Nat.le_of_ble_eq_true rfl) d_M_isCommand_117 rfl (fun v117 => ?_)
                refine r_if_ne (tgt := 135) (pc := 120) O d_M_isCommand_120 (by decide) (fun q120 => ?_) (fun q120 => ?_)
                · refine r_iconst (pc := 135) O d_M_isCommand_135 ic_0 ?_
                  exact r_zret (pc := 136) O rfl d_M_isCommand_136 nb_0
                · refine r_aload_n (pc := 123) O d_M_isCommand_123 1 rfl ?_
                  refine r_iload_n (pc := 124) O d_M_isCommand_124 4 rfl ?_
                  refine r_callVip (pc := 125) O [.int p3] rfl rfl (R_M_noThing n p3 h) cw_M_isCommand_125 wm_1125 ws_M_noThing rfl (Nat.le_of_ble_eq_true rfl) d_M_isCommand_125 rfl (fun v125 => ?_)
                  refine r_if_ne (tgt := 135) (pc := 128) O d_M_isCommand_128 (by decide) (fun q128 => ?_) (fun q128 => ?_)
                  · refine r_iconst (pc := 135) O d_M_isCommand_135 ic_0 ?_
                    exact r_zret (pc := 136) O rfl d_M_isCommand_136 nb_0
                  · refine r_iconst (pc := 131) O d_M_isCommand_131 ic_1 ?_
                    refine r_goto (pc := 132) O d_M_isCommand_132 (tgt := 136) (by decide) ?_
                    exact r_zret (pc := 136) O rfl d_M_isCommand_136 nb_1
              · refine r_ite (fun q25_6 => ?_) (fun q25_6 => ?_)
                · refine r_tin (tgt := 137) (pc := 25) O d_M_isCommand_25 (by rw [q25_6] <;> decide) (by rw [q25_6] <;> decide) (by rw [q25_6] <;> rfl) (by decide) ?_
                  refine r_iload (pc := 137) O d_M_isCommand_137 5 rfl ?_
                  refine r_if_eq (tgt := 151) (pc := 139) O d_M_isCommand_139 (by decide) (fun q139 => ?_) (fun q139 => ?_)
                  · refine r_iconst (pc := 151) O d_M_isCommand_151 ic_0 ?_
                    exact r_zret (pc := 152) O rfl d_M_isCommand_152 nb_0
                  · refine r_iload (pc := 142) O d_M_isCommand_142 0 rfl ?_
                    refine r_if_eq (tgt := 151) (pc := 144) O d_M_isCommand_144 (by decide) (fun q144 => ?_) (fun q144 => ?_)
                    · refine r_iconst (pc := 151) O d_M_isCommand_151 ic_0 ?_
                      exact r_zret (pc := 152) O rfl d_M_isCommand_152 nb_0
                    · refine r_iconst (pc := 147) O d_M_isCommand_147 ic_1 ?_
                      refine r_goto (pc := 148) O d_M_isCommand_148 (tgt := 152) (by decide) ?_
                      exact r_zret (pc := 152) O rfl d_M_isCommand_152 nb_1
                · refine r_ite (fun q25_7 => ?_) (fun q25_7 => ?_)
                  · refine r_tin (tgt := 153) (pc := 25) O d_M_isCommand_25 (by rw [q25_7] <;> decide) (by rw [q25_7] <;> decide) (by rw [q25_7] <;> rfl) (by decide) ?_
                    refine r_iload (pc := 153) O d_M_isCommand_153 5 rfl ?_
                    refine r_if_ne (tgt := 166) (pc := 155) O d_M_isCommand_155 (by decide) (fun q155 => ?_) (fun q155 => ?_)
                    · exact r_lv [1, 4, 0] rfl (hK166 t0)
                    · refine r_aload_n (pc := 158) O d_M_isCommand_158 1 rfl ?_
                      refine r_iload_n (pc := 159) O d_M_isCommand_159 3 rfl ?_
                      refine r_callVip (pc := 160) O [.int p2] rfl rfl (R_M_noThing n p2 h) cw_M_isCommand_160 wm_1125 ws_M_noThing rfl (Nat.le_of_ble_eq_true rfl) d_M_isCommand_160 rfl (fun v160 => ?_)
                      refine r_if_ne (tgt := 183) (pc := 163) O d_M_isCommand_163 (by decide) (fun q163 => ?_) (fun q163 => ?_)
                      · refine r_iconst (pc := 183) O d_M_isCommand_183 ic_0 ?_
                        exact r_zret (pc := 184) O rfl d_M_isCommand_184 nb_0
                      · exact r_lv [1, 4, 0] rfl (hK166 t0)
                  · refine r_ite (fun q25_8 => ?_) (fun q25_8 => ?_)
                    · refine r_tin (tgt := 153) (pc := 25) O d_M_isCommand_25 (by rw [q25_8] <;> decide) (by rw [q25_8] <;> decide) (by rw [q25_8] <;> rfl) (by decide) ?_
                      refine r_iload (pc := 153) O d_M_isCommand_153 5 rfl ?_
                      refine r_if_ne (tgt := 166) (pc := 155) O d_M_isCommand_155 (by decide) (fun q155 => ?_) (fun q155 => ?_)
                      · exact r_lv [1, 4, 0] rfl (hK166 t0)
                      · refine r_aload_n (pc := 158) O d_M_isCommand_158 1 rfl ?_
                        refine r_iload_n (pc := 159) O d_M_isCommand_159 3 rfl ?_
                        refine r_callVip (pc := 160) O [.int p2] rfl rfl (R_M_noThing n p2 h) cw_M_isCommand_160 wm_1125 ws_M_noThing rfl (Nat.le_of_ble_eq_true rfl) d_M_isCommand_160 rfl (fun v160 => ?_)
                        refine r_if_ne (tgt := 183) (pc := 163) O d_M_isCommand_163 (by decide) (fun q163 => ?_) (fun q163 => ?_)
                        · refine r_iconst (pc := 183) O d_M_isCommand_183 ic_0 ?_
                          exact r_zret (pc := 184) O rfl d_M_isCommand_184 nb_0
                        · exact r_lv [1, 4, 0] rfl (hK166 t0)
                    · refine r_tout (tgt := 185) (pc := 25) O d_M_isCommand_25 (by have z0 := lv_neT (a := 0) q25_0 (by decide); have z1 := lv_neT (a := 1) q25_1 (by decide); have z2 := lv_neT (a := 2) q25_2 (by decide); have z3 := lv_neT (a := 3) q25_3 (by decide); have z4 := lv_neT (a := 4) q25_4 (by decide); have z5 := lv_neT (a := 5) q25_5 (by decide); have z6 := lv_neT (a := 6) q25_6 (by decide); have z7 := lv_neT (a := 7) q25_7 (by decide); have z8 := lv_neT (a := 8) q25_8 (by decide); omega) (by decide) ?_
                      refine r_iconst (pc := 185) O d_M_isCommand_185 ic_0 ?_
                      exact r_zret (pc := 186) O rfl d_M_isCommand_186 nb_0
  have hK10 : ∀ (t0 : Int32), sS Zm M V (sEb (sPi h)) 10 [(0, .ref 0), (1, .int p1), (2, .int p2), (3, .int p3)] [.int t0] h (K_M_isCommand_10 n p1 p2 p3 h t0) := by
    intro t0
    unfold K_M_isCommand_10
    refine r_istore (lv' := [(4, .int t0), (0, .ref 0), (1, .int p1), (2, .int p2), (3, .int p3)]) (pc := 10) O d_M_isCommand_10 (by decide) rfl ?_
    refine r_iload_n (pc := 12) O d_M_isCommand_12 4 rfl ?_
    refine r_iconst (pc := 13) O d_M_isCommand_13 ic_m1 ?_
    refine r_icmp_ne (tgt := 21) (pc := 14) O d_M_isCommand_14 (by decide) (fun q14 => ?_) (fun q14 => ?_)
    · refine r_iconst (pc := 21) O d_M_isCommand_21 ic_0 ?_
      exact r_lv [1, 2, 3, 4, 0] rfl (hK22 t0 0)
    · refine r_iconst (pc := 17) O d_M_isCommand_17 ic_1 ?_
      refine r_goto (pc := 18) O d_M_isCommand_18 (tgt := 22) (by decide) ?_
      exact r_lv [1, 2, 3, 4, 0] rfl (hK22 t0 1)
  refine r_iload_n (pc := 0) O d_M_isCommand_0 2 rfl ?_
  refine r_iconst (pc := 1) O d_M_isCommand_1 ic_m1 ?_
  refine r_icmp_ne (tgt := 9) (pc := 2) O d_M_isCommand_2 (by decide) (fun q2 => ?_) (fun q2 => ?_)
  · refine r_iconst (pc := 9) O d_M_isCommand_9 ic_0 ?_
    exact (hK10 0)
  · refine r_iconst (pc := 5) O d_M_isCommand_5 ic_1 ?_
    refine r_goto (pc := 6) O d_M_isCommand_6 (tgt := 10) (by decide) ?_
    exact (hK10 1)
def J_M_begin (n : Nat)  (h : sHp) : Option sHp :=
  if (h.1 0 1) = 0 then (some (pI h 0 0 1)) else ((J_M_restart n (pI h 0 0 0)).bind fun v24 =>
  some v24)
set_option maxRecDepth 20000 in
set_option maxHeartbeats 4000000 in
theorem R_M_begin (n : Nat)  (h : sHp) : sM Zm sOv y_M_begin prog_10_method_36_code 1 none rm_M_begin [.ref 0] h (J_M_begin n  h) := by
  refine sM_of (own := "StoryStatesModel") rfl (by decide) (Nat.le_of_ble_eq_true rfl) (fun M V O => ?_)
  unfold J_M_begin
  refine r_lv (lv' := [(0, .ref 0)]) [0] rfl ?_
  refine r_aload_n (pc := 0) O d_M_begin_0 0 rfl ?_
  refine r_aload_n (pc := 1) O d_M_begin_1 0 rfl ?_
  refine r_getI (x := (h.1 0 1)) (pc := 2) O gf_m_M_198_0 d_M_begin_2 rfl ?_
  refine r_if_ne (tgt := 12) (pc := 5) O d_M_begin_5 (by decide) (fun q5 => ?_) (fun q5 => ?_)
  · refine r_iconst (pc := 12) O d_M_begin_12 ic_0 ?_
    refine r_putI (pc := 13) O pf_m_M_137_0 d_M_begin_13 ?_
    refine r_aload_n (pc := 16) O d_M_begin_16 0 rfl ?_
    refine r_getI (x := 0) (pc := 17) O gf_m_M_137_0 d_M_begin_17 rfl ?_
    refine r_if_ne_f (tgt := 27) (pc := 20) O d_M_begin_20 (by decide) (by decide) ?_
    refine r_aload_n (pc := 23) O d_M_begin_23 0 rfl ?_
    refine r_callVv (pc := 24) O [] rfl rfl (R_M_restart n  (pI h 0 0 0)) cw_M_begin_24 wm_904 ws_M_restart rfl (Nat.le_of_ble_eq_true rfl) d_M_begin_24 rfl (fun v24 => ?_)
    exact r_vret (pc := 27) O rfl d_M_begin_27
  · refine r_iconst (pc := 8) O d_M_begin_8 ic_1 ?_
    refine r_goto (pc := 9) O d_M_begin_9 (tgt := 13) (by decide) ?_
    refine r_putI (pc := 13) O pf_m_M_137_0 d_M_begin_13 ?_
    refine r_aload_n (pc := 16) O d_M_begin_16 0 rfl ?_
    refine r_getI (x := 1) (pc := 17) O gf_m_M_137_0 d_M_begin_17 rfl ?_
    refine r_if_ne_t (tgt := 27) (pc := 20) O d_M_begin_20 (by decide) (by decide) ?_
    exact r_vret (pc := 27) O rfl d_M_begin_27
def F_M_command_154 (n : Nat) (p1 : Int32) (p2 : Int32) (p3 : Int32) (rec154 : Int32 × sHp → Option (Int32 × sHp)) (q : Int32 × sHp) : Option (Int32 × sHp) :=
  if (q.2.1 0 39) ≤ q.1 then (some ((q.2.1 0 47), q.2)) else (sGd (sIn q.1 4) (sGd (sIn q.1 4) (rec154 ((q.1 + 1), (pI q.2 33 (ix q.1) (q.2.1 30 (ix q.1)))))))
def K_M_command_36 (n : Nat) (p1 : Int32) (p2 : Int32) (p3 : Int32) (t0 : Int32) (h : sHp) : Option (Int32 × sHp) :=
  if t0 ≤ 0 then (if (jRem (h.1 0 42) 8) ≤ 0 then (sGd (sIn (h.1 0 44) 60) (sGd (sIn (h.1 0 44) 60) ((J_M_lay n (h.1 0 42) (h.1 0 43) (pI (pI (pI (pI h 0 0 t0) 31 (ix (h.1 0 44)) (h.1 0 42)) 32 (ix (h.1 0 44)) (h.1 0 43)) 0 44 ((h.1 0 44) + 1))).bind fun v111 =>
  (J_M_turn n p1 p2 p3 v111).bind fun v118 =>
  (J_M_packA n (pI v118 0 41 (h.1 0 41))).bind fun v129 =>
  (J_M_packB n (pI (pI v118 0 41 (h.1 0 41)) 0 42 v129)).bind fun v137 =>
  sFx (F_M_command_154 n p1 p2 p3 ) n (0, (pI (pI (pI (pI v118 0 41 (h.1 0 41)) 0 42 v129) 0 43 v137) 0 47 (v118.1 0 39)))))) else (some ((-1), (pI h 0 0 t0)))) else (some (0, (pI h 0 0 t0)))
def K_M_command_31 (n : Nat) (p1 : Int32) (p2 : Int32) (p3 : Int32) (h : sHp) : Option (Int32 × sHp) :=
  K_M_command_36 n p1 p2 p3 2 h
def J_M_command (n : Nat) (p1 : Int32) (p2 : Int32) (p3 : Int32) (h : sHp) : Option (Int32 × sHp) :=
  (J_M_isCommand n p1 p2 p3 h).bind fun v5 =>
  if v5 = 0 then (K_M_command_36 n p1 p2 p3 1 h) else (if (h.1 0 1) = 0 then (K_M_command_31 n p1 p2 p3 h) else (if (h.1 0 44) = 60 then (K_M_command_31 n p1 p2 p3 h) else (K_M_command_36 n p1 p2 p3 0 h)))
set_option maxRecDepth 20000 in
set_option maxHeartbeats 4000000 in
theorem R_M_command (n : Nat) (p1 : Int32) (p2 : Int32) (p3 : Int32) (h : sHp) : sM Zm sOi y_M_command prog_10_method_37_code 6 (some .int) rm_M_command [.ref 0, .int p1, .int p2, .int p3] h (J_M_command n p1 p2 p3 h) := by
  refine sM_of (own := "StoryStatesModel") rfl (by decide) (Nat.le_of_ble_eq_true rfl) (fun M V O => ?_)
  unfold J_M_command
  refine r_lv (lv' := [(0, .ref 0), (1, .int p1), (2, .int p2), (3, .int p3)]) [0, 1, 2, 3] rfl ?_
  have hL154 : ∀ (q : Int32 × sHp), sS Zm M V (sEb sOi) 154 [(0, .ref 0), (5, .int q.1)] [] q.2 (sFx (F_M_command_154 n p1 p2 p3 ) n q) := by
    skip
    refine r_fx (fun q => [(0, .ref 0), (5, .int q.1)]) (fun q => q.2) (F_M_command_154 n p1 p2 p3 ) (fun rec154 hrec154 q => ?_) n
    obtain ⟨qv0, qv1⟩ := q
    show sS Zm M V (sEb sOi) 154 [(0, .ref 0), (5, .int qv0)] [] qv1 _
    unfold F_M_command_154
    try dsimp only
    refine r_iload (pc := 154) O d_M_command_154 1 rfl ?_
    refine r_aload_n (pc := 156) O d_M_command_156 0 rfl ?_
    refine r_getI (x := (qv1.1 0 39)) (pc := 157) O gf_m_M_234_0 d_M_command_157 rfl ?_
    refine r_icmp_ge (tgt := 183) (pc := 160) O d_M_command_160 (by decide) (fun q160 => ?_) (fun q160 => ?_)
    · refine r_aload_n (pc := 183) O d_M_command_183 0 rfl ?_
      refine r_getI (x := (qv1.1 0 47)) (pc := 184) O gf_m_M_175_0 d_M_command_184 rfl ?_
      exact r_iret (pc := 187) O rfl d_M_command_187
    · refine r_aload_n (pc := 163) O d_M_command_163 0 rfl ?_
      refine r_getR (pc := 164) O gf_m_M_107_0 d_M_command_164 ?_
      refine r_iload (pc := 167) O d_M_command_167 1 rfl ?_
      refine r_aload_n (pc := 169) O d_M_command_169 0 rfl ?_
      refine r_getR (pc := 170) O gf_m_M_98_0 d_M_command_170 ?_
      refine r_iload (pc := 173) O d_M_command_173 1 rfl ?_
      refine r_iald (x := (qv1.1 30 (ix qv0))) (pc := 175) O rfl d_M_command_175 rfl ?_
      refine r_iast (pc := 176) O rfl d_M_command_176 ?_
      refine r_iinc (lv' := [(5, .int (qv0 + 1)), (0, .ref 0)]) (pc := 177) O d_M_command_177 1 rfl (congrArg (HAdd.hAdd _) ic_1) (by decide) rfl ?_
      refine r_goto (pc := 180) O d_M_command_180 (tgt := 154) (by decide) ?_
      exact r_lv [1, 0] rfl (hrec154 ((qv0 + 1), (pI qv1 33 (ix qv0) (qv1.1 30 (ix qv0)))))
  have hK36 : ∀ (t0 : Int32) (h : sHp), sS Zm M V (sEb sOi) 36 [(0, .ref 0), (1, .int p1), (2, .int p2), (3, .int p3)] [.int t0, .ref 0] h (K_M_command_36 n p1 p2 p3 t0 h) := by
    intro t0 h
    unfold K_M_command_36
    refine r_putI (pc := 36) O pf_m_M_137_0 d_M_command_36 ?_
    refine r_aload_n (pc := 39) O d_M_command_39 0 rfl ?_
    refine r_getI (x := t0) (pc := 40) O gf_m_M_137_0 d_M_command_40 rfl ?_
    refine r_if_le (tgt := 48) (pc := 43) O d_M_command_43 (by decide) (fun q43 => ?_) (fun q43 => ?_)
    · refine r_aload_n (pc := 48) O d_M_command_48 0 rfl ?_
      refine r_getI (x := (h.1 0 42)) (pc := 49) O gf_m_M_163_0 d_M_command_49 rfl ?_
      refine r_bipush (pc := 52) O d_M_command_52 bc_8 ?_
      refine r_irem (pc := 54) O d_M_command_54 (by decide) ?_
      refine r_if_le (tgt := 60) (pc := 55) O d_M_command_55 (by decide) (fun q55 => ?_) (fun q55 => ?_)
      · refine r_aload_n (pc := 60) O d_M_command_60 0 rfl ?_
        refine r_getR (pc := 61) O gf_m_M_101_0 d_M_command_61 ?_
        refine r_aload_n (pc := 64) O d_M_command_64 0 rfl ?_
        refine r_getI (x := (h.1 0 44)) (pc := 65) O gf_m_M_172_0 d_M_command_65 rfl ?_
        refine r_aload_n (pc := 68) O d_M_command_68 0 rfl ?_
        refine r_getI (x := (h.1 0 42)) (pc := 69) O gf_m_M_163_0 d_M_command_69 rfl ?_
        refine r_iast (pc := 72) O rfl d_M_command_72 ?_
        refine r_aload_n (pc := 73) O d_M_command_73 0 rfl ?_
        refine r_getR (pc := 74) O gf_m_M_104_0 d_M_command_74 ?_
        refine r_aload_n (pc := 77) O d_M_command_77 0 rfl ?_
        refine r_getI (x := (h.1 0 44)) (pc := 78) O gf_m_M_172_0 d_M_command_78 rfl ?_
        refine r_aload_n (pc := 81) O d_M_command_81 0 rfl ?_
        refine r_getI (x := (h.1 0 43)) (pc := 82) O gf_m_M_169_0 d_M_command_82 rfl ?_
        refine r_iast (pc := 85) O rfl d_M_command_85 ?_
        refine r_aload_n (pc := 86) O d_M_command_86 0 rfl ?_
        refine r_dup (pc := 87) O d_M_command_87 rfl ?_
        refine r_getI (x := (h.1 0 44)) (pc := 88) O gf_m_M_172_0 d_M_command_88 rfl ?_
        refine r_iconst (pc := 91) O d_M_command_91 ic_1 ?_
        refine r_iadd (pc := 92) O d_M_command_92 ?_
        refine r_putI (pc := 93) O pf_m_M_172_0 d_M_command_93 ?_
        refine r_aload_n (pc := 96) O d_M_command_96 0 rfl ?_
        refine r_getI (x := (h.1 0 41)) (pc := 97) O gf_m_M_191_0 d_M_command_97 rfl ?_
        refine r_istore (lv' := [(4, .int (h.1 0 41)), (0, .ref 0), (1, .int p1), (2, .int p2), (3, .int p3)]) (pc := 100) O d_M_command_100 (by decide) rfl ?_
        refine r_aload_n (pc := 102) O d_M_command_102 1 rfl ?_
        refine r_aload_n (pc := 103) O d_M_command_103 1 rfl ?_
        refine r_getI (x := (h.1 0 42)) (pc := 104) O gf_m_M_163_0 d_M_command_104 rfl ?_
        refine r_aload_n (pc := 107) O d_M_command_107 1 rfl ?_
        refine r_getI (x := (h.1 0 43)) (pc := 108) O gf_m_M_169_0 d_M_command_108 rfl ?_
        refine r_callVv (pc := 111) O [.int (h.1 0 42), .int (h.1 0 43)] rfl rfl (R_M_lay n (h.1 0 42) (h.1 0 43) (pI (pI (pI (pI h 0 0 t0) 31 (ix (h.1 0 44)) (h.1 0 42)) 32 (ix (h.1 0 44)) (h.1 0 43)) 0 44 ((h.1 0 44) + 1))) cw_M_command_111 wm_1189 ws_M_lay rfl (Nat.le_of_ble_eq_true rfl) d_M_command_111 rfl (fun v111 => ?_)
        refine r_aload_n (pc := 114) O d_M_command_114 1 rfl ?_
        refine r_iload_n (pc := 115) O d_M_command_115 2 rfl ?_
        refine r_iload_n (pc := 116) O d_M_command_116 3 rfl ?_
        refine r_iload_n (pc := 117) O d_M_command_117 4 rfl ?_
        refine r_callVv (pc := 118) O [.int p1, .int p2, .int p3] rfl rfl (R_M_turn n p1 p2 p3 v111) cw_M_command_118 wm_1193 ws_M_turn rfl (Nat.le_of_ble_eq_true rfl) d_M_command_118 rfl (fun v118 => ?_)
        refine r_aload_n (pc := 121) O d_M_command_121 1 rfl ?_
        refine r_iload (pc := 122) O d_M_command_122 0 rfl ?_
        refine r_putI (pc := 124) O pf_m_M_191_0 d_M_command_124 ?_
        refine r_aload_n (pc := 127) O d_M_command_127 1 rfl ?_
        refine r_aload_n (pc := 128) O d_M_command_128 1 rfl ?_
        refine r_callVip (pc := 129) O [] rfl rfl (R_M_packA n  (pI v118 0 41 (h.1 0 41))) cw_M_command_129 wm_912 ws_M_packA rfl (Nat.le_of_ble_eq_true rfl) d_M_command_129 rfl (fun v129 => ?_)
        refine r_putI (pc := 132) O pf_m_M_163_0 d_M_command_132 ?_
        refine r_aload_n (pc := 135) O d_M_command_135 1 rfl ?_
        refine r_aload_n (pc := 136) O d_M_command_136 1 rfl ?_
        refine r_callVip (pc := 137) O [] rfl rfl (R_M_packB n  (pI (pI v118 0 41 (h.1 0 41)) 0 42 v129)) cw_M_command_137 wm_916 ws_M_packB rfl (Nat.le_of_ble_eq_true rfl) d_M_command_137 rfl (fun v137 => ?_)
        refine r_putI (pc := 140) O pf_m_M_169_0 d_M_command_140 ?_
        refine r_aload_n (pc := 143) O d_M_command_143 1 rfl ?_
        refine r_aload_n (pc := 144) O d_M_command_144 1 rfl ?_
        refine r_getI (x := (v118.1 0 39)) (pc := 145) O gf_m_M_234_0 d_M_command_145 rfl ?_
        refine r_putI (pc := 148) O pf_m_M_175_0 d_M_command_148 ?_
        refine r_iconst (pc := 151) O d_M_command_151 ic_0 ?_
        refine r_istore (lv' := [(5, .int 0), (4, .int (h.1 0 41)), (0, .ref 0), (1, .int p1), (2, .int p2), (3, .int p3)]) (pc := 152) O d_M_command_152 (by decide) rfl ?_
        exact r_lv [2, 0] rfl (hL154 (0, (pI (pI (pI (pI v118 0 41 (h.1 0 41)) 0 42 v129) 0 43 v137) 0 47 (v118.1 0 39))))
      · refine r_iconst (pc := 58) O d_M_command_58 ic_m1 ?_
        exact r_iret (pc := 59) O rfl d_M_command_59
    · refine r_iconst (pc := 46) O d_M_command_46 ic_0 ?_
      exact r_iret (pc := 47) O rfl d_M_command_47
  have hK31 : ∀ (h : sHp), sS Zm M V (sEb sOi) 31 [(0, .ref 0), (1, .int p1), (2, .int p2), (3, .int p3)] [.ref 0] h (K_M_command_31 n p1 p2 p3 h) := by
    intro h
    unfold K_M_command_31
    refine r_iconst (pc := 31) O d_M_command_31 ic_2 ?_
    refine r_goto (pc := 32) O d_M_command_32 (tgt := 36) (by decide) ?_
    exact (hK36 2 h)
  refine r_aload_n (pc := 0) O d_M_command_0 0 rfl ?_
  refine r_aload_n (pc := 1) O d_M_command_1 0 rfl ?_
  refine r_iload_n (pc := 2) O d_M_command_2 1 rfl ?_
  refine r_iload_n (pc := 3) O d_M_command_3 2 rfl ?_
  refine r_iload_n (pc := 4) O d_M_command_4 3 rfl ?_
  refine r_callVip (pc := 5) O [.int p1, .int p2, .int p3] rfl rfl (R_M_isCommand n p1 p2 p3 h) cw_M_command_5 wm_1185 ws_M_isCommand rfl (Nat.le_of_ble_eq_true rfl) d_M_command_5 rfl (fun v5 => ?_)
  refine r_if_ne (tgt := 15) (pc := 8) O d_M_command_8 (by decide) (fun q8 => ?_) (fun q8 => ?_)
  · refine r_aload_n (pc := 15) O d_M_command_15 0 rfl ?_
    refine r_getI (x := (h.1 0 1)) (pc := 16) O gf_m_M_198_0 d_M_command_16 rfl ?_
    refine r_if_eq (tgt := 31) (pc := 19) O d_M_command_19 (by decide) (fun q19 => ?_) (fun q19 => ?_)
    · exact (hK31 h)
    · refine r_aload_n (pc := 22) O d_M_command_22 0 rfl ?_
      refine r_getI (x := (h.1 0 44)) (pc := 23) O gf_m_M_172_0 d_M_command_23 rfl ?_
      refine r_bipush (pc := 26) O d_M_command_26 bc_60 ?_
      refine r_icmp_ne (tgt := 35) (pc := 28) O d_M_command_28 (by decide) (fun q28 => ?_) (fun q28 => ?_)
      · refine r_iconst (pc := 35) O d_M_command_35 ic_0 ?_
        exact (hK36 0 h)
      · exact (hK31 h)
  · refine r_iconst (pc := 11) O d_M_command_11 ic_1 ?_
    refine r_goto (pc := 12) O d_M_command_12 (tgt := 36) (by decide) ?_
    exact (hK36 1 h)
def J_M_said (n : Nat) (p1 : Int32) (h : sHp) : Option (Int32 × sHp) :=
  if p1 < 0 then (some ((-1), (pI h 0 0 0))) else (if p1 < (h.1 0 47) then (sGd (sIn p1 4) (some ((h.1 33 (ix p1)), (pI h 0 0 0)))) else (some ((-1), (pI h 0 0 0))))
set_option maxRecDepth 20000 in
set_option maxHeartbeats 4000000 in
theorem R_M_said (n : Nat) (p1 : Int32) (h : sHp) : sM Zm sOi y_M_said prog_10_method_38_code 2 (some .int) rm_M_said [.ref 0, .int p1] h (J_M_said n p1 h) := by
  refine sM_of (own := "StoryStatesModel") rfl (by decide) (Nat.le_of_ble_eq_true rfl) (fun M V O => ?_)
  unfold J_M_said
  refine r_lv (lv' := [(0, .ref 0), (1, .int p1)]) [0, 1] rfl ?_
  refine r_aload_n (pc := 0) O d_M_said_0 0 rfl ?_
  refine r_iconst (pc := 1) O d_M_said_1 ic_0 ?_
  refine r_putI (pc := 2) O pf_m_M_137_0 d_M_said_2 ?_
  refine r_iload_n (pc := 5) O d_M_said_5 1 rfl ?_
  refine r_if_lt (tgt := 17) (pc := 6) O d_M_said_6 (by decide) (fun q6 => ?_) (fun q6 => ?_)
  · refine r_iconst (pc := 17) O d_M_said_17 ic_m1 ?_
    refine r_goto (pc := 18) O d_M_said_18 (tgt := 27) (by decide) ?_
    exact r_iret (pc := 27) O rfl d_M_said_27
  · refine r_iload_n (pc := 9) O d_M_said_9 1 rfl ?_
    refine r_aload_n (pc := 10) O d_M_said_10 0 rfl ?_
    refine r_getI (x := (h.1 0 47)) (pc := 11) O gf_m_M_175_0 d_M_said_11 rfl ?_
    refine r_icmp_lt (tgt := 21) (pc := 14) O d_M_said_14 (by decide) (fun q14 => ?_) (fun q14 => ?_)
    · refine r_aload_n (pc := 21) O d_M_said_21 0 rfl ?_
      refine r_getR (pc := 22) O gf_m_M_107_0 d_M_said_22 ?_
      refine r_iload_n (pc := 25) O d_M_said_25 1 rfl ?_
      refine r_iald (x := (h.1 33 (ix p1))) (pc := 26) O rfl d_M_said_26 rfl ?_
      exact r_iret (pc := 27) O rfl d_M_said_27
    · refine r_iconst (pc := 17) O d_M_said_17 ic_m1 ?_
      refine r_goto (pc := 18) O d_M_said_18 (tgt := 27) (by decide) ?_
      exact r_iret (pc := 27) O rfl d_M_said_27
def J_M_undo (n : Nat)  (h : sHp) : Option (Int32 × sHp) :=
  if (h.1 0 44) = 0 then (some (0, (pI h 0 0 0))) else (sGd (sIn ((h.1 0 44) - 1) 60) (sGd (sIn ((h.1 0 44) - 1) 60) (some (1, (pI (pI (pI (pI (pI h 0 0 0) 0 44 ((h.1 0 44) - 1)) 0 42 (h.1 31 (ix ((h.1 0 44) - 1)))) 0 43 (h.1 32 (ix ((h.1 0 44) - 1)))) 0 47 0)))))
set_option maxRecDepth 20000 in
set_option maxHeartbeats 4000000 in
theorem R_M_undo (n : Nat)  (h : sHp) : sM Zm sOi y_M_undo prog_10_method_39_code 1 (some .boolean) rm_M_undo [.ref 0] h (J_M_undo n  h) := by
  refine sM_of (own := "StoryStatesModel") rfl (by decide) (Nat.le_of_ble_eq_true rfl) (fun M V O => ?_)
  unfold J_M_undo
  refine r_lv (lv' := [(0, .ref 0)]) [0] rfl ?_
  refine r_aload_n (pc := 0) O d_M_undo_0 0 rfl ?_
  refine r_iconst (pc := 1) O d_M_undo_1 ic_0 ?_
  refine r_putI (pc := 2) O pf_m_M_137_0 d_M_undo_2 ?_
  refine r_aload_n (pc := 5) O d_M_undo_5 0 rfl ?_
  refine r_getI (x := (h.1 0 44)) (pc := 6) O gf_m_M_172_0 d_M_undo_6 rfl ?_
  refine r_if_ne (tgt := 14) (pc := 9) O d_M_undo_9 (by decide) (fun q9 => ?_) (fun q9 => ?_)
  · refine r_aload_n (pc := 14) O d_M_undo_14 0 rfl ?_
    refine r_dup (pc := 15) O d_M_undo_15 rfl ?_
    refine r_getI (x := (h.1 0 44)) (pc := 16) O gf_m_M_172_0 d_M_undo_16 rfl ?_
    refine r_iconst (pc := 19) O d_M_undo_19 ic_1 ?_
    refine r_isub (pc := 20) O d_M_undo_20 ?_
    refine r_putI (pc := 21) O pf_m_M_172_0 d_M_undo_21 ?_
    refine r_aload_n (pc := 24) O d_M_undo_24 0 rfl ?_
    refine r_aload_n (pc := 25) O d_M_undo_25 0 rfl ?_
    refine r_getR (pc := 26) O gf_m_M_101_0 d_M_undo_26 ?_
    refine r_aload_n (pc := 29) O d_M_undo_29 0 rfl ?_
    refine r_getI (x := ((h.1 0 44) - 1)) (pc := 30) O gf_m_M_172_0 d_M_undo_30 rfl ?_
    refine r_iald (x := (h.1 31 (ix ((h.1 0 44) - 1)))) (pc := 33) O rfl d_M_undo_33 rfl ?_
    refine r_putI (pc := 34) O pf_m_M_163_0 d_M_undo_34 ?_
    refine r_aload_n (pc := 37) O d_M_undo_37 0 rfl ?_
    refine r_aload_n (pc := 38) O d_M_undo_38 0 rfl ?_
    refine r_getR (pc := 39) O gf_m_M_104_0 d_M_undo_39 ?_
    refine r_aload_n (pc := 42) O d_M_undo_42 0 rfl ?_
    refine r_getI (x := ((h.1 0 44) - 1)) (pc := 43) O gf_m_M_172_0 d_M_undo_43 rfl ?_
    refine r_iald (x := (h.1 32 (ix ((h.1 0 44) - 1)))) (pc := 46) O rfl d_M_undo_46 rfl ?_
    refine r_putI (pc := 47) O pf_m_M_169_0 d_M_undo_47 ?_
    refine r_aload_n (pc := 50) O d_M_undo_50 0 rfl ?_
    refine r_iconst (pc := 51) O d_M_undo_51 ic_0 ?_
    refine r_putI (pc := 52) O pf_m_M_175_0 d_M_undo_52 ?_
    refine r_iconst (pc := 55) O d_M_undo_55 ic_1 ?_
    exact r_zret (pc := 56) O rfl d_M_undo_56 nb_1
  · refine r_iconst (pc := 12) O d_M_undo_12 ic_0 ?_
    exact r_zret (pc := 13) O rfl d_M_undo_13 nb_0
def K_M_state_114 (n : Nat) (p1 : Int32) (p2 : Int32) (t0 : Int32) (h : sHp) : Option (Int32 × sHp) :=
  if t0 ≤ 0 then ((J_M_lay n (h.1 0 42) (h.1 0 43) (pI h 0 0 t0)).bind fun v135 =>
  if p1 = 0 then (some ((v135.1 0 32), v135)) else (if p1 = 1 then (sGd (sIn p2 6) (some ((v135.1 25 (ix p2)), v135))) else (if p1 = 2 then (sGd (sIn p2 6) (if (v135.1 26 (ix p2)) = 0 then (some (0, v135)) else (some (1, v135)))) else (if p1 = 3 then (sGd (sIn p2 3) (some ((v135.1 27 (ix p2)), v135))) else (if p1 = 4 then (some (((v135.1 0 38) - 1), v135)) else (if p1 = 5 then (some ((v135.1 0 44), v135)) else (if p1 = 6 then ((J_M_isSeen n p2 v135).bind fun v232 =>
  if v232 = 0 then (some (0, v135)) else (some (1, v135))) else (if p1 = 7 then (sGd (sIn p2 2) (some ((v135.1 29 (ix p2)), v135))) else (sGd (sIn p2 2) (some ((v135.1 28 (ix p2)), v135))))))))))) else (some (0, (pI h 0 0 t0)))
def K_M_state_98 (n : Nat) (p1 : Int32) (p2 : Int32) (h : sHp) : Option (Int32 × sHp) :=
  K_M_state_114 n p1 p2 2 h
def K_M_state_78 (n : Nat) (p1 : Int32) (p2 : Int32) (t0 : Int32) (h : sHp) : Option (Int32 × sHp) :=
  if t0 = 0 then (if p1 < 0 then (K_M_state_98 n p1 p2 h) else (if p1 ≤ 8 then (if (h.1 0 1) = 0 then (K_M_state_114 n p1 p2 3 h) else (K_M_state_114 n p1 p2 0 h)) else (K_M_state_98 n p1 p2 h))) else (K_M_state_114 n p1 p2 1 h)
def K_M_state_77 (n : Nat) (p1 : Int32) (p2 : Int32) (h : sHp) : Option (Int32 × sHp) :=
  K_M_state_78 n p1 p2 0 h
def K_M_state_73 (n : Nat) (p1 : Int32) (p2 : Int32) (h : sHp) : Option (Int32 × sHp) :=
  K_M_state_78 n p1 p2 1 h
def K_M_state_55 (n : Nat) (p1 : Int32) (p2 : Int32) (h : sHp) : Option (Int32 × sHp) :=
  if p1 = 8 then (if p2 < 0 then (K_M_state_73 n p1 p2 h) else (if p2 < (h.1 0 26) then (K_M_state_77 n p1 p2 h) else (K_M_state_73 n p1 p2 h))) else (K_M_state_77 n p1 p2 h)
def K_M_state_37 (n : Nat) (p1 : Int32) (p2 : Int32) (h : sHp) : Option (Int32 × sHp) :=
  if p1 = 7 then (if p2 < 0 then (K_M_state_73 n p1 p2 h) else (if (h.1 0 29) ≤ p2 then (K_M_state_73 n p1 p2 h) else (K_M_state_55 n p1 p2 h))) else (K_M_state_55 n p1 p2 h)
def K_M_state_24 (n : Nat) (p1 : Int32) (p2 : Int32) (h : sHp) : Option (Int32 × sHp) :=
  if p1 = 3 then ((J_M_noNumber n p2 h).bind fun v31 =>
  if v31 = 0 then (K_M_state_37 n p1 p2 h) else (K_M_state_73 n p1 p2 h)) else (K_M_state_37 n p1 p2 h)
def K_M_state_16 (n : Nat) (p1 : Int32) (p2 : Int32) (h : sHp) : Option (Int32 × sHp) :=
  (J_M_noThing n p2 h).bind fun v18 =>
  if v18 = 0 then (K_M_state_24 n p1 p2 h) else (K_M_state_73 n p1 p2 h)
def J_M_state (n : Nat) (p1 : Int32) (p2 : Int32) (h : sHp) : Option (Int32 × sHp) :=
  if p1 = 1 then (K_M_state_16 n p1 p2 h) else (if p1 = 2 then (K_M_state_16 n p1 p2 h) else (if p1 = 6 then (K_M_state_16 n p1 p2 h) else (K_M_state_24 n p1 p2 h)))
set_option maxRecDepth 20000 in
set_option maxHeartbeats 4000000 in
theorem R_M_state (n : Nat) (p1 : Int32) (p2 : Int32) (h : sHp) : sM Zm sOi y_M_state prog_10_method_40_code 4 (some .int) rm_M_state [.ref 0, .int p1, .int p2] h (J_M_state n p1 p2 h) := by
  refine sM_of (own := "StoryStatesModel") rfl (by decide) (Nat.le_of_ble_eq_true rfl) (fun M V O => ?_)
  unfold J_M_state
  refine r_lv (lv' := [(0, .ref 0), (1, .int p1), (2, .int p2)]) [0, 1, 2] rfl ?_
  have hK114 : ∀ (t0 : Int32) (h : sHp), sS Zm M V (sEb sOi) 114 [(0, .ref 0), (1, .int p1), (2, .int p2)] [.int t0, .ref 0] h (K_M_state_114 n p1 p2 t0 h) := by
    intro t0 h
    unfold K_M_state_114
    refine r_putI (pc := 114) O pf_m_M_137_0 d_M_state_114 ?_
    refine r_aload_n (pc := 117) O d_M_state_117 0 rfl ?_
    refine r_getI (x := t0) (pc := 118) O gf_m_M_137_0 d_M_state_118 rfl ?_
    refine r_if_le (tgt := 126) (pc := 121) O d_M_state_121 (by decide) (fun q121 => ?_) (fun q121 => ?_)
    · refine r_aload_n (pc := 126) O d_M_state_126 0 rfl ?_
      refine r_aload_n (pc := 127) O d_M_state_127 0 rfl ?_
      refine r_getI (x := (h.1 0 42)) (pc := 128) O gf_m_M_163_0 d_M_state_128 rfl ?_
      refine r_aload_n (pc := 131) O d_M_state_131 0 rfl ?_
      refine r_getI (x := (h.1 0 43)) (pc := 132) O gf_m_M_169_0 d_M_state_132 rfl ?_
      refine r_callVv (pc := 135) O [.int (h.1 0 42), .int (h.1 0 43)] rfl rfl (R_M_lay n (h.1 0 42) (h.1 0 43) (pI h 0 0 t0)) cw_M_state_135 wm_1189 ws_M_lay rfl (Nat.le_of_ble_eq_true rfl) d_M_state_135 rfl (fun v135 => ?_)
      refine r_iload_n (pc := 138) O d_M_state_138 1 rfl ?_
      refine r_ite (fun q139_0 => ?_) (fun q139_0 => ?_)
      · refine r_tin (tgt := 184) (pc := 139) O d_M_state_139 (by rw [q139_0] <;> decide) (by rw [q139_0] <;> decide) (by rw [q139_0] <;> rfl) (by decide) ?_
        refine r_aload_n (pc := 184) O d_M_state_184 0 rfl ?_
        refine r_getI (x := (v135.1 0 32)) (pc := 185) O gf_m_M_141_0 d_M_state_185 rfl ?_
        exact r_iret (pc := 188) O rfl d_M_state_188
      · refine r_ite (fun q139_1 => ?_) (fun q139_1 => ?_)
        · refine r_tin (tgt := 189) (pc := 139) O d_M_state_139 (by rw [q139_1] <;> decide) (by rw [q139_1] <;> decide) (by rw [q139_1] <;> rfl) (by decide) ?_
          refine r_aload_n (pc := 189) O d_M_state_189 0 rfl ?_
          refine r_getR (pc := 190) O gf_m_M_83_0 d_M_state_190 ?_
          refine r_iload_n (pc := 193) O d_M_state_193 2 rfl ?_
          refine r_iald (x := (v135.1 25 (ix p2))) (pc := 194) O rfl d_M_state_194 rfl ?_
          exact r_iret (pc := 195) O rfl d_M_state_195
        · refine r_ite (fun q139_2 => ?_) (fun q139_2 => ?_)
          · refine r_tin (tgt := 196) (pc := 139) O d_M_state_139 (by rw [q139_2] <;> decide) (by rw [q139_2] <;> decide) (by rw [q139_2] <;> rfl) (by decide) ?_
            refine r_aload_n (pc := 196) O d_M_state_196 0 rfl ?_
            refine r_getR (pc := 197) O gf_m_M_86_0 d_M_state_197 ?_
            refine r_iload_n (pc := 200) O d_M_state_200 2 rfl ?_
            refine r_zald (x := (v135.1 26 (ix p2))) (pc := 201) O rfl d_M_state_201 rfl ?_
            refine r_if_eq (tgt := 209) (pc := 202) O d_M_state_202 (by decide) (fun q202 => ?_) (fun q202 => ?_)
            · refine r_iconst (pc := 209) O d_M_state_209 ic_0 ?_
              exact r_iret (pc := 210) O rfl d_M_state_210
            · refine r_iconst (pc := 205) O d_M_state_205 ic_1 ?_
              refine r_goto (pc := 206) O d_M_state_206 (tgt := 210) (by decide) ?_
              exact r_iret (pc := 210) O rfl d_M_state_210
          · refine r_ite (fun q139_3 => ?_) (fun q139_3 => ?_)
            · refine r_tin (tgt := 211) (pc := 139) O d_M_state_139 (by rw [q139_3] <;> decide) (by rw [q139_3] <;> decide) (by rw [q139_3] <;> rfl) (by decide) ?_
              refine r_aload_n (pc := 211) O d_M_state_211 0 rfl ?_
              refine r_getR (pc := 212) O gf_m_M_89_0 d_M_state_212 ?_
              refine r_iload_n (pc := 215) O d_M_state_215 2 rfl ?_
              refine r_iald (x := (v135.1 27 (ix p2))) (pc := 216) O rfl d_M_state_216 rfl ?_
              exact r_iret (pc := 217) O rfl d_M_state_217
            · refine r_ite (fun q139_4 => ?_) (fun q139_4 => ?_)
              · refine r_tin (tgt := 218) (pc := 139) O d_M_state_139 (by rw [q139_4] <;> decide) (by rw [q139_4] <;> decide) (by rw [q139_4] <;> rfl) (by decide) ?_
                refine r_aload_n (pc := 218) O d_M_state_218 0 rfl ?_
                refine r_getI (x := (v135.1 0 38)) (pc := 219) O gf_m_M_144_0 d_M_state_219 rfl ?_
                refine r_iconst (pc := 222) O d_M_state_222 ic_1 ?_
                refine r_isub (pc := 223) O d_M_state_223 ?_
                exact r_iret (pc := 224) O rfl d_M_state_224
              · refine r_ite (fun q139_5 => ?_) (fun q139_5 => ?_)
                · refine r_tin (tgt := 225) (pc := 139) O d_M_state_139 (by rw [q139_5] <;> decide) (by rw [q139_5] <;> decide) (by rw [q139_5] <;> rfl) (by decide) ?_
                  refine r_aload_n (pc := 225) O d_M_state_225 0 rfl ?_
                  refine r_getI (x := (v135.1 0 44)) (pc := 226) O gf_m_M_172_0 d_M_state_226 rfl ?_
                  exact r_iret (pc := 229) O rfl d_M_state_229
                · refine r_ite (fun q139_6 => ?_) (fun q139_6 => ?_)
                  · refine r_tin (tgt := 230) (pc := 139) O d_M_state_139 (by rw [q139_6] <;> decide) (by rw [q139_6] <;> decide) (by rw [q139_6] <;> rfl) (by decide) ?_
                    refine r_aload_n (pc := 230) O d_M_state_230 0 rfl ?_
                    refine r_iload_n (pc := 231) O d_M_state_231 2 rfl ?_
                    refine r_callVip (pc := 232) O [.int p2] rfl rfl (R_M_isSeen n p2 v135) cw_M_state_232 wm_1201 ws_M_isSeen rfl (Nat.le_of_ble_eq_true rfl) d_M_state_232 rfl (fun v232 => ?_)
                    refine r_if_eq (tgt := 242) (pc := 235) O d_M_state_235 (by decide) (fun q235 => ?_) (fun q235 => ?_)
                    · refine r_iconst (pc := 242) O d_M_state_242 ic_0 ?_
                      exact r_iret (pc := 243) O rfl d_M_state_243
                    · refine r_iconst (pc := 238) O d_M_state_238 ic_1 ?_
                      refine r_goto (pc := 239) O d_M_state_239 (tgt := 243) (by decide) ?_
                      exact r_iret (pc := 243) O rfl d_M_state_243
                  · refine r_ite (fun q139_7 => ?_) (fun q139_7 => ?_)
                    · refine r_tin (tgt := 244) (pc := 139) O d_M_state_139 (by rw [q139_7] <;> decide) (by rw [q139_7] <;> decide) (by rw [q139_7] <;> rfl) (by decide) ?_
                      refine r_aload_n (pc := 244) O d_M_state_244 0 rfl ?_
                      refine r_getR (pc := 245) O gf_m_M_95_0 d_M_state_245 ?_
                      refine r_iload_n (pc := 248) O d_M_state_248 2 rfl ?_
                      refine r_iald (x := (v135.1 29 (ix p2))) (pc := 249) O rfl d_M_state_249 rfl ?_
                      exact r_iret (pc := 250) O rfl d_M_state_250
                    · refine r_tout (tgt := 251) (pc := 139) O d_M_state_139 (by have z0 := lv_neT (a := 0) q139_0 (by decide); have z1 := lv_neT (a := 1) q139_1 (by decide); have z2 := lv_neT (a := 2) q139_2 (by decide); have z3 := lv_neT (a := 3) q139_3 (by decide); have z4 := lv_neT (a := 4) q139_4 (by decide); have z5 := lv_neT (a := 5) q139_5 (by decide); have z6 := lv_neT (a := 6) q139_6 (by decide); have z7 := lv_neT (a := 7) q139_7 (by decide); omega) (by decide) ?_
                      refine r_aload_n (pc := 251) O d_M_state_251 0 rfl ?_
                      refine r_getR (pc := 252) O gf_m_M_92_0 d_M_state_252 ?_
                      refine r_iload_n (pc := 255) O d_M_state_255 2 rfl ?_
                      refine r_iald (x := (v135.1 28 (ix p2))) (pc := 256) O rfl d_M_state_256 rfl ?_
                      exact r_iret (pc := 257) O rfl d_M_state_257
    · refine r_iconst (pc := 124) O d_M_state_124 ic_0 ?_
      exact r_iret (pc := 125) O rfl d_M_state_125
  have hK98 : ∀ (h : sHp), sS Zm M V (sEb sOi) 98 [(0, .ref 0), (1, .int p1), (2, .int p2)] [.ref 0] h (K_M_state_98 n p1 p2 h) := by
    intro h
    unfold K_M_state_98
    refine r_iconst (pc := 98) O d_M_state_98 ic_2 ?_
    refine r_goto (pc := 99) O d_M_state_99 (tgt := 114) (by decide) ?_
    exact (hK114 2 h)
  have hK78 : ∀ (t0 : Int32) (h : sHp), sS Zm M V (sEb sOi) 78 [(0, .ref 0), (1, .int p1), (2, .int p2)] [.int t0] h (K_M_state_78 n p1 p2 t0 h) := by
    intro t0 h
    unfold K_M_state_78
    refine r_istore_n (lv' := [(3, .int t0), (0, .ref 0), (1, .int p1), (2, .int p2)]) (pc := 78) O d_M_state_78 rfl (by decide) rfl ?_
    refine r_aload_n (pc := 79) O d_M_state_79 1 rfl ?_
    refine r_iload_n (pc := 80) O d_M_state_80 0 rfl ?_
    refine r_if_eq (tgt := 88) (pc := 81) O d_M_state_81 (by decide) (fun q81 => ?_) (fun q81 => ?_)
    · refine r_iload_n (pc := 88) O d_M_state_88 2 rfl ?_
      refine r_if_lt (tgt := 98) (pc := 89) O d_M_state_89 (by decide) (fun q89 => ?_) (fun q89 => ?_)
      · exact r_lv [1, 2, 3] rfl (hK98 h)
      · refine r_iload_n (pc := 92) O d_M_state_92 2 rfl ?_
        refine r_bipush (pc := 93) O d_M_state_93 bc_8 ?_
        refine r_icmp_le (tgt := 102) (pc := 95) O d_M_state_95 (by decide) (fun q95 => ?_) (fun q95 => ?_)
        · refine r_aload_n (pc := 102) O d_M_state_102 1 rfl ?_
          refine r_getI (x := (h.1 0 1)) (pc := 103) O gf_m_M_198_0 d_M_state_103 rfl ?_
          refine r_if_ne (tgt := 113) (pc := 106) O d_M_state_106 (by decide) (fun q106 => ?_) (fun q106 => ?_)
          · refine r_iconst (pc := 113) O d_M_state_113 ic_0 ?_
            exact r_lv [1, 2, 3] rfl (hK114 0 h)
          · refine r_iconst (pc := 109) O d_M_state_109 ic_3 ?_
            refine r_goto (pc := 110) O d_M_state_110 (tgt := 114) (by decide) ?_
            exact r_lv [1, 2, 3] rfl (hK114 3 h)
        · exact r_lv [1, 2, 3] rfl (hK98 h)
    · refine r_iconst (pc := 84) O d_M_state_84 ic_1 ?_
      refine r_goto (pc := 85) O d_M_state_85 (tgt := 114) (by decide) ?_
      exact r_lv [1, 2, 3] rfl (hK114 1 h)
  have hK77 : ∀ (h : sHp), sS Zm M V (sEb sOi) 77 [(0, .ref 0), (1, .int p1), (2, .int p2)] [] h (K_M_state_77 n p1 p2 h) := by
    intro h
    unfold K_M_state_77
    refine r_iconst (pc := 77) O d_M_state_77 ic_0 ?_
    exact (hK78 0 h)
  have hK73 : ∀ (h : sHp), sS Zm M V (sEb sOi) 73 [(0, .ref 0), (1, .int p1), (2, .int p2)] [] h (K_M_state_73 n p1 p2 h) := by
    intro h
    unfold K_M_state_73
    refine r_iconst (pc := 73) O d_M_state_73 ic_1 ?_
    refine r_goto (pc := 74) O d_M_state_74 (tgt := 78) (by decide) ?_
    exact (hK78 1 h)
  have hK55 : ∀ (h : sHp), sS Zm M V (sEb sOi) 55 [(0, .ref 0), (1, .int p1), (2, .int p2)] [] h (K_M_state_55 n p1 p2 h) := by
    intro h
    unfold K_M_state_55
    refine r_iload_n (pc := 55) O d_M_state_55 1 rfl ?_
    refine r_bipush (pc := 56) O d_M_state_56 bc_8 ?_
    refine r_icmp_ne (tgt := 77) (pc := 58) O d_M_state_58 (by decide) (fun q58 => ?_) (fun q58 => ?_)
    · exact (hK77 h)
    · refine r_iload_n (pc := 61) O d_M_state_61 2 rfl ?_
      refine r_if_lt (tgt := 73) (pc := 62) O d_M_state_62 (by decide) (fun q62 => ?_) (fun q62 => ?_)
      · exact (hK73 h)
      · refine r_iload_n (pc := 65) O d_M_state_65 2 rfl ?_
        refine r_aload_n (pc := 66) O d_M_state_66 0 rfl ?_
        refine r_getI (x := (h.1 0 26)) (pc := 67) O gf_m_M_214_0 d_M_state_67 rfl ?_
        refine r_icmp_lt (tgt := 77) (pc := 70) O d_M_state_70 (by decide) (fun q70 => ?_) (fun q70 => ?_)
        · exact (hK77 h)
        · exact (hK73 h)
  have hK37 : ∀ (h : sHp), sS Zm M V (sEb sOi) 37 [(0, .ref 0), (1, .int p1), (2, .int p2)] [] h (K_M_state_37 n p1 p2 h) := by
    intro h
    unfold K_M_state_37
    refine r_iload_n (pc := 37) O d_M_state_37 1 rfl ?_
    refine r_bipush (pc := 38) O d_M_state_38 bc_7 ?_
    refine r_icmp_ne (tgt := 55) (pc := 40) O d_M_state_40 (by decide) (fun q40 => ?_) (fun q40 => ?_)
    · exact (hK55 h)
    · refine r_iload_n (pc := 43) O d_M_state_43 2 rfl ?_
      refine r_if_lt (tgt := 73) (pc := 44) O d_M_state_44 (by decide) (fun q44 => ?_) (fun q44 => ?_)
      · exact (hK73 h)
      · refine r_iload_n (pc := 47) O d_M_state_47 2 rfl ?_
        refine r_aload_n (pc := 48) O d_M_state_48 0 rfl ?_
        refine r_getI (x := (h.1 0 29)) (pc := 49) O gf_m_M_153_0 d_M_state_49 rfl ?_
        refine r_icmp_ge (tgt := 73) (pc := 52) O d_M_state_52 (by decide) (fun q52 => ?_) (fun q52 => ?_)
        · exact (hK73 h)
        · exact (hK55 h)
  have hK24 : ∀ (h : sHp), sS Zm M V (sEb sOi) 24 [(0, .ref 0), (1, .int p1), (2, .int p2)] [] h (K_M_state_24 n p1 p2 h) := by
    intro h
    unfold K_M_state_24
    refine r_iload_n (pc := 24) O d_M_state_24 1 rfl ?_
    refine r_iconst (pc := 25) O d_M_state_25 ic_3 ?_
    refine r_icmp_ne (tgt := 37) (pc := 26) O d_M_state_26 (by decide) (fun q26 => ?_) (fun q26 => ?_)
    · exact (hK37 h)
    · refine r_aload_n (pc := 29) O d_M_state_29 0 rfl ?_
      refine r_iload_n (pc := 30) O d_M_state_30 2 rfl ?_
      refine r_callVip (pc := 31) O [.int p2] rfl rfl (R_M_noNumber n p2 h) cw_M_state_31 wm_1161 ws_M_noNumber rfl (Nat.le_of_ble_eq_true rfl) d_M_state_31 rfl (fun v31 => ?_)
      refine r_if_ne (tgt := 73) (pc := 34) O d_M_state_34 (by decide) (fun q34 => ?_) (fun q34 => ?_)
      · exact (hK73 h)
      · exact (hK37 h)
  have hK16 : ∀ (h : sHp), sS Zm M V (sEb sOi) 16 [(0, .ref 0), (1, .int p1), (2, .int p2)] [] h (K_M_state_16 n p1 p2 h) := by
    intro h
    unfold K_M_state_16
    refine r_aload_n (pc := 16) O d_M_state_16 0 rfl ?_
    refine r_iload_n (pc := 17) O d_M_state_17 2 rfl ?_
    refine r_callVip (pc := 18) O [.int p2] rfl rfl (R_M_noThing n p2 h) cw_M_state_18 wm_1125 ws_M_noThing rfl (Nat.le_of_ble_eq_true rfl) d_M_state_18 rfl (fun v18 => ?_)
    refine r_if_ne (tgt := 73) (pc := 21) O d_M_state_21 (by decide) (fun q21 => ?_) (fun q21 => ?_)
    · exact (hK73 h)
    · exact (hK24 h)
  refine r_iload_n (pc := 0) O d_M_state_0 1 rfl ?_
  refine r_iconst (pc := 1) O d_M_state_1 ic_1 ?_
  refine r_icmp_eq (tgt := 16) (pc := 2) O d_M_state_2 (by decide) (fun q2 => ?_) (fun q2 => ?_)
  · exact (hK16 h)
  · refine r_iload_n (pc := 5) O d_M_state_5 1 rfl ?_
    refine r_iconst (pc := 6) O d_M_state_6 ic_2 ?_
    refine r_icmp_eq (tgt := 16) (pc := 7) O d_M_state_7 (by decide) (fun q7 => ?_) (fun q7 => ?_)
    · exact (hK16 h)
    · refine r_iload_n (pc := 10) O d_M_state_10 1 rfl ?_
      refine r_bipush (pc := 11) O d_M_state_11 bc_6 ?_
      refine r_icmp_ne (tgt := 24) (pc := 13) O d_M_state_13 (by decide) (fun q13 => ?_) (fun q13 => ?_)
      · exact (hK24 h)
      · exact (hK16 h)
