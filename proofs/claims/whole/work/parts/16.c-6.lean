def J_L_explore (n : Nat) (p1 : Int32) (h : sHp) : Option (Int32 × sHp) :=
  jC (J_S_explore n p1 h) (fun v4 h4 => some (0, (pL h4 41 (ix 0) (Int32.toInt64 v4)))) (fun k h => if k = 2 then some ((1 : Int32), h) else (if k = 1 then some ((2 : Int32), h) else none))
set_option maxRecDepth 20000 in
set_option maxHeartbeats 4000000 in
theorem R_L_explore (n : Nat) (p1 : Int32) (h : sHp) : sMh Zc y_L_explore method_16_code 4 [(0, 9, 12, 13), (0, 9, 15, 21)] rm_L_explore [.ref 0, .int p1, .ref 41] h (J_L_explore n p1 h) := by
  refine sMh_of (own := "StoryStatesLaw") rfl (by decide) (Nat.le_of_ble_eq_true rfl) ⟨by decide, by decide⟩ (fun M V O T => ?_)
  unfold J_L_explore
  refine r_lv (lv' := [(0, .ref 0), (1, .int p1), (2, .ref 41)]) [0, 1, 2] rfl ?_
  refine r_aload_n (pc := 0) O d_L_explore_0 2 rfl ?_
  refine r_iconst (pc := 1) O d_L_explore_1 ic_0 ?_
  refine r_aload_n (pc := 2) O d_L_explore_2 0 rfl ?_
  refine r_iload_n (pc := 3) O d_L_explore_3 1 rfl ?_
  refine r_catchi (pc := 4) O T [.int p1] rfl rfl (R_S_explore n p1 h) cf_L_explore_4 wm_753 wm_754 rfl (Nat.le_of_ble_eq_true rfl) d_L_explore_4 hr_L_explore hG_L_explore rfl (fun v4 h4 => ?_)
  refine r_i2l (pc := 7) O d_L_explore_7 ?_
  refine r_last_c (pc := 8) O rfl (sIn_iff.mp (by decide)) d_L_explore_8 ?_
  refine r_goto (pc := 9) O d_L_explore_9 (tgt := 18) (by decide) ?_
  refine r_iconst (pc := 18) O d_L_explore_18 ic_0 ?_
  exact r_iret (pc := 19) O rfl d_L_explore_19
def J_L_reach (n : Nat) (p1 : Int32) (p2 : Int32) (h : sHp) : Option (Int32 × sHp) :=
  jC (J_S_reach n p1 p2 h) (fun v5 h5 => some (0, (pL h5 41 (ix 0) (Int32.toInt64 v5)))) (fun k h => if k = 2 then some ((1 : Int32), h) else (if k = 0 then some ((2 : Int32), h) else none))
set_option maxRecDepth 20000 in
set_option maxHeartbeats 4000000 in
theorem R_L_reach (n : Nat) (p1 : Int32) (p2 : Int32) (h : sHp) : sMh Zc y_L_reach method_17_code 5 [(0, 10, 13, 13), (0, 10, 17, 19)] rm_L_reach [.ref 0, .int p1, .int p2, .ref 41] h (J_L_reach n p1 p2 h) := by
  refine sMh_of (own := "StoryStatesLaw") rfl (by decide) (Nat.le_of_ble_eq_true rfl) ⟨by decide, by decide⟩ (fun M V O T => ?_)
  unfold J_L_reach
  refine r_lv (lv' := [(0, .ref 0), (1, .int p1), (2, .int p2), (3, .ref 41)]) [0, 1, 2, 3] rfl ?_
  refine r_aload_n (pc := 0) O d_L_reach_0 3 rfl ?_
  refine r_iconst (pc := 1) O d_L_reach_1 ic_0 ?_
  refine r_aload_n (pc := 2) O d_L_reach_2 0 rfl ?_
  refine r_iload_n (pc := 3) O d_L_reach_3 1 rfl ?_
  refine r_iload_n (pc := 4) O d_L_reach_4 2 rfl ?_
  refine r_catchi (pc := 5) O T [.int p1, .int p2] rfl rfl (R_S_reach n p1 p2 h) cf_L_reach_5 wm_838 wm_839 rfl (Nat.le_of_ble_eq_true rfl) d_L_reach_5 hr_L_reach hG_L_reach rfl (fun v5 h5 => ?_)
  refine r_i2l (pc := 8) O d_L_reach_8 ?_
  refine r_last_c (pc := 9) O rfl (sIn_iff.mp (by decide)) d_L_reach_9 ?_
  refine r_goto (pc := 10) O d_L_reach_10 (tgt := 21) (by decide) ?_
  refine r_iconst (pc := 21) O d_L_reach_21 ic_0 ?_
  exact r_iret (pc := 22) O rfl d_L_reach_22
def J_L_way (n : Nat) (p1 : Int32) (p2 : Int32) (p3 : Int32) (h : sHp) : Option (Int32 × sHp) :=
  jC (J_S_way n p1 p2 p3 h) (fun v7 h7 => some (0, (pL h7 41 (ix 0) (Int32.toInt64 v7)))) (fun k h => if k = 2 then some ((1 : Int32), h) else (if k = 0 then some ((2 : Int32), h) else none))
set_option maxRecDepth 20000 in
set_option maxHeartbeats 4000000 in
theorem R_L_way (n : Nat) (p1 : Int32) (p2 : Int32) (p3 : Int32) (h : sHp) : sMh Zc y_L_way method_18_code 6 [(0, 12, 15, 13), (0, 12, 19, 19)] rm_L_way [.ref 0, .int p1, .int p2, .int p3, .ref 41] h (J_L_way n p1 p2 p3 h) := by
  refine sMh_of (own := "StoryStatesLaw") rfl (by decide) (Nat.le_of_ble_eq_true rfl) ⟨by decide, by decide⟩ (fun M V O T => ?_)
  unfold J_L_way
  refine r_lv (lv' := [(0, .ref 0), (1, .int p1), (2, .int p2), (3, .int p3), (4, .ref 41)]) [0, 1, 2, 3, 4] rfl ?_
  refine r_aload (pc := 0) O d_L_way_0 4 rfl ?_
  refine r_iconst (pc := 2) O d_L_way_2 ic_0 ?_
  refine r_aload_n (pc := 3) O d_L_way_3 0 rfl ?_
  refine r_iload_n (pc := 4) O d_L_way_4 1 rfl ?_
  refine r_iload_n (pc := 5) O d_L_way_5 2 rfl ?_
  refine r_iload_n (pc := 6) O d_L_way_6 3 rfl ?_
  refine r_catchi (pc := 7) O T [.int p1, .int p2, .int p3] rfl rfl (R_S_way n p1 p2 p3 h) cf_L_way_7 wm_853 wm_854 rfl (Nat.le_of_ble_eq_true rfl) d_L_way_7 hr_L_way hG_L_way rfl (fun v7 h7 => ?_)
  refine r_i2l (pc := 10) O d_L_way_10 ?_
  refine r_last_c (pc := 11) O rfl (sIn_iff.mp (by decide)) d_L_way_11 ?_
  refine r_goto (pc := 12) O d_L_way_12 (tgt := 23) (by decide) ?_
  refine r_iconst (pc := 23) O d_L_way_23 ic_0 ?_
  exact r_iret (pc := 24) O rfl d_L_way_24
def J_L_study (n : Nat) (p1 : Int32) (p2 : Int32) (h : sHp) : Option (Int32 × sHp) :=
  jC (J_S_study n p1 p2 h) (fun v5 h5 => some (0, (pL h5 41 (ix 0) (Int32.toInt64 v5)))) (fun k h => if k = 2 then some ((1 : Int32), h) else (if k = 1 then some ((2 : Int32), h) else none))
set_option maxRecDepth 20000 in
set_option maxHeartbeats 4000000 in
theorem R_L_study (n : Nat) (p1 : Int32) (p2 : Int32) (h : sHp) : sMh Zc y_L_study method_19_code 5 [(0, 10, 13, 13), (0, 10, 17, 21)] rm_L_study [.ref 0, .int p1, .int p2, .ref 41] h (J_L_study n p1 p2 h) := by
  refine sMh_of (own := "StoryStatesLaw") rfl (by decide) (Nat.le_of_ble_eq_true rfl) ⟨by decide, by decide⟩ (fun M V O T => ?_)
  unfold J_L_study
  refine r_lv (lv' := [(0, .ref 0), (1, .int p1), (2, .int p2), (3, .ref 41)]) [0, 1, 2, 3] rfl ?_
  refine r_aload_n (pc := 0) O d_L_study_0 3 rfl ?_
  refine r_iconst (pc := 1) O d_L_study_1 ic_0 ?_
  refine r_aload_n (pc := 2) O d_L_study_2 0 rfl ?_
  refine r_iload_n (pc := 3) O d_L_study_3 1 rfl ?_
  refine r_iload_n (pc := 4) O d_L_study_4 2 rfl ?_
  refine r_catchi (pc := 5) O T [.int p1, .int p2] rfl rfl (R_S_study n p1 p2 h) cf_L_study_5 wm_868 wm_869 rfl (Nat.le_of_ble_eq_true rfl) d_L_study_5 hr_L_study hG_L_study rfl (fun v5 h5 => ?_)
  refine r_i2l (pc := 8) O d_L_study_8 ?_
  refine r_last_c (pc := 9) O rfl (sIn_iff.mp (by decide)) d_L_study_9 ?_
  refine r_goto (pc := 10) O d_L_study_10 (tgt := 21) (by decide) ?_
  refine r_iconst (pc := 21) O d_L_study_21 ic_0 ?_
  exact r_iret (pc := 22) O rfl d_L_study_22
