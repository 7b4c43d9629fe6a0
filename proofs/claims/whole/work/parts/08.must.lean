theorem R_S_mustBeThere (b : Int32) (h : sHp) : sMf Zc (fun _ : Unit => none) y_S_mustBeThere prog_1_method_30_code 1 none rm_must [.int b] h (if b = 0 then some (.error 0, h) else some (.ok (), h)) := sMust Zc (own := "StoryStates") (k := 0) rfl (by decide) wm_421 wm_422 wm_13 sOwn_0 (by decide +kernel) d_S_mustBeThere_0 d_S_mustBeThere_1 d_S_mustBeThere_4 d_S_mustBeThere_7 d_S_mustBeThere_8 d_S_mustBeThere_11 d_S_mustBeThere_12 (by decide) b h
theorem R_S_mustFit (b : Int32) (h : sHp) : sMf Zc (fun _ : Unit => none) y_S_mustFit prog_1_method_31_code 1 none rm_must [.int b] h (if b = 0 then some (.error 1, h) else some (.ok (), h)) := sMust Zc (own := "StoryStates") (k := 1) rfl (by decide) wm_439 wm_440 wm_14 sOwn_1 (by decide +kernel) d_S_mustFit_0 d_S_mustFit_1 d_S_mustFit_4 d_S_mustFit_7 d_S_mustFit_8 d_S_mustFit_11 d_S_mustFit_12 (by decide) b h
theorem R_S_mustBeAble (b : Int32) (h : sHp) : sMf Zc (fun _ : Unit => none) y_S_mustBeAble prog_1_method_32_code 1 none rm_must [.int b] h (if b = 0 then some (.error 2, h) else some (.ok (), h)) := sMust Zc (own := "StoryStates") (k := 2) rfl (by decide) wm_329 wm_330 wm_12 sOwn_2 (by decide +kernel) d_S_mustBeAble_0 d_S_mustBeAble_1 d_S_mustBeAble_4 d_S_mustBeAble_7 d_S_mustBeAble_8 d_S_mustBeAble_11 d_S_mustBeAble_12 (by decide) b h
theorem hG_L_room : ∀ (k : Nat) (h1 : sHp) (r : Int32 × sHp), (fun k h => if k = 2 then some ((1 : Int32), h) else none) k h1 = some r → k < 3 ∧ r.2 = h1 ∧ ∃ hp, sPick [(11, 2)] k = some hp ∧ sHnd method_3_code 3 hp r.1 := by
  intro k h1 r hr
  dsimp only at hr
  by_cases q0 : k = 2
  · rw [if_pos q0] at hr
    cases hr
    subst q0
    exact ⟨by decide, rfl, 11, rfl, Or.inl ⟨2, 1, d_L_room_11, by decide, d_L_room_12, (by show Int32.ofInt 1 = (1 : Int32); decide), d_L_room_13⟩⟩
  rw [if_neg q0] at hr
  cases hr
theorem hG_L_exit : ∀ (k : Nat) (h1 : sHp) (r : Int32 × sHp), (fun k h => if k = 0 then some ((1 : Int32), h) else (if k = 1 then some ((2 : Int32), h) else none)) k h1 = some r → k < 3 ∧ r.2 = h1 ∧ ∃ hp, sPick [(12, 0), (16, 1)] k = some hp ∧ sHnd method_4_code 6 hp r.1 := by
  intro k h1 r hr
  dsimp only at hr
  by_cases q0 : k = 0
  · rw [if_pos q0] at hr
    cases hr
    subst q0
    exact ⟨by decide, rfl, 12, rfl, Or.inr ⟨5, 1, d_L_exit_12, by decide, d_L_exit_14, (by show Int32.ofInt 1 = (1 : Int32); decide), d_L_exit_15⟩⟩
  rw [if_neg q0] at hr
  by_cases q1 : k = 1
  · rw [if_pos q1] at hr
    cases hr
    subst q1
    exact ⟨by decide, rfl, 16, rfl, Or.inr ⟨5, 2, d_L_exit_16, by decide, d_L_exit_18, (by show Int32.ofInt 2 = (2 : Int32); decide), d_L_exit_19⟩⟩
  rw [if_neg q1] at hr
  cases hr
theorem hG_L_thing : ∀ (k : Nat) (h1 : sHp) (r : Int32 × sHp), (fun k h => if k = 0 then some ((1 : Int32), h) else (if k = 1 then some ((2 : Int32), h) else (if k = 2 then some ((3 : Int32), h) else none))) k h1 = some r → k < 3 ∧ r.2 = h1 ∧ ∃ hp, sPick [(13, 0), (17, 1), (21, 2)] k = some hp ∧ sHnd method_5_code 5 hp r.1 := by
  intro k h1 r hr
  dsimp only at hr
  by_cases q0 : k = 0
  · rw [if_pos q0] at hr
    cases hr
    subst q0
    exact ⟨by decide, rfl, 13, rfl, Or.inr ⟨4, 1, d_L_thing_13, by decide, d_L_thing_15, (by show Int32.ofInt 1 = (1 : Int32); decide), d_L_thing_16⟩⟩
  rw [if_neg q0] at hr
  by_cases q1 : k = 1
  · rw [if_pos q1] at hr
    cases hr
    subst q1
    exact ⟨by decide, rfl, 17, rfl, Or.inr ⟨4, 2, d_L_thing_17, by decide, d_L_thing_19, (by show Int32.ofInt 2 = (2 : Int32); decide), d_L_thing_20⟩⟩
  rw [if_neg q1] at hr
  by_cases q2 : k = 2
  · rw [if_pos q2] at hr
    cases hr
    subst q2
    exact ⟨by decide, rfl, 21, rfl, Or.inr ⟨4, 3, d_L_thing_21, by decide, d_L_thing_23, (by show Int32.ofInt 3 = (3 : Int32); decide), d_L_thing_24⟩⟩
  rw [if_neg q2] at hr
  cases hr
theorem hG_L_number : ∀ (k : Nat) (h1 : sHp) (r : Int32 × sHp), (fun k h => if k = 1 then some ((1 : Int32), h) else (if k = 2 then some ((2 : Int32), h) else none)) k h1 = some r → k < 3 ∧ r.2 = h1 ∧ ∃ hp, sPick [(13, 1), (17, 2)] k = some hp ∧ sHnd method_6_code 5 hp r.1 := by
  intro k h1 r hr
  dsimp only at hr
  by_cases q0 : k = 1
  · rw [if_pos q0] at hr
    cases hr
    subst q0
    exact ⟨by decide, rfl, 13, rfl, Or.inr ⟨4, 1, d_L_number_13, by decide, d_L_number_15, (by show Int32.ofInt 1 = (1 : Int32); decide), d_L_number_16⟩⟩
  rw [if_neg q0] at hr
  by_cases q1 : k = 2
  · rw [if_pos q1] at hr
    cases hr
    subst q1
    exact ⟨by decide, rfl, 17, rfl, Or.inr ⟨4, 2, d_L_number_17, by decide, d_L_number_19, (by show Int32.ofInt 2 = (2 : Int32); decide), d_L_number_20⟩⟩
  rw [if_neg q1] at hr
  cases hr
theorem hG_L_ending : ∀ (k : Nat) (h1 : sHp) (r : Int32 × sHp), (fun k h => if k = 2 then some ((1 : Int32), h) else none) k h1 = some r → k < 3 ∧ r.2 = h1 ∧ ∃ hp, sPick [(12, 2)] k = some hp ∧ sHnd method_7_code 4 hp r.1 := by
  intro k h1 r hr
  dsimp only at hr
  by_cases q0 : k = 2
  · rw [if_pos q0] at hr
    cases hr
    subst q0
    exact ⟨by decide, rfl, 12, rfl, Or.inl ⟨3, 1, d_L_ending_12, by decide, d_L_ending_13, (by show Int32.ofInt 1 = (1 : Int32); decide), d_L_ending_14⟩⟩
  rw [if_neg q0] at hr
  cases hr
theorem hG_L_rule : ∀ (k : Nat) (h1 : sHp) (r : Int32 × sHp), (fun k h => if k = 1 then some ((1 : Int32), h) else (if k = 2 then some ((2 : Int32), h) else none)) k h1 = some r → k < 3 ∧ r.2 = h1 ∧ ∃ hp, sPick [(17, 1), (21, 2)] k = some hp ∧ sHnd method_8_code 7 hp r.1 := by
  intro k h1 r hr
  dsimp only at hr
  by_cases q0 : k = 1
  · rw [if_pos q0] at hr
    cases hr
    subst q0
    exact ⟨by decide, rfl, 17, rfl, Or.inr ⟨6, 1, d_L_rule_17, by decide, d_L_rule_19, (by show Int32.ofInt 1 = (1 : Int32); decide), d_L_rule_20⟩⟩
  rw [if_neg q0] at hr
  by_cases q1 : k = 2
  · rw [if_pos q1] at hr
    cases hr
    subst q1
    exact ⟨by decide, rfl, 21, rfl, Or.inr ⟨6, 2, d_L_rule_21, by decide, d_L_rule_23, (by show Int32.ofInt 2 = (2 : Int32); decide), d_L_rule_24⟩⟩
  rw [if_neg q1] at hr
  cases hr
theorem hG_L_condition : ∀ (k : Nat) (h1 : sHp) (r : Int32 × sHp), (fun k h => if k = 0 then some ((1 : Int32), h) else (if k = 1 then some ((2 : Int32), h) else (if k = 2 then some ((3 : Int32), h) else none))) k h1 = some r → k < 3 ∧ r.2 = h1 ∧ ∃ hp, sPick [(12, 0), (16, 1), (20, 2)] k = some hp ∧ sHnd method_9_code 6 hp r.1 := by
  intro k h1 r hr
  dsimp only at hr
  by_cases q0 : k = 0
  · rw [if_pos q0] at hr
    cases hr
    subst q0
    exact ⟨by decide, rfl, 12, rfl, Or.inr ⟨5, 1, d_L_condition_12, by decide, d_L_condition_14, (by show Int32.ofInt 1 = (1 : Int32); decide), d_L_condition_15⟩⟩
  rw [if_neg q0] at hr
  by_cases q1 : k = 1
  · rw [if_pos q1] at hr
    cases hr
    subst q1
    exact ⟨by decide, rfl, 16, rfl, Or.inr ⟨5, 2, d_L_condition_16, by decide, d_L_condition_18, (by show Int32.ofInt 2 = (2 : Int32); decide), d_L_condition_19⟩⟩
  rw [if_neg q1] at hr
  by_cases q2 : k = 2
  · rw [if_pos q2] at hr
    cases hr
    subst q2
    exact ⟨by decide, rfl, 20, rfl, Or.inr ⟨5, 3, d_L_condition_20, by decide, d_L_condition_22, (by show Int32.ofInt 3 = (3 : Int32); decide), d_L_condition_23⟩⟩
  rw [if_neg q2] at hr
  cases hr
theorem hG_L_effect : ∀ (k : Nat) (h1 : sHp) (r : Int32 × sHp), (fun k h => if k = 0 then some ((1 : Int32), h) else (if k = 1 then some ((2 : Int32), h) else (if k = 2 then some ((3 : Int32), h) else none))) k h1 = some r → k < 3 ∧ r.2 = h1 ∧ ∃ hp, sPick [(12, 0), (16, 1), (20, 2)] k = some hp ∧ sHnd method_10_code 6 hp r.1 := by
  intro k h1 r hr
  dsimp only at hr
  by_cases q0 : k = 0
  · rw [if_pos q0] at hr
    cases hr
    subst q0
    exact ⟨by decide, rfl, 12, rfl, Or.inr ⟨5, 1, d_L_effect_12, by decide, d_L_effect_14, (by show Int32.ofInt 1 = (1 : Int32); decide), d_L_effect_15⟩⟩
  rw [if_neg q0] at hr
  by_cases q1 : k = 1
  · rw [if_pos q1] at hr
    cases hr
    subst q1
    exact ⟨by decide, rfl, 16, rfl, Or.inr ⟨5, 2, d_L_effect_16, by decide, d_L_effect_18, (by show Int32.ofInt 2 = (2 : Int32); decide), d_L_effect_19⟩⟩
  rw [if_neg q1] at hr
  by_cases q2 : k = 2
  · rw [if_pos q2] at hr
    cases hr
    subst q2
    exact ⟨by decide, rfl, 20, rfl, Or.inr ⟨5, 3, d_L_effect_20, by decide, d_L_effect_22, (by show Int32.ofInt 3 = (3 : Int32); decide), d_L_effect_23⟩⟩
  rw [if_neg q2] at hr
  cases hr
theorem hG_L_walker : ∀ (k : Nat) (h1 : sHp) (r : Int32 × sHp), (fun k h => if k = 0 then some ((1 : Int32), h) else (if k = 2 then some ((2 : Int32), h) else none)) k h1 = some r → k < 3 ∧ r.2 = h1 ∧ ∃ hp, sPick [(12, 0), (16, 2)] k = some hp ∧ sHnd method_11_code 6 hp r.1 := by
  intro k h1 r hr
  dsimp only at hr
  by_cases q0 : k = 0
  · rw [if_pos q0] at hr
    cases hr
    subst q0
    exact ⟨by decide, rfl, 12, rfl, Or.inr ⟨5, 1, d_L_walker_12, by decide, d_L_walker_14, (by show Int32.ofInt 1 = (1 : Int32); decide), d_L_walker_15⟩⟩
  rw [if_neg q0] at hr
  by_cases q1 : k = 2
  · rw [if_pos q1] at hr
    cases hr
    subst q1
    exact ⟨by decide, rfl, 16, rfl, Or.inr ⟨5, 2, d_L_walker_16, by decide, d_L_walker_18, (by show Int32.ofInt 2 = (2 : Int32); decide), d_L_walker_19⟩⟩
  rw [if_neg q1] at hr
  cases hr
theorem hG_L_timer : ∀ (k : Nat) (h1 : sHp) (r : Int32 × sHp), (fun k h => if k = 0 then some ((1 : Int32), h) else (if k = 1 then some ((2 : Int32), h) else (if k = 2 then some ((3 : Int32), h) else none))) k h1 = some r → k < 3 ∧ r.2 = h1 ∧ ∃ hp, sPick [(9, 0), (12, 1), (15, 2)] k = some hp ∧ sHnd method_12_code 4 hp r.1 := by
  intro k h1 r hr
  dsimp only at hr
  by_cases q0 : k = 0
  · rw [if_pos q0] at hr
    cases hr
    subst q0
    exact ⟨by decide, rfl, 9, rfl, Or.inl ⟨3, 1, d_L_timer_9, by decide, d_L_timer_10, (by show Int32.ofInt 1 = (1 : Int32); decide), d_L_timer_11⟩⟩
  rw [if_neg q0] at hr
  by_cases q1 : k = 1
  · rw [if_pos q1] at hr
    cases hr
    subst q1
    exact ⟨by decide, rfl, 12, rfl, Or.inl ⟨3, 2, d_L_timer_12, by decide, d_L_timer_13, (by show Int32.ofInt 2 = (2 : Int32); decide), d_L_timer_14⟩⟩
  rw [if_neg q1] at hr
  by_cases q2 : k = 2
  · rw [if_pos q2] at hr
    cases hr
    subst q2
    exact ⟨by decide, rfl, 15, rfl, Or.inl ⟨3, 3, d_L_timer_15, by decide, d_L_timer_16, (by show Int32.ofInt 3 = (3 : Int32); decide), d_L_timer_17⟩⟩
  rw [if_neg q2] at hr
  cases hr
theorem hG_L_begin : ∀ (k : Nat) (h1 : sHp) (r : Int32 × sHp), (fun k h => if k = 2 then some ((1 : Int32), h) else none) k h1 = some r → k < 3 ∧ r.2 = h1 ∧ ∃ hp, sPick [(7, 2)] k = some hp ∧ sHnd method_13_code 2 hp r.1 := by
  intro k h1 r hr
  dsimp only at hr
  by_cases q0 : k = 2
  · rw [if_pos q0] at hr
    cases hr
    subst q0
    exact ⟨by decide, rfl, 7, rfl, Or.inl ⟨1, 1, d_L_begin_7, by decide, d_L_begin_8, (by show Int32.ofInt 1 = (1 : Int32); decide), d_L_begin_9⟩⟩
  rw [if_neg q0] at hr
  cases hr
theorem hG_L_command : ∀ (k : Nat) (h1 : sHp) (r : Int32 × sHp), (fun k h => if k = 1 then some ((1 : Int32), h) else (if k = 2 then some ((2 : Int32), h) else none)) k h1 = some r → k < 3 ∧ r.2 = h1 ∧ ∃ hp, sPick [(15, 1), (19, 2)] k = some hp ∧ sHnd method_14_code 6 hp r.1 := by
  intro k h1 r hr
  dsimp only at hr
  by_cases q0 : k = 1
  · rw [if_pos q0] at hr
    cases hr
    subst q0
    exact ⟨by decide, rfl, 15, rfl, Or.inr ⟨5, 1, d_L_command_15, by decide, d_L_command_17, (by show Int32.ofInt 1 = (1 : Int32); decide), d_L_command_18⟩⟩
  rw [if_neg q0] at hr
  by_cases q1 : k = 2
  · rw [if_pos q1] at hr
    cases hr
    subst q1
    exact ⟨by decide, rfl, 19, rfl, Or.inr ⟨5, 2, d_L_command_19, by decide, d_L_command_21, (by show Int32.ofInt 2 = (2 : Int32); decide), d_L_command_22⟩⟩
  rw [if_neg q1] at hr
  cases hr
theorem hG_L_state : ∀ (k : Nat) (h1 : sHp) (r : Int32 × sHp), (fun k h => if k = 0 then some ((1 : Int32), h) else (if k = 1 then some ((2 : Int32), h) else (if k = 2 then some ((3 : Int32), h) else none))) k h1 = some r → k < 3 ∧ r.2 = h1 ∧ ∃ hp, sPick [(13, 0), (17, 1), (21, 2)] k = some hp ∧ sHnd method_15_code 5 hp r.1 := by
  intro k h1 r hr
  dsimp only at hr
  by_cases q0 : k = 0
  · rw [if_pos q0] at hr
    cases hr
    subst q0
    exact ⟨by decide, rfl, 13, rfl, Or.inr ⟨4, 1, d_L_state_13, by decide, d_L_state_15, (by show Int32.ofInt 1 = (1 : Int32); decide), d_L_state_16⟩⟩
  rw [if_neg q0] at hr
  by_cases q1 : k = 1
  · rw [if_pos q1] at hr
    cases hr
    subst q1
    exact ⟨by decide, rfl, 17, rfl, Or.inr ⟨4, 2, d_L_state_17, by decide, d_L_state_19, (by show Int32.ofInt 2 = (2 : Int32); decide), d_L_state_20⟩⟩
  rw [if_neg q1] at hr
  by_cases q2 : k = 2
  · rw [if_pos q2] at hr
    cases hr
    subst q2
    exact ⟨by decide, rfl, 21, rfl, Or.inr ⟨4, 3, d_L_state_21, by decide, d_L_state_23, (by show Int32.ofInt 3 = (3 : Int32); decide), d_L_state_24⟩⟩
  rw [if_neg q2] at hr
  cases hr
theorem hG_L_explore : ∀ (k : Nat) (h1 : sHp) (r : Int32 × sHp), (fun k h => if k = 2 then some ((1 : Int32), h) else (if k = 1 then some ((2 : Int32), h) else none)) k h1 = some r → k < 3 ∧ r.2 = h1 ∧ ∃ hp, sPick [(12, 2), (15, 1)] k = some hp ∧ sHnd method_16_code 4 hp r.1 := by
  intro k h1 r hr
  dsimp only at hr
  by_cases q0 : k = 2
  · rw [if_pos q0] at hr
    cases hr
    subst q0
    exact ⟨by decide, rfl, 12, rfl, Or.inl ⟨3, 1, d_L_explore_12, by decide, d_L_explore_13, (by show Int32.ofInt 1 = (1 : Int32); decide), d_L_explore_14⟩⟩
  rw [if_neg q0] at hr
  by_cases q1 : k = 1
  · rw [if_pos q1] at hr
    cases hr
    subst q1
    exact ⟨by decide, rfl, 15, rfl, Or.inl ⟨3, 2, d_L_explore_15, by decide, d_L_explore_16, (by show Int32.ofInt 2 = (2 : Int32); decide), d_L_explore_17⟩⟩
  rw [if_neg q1] at hr
  cases hr
theorem hG_L_reach : ∀ (k : Nat) (h1 : sHp) (r : Int32 × sHp), (fun k h => if k = 2 then some ((1 : Int32), h) else (if k = 0 then some ((2 : Int32), h) else none)) k h1 = some r → k < 3 ∧ r.2 = h1 ∧ ∃ hp, sPick [(13, 2), (17, 0)] k = some hp ∧ sHnd method_17_code 5 hp r.1 := by
  intro k h1 r hr
  dsimp only at hr
  by_cases q0 : k = 2
  · rw [if_pos q0] at hr
    cases hr
    subst q0
    exact ⟨by decide, rfl, 13, rfl, Or.inr ⟨4, 1, d_L_reach_13, by decide, d_L_reach_15, (by show Int32.ofInt 1 = (1 : Int32); decide), d_L_reach_16⟩⟩
  rw [if_neg q0] at hr
  by_cases q1 : k = 0
  · rw [if_pos q1] at hr
    cases hr
    subst q1
    exact ⟨by decide, rfl, 17, rfl, Or.inr ⟨4, 2, d_L_reach_17, by decide, d_L_reach_19, (by show Int32.ofInt 2 = (2 : Int32); decide), d_L_reach_20⟩⟩
  rw [if_neg q1] at hr
  cases hr
theorem hG_L_way : ∀ (k : Nat) (h1 : sHp) (r : Int32 × sHp), (fun k h => if k = 2 then some ((1 : Int32), h) else (if k = 0 then some ((2 : Int32), h) else none)) k h1 = some r → k < 3 ∧ r.2 = h1 ∧ ∃ hp, sPick [(15, 2), (19, 0)] k = some hp ∧ sHnd method_18_code 6 hp r.1 := by
  intro k h1 r hr
  dsimp only at hr
  by_cases q0 : k = 2
  · rw [if_pos q0] at hr
    cases hr
    subst q0
    exact ⟨by decide, rfl, 15, rfl, Or.inr ⟨5, 1, d_L_way_15, by decide, d_L_way_17, (by show Int32.ofInt 1 = (1 : Int32); decide), d_L_way_18⟩⟩
  rw [if_neg q0] at hr
  by_cases q1 : k = 0
  · rw [if_pos q1] at hr
    cases hr
    subst q1
    exact ⟨by decide, rfl, 19, rfl, Or.inr ⟨5, 2, d_L_way_19, by decide, d_L_way_21, (by show Int32.ofInt 2 = (2 : Int32); decide), d_L_way_22⟩⟩
  rw [if_neg q1] at hr
  cases hr
theorem hG_L_study : ∀ (k : Nat) (h1 : sHp) (r : Int32 × sHp), (fun k h => if k = 2 then some ((1 : Int32), h) else (if k = 1 then some ((2 : Int32), h) else none)) k h1 = some r → k < 3 ∧ r.2 = h1 ∧ ∃ hp, sPick [(13, 2), (17, 1)] k = some hp ∧ sHnd method_19_code 5 hp r.1 := by
  intro k h1 r hr
  dsimp only at hr
  by_cases q0 : k = 2
  · rw [if_pos q0] at hr
    cases hr
    subst q0
    exact ⟨by decide, rfl, 13, rfl, Or.inr ⟨4, 1, d_L_study_13, by decide, d_L_study_15, (by show Int32.ofInt 1 = (1 : Int32); decide), d_L_study_16⟩⟩
  rw [if_neg q0] at hr
  by_cases q1 : k = 1
  · rw [if_pos q1] at hr
    cases hr
    subst q1
    exact ⟨by decide, rfl, 17, rfl, Or.inr ⟨4, 2, d_L_study_17, by decide, d_L_study_19, (by show Int32.ofInt 2 = (2 : Int32); decide), d_L_study_20⟩⟩
  rw [if_neg q1] at hr
  cases hr
