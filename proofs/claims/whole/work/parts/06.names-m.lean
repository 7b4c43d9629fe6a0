theorem bc_16 : (Int8.ofInt 16).toInt32 = 16 := by decide
theorem bc_24 : (Int8.ofInt 24).toInt32 = 24 := by decide
theorem bc_32 : (Int8.ofInt 32).toInt32 = 32 := by decide
theorem bc_9 : (Int8.ofInt 9).toInt32 = 9 := by decide
def y_M_thrown : MethodName := ⟨"StoryStatesModel", "thrown", "()I"⟩
def y_M_packA : MethodName := ⟨"StoryStatesModel", "packA", "()I"⟩
def y_M_packB : MethodName := ⟨"StoryStatesModel", "packB", "()I"⟩
def y_M_lay : MethodName := ⟨"StoryStatesModel", "lay", "(II)V"⟩
def y_M_layFirst : MethodName := ⟨"StoryStatesModel", "layFirst", "()V"⟩
def y_M_restart : MethodName := ⟨"StoryStatesModel", "restart", "()V"⟩
def y_M_insert : MethodName := ⟨"StoryStatesModel", "insert", "(IIIIII)V"⟩
def y_M_renew : MethodName := ⟨"StoryStatesModel", "renew", "()V"⟩
def y_M_noRoom : MethodName := ⟨"StoryStatesModel", "noRoom", "(I)Z"⟩
def y_M_noThing : MethodName := ⟨"StoryStatesModel", "noThing", "(I)Z"⟩
def y_M_noPlace : MethodName := ⟨"StoryStatesModel", "noPlace", "(I)Z"⟩
def y_M_noNumber : MethodName := ⟨"StoryStatesModel", "noNumber", "(I)Z"⟩
def y_M_noRule : MethodName := ⟨"StoryStatesModel", "noRule", "(I)Z"⟩
def y_M_clear : MethodName := ⟨"StoryStatesModel", "clear", "()V"⟩
def y_M_room : MethodName := ⟨"StoryStatesModel", "room", "()I"⟩
def y_M_exit : MethodName := ⟨"StoryStatesModel", "exit", "(IIII)V"⟩
def y_M_thing : MethodName := ⟨"StoryStatesModel", "thing", "(II)I"⟩
def y_M_number : MethodName := ⟨"StoryStatesModel", "number", "(II)I"⟩
def y_M_ending : MethodName := ⟨"StoryStatesModel", "ending", "(Z)I"⟩
def y_M_rule : MethodName := ⟨"StoryStatesModel", "rule", "(IIII)I"⟩
def y_M_lacks : MethodName := ⟨"StoryStatesModel", "lacks", "(III)Z"⟩
def y_M_condition : MethodName := ⟨"StoryStatesModel", "condition", "(IIII)V"⟩
def y_M_effect : MethodName := ⟨"StoryStatesModel", "effect", "(IIII)V"⟩
def y_M_walker : MethodName := ⟨"StoryStatesModel", "walker", "(IIII)V"⟩
def y_M_timer : MethodName := ⟨"StoryStatesModel", "timer", "(II)V"⟩
def y_M_isSeen : MethodName := ⟨"StoryStatesModel", "isSeen", "(I)Z"⟩
def y_M_within : MethodName := ⟨"StoryStatesModel", "within", "(II)Z"⟩
def y_M_allSo : MethodName := ⟨"StoryStatesModel", "allSo", "(I)Z"⟩
def y_M_change : MethodName := ⟨"StoryStatesModel", "change", "(III)V"⟩
def y_M_say : MethodName := ⟨"StoryStatesModel", "say", "(I)V"⟩
def y_M_fire : MethodName := ⟨"StoryStatesModel", "fire", "(I)V"⟩
def y_M_fitting : MethodName := ⟨"StoryStatesModel", "fitting", "(III)I"⟩
def y_M_plain : MethodName := ⟨"StoryStatesModel", "plain", "(III)Z"⟩
def y_M_turn : MethodName := ⟨"StoryStatesModel", "turn", "(III)V"⟩
def y_M_isCommand : MethodName := ⟨"StoryStatesModel", "isCommand", "(III)Z"⟩
def y_M_begin : MethodName := ⟨"StoryStatesModel", "begin", "()V"⟩
def y_M_command : MethodName := ⟨"StoryStatesModel", "command", "(III)I"⟩
def y_M_said : MethodName := ⟨"StoryStatesModel", "said", "(I)I"⟩
def y_M_undo : MethodName := ⟨"StoryStatesModel", "undo", "()Z"⟩
def y_M_state : MethodName := ⟨"StoryStatesModel", "state", "(II)I"⟩
def y_M_search : MethodName := ⟨"StoryStatesModel", "search", "(II)I"⟩
def y_M_tryOne : MethodName := ⟨"StoryStatesModel", "tryOne", "(III)V"⟩
def y_M_tryAll : MethodName := ⟨"StoryStatesModel", "tryAll", "()V"⟩
def y_M_finished : MethodName := ⟨"StoryStatesModel", "finished", "()Z"⟩
def y_M_explore : MethodName := ⟨"StoryStatesModel", "explore", "(I)I"⟩
def y_M_firstOver : MethodName := ⟨"StoryStatesModel", "firstOver", "(I)I"⟩
def y_M_depth : MethodName := ⟨"StoryStatesModel", "depth", "(I)I"⟩
def y_M_reach : MethodName := ⟨"StoryStatesModel", "reach", "(IZ)I"⟩
def y_M_way : MethodName := ⟨"StoryStatesModel", "way", "(III)I"⟩
def y_M_isFollowed : MethodName := ⟨"StoryStatesModel", "isFollowed", "(II)Z"⟩
def y_M_judge : MethodName := ⟨"StoryStatesModel", "judge", "()V"⟩
def y_M_blamed : MethodName := ⟨"StoryStatesModel", "blamed", "()I"⟩
def y_M_stuck : MethodName := ⟨"StoryStatesModel", "stuck", "()I"⟩
def y_M_unused : MethodName := ⟨"StoryStatesModel", "unused", "(I)I"⟩
def y_M_study : MethodName := ⟨"StoryStatesModel", "study", "(II)I"⟩
def rm_M_thrown : Room := { frames := 0, cells := 0, slots := 0, locals := 0 }
def rm_M_packA : Room := { frames := 0, cells := 0, slots := 0, locals := 0 }
def rm_M_packB : Room := { frames := 0, cells := 0, slots := 0, locals := 0 }
def rm_M_lay : Room := { frames := 0, cells := 0, slots := 0, locals := 0 }
def rm_M_layFirst : Room := { frames := 0, cells := 0, slots := 0, locals := 0 }
def rm_M_restart : Room := { frames := 1, cells := 0, slots := 0, locals := 22 }
def rm_M_insert : Room := { frames := 0, cells := 0, slots := 0, locals := 0 }
def rm_M_renew : Room := { frames := 2, cells := 0, slots := 0, locals := 42 }
def rm_M_noRoom : Room := { frames := 0, cells := 0, slots := 0, locals := 0 }
def rm_M_noThing : Room := { frames := 0, cells := 0, slots := 0, locals := 0 }
def rm_M_noPlace : Room := { frames := 1, cells := 0, slots := 0, locals := 21 }
def rm_M_noNumber : Room := { frames := 0, cells := 0, slots := 0, locals := 0 }
def rm_M_noRule : Room := { frames := 0, cells := 0, slots := 0, locals := 0 }
def rm_M_clear : Room := { frames := 3, cells := 0, slots := 0, locals := 62 }
def rm_M_room : Room := { frames := 3, cells := 0, slots := 0, locals := 62 }
def rm_M_exit : Room := { frames := 3, cells := 0, slots := 0, locals := 62 }
def rm_M_thing : Room := { frames := 3, cells := 0, slots := 0, locals := 62 }
def rm_M_number : Room := { frames := 3, cells := 0, slots := 0, locals := 62 }
def rm_M_ending : Room := { frames := 3, cells := 0, slots := 0, locals := 62 }
def rm_M_rule : Room := { frames := 3, cells := 0, slots := 0, locals := 62 }
def rm_M_lacks : Room := { frames := 2, cells := 0, slots := 0, locals := 42 }
def rm_M_condition : Room := { frames := 3, cells := 0, slots := 0, locals := 65 }
def rm_M_effect : Room := { frames := 3, cells := 0, slots := 0, locals := 65 }
def rm_M_walker : Room := { frames := 3, cells := 0, slots := 0, locals := 62 }
def rm_M_timer : Room := { frames := 3, cells := 0, slots := 0, locals := 62 }
def rm_M_isSeen : Room := { frames := 0, cells := 0, slots := 0, locals := 0 }
def rm_M_within : Room := { frames := 0, cells := 0, slots := 0, locals := 0 }
def rm_M_allSo : Room := { frames := 0, cells := 0, slots := 0, locals := 0 }
def rm_M_change : Room := { frames := 1, cells := 0, slots := 0, locals := 23 }
def rm_M_say : Room := { frames := 0, cells := 0, slots := 0, locals := 0 }
def rm_M_fire : Room := { frames := 2, cells := 0, slots := 0, locals := 47 }
def rm_M_fitting : Room := { frames := 1, cells := 0, slots := 0, locals := 25 }
def rm_M_plain : Room := { frames := 1, cells := 0, slots := 0, locals := 23 }
def rm_M_turn : Room := { frames := 3, cells := 0, slots := 0, locals := 69 }
def rm_M_isCommand : Room := { frames := 1, cells := 0, slots := 0, locals := 21 }
def rm_M_begin : Room := { frames := 2, cells := 0, slots := 0, locals := 42 }
def rm_M_command : Room := { frames := 4, cells := 0, slots := 0, locals := 95 }
def rm_M_said : Room := { frames := 0, cells := 0, slots := 0, locals := 0 }
def rm_M_undo : Room := { frames := 0, cells := 0, slots := 0, locals := 0 }
def rm_M_state : Room := { frames := 1, cells := 0, slots := 0, locals := 24 }
def rm_M_search : Room := { frames := 0, cells := 0, slots := 0, locals := 0 }
def rm_M_tryOne : Room := { frames := 4, cells := 0, slots := 0, locals := 95 }
def rm_M_tryAll : Room := { frames := 5, cells := 0, slots := 0, locals := 121 }
def rm_M_finished : Room := { frames := 0, cells := 0, slots := 0, locals := 0 }
def rm_M_explore : Room := { frames := 6, cells := 0, slots := 0, locals := 144 }
def rm_M_firstOver : Room := { frames := 0, cells := 0, slots := 0, locals := 0 }
def rm_M_depth : Room := { frames := 0, cells := 0, slots := 0, locals := 0 }
def rm_M_reach : Room := { frames := 1, cells := 0, slots := 0, locals := 23 }
def rm_M_way : Room := { frames := 1, cells := 0, slots := 0, locals := 23 }
def rm_M_isFollowed : Room := { frames := 0, cells := 0, slots := 0, locals := 0 }
def rm_M_judge : Room := { frames := 1, cells := 0, slots := 0, locals := 22 }
def rm_M_blamed : Room := { frames := 1, cells := 0, slots := 0, locals := 23 }
def rm_M_stuck : Room := { frames := 1, cells := 0, slots := 0, locals := 22 }
def rm_M_unused : Room := { frames := 0, cells := 0, slots := 0, locals := 0 }
def rm_M_study : Room := { frames := 2, cells := 0, slots := 0, locals := 46 }
theorem wm_922 : (Jvm.Cond.fieldLink "StoryStatesModel" (137 : Nat) "StoryStatesModel" "code" "I") ∈ sTB := sMem 922 (by decide +kernel) rfl
theorem gf_m_M_137_0 : sGf Zm "StoryStatesModel" 137 0 0 none := ⟨0, 60, _, "StoryStatesModel", T_m0, rfl, rfl, rfl, by decide, Or.inl wm_922, rfl, us_m0⟩
theorem wm_954 : (Jvm.Cond.fieldLink "StoryStatesModel" (141 : Nat) "StoryStatesModel" "here" "I") ∈ sTB := sMem 954 (by decide +kernel) rfl
theorem gf_m_M_141_0 : sGf Zm "StoryStatesModel" 141 0 32 none := ⟨0, 60, _, "StoryStatesModel", T_m0, rfl, rfl, rfl, by decide, Or.inl wm_954, rfl, us_m0⟩
theorem wm_960 : (Jvm.Cond.fieldLink "StoryStatesModel" (144 : Nat) "StoryStatesModel" "over" "I") ∈ sTB := sMem 960 (by decide +kernel) rfl
theorem gf_m_M_144_0 : sGf Zm "StoryStatesModel" 144 0 38 none := ⟨0, 60, _, "StoryStatesModel", T_m0, rfl, rfl, rfl, by decide, Or.inl wm_960, rfl, us_m0⟩
theorem wm_955 : (Jvm.Cond.fieldLink "StoryStatesModel" (83 : Nat) "StoryStatesModel" "places" "[I") ∈ sTB := sMem 955 (by decide +kernel) rfl
theorem gf_m_M_83_0 : sGf Zm "StoryStatesModel" 83 0 33 (some (some 25)) := ⟨0, 60, _, "StoryStatesModel", T_m0, rfl, rfl, rfl, by decide, Or.inl wm_955, rfl, us_m0⟩
theorem wm_956 : (Jvm.Cond.fieldLink "StoryStatesModel" (86 : Nat) "StoryStatesModel" "open" "[Z") ∈ sTB := sMem 956 (by decide +kernel) rfl
theorem gf_m_M_86_0 : sGf Zm "StoryStatesModel" 86 0 34 (some (some 26)) := ⟨0, 60, _, "StoryStatesModel", T_m0, rfl, rfl, rfl, by decide, Or.inl wm_956, rfl, us_m0⟩
theorem wm_957 : (Jvm.Cond.fieldLink "StoryStatesModel" (89 : Nat) "StoryStatesModel" "amounts" "[I") ∈ sTB := sMem 957 (by decide +kernel) rfl
theorem gf_m_M_89_0 : sGf Zm "StoryStatesModel" 89 0 35 (some (some 27)) := ⟨0, 60, _, "StoryStatesModel", T_m0, rfl, rfl, rfl, by decide, Or.inl wm_957, rfl, us_m0⟩
theorem wm_958 : (Jvm.Cond.fieldLink "StoryStatesModel" (92 : Nat) "StoryStatesModel" "steps" "[I") ∈ sTB := sMem 958 (by decide +kernel) rfl
theorem gf_m_M_92_0 : sGf Zm "StoryStatesModel" 92 0 36 (some (some 28)) := ⟨0, 60, _, "StoryStatesModel", T_m0, rfl, rfl, rfl, by decide, Or.inl wm_958, rfl, us_m0⟩
theorem wm_959 : (Jvm.Cond.fieldLink "StoryStatesModel" (95 : Nat) "StoryStatesModel" "counts" "[I") ∈ sTB := sMem 959 (by decide +kernel) rfl
theorem gf_m_M_95_0 : sGf Zm "StoryStatesModel" 95 0 37 (some (some 29)) := ⟨0, 60, _, "StoryStatesModel", T_m0, rfl, rfl, rfl, by decide, Or.inl wm_959, rfl, us_m0⟩
theorem pf_m_M_144_0 : sPf Zm "StoryStatesModel" 144 0 38 none .int := ⟨0, 60, _, "StoryStatesModel", T_m0, ty_m0, rfl, rfl, rfl, by decide, Or.inl wm_960, rfl, us_m0, tyok_m0, nm_m0, rfl, by decide +kernel⟩
theorem pf_m_M_141_0 : sPf Zm "StoryStatesModel" 141 0 32 none .int := ⟨0, 60, _, "StoryStatesModel", T_m0, ty_m0, rfl, rfl, rfl, by decide, Or.inl wm_954, rfl, us_m0, tyok_m0, nm_m0, rfl, by decide +kernel⟩
theorem wm_926 : (Jvm.Cond.fieldLink "StoryStatesModel" (147 : Nat) "StoryStatesModel" "things" "I") ∈ sTB := sMem 926 (by decide +kernel) rfl
theorem gf_m_M_147_0 : sGf Zm "StoryStatesModel" 147 0 4 none := ⟨0, 60, _, "StoryStatesModel", T_m0, rfl, rfl, rfl, by decide, Or.inl wm_926, rfl, us_m0⟩
theorem wm_928 : (Jvm.Cond.fieldLink "StoryStatesModel" (19 : Nat) "StoryStatesModel" "firstPlaces" "[I") ∈ sTB := sMem 928 (by decide +kernel) rfl
theorem gf_m_M_19_0 : sGf Zm "StoryStatesModel" 19 0 6 (some (some 4)) := ⟨0, 60, _, "StoryStatesModel", T_m0, rfl, rfl, rfl, by decide, Or.inl wm_928, rfl, us_m0⟩
theorem wm_929 : (Jvm.Cond.fieldLink "StoryStatesModel" (150 : Nat) "StoryStatesModel" "numbers" "I") ∈ sTB := sMem 929 (by decide +kernel) rfl
theorem gf_m_M_150_0 : sGf Zm "StoryStatesModel" 150 0 7 none := ⟨0, 60, _, "StoryStatesModel", T_m0, rfl, rfl, rfl, by decide, Or.inl wm_929, rfl, us_m0⟩
theorem wm_931 : (Jvm.Cond.fieldLink "StoryStatesModel" (25 : Nat) "StoryStatesModel" "firstNumbers" "[I") ∈ sTB := sMem 931 (by decide +kernel) rfl
theorem gf_m_M_25_0 : sGf Zm "StoryStatesModel" 25 0 9 (some (some 6)) := ⟨0, 60, _, "StoryStatesModel", T_m0, rfl, rfl, rfl, by decide, Or.inl wm_931, rfl, us_m0⟩
theorem wm_927 : (Jvm.Cond.fieldLink "StoryStatesModel" (16 : Nat) "StoryStatesModel" "kinds" "[I") ∈ sTB := sMem 927 (by decide +kernel) rfl
theorem gf_m_M_16_0 : sGf Zm "StoryStatesModel" 16 0 5 (some (some 3)) := ⟨0, 60, _, "StoryStatesModel", T_m0, rfl, rfl, rfl, by decide, Or.inl wm_927, rfl, us_m0⟩
theorem wm_951 : (Jvm.Cond.fieldLink "StoryStatesModel" (153 : Nat) "StoryStatesModel" "timers" "I") ∈ sTB := sMem 951 (by decide +kernel) rfl
theorem gf_m_M_153_0 : sGf Zm "StoryStatesModel" 153 0 29 none := ⟨0, 60, _, "StoryStatesModel", T_m0, rfl, rfl, rfl, by decide, Or.inl wm_951, rfl, us_m0⟩
theorem wm_953 : (Jvm.Cond.fieldLink "StoryStatesModel" (80 : Nat) "StoryStatesModel" "firstCounts" "[I") ∈ sTB := sMem 953 (by decide +kernel) rfl
theorem gf_m_M_80_0 : sGf Zm "StoryStatesModel" 80 0 31 (some (some 24)) := ⟨0, 60, _, "StoryStatesModel", T_m0, rfl, rfl, rfl, by decide, Or.inl wm_953, rfl, us_m0⟩
theorem wm_906 : (Jvm.Cond.methodLink "StoryStatesModel" (156 : Nat) ({ cls := "StoryStatesModel", name := "layFirst", desc := "()V" } : Jvm.MethodName)) ∈ sTB := sMem 906 (by decide +kernel) rfl
theorem wm_7 : (Jvm.Cond.initialized "StoryStatesModel") ∈ sTB := sMem 7 (by decide +kernel) rfl
theorem wm_909 : (Jvm.Cond.code ({ cls := "StoryStatesModel", name := "layFirst", desc := "()V" } : Jvm.MethodName) prog_10_method_6_code (2 : Nat) (Option.none : Option Jvm.ClassFile.FieldType)) ∈ sTB := sMem 909 (by decide +kernel) rfl
theorem cw_M_restart_1 : sCw "StoryStatesModel" 156 y_M_layFirst prog_10_method_6_code 2 none rm_M_layFirst rm_M_restart 0 := ⟨Or.inl wm_906, wm_7, wm_909, by decide, by decide +kernel, ⟨rfl, rfl⟩, by decide, by decide⟩
theorem wm_908 : (Jvm.Cond.instanceMethod ({ cls := "StoryStatesModel", name := "layFirst", desc := "()V" } : Jvm.MethodName)) ∈ sTB := sMem 908 (by decide +kernel) rfl
theorem ws_M_layFirst : Jvm.Cond.selects "StoryStatesModel" ({ cls := "StoryStatesModel", name := "layFirst", desc := "()V" } : Jvm.MethodName) ({ cls := "StoryStatesModel", name := "layFirst", desc := "()V" } : Jvm.MethodName) ∈ sTB := sSel 60 ({ cls := "StoryStatesModel", name := "layFirst", desc := "()V" } : Jvm.MethodName) (by decide +kernel) rfl
theorem wm_910 : (Jvm.Cond.methodLink "StoryStatesModel" (159 : Nat) ({ cls := "StoryStatesModel", name := "packA", desc := "()I" } : Jvm.MethodName)) ∈ sTB := sMem 910 (by decide +kernel) rfl
theorem wm_913 : (Jvm.Cond.code ({ cls := "StoryStatesModel", name := "packA", desc := "()I" } : Jvm.MethodName) prog_10_method_3_code (3 : Nat) (Option.some Jvm.ClassFile.FieldType.int)) ∈ sTB := sMem 913 (by decide +kernel) rfl
theorem cw_M_restart_6 : sCw "StoryStatesModel" 159 y_M_packA prog_10_method_3_code 3 (some .int) rm_M_packA rm_M_restart 0 := ⟨Or.inl wm_910, wm_7, wm_913, by decide, by decide +kernel, ⟨rfl, rfl⟩, by decide, by decide⟩
theorem wm_912 : (Jvm.Cond.instanceMethod ({ cls := "StoryStatesModel", name := "packA", desc := "()I" } : Jvm.MethodName)) ∈ sTB := sMem 912 (by decide +kernel) rfl
theorem ws_M_packA : Jvm.Cond.selects "StoryStatesModel" ({ cls := "StoryStatesModel", name := "packA", desc := "()I" } : Jvm.MethodName) ({ cls := "StoryStatesModel", name := "packA", desc := "()I" } : Jvm.MethodName) ∈ sTB := sSel 60 ({ cls := "StoryStatesModel", name := "packA", desc := "()I" } : Jvm.MethodName) (by decide +kernel) rfl
theorem wm_964 : (Jvm.Cond.fieldLink "StoryStatesModel" (163 : Nat) "StoryStatesModel" "nowA" "I") ∈ sTB := sMem 964 (by decide +kernel) rfl
theorem pf_m_M_163_0 : sPf Zm "StoryStatesModel" 163 0 42 none .int := ⟨0, 60, _, "StoryStatesModel", T_m0, ty_m0, rfl, rfl, rfl, by decide, Or.inl wm_964, rfl, us_m0, tyok_m0, nm_m0, rfl, by decide +kernel⟩
theorem wm_914 : (Jvm.Cond.methodLink "StoryStatesModel" (166 : Nat) ({ cls := "StoryStatesModel", name := "packB", desc := "()I" } : Jvm.MethodName)) ∈ sTB := sMem 914 (by decide +kernel) rfl
theorem wm_917 : (Jvm.Cond.code ({ cls := "StoryStatesModel", name := "packB", desc := "()I" } : Jvm.MethodName) prog_10_method_4_code (3 : Nat) (Option.some Jvm.ClassFile.FieldType.int)) ∈ sTB := sMem 917 (by decide +kernel) rfl
theorem cw_M_restart_14 : sCw "StoryStatesModel" 166 y_M_packB prog_10_method_4_code 3 (some .int) rm_M_packB rm_M_restart 0 := ⟨Or.inl wm_914, wm_7, wm_917, by decide, by decide +kernel, ⟨rfl, rfl⟩, by decide, by decide⟩
theorem wm_916 : (Jvm.Cond.instanceMethod ({ cls := "StoryStatesModel", name := "packB", desc := "()I" } : Jvm.MethodName)) ∈ sTB := sMem 916 (by decide +kernel) rfl
theorem ws_M_packB : Jvm.Cond.selects "StoryStatesModel" ({ cls := "StoryStatesModel", name := "packB", desc := "()I" } : Jvm.MethodName) ({ cls := "StoryStatesModel", name := "packB", desc := "()I" } : Jvm.MethodName) ∈ sTB := sSel 60 ({ cls := "StoryStatesModel", name := "packB", desc := "()I" } : Jvm.MethodName) (by decide +kernel) rfl
theorem wm_965 : (Jvm.Cond.fieldLink "StoryStatesModel" (169 : Nat) "StoryStatesModel" "nowB" "I") ∈ sTB := sMem 965 (by decide +kernel) rfl
theorem pf_m_M_169_0 : sPf Zm "StoryStatesModel" 169 0 43 none .int := ⟨0, 60, _, "StoryStatesModel", T_m0, ty_m0, rfl, rfl, rfl, by decide, Or.inl wm_965, rfl, us_m0, tyok_m0, nm_m0, rfl, by decide +kernel⟩
theorem wm_966 : (Jvm.Cond.fieldLink "StoryStatesModel" (172 : Nat) "StoryStatesModel" "turns" "I") ∈ sTB := sMem 966 (by decide +kernel) rfl
theorem pf_m_M_172_0 : sPf Zm "StoryStatesModel" 172 0 44 none .int := ⟨0, 60, _, "StoryStatesModel", T_m0, ty_m0, rfl, rfl, rfl, by decide, Or.inl wm_966, rfl, us_m0, tyok_m0, nm_m0, rfl, by decide +kernel⟩
theorem wm_969 : (Jvm.Cond.fieldLink "StoryStatesModel" (175 : Nat) "StoryStatesModel" "spoken" "I") ∈ sTB := sMem 969 (by decide +kernel) rfl
theorem pf_m_M_175_0 : sPf Zm "StoryStatesModel" 175 0 47 none .int := ⟨0, 60, _, "StoryStatesModel", T_m0, ty_m0, rfl, rfl, rfl, by decide, Or.inl wm_969, rfl, us_m0, tyok_m0, nm_m0, rfl, by decide +kernel⟩
theorem wm_974 : (Jvm.Cond.fieldLink "StoryStatesModel" (110 : Nat) "StoryStatesModel" "foundA" "[I") ∈ sTB := sMem 974 (by decide +kernel) rfl
theorem gf_m_M_110_0 : sGf Zm "StoryStatesModel" 110 0 52 (some (some 34)) := ⟨0, 60, _, "StoryStatesModel", T_m0, rfl, rfl, rfl, by decide, Or.inl wm_974, rfl, us_m0⟩
theorem wm_971 : (Jvm.Cond.fieldLink "StoryStatesModel" (181 : Nat) "StoryStatesModel" "found" "I") ∈ sTB := sMem 971 (by decide +kernel) rfl
theorem gf_m_M_181_0 : sGf Zm "StoryStatesModel" 181 0 49 none := ⟨0, 60, _, "StoryStatesModel", T_m0, rfl, rfl, rfl, by decide, Or.inl wm_971, rfl, us_m0⟩
theorem wm_975 : (Jvm.Cond.fieldLink "StoryStatesModel" (113 : Nat) "StoryStatesModel" "foundB" "[I") ∈ sTB := sMem 975 (by decide +kernel) rfl
theorem gf_m_M_113_0 : sGf Zm "StoryStatesModel" 113 0 53 (some (some 35)) := ⟨0, 60, _, "StoryStatesModel", T_m0, rfl, rfl, rfl, by decide, Or.inl wm_975, rfl, us_m0⟩
theorem wm_976 : (Jvm.Cond.fieldLink "StoryStatesModel" (116 : Nat) "StoryStatesModel" "from" "[I") ∈ sTB := sMem 976 (by decide +kernel) rfl
theorem gf_m_M_116_0 : sGf Zm "StoryStatesModel" 116 0 54 (some (some 36)) := ⟨0, 60, _, "StoryStatesModel", T_m0, rfl, rfl, rfl, by decide, Or.inl wm_976, rfl, us_m0⟩
theorem wm_977 : (Jvm.Cond.fieldLink "StoryStatesModel" (119 : Nat) "StoryStatesModel" "byVerb" "[I") ∈ sTB := sMem 977 (by decide +kernel) rfl
theorem gf_m_M_119_0 : sGf Zm "StoryStatesModel" 119 0 55 (some (some 37)) := ⟨0, 60, _, "StoryStatesModel", T_m0, rfl, rfl, rfl, by decide, Or.inl wm_977, rfl, us_m0⟩
theorem wm_978 : (Jvm.Cond.fieldLink "StoryStatesModel" (122 : Nat) "StoryStatesModel" "byFirst" "[I") ∈ sTB := sMem 978 (by decide +kernel) rfl
theorem gf_m_M_122_0 : sGf Zm "StoryStatesModel" 122 0 56 (some (some 38)) := ⟨0, 60, _, "StoryStatesModel", T_m0, rfl, rfl, rfl, by decide, Or.inl wm_978, rfl, us_m0⟩
theorem wm_979 : (Jvm.Cond.fieldLink "StoryStatesModel" (125 : Nat) "StoryStatesModel" "bySecond" "[I") ∈ sTB := sMem 979 (by decide +kernel) rfl
theorem gf_m_M_125_0 : sGf Zm "StoryStatesModel" 125 0 57 (some (some 39)) := ⟨0, 60, _, "StoryStatesModel", T_m0, rfl, rfl, rfl, by decide, Or.inl wm_979, rfl, us_m0⟩
theorem pf_m_M_181_0 : sPf Zm "StoryStatesModel" 181 0 49 none .int := ⟨0, 60, _, "StoryStatesModel", T_m0, ty_m0, rfl, rfl, rfl, by decide, Or.inl wm_971, rfl, us_m0, tyok_m0, nm_m0, rfl, by decide +kernel⟩
theorem wm_980 : (Jvm.Cond.fieldLink "StoryStatesModel" (128 : Nat) "StoryStatesModel" "follows" "[I") ∈ sTB := sMem 980 (by decide +kernel) rfl
theorem gf_m_M_128_0 : sGf Zm "StoryStatesModel" 128 0 58 (some (some 40)) := ⟨0, 60, _, "StoryStatesModel", T_m0, rfl, rfl, rfl, by decide, Or.inl wm_980, rfl, us_m0⟩
theorem wm_902 : (Jvm.Cond.methodLink "StoryStatesModel" (178 : Nat) ({ cls := "StoryStatesModel", name := "restart", desc := "()V" } : Jvm.MethodName)) ∈ sTB := sMem 902 (by decide +kernel) rfl
theorem wm_905 : (Jvm.Cond.code ({ cls := "StoryStatesModel", name := "restart", desc := "()V" } : Jvm.MethodName) prog_10_method_7_code (1 : Nat) (Option.none : Option Jvm.ClassFile.FieldType)) ∈ sTB := sMem 905 (by decide +kernel) rfl
theorem cw_M_renew_1 : sCw "StoryStatesModel" 178 y_M_restart prog_10_method_7_code 1 none rm_M_restart rm_M_renew 0 := ⟨Or.inl wm_902, wm_7, wm_905, by decide, by decide +kernel, ⟨rfl, rfl⟩, by decide, by decide⟩
theorem wm_904 : (Jvm.Cond.instanceMethod ({ cls := "StoryStatesModel", name := "restart", desc := "()V" } : Jvm.MethodName)) ∈ sTB := sMem 904 (by decide +kernel) rfl
theorem ws_M_restart : Jvm.Cond.selects "StoryStatesModel" ({ cls := "StoryStatesModel", name := "restart", desc := "()V" } : Jvm.MethodName) ({ cls := "StoryStatesModel", name := "restart", desc := "()V" } : Jvm.MethodName) ∈ sTB := sSel 60 ({ cls := "StoryStatesModel", name := "restart", desc := "()V" } : Jvm.MethodName) (by decide +kernel) rfl
theorem wm_972 : (Jvm.Cond.fieldLink "StoryStatesModel" (184 : Nat) "StoryStatesModel" "gone" "I") ∈ sTB := sMem 972 (by decide +kernel) rfl
theorem pf_m_M_184_0 : sPf Zm "StoryStatesModel" 184 0 50 none .int := ⟨0, 60, _, "StoryStatesModel", T_m0, ty_m0, rfl, rfl, rfl, by decide, Or.inl wm_972, rfl, us_m0, tyok_m0, nm_m0, rfl, by decide +kernel⟩
theorem wm_973 : (Jvm.Cond.fieldLink "StoryStatesModel" (187 : Nat) "StoryStatesModel" "full" "Z") ∈ sTB := sMem 973 (by decide +kernel) rfl
theorem pf_m_M_187_0 : sPf Zm "StoryStatesModel" 187 0 51 none .boolean := ⟨0, 60, _, "StoryStatesModel", T_m0, ty_m0, rfl, rfl, rfl, by decide, Or.inl wm_973, rfl, us_m0, tyok_m0, nm_m0, rfl, by decide +kernel⟩
theorem wm_963 : (Jvm.Cond.fieldLink "StoryStatesModel" (191 : Nat) "StoryStatesModel" "done" "I") ∈ sTB := sMem 963 (by decide +kernel) rfl
theorem pf_m_M_191_0 : sPf Zm "StoryStatesModel" 191 0 41 none .int := ⟨0, 60, _, "StoryStatesModel", T_m0, ty_m0, rfl, rfl, rfl, by decide, Or.inl wm_963, rfl, us_m0, tyok_m0, nm_m0, rfl, by decide +kernel⟩
theorem gf_m_M_163_0 : sGf Zm "StoryStatesModel" 163 0 42 none := ⟨0, 60, _, "StoryStatesModel", T_m0, rfl, rfl, rfl, by decide, Or.inl wm_964, rfl, us_m0⟩
theorem gf_m_M_169_0 : sGf Zm "StoryStatesModel" 169 0 43 none := ⟨0, 60, _, "StoryStatesModel", T_m0, rfl, rfl, rfl, by decide, Or.inl wm_965, rfl, us_m0⟩
theorem wm_918 : (Jvm.Cond.methodLink "StoryStatesModel" (194 : Nat) ({ cls := "StoryStatesModel", name := "insert", desc := "(IIIIII)V" } : Jvm.MethodName)) ∈ sTB := sMem 918 (by decide +kernel) rfl
theorem wm_921 : (Jvm.Cond.code ({ cls := "StoryStatesModel", name := "insert", desc := "(IIIIII)V" } : Jvm.MethodName) prog_10_method_42_code (8 : Nat) (Option.none : Option Jvm.ClassFile.FieldType)) ∈ sTB := sMem 921 (by decide +kernel) rfl
theorem cw_M_renew_37 : sCw "StoryStatesModel" 194 y_M_insert prog_10_method_42_code 8 none rm_M_insert rm_M_renew 6 := ⟨Or.inl wm_918, wm_7, wm_921, by decide, by decide +kernel, ⟨rfl, rfl⟩, by decide, by decide⟩
theorem wm_920 : (Jvm.Cond.instanceMethod ({ cls := "StoryStatesModel", name := "insert", desc := "(IIIIII)V" } : Jvm.MethodName)) ∈ sTB := sMem 920 (by decide +kernel) rfl
theorem ws_M_insert : Jvm.Cond.selects "StoryStatesModel" ({ cls := "StoryStatesModel", name := "insert", desc := "(IIIIII)V" } : Jvm.MethodName) ({ cls := "StoryStatesModel", name := "insert", desc := "(IIIIII)V" } : Jvm.MethodName) ∈ sTB := sSel 60 ({ cls := "StoryStatesModel", name := "insert", desc := "(IIIIII)V" } : Jvm.MethodName) (by decide +kernel) rfl
theorem wm_923 : (Jvm.Cond.fieldLink "StoryStatesModel" (198 : Nat) "StoryStatesModel" "rooms" "I") ∈ sTB := sMem 923 (by decide +kernel) rfl
theorem gf_m_M_198_0 : sGf Zm "StoryStatesModel" 198 0 1 none := ⟨0, 60, _, "StoryStatesModel", T_m0, rfl, rfl, rfl, by decide, Or.inl wm_923, rfl, us_m0⟩
theorem wm_1123 : (Jvm.Cond.methodLink "StoryStatesModel" (205 : Nat) ({ cls := "StoryStatesModel", name := "noThing", desc := "(I)Z" } : Jvm.MethodName)) ∈ sTB := sMem 1123 (by decide +kernel) rfl
theorem wm_1126 : (Jvm.Cond.code ({ cls := "StoryStatesModel", name := "noThing", desc := "(I)Z" } : Jvm.MethodName) prog_10_method_10_code (2 : Nat) (Option.some Jvm.ClassFile.FieldType.boolean)) ∈ sTB := sMem 1126 (by decide +kernel) rfl
theorem cw_M_noPlace_25 : sCw "StoryStatesModel" 205 y_M_noThing prog_10_method_10_code 2 (some .boolean) rm_M_noThing rm_M_noPlace 1 := ⟨Or.inl wm_1123, wm_7, wm_1126, by decide, by decide +kernel, ⟨rfl, rfl⟩, by decide, by decide⟩
theorem wm_1125 : (Jvm.Cond.instanceMethod ({ cls := "StoryStatesModel", name := "noThing", desc := "(I)Z" } : Jvm.MethodName)) ∈ sTB := sMem 1125 (by decide +kernel) rfl
theorem ws_M_noThing : Jvm.Cond.selects "StoryStatesModel" ({ cls := "StoryStatesModel", name := "noThing", desc := "(I)Z" } : Jvm.MethodName) ({ cls := "StoryStatesModel", name := "noThing", desc := "(I)Z" } : Jvm.MethodName) ∈ sTB := sSel 60 ({ cls := "StoryStatesModel", name := "noThing", desc := "(I)Z" } : Jvm.MethodName) (by decide +kernel) rfl
theorem wm_1119 : (Jvm.Cond.methodLink "StoryStatesModel" (201 : Nat) ({ cls := "StoryStatesModel", name := "noRoom", desc := "(I)Z" } : Jvm.MethodName)) ∈ sTB := sMem 1119 (by decide +kernel) rfl
theorem wm_1122 : (Jvm.Cond.code ({ cls := "StoryStatesModel", name := "noRoom", desc := "(I)Z" } : Jvm.MethodName) prog_10_method_9_code (2 : Nat) (Option.some Jvm.ClassFile.FieldType.boolean)) ∈ sTB := sMem 1122 (by decide +kernel) rfl
theorem cw_M_noPlace_8 : sCw "StoryStatesModel" 201 y_M_noRoom prog_10_method_9_code 2 (some .boolean) rm_M_noRoom rm_M_noPlace 1 := ⟨Or.inl wm_1119, wm_7, wm_1122, by decide, by decide +kernel, ⟨rfl, rfl⟩, by decide, by decide⟩
theorem wm_1121 : (Jvm.Cond.instanceMethod ({ cls := "StoryStatesModel", name := "noRoom", desc := "(I)Z" } : Jvm.MethodName)) ∈ sTB := sMem 1121 (by decide +kernel) rfl
theorem ws_M_noRoom : Jvm.Cond.selects "StoryStatesModel" ({ cls := "StoryStatesModel", name := "noRoom", desc := "(I)Z" } : Jvm.MethodName) ({ cls := "StoryStatesModel", name := "noRoom", desc := "(I)Z" } : Jvm.MethodName) ∈ sTB := sSel 60 ({ cls := "StoryStatesModel", name := "noRoom", desc := "(I)Z" } : Jvm.MethodName) (by decide +kernel) rfl
theorem wm_934 : (Jvm.Cond.fieldLink "StoryStatesModel" (208 : Nat) "StoryStatesModel" "rules" "I") ∈ sTB := sMem 934 (by decide +kernel) rfl
theorem gf_m_M_208_0 : sGf Zm "StoryStatesModel" 208 0 12 none := ⟨0, 60, _, "StoryStatesModel", T_m0, rfl, rfl, rfl, by decide, Or.inl wm_934, rfl, us_m0⟩
theorem pf_m_M_137_0 : sPf Zm "StoryStatesModel" 137 0 0 none .int := ⟨0, 60, _, "StoryStatesModel", T_m0, ty_m0, rfl, rfl, rfl, by decide, Or.inl wm_922, rfl, us_m0, tyok_m0, nm_m0, rfl, by decide +kernel⟩
theorem pf_m_M_198_0 : sPf Zm "StoryStatesModel" 198 0 1 none .int := ⟨0, 60, _, "StoryStatesModel", T_m0, ty_m0, rfl, rfl, rfl, by decide, Or.inl wm_923, rfl, us_m0, tyok_m0, nm_m0, rfl, by decide +kernel⟩
theorem pf_m_M_147_0 : sPf Zm "StoryStatesModel" 147 0 4 none .int := ⟨0, 60, _, "StoryStatesModel", T_m0, ty_m0, rfl, rfl, rfl, by decide, Or.inl wm_926, rfl, us_m0, tyok_m0, nm_m0, rfl, by decide +kernel⟩
theorem pf_m_M_150_0 : sPf Zm "StoryStatesModel" 150 0 7 none .int := ⟨0, 60, _, "StoryStatesModel", T_m0, ty_m0, rfl, rfl, rfl, by decide, Or.inl wm_929, rfl, us_m0, tyok_m0, nm_m0, rfl, by decide +kernel⟩
theorem wm_932 : (Jvm.Cond.fieldLink "StoryStatesModel" (211 : Nat) "StoryStatesModel" "endings" "I") ∈ sTB := sMem 932 (by decide +kernel) rfl
theorem pf_m_M_211_0 : sPf Zm "StoryStatesModel" 211 0 10 none .int := ⟨0, 60, _, "StoryStatesModel", T_m0, ty_m0, rfl, rfl, rfl, by decide, Or.inl wm_932, rfl, us_m0, tyok_m0, nm_m0, rfl, by decide +kernel⟩
theorem pf_m_M_208_0 : sPf Zm "StoryStatesModel" 208 0 12 none .int := ⟨0, 60, _, "StoryStatesModel", T_m0, ty_m0, rfl, rfl, rfl, by decide, Or.inl wm_934, rfl, us_m0, tyok_m0, nm_m0, rfl, by decide +kernel⟩
theorem wm_948 : (Jvm.Cond.fieldLink "StoryStatesModel" (214 : Nat) "StoryStatesModel" "walkers" "I") ∈ sTB := sMem 948 (by decide +kernel) rfl
theorem pf_m_M_214_0 : sPf Zm "StoryStatesModel" 214 0 26 none .int := ⟨0, 60, _, "StoryStatesModel", T_m0, ty_m0, rfl, rfl, rfl, by decide, Or.inl wm_948, rfl, us_m0, tyok_m0, nm_m0, rfl, by decide +kernel⟩
theorem pf_m_M_153_0 : sPf Zm "StoryStatesModel" 153 0 29 none .int := ⟨0, 60, _, "StoryStatesModel", T_m0, ty_m0, rfl, rfl, rfl, by decide, Or.inl wm_951, rfl, us_m0, tyok_m0, nm_m0, rfl, by decide +kernel⟩
theorem wm_898 : (Jvm.Cond.methodLink "StoryStatesModel" (134 : Nat) ({ cls := "StoryStatesModel", name := "renew", desc := "()V" } : Jvm.MethodName)) ∈ sTB := sMem 898 (by decide +kernel) rfl
theorem wm_901 : (Jvm.Cond.code ({ cls := "StoryStatesModel", name := "renew", desc := "()V" } : Jvm.MethodName) prog_10_method_8_code (1 : Nat) (Option.none : Option Jvm.ClassFile.FieldType)) ∈ sTB := sMem 901 (by decide +kernel) rfl
theorem cw_M_clear_62 : sCw "StoryStatesModel" 134 y_M_renew prog_10_method_8_code 1 none rm_M_renew rm_M_clear 0 := ⟨Or.inl wm_898, wm_7, wm_901, by decide, by decide +kernel, ⟨rfl, rfl⟩, by decide, by decide⟩
theorem wm_900 : (Jvm.Cond.instanceMethod ({ cls := "StoryStatesModel", name := "renew", desc := "()V" } : Jvm.MethodName)) ∈ sTB := sMem 900 (by decide +kernel) rfl
theorem ws_M_renew : Jvm.Cond.selects "StoryStatesModel" ({ cls := "StoryStatesModel", name := "renew", desc := "()V" } : Jvm.MethodName) ({ cls := "StoryStatesModel", name := "renew", desc := "()V" } : Jvm.MethodName) ∈ sTB := sSel 60 ({ cls := "StoryStatesModel", name := "renew", desc := "()V" } : Jvm.MethodName) (by decide +kernel) rfl
theorem wm_924 : (Jvm.Cond.fieldLink "StoryStatesModel" (7 : Nat) "StoryStatesModel" "exits" "[I") ∈ sTB := sMem 924 (by decide +kernel) rfl
theorem gf_m_M_7_0 : sGf Zm "StoryStatesModel" 7 0 2 (some (some 1)) := ⟨0, 60, _, "StoryStatesModel", T_m0, rfl, rfl, rfl, by decide, Or.inl wm_924, rfl, us_m0⟩
theorem cw_M_room_38 : sCw "StoryStatesModel" 134 y_M_renew prog_10_method_8_code 1 none rm_M_renew rm_M_room 0 := ⟨Or.inl wm_898, wm_7, wm_901, by decide, by decide +kernel, ⟨rfl, rfl⟩, by decide, by decide⟩
theorem cw_M_exit_3 : sCw "StoryStatesModel" 201 y_M_noRoom prog_10_method_9_code 2 (some .boolean) rm_M_noRoom rm_M_exit 1 := ⟨Or.inl wm_1119, wm_7, wm_1122, by decide, by decide +kernel, ⟨rfl, rfl⟩, by decide, by decide⟩
theorem cw_M_exit_11 : sCw "StoryStatesModel" 201 y_M_noRoom prog_10_method_9_code 2 (some .boolean) rm_M_noRoom rm_M_exit 1 := ⟨Or.inl wm_1119, wm_7, wm_1122, by decide, by decide +kernel, ⟨rfl, rfl⟩, by decide, by decide⟩
theorem cw_M_exit_26 : sCw "StoryStatesModel" 205 y_M_noThing prog_10_method_10_code 2 (some .boolean) rm_M_noThing rm_M_exit 1 := ⟨Or.inl wm_1123, wm_7, wm_1126, by decide, by decide +kernel, ⟨rfl, rfl⟩, by decide, by decide⟩
theorem wm_925 : (Jvm.Cond.fieldLink "StoryStatesModel" (13 : Nat) "StoryStatesModel" "doors" "[I") ∈ sTB := sMem 925 (by decide +kernel) rfl
theorem gf_m_M_13_0 : sGf Zm "StoryStatesModel" 13 0 3 (some (some 2)) := ⟨0, 60, _, "StoryStatesModel", T_m0, rfl, rfl, rfl, by decide, Or.inl wm_925, rfl, us_m0⟩
theorem cw_M_exit_89 : sCw "StoryStatesModel" 134 y_M_renew prog_10_method_8_code 1 none rm_M_renew rm_M_exit 0 := ⟨Or.inl wm_898, wm_7, wm_901, by decide, by decide +kernel, ⟨rfl, rfl⟩, by decide, by decide⟩
theorem wm_1131 : (Jvm.Cond.methodLink "StoryStatesModel" (217 : Nat) ({ cls := "StoryStatesModel", name := "noPlace", desc := "(I)Z" } : Jvm.MethodName)) ∈ sTB := sMem 1131 (by decide +kernel) rfl
theorem wm_1134 : (Jvm.Cond.code ({ cls := "StoryStatesModel", name := "noPlace", desc := "(I)Z" } : Jvm.MethodName) prog_10_method_11_code (2 : Nat) (Option.some Jvm.ClassFile.FieldType.boolean)) ∈ sTB := sMem 1134 (by decide +kernel) rfl
theorem cw_M_thing_3 : sCw "StoryStatesModel" 217 y_M_noPlace prog_10_method_11_code 2 (some .boolean) rm_M_noPlace rm_M_thing 1 := ⟨Or.inl wm_1131, wm_7, wm_1134, by decide, by decide +kernel, ⟨rfl, rfl⟩, by decide, by decide⟩
theorem wm_1133 : (Jvm.Cond.instanceMethod ({ cls := "StoryStatesModel", name := "noPlace", desc := "(I)Z" } : Jvm.MethodName)) ∈ sTB := sMem 1133 (by decide +kernel) rfl
theorem ws_M_noPlace : Jvm.Cond.selects "StoryStatesModel" ({ cls := "StoryStatesModel", name := "noPlace", desc := "(I)Z" } : Jvm.MethodName) ({ cls := "StoryStatesModel", name := "noPlace", desc := "(I)Z" } : Jvm.MethodName) ∈ sTB := sSel 60 ({ cls := "StoryStatesModel", name := "noPlace", desc := "(I)Z" } : Jvm.MethodName) (by decide +kernel) rfl
theorem cw_M_thing_94 : sCw "StoryStatesModel" 134 y_M_renew prog_10_method_8_code 1 none rm_M_renew rm_M_thing 0 := ⟨Or.inl wm_898, wm_7, wm_901, by decide, by decide +kernel, ⟨rfl, rfl⟩, by decide, by decide⟩
theorem wm_930 : (Jvm.Cond.fieldLink "StoryStatesModel" (22 : Nat) "StoryStatesModel" "mosts" "[I") ∈ sTB := sMem 930 (by decide +kernel) rfl
theorem gf_m_M_22_0 : sGf Zm "StoryStatesModel" 22 0 8 (some (some 5)) := ⟨0, 60, _, "StoryStatesModel", T_m0, rfl, rfl, rfl, by decide, Or.inl wm_930, rfl, us_m0⟩
theorem cw_M_number_81 : sCw "StoryStatesModel" 134 y_M_renew prog_10_method_8_code 1 none rm_M_renew rm_M_number 0 := ⟨Or.inl wm_898, wm_7, wm_901, by decide, by decide +kernel, ⟨rfl, rfl⟩, by decide, by decide⟩
theorem gf_m_M_211_0 : sGf Zm "StoryStatesModel" 211 0 10 none := ⟨0, 60, _, "StoryStatesModel", T_m0, rfl, rfl, rfl, by decide, Or.inl wm_932, rfl, us_m0⟩
theorem wm_933 : (Jvm.Cond.fieldLink "StoryStatesModel" (28 : Nat) "StoryStatesModel" "good" "[Z") ∈ sTB := sMem 933 (by decide +kernel) rfl
theorem gf_m_M_28_0 : sGf Zm "StoryStatesModel" 28 0 11 (some (some 7)) := ⟨0, 60, _, "StoryStatesModel", T_m0, rfl, rfl, rfl, by decide, Or.inl wm_933, rfl, us_m0⟩
theorem cw_M_ending_47 : sCw "StoryStatesModel" 134 y_M_renew prog_10_method_8_code 1 none rm_M_renew rm_M_ending 0 := ⟨Or.inl wm_898, wm_7, wm_901, by decide, by decide +kernel, ⟨rfl, rfl⟩, by decide, by decide⟩
theorem wm_935 : (Jvm.Cond.fieldLink "StoryStatesModel" (32 : Nat) "StoryStatesModel" "verbs" "[I") ∈ sTB := sMem 935 (by decide +kernel) rfl
theorem gf_m_M_32_0 : sGf Zm "StoryStatesModel" 32 0 13 (some (some 8)) := ⟨0, 60, _, "StoryStatesModel", T_m0, rfl, rfl, rfl, by decide, Or.inl wm_935, rfl, us_m0⟩
theorem wm_936 : (Jvm.Cond.fieldLink "StoryStatesModel" (35 : Nat) "StoryStatesModel" "firsts" "[I") ∈ sTB := sMem 936 (by decide +kernel) rfl
theorem gf_m_M_35_0 : sGf Zm "StoryStatesModel" 35 0 14 (some (some 9)) := ⟨0, 60, _, "StoryStatesModel", T_m0, rfl, rfl, rfl, by decide, Or.inl wm_936, rfl, us_m0⟩
theorem wm_937 : (Jvm.Cond.fieldLink "StoryStatesModel" (38 : Nat) "StoryStatesModel" "seconds" "[I") ∈ sTB := sMem 937 (by decide +kernel) rfl
theorem gf_m_M_38_0 : sGf Zm "StoryStatesModel" 38 0 15 (some (some 10)) := ⟨0, 60, _, "StoryStatesModel", T_m0, rfl, rfl, rfl, by decide, Or.inl wm_937, rfl, us_m0⟩
theorem wm_938 : (Jvm.Cond.fieldLink "StoryStatesModel" (41 : Nat) "StoryStatesModel" "texts" "[I") ∈ sTB := sMem 938 (by decide +kernel) rfl
theorem gf_m_M_41_0 : sGf Zm "StoryStatesModel" 41 0 16 (some (some 11)) := ⟨0, 60, _, "StoryStatesModel", T_m0, rfl, rfl, rfl, by decide, Or.inl wm_938, rfl, us_m0⟩
theorem wm_939 : (Jvm.Cond.fieldLink "StoryStatesModel" (44 : Nat) "StoryStatesModel" "timed" "[Z") ∈ sTB := sMem 939 (by decide +kernel) rfl
theorem gf_m_M_44_0 : sGf Zm "StoryStatesModel" 44 0 17 (some (some 12)) := ⟨0, 60, _, "StoryStatesModel", T_m0, rfl, rfl, rfl, by decide, Or.inl wm_939, rfl, us_m0⟩
theorem wm_940 : (Jvm.Cond.fieldLink "StoryStatesModel" (47 : Nat) "StoryStatesModel" "conditions" "[I") ∈ sTB := sMem 940 (by decide +kernel) rfl
theorem gf_m_M_47_0 : sGf Zm "StoryStatesModel" 47 0 18 (some (some 13)) := ⟨0, 60, _, "StoryStatesModel", T_m0, rfl, rfl, rfl, by decide, Or.inl wm_940, rfl, us_m0⟩
theorem wm_944 : (Jvm.Cond.fieldLink "StoryStatesModel" (59 : Nat) "StoryStatesModel" "effects" "[I") ∈ sTB := sMem 944 (by decide +kernel) rfl
theorem gf_m_M_59_0 : sGf Zm "StoryStatesModel" 59 0 22 (some (some 17)) := ⟨0, 60, _, "StoryStatesModel", T_m0, rfl, rfl, rfl, by decide, Or.inl wm_944, rfl, us_m0⟩
theorem cw_M_rule_169 : sCw "StoryStatesModel" 134 y_M_renew prog_10_method_8_code 1 none rm_M_renew rm_M_rule 0 := ⟨Or.inl wm_898, wm_7, wm_901, by decide, by decide +kernel, ⟨rfl, rfl⟩, by decide, by decide⟩
theorem wm_1159 : (Jvm.Cond.methodLink "StoryStatesModel" (220 : Nat) ({ cls := "StoryStatesModel", name := "noNumber", desc := "(I)Z" } : Jvm.MethodName)) ∈ sTB := sMem 1159 (by decide +kernel) rfl
theorem wm_1162 : (Jvm.Cond.code ({ cls := "StoryStatesModel", name := "noNumber", desc := "(I)Z" } : Jvm.MethodName) prog_10_method_12_code (2 : Nat) (Option.some Jvm.ClassFile.FieldType.boolean)) ∈ sTB := sMem 1162 (by decide +kernel) rfl
theorem cw_M_lacks_56 : sCw "StoryStatesModel" 220 y_M_noNumber prog_10_method_12_code 2 (some .boolean) rm_M_noNumber rm_M_lacks 1 := ⟨Or.inl wm_1159, wm_7, wm_1162, by decide, by decide +kernel, ⟨rfl, rfl⟩, by decide, by decide⟩
theorem wm_1161 : (Jvm.Cond.instanceMethod ({ cls := "StoryStatesModel", name := "noNumber", desc := "(I)Z" } : Jvm.MethodName)) ∈ sTB := sMem 1161 (by decide +kernel) rfl
theorem ws_M_noNumber : Jvm.Cond.selects "StoryStatesModel" ({ cls := "StoryStatesModel", name := "noNumber", desc := "(I)Z" } : Jvm.MethodName) ({ cls := "StoryStatesModel", name := "noNumber", desc := "(I)Z" } : Jvm.MethodName) ∈ sTB := sSel 60 ({ cls := "StoryStatesModel", name := "noNumber", desc := "(I)Z" } : Jvm.MethodName) (by decide +kernel) rfl
theorem cw_M_lacks_48 : sCw "StoryStatesModel" 205 y_M_noThing prog_10_method_10_code 2 (some .boolean) rm_M_noThing rm_M_lacks 1 := ⟨Or.inl wm_1123, wm_7, wm_1126, by decide, by decide +kernel, ⟨rfl, rfl⟩, by decide, by decide⟩
theorem cw_M_lacks_19 : sCw "StoryStatesModel" 205 y_M_noThing prog_10_method_10_code 2 (some .boolean) rm_M_noThing rm_M_lacks 1 := ⟨Or.inl wm_1123, wm_7, wm_1126, by decide, by decide +kernel, ⟨rfl, rfl⟩, by decide, by decide⟩
theorem cw_M_lacks_27 : sCw "StoryStatesModel" 217 y_M_noPlace prog_10_method_11_code 2 (some .boolean) rm_M_noPlace rm_M_lacks 1 := ⟨Or.inl wm_1131, wm_7, wm_1134, by decide, by decide +kernel, ⟨rfl, rfl⟩, by decide, by decide⟩
theorem cw_M_lacks_6 : sCw "StoryStatesModel" 201 y_M_noRoom prog_10_method_9_code 2 (some .boolean) rm_M_noRoom rm_M_lacks 1 := ⟨Or.inl wm_1119, wm_7, wm_1122, by decide, by decide +kernel, ⟨rfl, rfl⟩, by decide, by decide⟩
theorem wm_1151 : (Jvm.Cond.methodLink "StoryStatesModel" (223 : Nat) ({ cls := "StoryStatesModel", name := "noRule", desc := "(I)Z" } : Jvm.MethodName)) ∈ sTB := sMem 1151 (by decide +kernel) rfl
theorem wm_1154 : (Jvm.Cond.code ({ cls := "StoryStatesModel", name := "noRule", desc := "(I)Z" } : Jvm.MethodName) prog_10_method_13_code (2 : Nat) (Option.some Jvm.ClassFile.FieldType.boolean)) ∈ sTB := sMem 1154 (by decide +kernel) rfl
theorem cw_M_condition_3 : sCw "StoryStatesModel" 223 y_M_noRule prog_10_method_13_code 2 (some .boolean) rm_M_noRule rm_M_condition 1 := ⟨Or.inl wm_1151, wm_7, wm_1154, by decide, by decide +kernel, ⟨rfl, rfl⟩, by decide, by decide⟩
theorem wm_1153 : (Jvm.Cond.instanceMethod ({ cls := "StoryStatesModel", name := "noRule", desc := "(I)Z" } : Jvm.MethodName)) ∈ sTB := sMem 1153 (by decide +kernel) rfl
theorem ws_M_noRule : Jvm.Cond.selects "StoryStatesModel" ({ cls := "StoryStatesModel", name := "noRule", desc := "(I)Z" } : Jvm.MethodName) ({ cls := "StoryStatesModel", name := "noRule", desc := "(I)Z" } : Jvm.MethodName) ∈ sTB := sSel 60 ({ cls := "StoryStatesModel", name := "noRule", desc := "(I)Z" } : Jvm.MethodName) (by decide +kernel) rfl
theorem wm_1155 : (Jvm.Cond.methodLink "StoryStatesModel" (226 : Nat) ({ cls := "StoryStatesModel", name := "lacks", desc := "(III)Z" } : Jvm.MethodName)) ∈ sTB := sMem 1155 (by decide +kernel) rfl
theorem wm_1158 : (Jvm.Cond.code ({ cls := "StoryStatesModel", name := "lacks", desc := "(III)Z" } : Jvm.MethodName) prog_10_method_21_code (4 : Nat) (Option.some Jvm.ClassFile.FieldType.boolean)) ∈ sTB := sMem 1158 (by decide +kernel) rfl
theorem cw_M_condition_31 : sCw "StoryStatesModel" 226 y_M_lacks prog_10_method_21_code 4 (some .boolean) rm_M_lacks rm_M_condition 3 := ⟨Or.inl wm_1155, wm_7, wm_1158, by decide, by decide +kernel, ⟨rfl, rfl⟩, by decide, by decide⟩
theorem wm_1157 : (Jvm.Cond.instanceMethod ({ cls := "StoryStatesModel", name := "lacks", desc := "(III)Z" } : Jvm.MethodName)) ∈ sTB := sMem 1157 (by decide +kernel) rfl
theorem ws_M_lacks : Jvm.Cond.selects "StoryStatesModel" ({ cls := "StoryStatesModel", name := "lacks", desc := "(III)Z" } : Jvm.MethodName) ({ cls := "StoryStatesModel", name := "lacks", desc := "(III)Z" } : Jvm.MethodName) ∈ sTB := sSel 60 ({ cls := "StoryStatesModel", name := "lacks", desc := "(III)Z" } : Jvm.MethodName) (by decide +kernel) rfl
theorem wm_941 : (Jvm.Cond.fieldLink "StoryStatesModel" (50 : Nat) "StoryStatesModel" "conditionKind" "[I") ∈ sTB := sMem 941 (by decide +kernel) rfl
theorem gf_m_M_50_0 : sGf Zm "StoryStatesModel" 50 0 19 (some (some 14)) := ⟨0, 60, _, "StoryStatesModel", T_m0, rfl, rfl, rfl, by decide, Or.inl wm_941, rfl, us_m0⟩
theorem wm_942 : (Jvm.Cond.fieldLink "StoryStatesModel" (53 : Nat) "StoryStatesModel" "conditionX" "[I") ∈ sTB := sMem 942 (by decide +kernel) rfl
theorem gf_m_M_53_0 : sGf Zm "StoryStatesModel" 53 0 20 (some (some 15)) := ⟨0, 60, _, "StoryStatesModel", T_m0, rfl, rfl, rfl, by decide, Or.inl wm_942, rfl, us_m0⟩
theorem wm_943 : (Jvm.Cond.fieldLink "StoryStatesModel" (56 : Nat) "StoryStatesModel" "conditionY" "[I") ∈ sTB := sMem 943 (by decide +kernel) rfl
theorem gf_m_M_56_0 : sGf Zm "StoryStatesModel" 56 0 21 (some (some 16)) := ⟨0, 60, _, "StoryStatesModel", T_m0, rfl, rfl, rfl, by decide, Or.inl wm_943, rfl, us_m0⟩
theorem cw_M_condition_177 : sCw "StoryStatesModel" 134 y_M_renew prog_10_method_8_code 1 none rm_M_renew rm_M_condition 0 := ⟨Or.inl wm_898, wm_7, wm_901, by decide, by decide +kernel, ⟨rfl, rfl⟩, by decide, by decide⟩
theorem cw_M_effect_30 : sCw "StoryStatesModel" 226 y_M_lacks prog_10_method_21_code 4 (some .boolean) rm_M_lacks rm_M_effect 3 := ⟨Or.inl wm_1155, wm_7, wm_1158, by decide, by decide +kernel, ⟨rfl, rfl⟩, by decide, by decide⟩
theorem cw_M_effect_38 : sCw "StoryStatesModel" 223 y_M_noRule prog_10_method_13_code 2 (some .boolean) rm_M_noRule rm_M_effect 1 := ⟨Or.inl wm_1151, wm_7, wm_1154, by decide, by decide +kernel, ⟨rfl, rfl⟩, by decide, by decide⟩
theorem wm_945 : (Jvm.Cond.fieldLink "StoryStatesModel" (62 : Nat) "StoryStatesModel" "effectKind" "[I") ∈ sTB := sMem 945 (by decide +kernel) rfl
theorem gf_m_M_62_0 : sGf Zm "StoryStatesModel" 62 0 23 (some (some 18)) := ⟨0, 60, _, "StoryStatesModel", T_m0, rfl, rfl, rfl, by decide, Or.inl wm_945, rfl, us_m0⟩
theorem wm_946 : (Jvm.Cond.fieldLink "StoryStatesModel" (65 : Nat) "StoryStatesModel" "effectX" "[I") ∈ sTB := sMem 946 (by decide +kernel) rfl
theorem gf_m_M_65_0 : sGf Zm "StoryStatesModel" 65 0 24 (some (some 19)) := ⟨0, 60, _, "StoryStatesModel", T_m0, rfl, rfl, rfl, by decide, Or.inl wm_946, rfl, us_m0⟩
theorem wm_947 : (Jvm.Cond.fieldLink "StoryStatesModel" (68 : Nat) "StoryStatesModel" "effectY" "[I") ∈ sTB := sMem 947 (by decide +kernel) rfl
theorem gf_m_M_68_0 : sGf Zm "StoryStatesModel" 68 0 25 (some (some 20)) := ⟨0, 60, _, "StoryStatesModel", T_m0, rfl, rfl, rfl, by decide, Or.inl wm_947, rfl, us_m0⟩
theorem cw_M_effect_208 : sCw "StoryStatesModel" 134 y_M_renew prog_10_method_8_code 1 none rm_M_renew rm_M_effect 0 := ⟨Or.inl wm_898, wm_7, wm_901, by decide, by decide +kernel, ⟨rfl, rfl⟩, by decide, by decide⟩
theorem gf_m_M_214_0 : sGf Zm "StoryStatesModel" 214 0 26 none := ⟨0, 60, _, "StoryStatesModel", T_m0, rfl, rfl, rfl, by decide, Or.inl wm_948, rfl, us_m0⟩
theorem cw_M_walker_47 : sCw "StoryStatesModel" 205 y_M_noThing prog_10_method_10_code 2 (some .boolean) rm_M_noThing rm_M_walker 1 := ⟨Or.inl wm_1123, wm_7, wm_1126, by decide, by decide +kernel, ⟨rfl, rfl⟩, by decide, by decide⟩
theorem cw_M_walker_55 : sCw "StoryStatesModel" 201 y_M_noRoom prog_10_method_9_code 2 (some .boolean) rm_M_noRoom rm_M_walker 1 := ⟨Or.inl wm_1119, wm_7, wm_1122, by decide, by decide +kernel, ⟨rfl, rfl⟩, by decide, by decide⟩
theorem cw_M_walker_63 : sCw "StoryStatesModel" 201 y_M_noRoom prog_10_method_9_code 2 (some .boolean) rm_M_noRoom rm_M_walker 1 := ⟨Or.inl wm_1119, wm_7, wm_1122, by decide, by decide +kernel, ⟨rfl, rfl⟩, by decide, by decide⟩
theorem cw_M_walker_72 : sCw "StoryStatesModel" 201 y_M_noRoom prog_10_method_9_code 2 (some .boolean) rm_M_noRoom rm_M_walker 1 := ⟨Or.inl wm_1119, wm_7, wm_1122, by decide, by decide +kernel, ⟨rfl, rfl⟩, by decide, by decide⟩
theorem wm_949 : (Jvm.Cond.fieldLink "StoryStatesModel" (71 : Nat) "StoryStatesModel" "walking" "[I") ∈ sTB := sMem 949 (by decide +kernel) rfl
theorem gf_m_M_71_0 : sGf Zm "StoryStatesModel" 71 0 27 (some (some 21)) := ⟨0, 60, _, "StoryStatesModel", T_m0, rfl, rfl, rfl, by decide, Or.inl wm_949, rfl, us_m0⟩
theorem wm_950 : (Jvm.Cond.fieldLink "StoryStatesModel" (74 : Nat) "StoryStatesModel" "route" "[I") ∈ sTB := sMem 950 (by decide +kernel) rfl
theorem gf_m_M_74_0 : sGf Zm "StoryStatesModel" 74 0 28 (some (some 22)) := ⟨0, 60, _, "StoryStatesModel", T_m0, rfl, rfl, rfl, by decide, Or.inl wm_950, rfl, us_m0⟩
theorem cw_M_walker_180 : sCw "StoryStatesModel" 134 y_M_renew prog_10_method_8_code 1 none rm_M_renew rm_M_walker 0 := ⟨Or.inl wm_898, wm_7, wm_901, by decide, by decide +kernel, ⟨rfl, rfl⟩, by decide, by decide⟩
theorem cw_M_timer_3 : sCw "StoryStatesModel" 223 y_M_noRule prog_10_method_13_code 2 (some .boolean) rm_M_noRule rm_M_timer 1 := ⟨Or.inl wm_1151, wm_7, wm_1154, by decide, by decide +kernel, ⟨rfl, rfl⟩, by decide, by decide⟩
theorem wm_952 : (Jvm.Cond.fieldLink "StoryStatesModel" (77 : Nat) "StoryStatesModel" "timerRule" "[I") ∈ sTB := sMem 952 (by decide +kernel) rfl
theorem gf_m_M_77_0 : sGf Zm "StoryStatesModel" 77 0 30 (some (some 23)) := ⟨0, 60, _, "StoryStatesModel", T_m0, rfl, rfl, rfl, by decide, Or.inl wm_952, rfl, us_m0⟩
theorem cw_M_timer_99 : sCw "StoryStatesModel" 134 y_M_renew prog_10_method_8_code 1 none rm_M_renew rm_M_timer 0 := ⟨Or.inl wm_898, wm_7, wm_901, by decide, by decide +kernel, ⟨rfl, rfl⟩, by decide, by decide⟩
theorem wm_1219 : (Jvm.Cond.methodLink "StoryStatesModel" (230 : Nat) ({ cls := "StoryStatesModel", name := "within", desc := "(II)Z" } : Jvm.MethodName)) ∈ sTB := sMem 1219 (by decide +kernel) rfl
theorem wm_1222 : (Jvm.Cond.code ({ cls := "StoryStatesModel", name := "within", desc := "(II)Z" } : Jvm.MethodName) prog_10_method_27_code (4 : Nat) (Option.some Jvm.ClassFile.FieldType.boolean)) ∈ sTB := sMem 1222 (by decide +kernel) rfl
theorem cw_M_change_52 : sCw "StoryStatesModel" 230 y_M_within prog_10_method_27_code 4 (some .boolean) rm_M_within rm_M_change 2 := ⟨Or.inl wm_1219, wm_7, wm_1222, by decide, by decide +kernel, ⟨rfl, rfl⟩, by decide, by decide⟩
theorem wm_1221 : (Jvm.Cond.instanceMethod ({ cls := "StoryStatesModel", name := "within", desc := "(II)Z" } : Jvm.MethodName)) ∈ sTB := sMem 1221 (by decide +kernel) rfl
theorem ws_M_within : Jvm.Cond.selects "StoryStatesModel" ({ cls := "StoryStatesModel", name := "within", desc := "(II)Z" } : Jvm.MethodName) ({ cls := "StoryStatesModel", name := "within", desc := "(II)Z" } : Jvm.MethodName) ∈ sTB := sSel 60 ({ cls := "StoryStatesModel", name := "within", desc := "(II)Z" } : Jvm.MethodName) (by decide +kernel) rfl
theorem wm_962 : (Jvm.Cond.fieldLink "StoryStatesModel" (98 : Nat) "StoryStatesModel" "line" "[I") ∈ sTB := sMem 962 (by decide +kernel) rfl
theorem gf_m_M_98_0 : sGf Zm "StoryStatesModel" 98 0 40 (some (some 30)) := ⟨0, 60, _, "StoryStatesModel", T_m0, rfl, rfl, rfl, by decide, Or.inl wm_962, rfl, us_m0⟩
theorem wm_961 : (Jvm.Cond.fieldLink "StoryStatesModel" (234 : Nat) "StoryStatesModel" "lines" "I") ∈ sTB := sMem 961 (by decide +kernel) rfl
theorem gf_m_M_234_0 : sGf Zm "StoryStatesModel" 234 0 39 none := ⟨0, 60, _, "StoryStatesModel", T_m0, rfl, rfl, rfl, by decide, Or.inl wm_961, rfl, us_m0⟩
theorem pf_m_M_234_0 : sPf Zm "StoryStatesModel" 234 0 39 none .int := ⟨0, 60, _, "StoryStatesModel", T_m0, ty_m0, rfl, rfl, rfl, by decide, Or.inl wm_961, rfl, us_m0, tyok_m0, nm_m0, rfl, by decide +kernel⟩
theorem wm_1211 : (Jvm.Cond.methodLink "StoryStatesModel" (237 : Nat) ({ cls := "StoryStatesModel", name := "say", desc := "(I)V" } : Jvm.MethodName)) ∈ sTB := sMem 1211 (by decide +kernel) rfl
theorem wm_1214 : (Jvm.Cond.code ({ cls := "StoryStatesModel", name := "say", desc := "(I)V" } : Jvm.MethodName) prog_10_method_30_code (2 : Nat) (Option.none : Option Jvm.ClassFile.FieldType)) ∈ sTB := sMem 1214 (by decide +kernel) rfl
theorem cw_M_fire_7 : sCw "StoryStatesModel" 237 y_M_say prog_10_method_30_code 2 none rm_M_say rm_M_fire 1 := ⟨Or.inl wm_1211, wm_7, wm_1214, by decide, by decide +kernel, ⟨rfl, rfl⟩, by decide, by decide⟩
theorem wm_1213 : (Jvm.Cond.instanceMethod ({ cls := "StoryStatesModel", name := "say", desc := "(I)V" } : Jvm.MethodName)) ∈ sTB := sMem 1213 (by decide +kernel) rfl
theorem ws_M_say : Jvm.Cond.selects "StoryStatesModel" ({ cls := "StoryStatesModel", name := "say", desc := "(I)V" } : Jvm.MethodName) ({ cls := "StoryStatesModel", name := "say", desc := "(I)V" } : Jvm.MethodName) ∈ sTB := sSel 60 ({ cls := "StoryStatesModel", name := "say", desc := "(I)V" } : Jvm.MethodName) (by decide +kernel) rfl
theorem gf_m_M_191_0 : sGf Zm "StoryStatesModel" 191 0 41 none := ⟨0, 60, _, "StoryStatesModel", T_m0, rfl, rfl, rfl, by decide, Or.inl wm_963, rfl, us_m0⟩
theorem wm_1215 : (Jvm.Cond.methodLink "StoryStatesModel" (241 : Nat) ({ cls := "StoryStatesModel", name := "change", desc := "(III)V" } : Jvm.MethodName)) ∈ sTB := sMem 1215 (by decide +kernel) rfl
theorem wm_1218 : (Jvm.Cond.code ({ cls := "StoryStatesModel", name := "change", desc := "(III)V" } : Jvm.MethodName) prog_10_method_29_code (5 : Nat) (Option.none : Option Jvm.ClassFile.FieldType)) ∈ sTB := sMem 1218 (by decide +kernel) rfl
theorem cw_M_fire_66 : sCw "StoryStatesModel" 241 y_M_change prog_10_method_29_code 5 none rm_M_change rm_M_fire 3 := ⟨Or.inl wm_1215, wm_7, wm_1218, by decide, by decide +kernel, ⟨rfl, rfl⟩, by decide, by decide⟩
theorem wm_1217 : (Jvm.Cond.instanceMethod ({ cls := "StoryStatesModel", name := "change", desc := "(III)V" } : Jvm.MethodName)) ∈ sTB := sMem 1217 (by decide +kernel) rfl
theorem ws_M_change : Jvm.Cond.selects "StoryStatesModel" ({ cls := "StoryStatesModel", name := "change", desc := "(III)V" } : Jvm.MethodName) ({ cls := "StoryStatesModel", name := "change", desc := "(III)V" } : Jvm.MethodName) ∈ sTB := sSel 60 ({ cls := "StoryStatesModel", name := "change", desc := "(III)V" } : Jvm.MethodName) (by decide +kernel) rfl
theorem wm_1199 : (Jvm.Cond.methodLink "StoryStatesModel" (245 : Nat) ({ cls := "StoryStatesModel", name := "isSeen", desc := "(I)Z" } : Jvm.MethodName)) ∈ sTB := sMem 1199 (by decide +kernel) rfl
theorem wm_1202 : (Jvm.Cond.code ({ cls := "StoryStatesModel", name := "isSeen", desc := "(I)Z" } : Jvm.MethodName) prog_10_method_26_code (3 : Nat) (Option.some Jvm.ClassFile.FieldType.boolean)) ∈ sTB := sMem 1202 (by decide +kernel) rfl
theorem cw_M_fitting_10 : sCw "StoryStatesModel" 245 y_M_isSeen prog_10_method_26_code 3 (some .boolean) rm_M_isSeen rm_M_fitting 1 := ⟨Or.inl wm_1199, wm_7, wm_1202, by decide, by decide +kernel, ⟨rfl, rfl⟩, by decide, by decide⟩
theorem wm_1201 : (Jvm.Cond.instanceMethod ({ cls := "StoryStatesModel", name := "isSeen", desc := "(I)Z" } : Jvm.MethodName)) ∈ sTB := sMem 1201 (by decide +kernel) rfl
theorem ws_M_isSeen : Jvm.Cond.selects "StoryStatesModel" ({ cls := "StoryStatesModel", name := "isSeen", desc := "(I)Z" } : Jvm.MethodName) ({ cls := "StoryStatesModel", name := "isSeen", desc := "(I)Z" } : Jvm.MethodName) ∈ sTB := sSel 60 ({ cls := "StoryStatesModel", name := "isSeen", desc := "(I)Z" } : Jvm.MethodName) (by decide +kernel) rfl
theorem cw_M_fitting_22 : sCw "StoryStatesModel" 245 y_M_isSeen prog_10_method_26_code 3 (some .boolean) rm_M_isSeen rm_M_fitting 1 := ⟨Or.inl wm_1199, wm_7, wm_1202, by decide, by decide +kernel, ⟨rfl, rfl⟩, by decide, by decide⟩
theorem wm_1203 : (Jvm.Cond.methodLink "StoryStatesModel" (248 : Nat) ({ cls := "StoryStatesModel", name := "allSo", desc := "(I)Z" } : Jvm.MethodName)) ∈ sTB := sMem 1203 (by decide +kernel) rfl
theorem wm_1206 : (Jvm.Cond.code ({ cls := "StoryStatesModel", name := "allSo", desc := "(I)Z" } : Jvm.MethodName) prog_10_method_28_code (6 : Nat) (Option.some Jvm.ClassFile.FieldType.boolean)) ∈ sTB := sMem 1206 (by decide +kernel) rfl
theorem cw_M_fitting_124 : sCw "StoryStatesModel" 248 y_M_allSo prog_10_method_28_code 6 (some .boolean) rm_M_allSo rm_M_fitting 1 := ⟨Or.inl wm_1203, wm_7, wm_1206, by decide, by decide +kernel, ⟨rfl, rfl⟩, by decide, by decide⟩
theorem wm_1205 : (Jvm.Cond.instanceMethod ({ cls := "StoryStatesModel", name := "allSo", desc := "(I)Z" } : Jvm.MethodName)) ∈ sTB := sMem 1205 (by decide +kernel) rfl
theorem ws_M_allSo : Jvm.Cond.selects "StoryStatesModel" ({ cls := "StoryStatesModel", name := "allSo", desc := "(I)Z" } : Jvm.MethodName) ({ cls := "StoryStatesModel", name := "allSo", desc := "(I)Z" } : Jvm.MethodName) ∈ sTB := sSel 60 ({ cls := "StoryStatesModel", name := "allSo", desc := "(I)Z" } : Jvm.MethodName) (by decide +kernel) rfl
theorem cw_M_plain_106 : sCw "StoryStatesModel" 245 y_M_isSeen prog_10_method_26_code 3 (some .boolean) rm_M_isSeen rm_M_plain 1 := ⟨Or.inl wm_1199, wm_7, wm_1202, by decide, by decide +kernel, ⟨rfl, rfl⟩, by decide, by decide⟩
theorem cw_M_plain_173 : sCw "StoryStatesModel" 245 y_M_isSeen prog_10_method_26_code 3 (some .boolean) rm_M_isSeen rm_M_plain 1 := ⟨Or.inl wm_1199, wm_7, wm_1202, by decide, by decide +kernel, ⟨rfl, rfl⟩, by decide, by decide⟩
theorem cw_M_plain_244 : sCw "StoryStatesModel" 245 y_M_isSeen prog_10_method_26_code 3 (some .boolean) rm_M_isSeen rm_M_plain 1 := ⟨Or.inl wm_1199, wm_7, wm_1202, by decide, by decide +kernel, ⟨rfl, rfl⟩, by decide, by decide⟩
theorem cw_M_plain_275 : sCw "StoryStatesModel" 230 y_M_within prog_10_method_27_code 4 (some .boolean) rm_M_within rm_M_plain 2 := ⟨Or.inl wm_1219, wm_7, wm_1222, by decide, by decide +kernel, ⟨rfl, rfl⟩, by decide, by decide⟩
theorem wm_1195 : (Jvm.Cond.methodLink "StoryStatesModel" (251 : Nat) ({ cls := "StoryStatesModel", name := "fitting", desc := "(III)I" } : Jvm.MethodName)) ∈ sTB := sMem 1195 (by decide +kernel) rfl
theorem wm_1198 : (Jvm.Cond.code ({ cls := "StoryStatesModel", name := "fitting", desc := "(III)I" } : Jvm.MethodName) prog_10_method_32_code (6 : Nat) (Option.some Jvm.ClassFile.FieldType.int)) ∈ sTB := sMem 1198 (by decide +kernel) rfl
theorem cw_M_turn_9 : sCw "StoryStatesModel" 251 y_M_fitting prog_10_method_32_code 6 (some .int) rm_M_fitting rm_M_turn 3 := ⟨Or.inl wm_1195, wm_7, wm_1198, by decide, by decide +kernel, ⟨rfl, rfl⟩, by decide, by decide⟩
theorem wm_1197 : (Jvm.Cond.instanceMethod ({ cls := "StoryStatesModel", name := "fitting", desc := "(III)I" } : Jvm.MethodName)) ∈ sTB := sMem 1197 (by decide +kernel) rfl
theorem ws_M_fitting : Jvm.Cond.selects "StoryStatesModel" ({ cls := "StoryStatesModel", name := "fitting", desc := "(III)I" } : Jvm.MethodName) ({ cls := "StoryStatesModel", name := "fitting", desc := "(III)I" } : Jvm.MethodName) ∈ sTB := sSel 60 ({ cls := "StoryStatesModel", name := "fitting", desc := "(III)I" } : Jvm.MethodName) (by decide +kernel) rfl
theorem wm_1223 : (Jvm.Cond.methodLink "StoryStatesModel" (258 : Nat) ({ cls := "StoryStatesModel", name := "plain", desc := "(III)Z" } : Jvm.MethodName)) ∈ sTB := sMem 1223 (by decide +kernel) rfl
theorem wm_1226 : (Jvm.Cond.code ({ cls := "StoryStatesModel", name := "plain", desc := "(III)Z" } : Jvm.MethodName) prog_10_method_33_code (5 : Nat) (Option.some Jvm.ClassFile.FieldType.boolean)) ∈ sTB := sMem 1226 (by decide +kernel) rfl
theorem cw_M_turn_32 : sCw "StoryStatesModel" 258 y_M_plain prog_10_method_33_code 5 (some .boolean) rm_M_plain rm_M_turn 3 := ⟨Or.inl wm_1223, wm_7, wm_1226, by decide, by decide +kernel, ⟨rfl, rfl⟩, by decide, by decide⟩
theorem wm_1225 : (Jvm.Cond.instanceMethod ({ cls := "StoryStatesModel", name := "plain", desc := "(III)Z" } : Jvm.MethodName)) ∈ sTB := sMem 1225 (by decide +kernel) rfl
theorem ws_M_plain : Jvm.Cond.selects "StoryStatesModel" ({ cls := "StoryStatesModel", name := "plain", desc := "(III)Z" } : Jvm.MethodName) ({ cls := "StoryStatesModel", name := "plain", desc := "(III)Z" } : Jvm.MethodName) ∈ sTB := sSel 60 ({ cls := "StoryStatesModel", name := "plain", desc := "(III)Z" } : Jvm.MethodName) (by decide +kernel) rfl
theorem wm_1207 : (Jvm.Cond.methodLink "StoryStatesModel" (255 : Nat) ({ cls := "StoryStatesModel", name := "fire", desc := "(I)V" } : Jvm.MethodName)) ∈ sTB := sMem 1207 (by decide +kernel) rfl
theorem wm_1210 : (Jvm.Cond.code ({ cls := "StoryStatesModel", name := "fire", desc := "(I)V" } : Jvm.MethodName) prog_10_method_31_code (3 : Nat) (Option.none : Option Jvm.ClassFile.FieldType)) ∈ sTB := sMem 1210 (by decide +kernel) rfl
theorem cw_M_turn_22 : sCw "StoryStatesModel" 255 y_M_fire prog_10_method_31_code 3 none rm_M_fire rm_M_turn 1 := ⟨Or.inl wm_1207, wm_7, wm_1210, by decide, by decide +kernel, ⟨rfl, rfl⟩, by decide, by decide⟩
theorem wm_1209 : (Jvm.Cond.instanceMethod ({ cls := "StoryStatesModel", name := "fire", desc := "(I)V" } : Jvm.MethodName)) ∈ sTB := sMem 1209 (by decide +kernel) rfl
theorem ws_M_fire : Jvm.Cond.selects "StoryStatesModel" ({ cls := "StoryStatesModel", name := "fire", desc := "(I)V" } : Jvm.MethodName) ({ cls := "StoryStatesModel", name := "fire", desc := "(I)V" } : Jvm.MethodName) ∈ sTB := sSel 60 ({ cls := "StoryStatesModel", name := "fire", desc := "(I)V" } : Jvm.MethodName) (by decide +kernel) rfl
theorem cw_M_turn_52 : sCw "StoryStatesModel" 237 y_M_say prog_10_method_30_code 2 none rm_M_say rm_M_turn 1 := ⟨Or.inl wm_1211, wm_7, wm_1214, by decide, by decide +kernel, ⟨rfl, rfl⟩, by decide, by decide⟩
theorem cw_M_turn_214 : sCw "StoryStatesModel" 248 y_M_allSo prog_10_method_28_code 6 (some .boolean) rm_M_allSo rm_M_turn 1 := ⟨Or.inl wm_1203, wm_7, wm_1206, by decide, by decide +kernel, ⟨rfl, rfl⟩, by decide, by decide⟩
theorem cw_M_turn_228 : sCw "StoryStatesModel" 255 y_M_fire prog_10_method_31_code 3 none rm_M_fire rm_M_turn 1 := ⟨Or.inl wm_1207, wm_7, wm_1210, by decide, by decide +kernel, ⟨rfl, rfl⟩, by decide, by decide⟩
theorem cw_M_isCommand_98 : sCw "StoryStatesModel" 205 y_M_noThing prog_10_method_10_code 2 (some .boolean) rm_M_noThing rm_M_isCommand 1 := ⟨Or.inl wm_1123, wm_7, wm_1126, by decide, by decide +kernel, ⟨rfl, rfl⟩, by decide, by decide⟩
theorem cw_M_isCommand_117 : sCw "StoryStatesModel" 205 y_M_noThing prog_10_method_10_code 2 (some .boolean) rm_M_noThing rm_M_isCommand 1 := ⟨Or.inl wm_1123, wm_7, wm_1126, by decide, by decide +kernel, ⟨rfl, rfl⟩, by decide, by decide⟩
theorem cw_M_isCommand_125 : sCw "StoryStatesModel" 205 y_M_noThing prog_10_method_10_code 2 (some .boolean) rm_M_noThing rm_M_isCommand 1 := ⟨Or.inl wm_1123, wm_7, wm_1126, by decide, by decide +kernel, ⟨rfl, rfl⟩, by decide, by decide⟩
theorem cw_M_isCommand_160 : sCw "StoryStatesModel" 205 y_M_noThing prog_10_method_10_code 2 (some .boolean) rm_M_noThing rm_M_isCommand 1 := ⟨Or.inl wm_1123, wm_7, wm_1126, by decide, by decide +kernel, ⟨rfl, rfl⟩, by decide, by decide⟩
theorem cw_M_isCommand_173 : sCw "StoryStatesModel" 205 y_M_noThing prog_10_method_10_code 2 (some .boolean) rm_M_noThing rm_M_isCommand 1 := ⟨Or.inl wm_1123, wm_7, wm_1126, by decide, by decide +kernel, ⟨rfl, rfl⟩, by decide, by decide⟩
theorem cw_M_begin_24 : sCw "StoryStatesModel" 178 y_M_restart prog_10_method_7_code 1 none rm_M_restart rm_M_begin 0 := ⟨Or.inl wm_902, wm_7, wm_905, by decide, by decide +kernel, ⟨rfl, rfl⟩, by decide, by decide⟩
theorem wm_1183 : (Jvm.Cond.methodLink "StoryStatesModel" (261 : Nat) ({ cls := "StoryStatesModel", name := "isCommand", desc := "(III)Z" } : Jvm.MethodName)) ∈ sTB := sMem 1183 (by decide +kernel) rfl
theorem wm_1186 : (Jvm.Cond.code ({ cls := "StoryStatesModel", name := "isCommand", desc := "(III)Z" } : Jvm.MethodName) prog_10_method_35_code (6 : Nat) (Option.some Jvm.ClassFile.FieldType.boolean)) ∈ sTB := sMem 1186 (by decide +kernel) rfl
theorem cw_M_command_5 : sCw "StoryStatesModel" 261 y_M_isCommand prog_10_method_35_code 6 (some .boolean) rm_M_isCommand rm_M_command 3 := ⟨Or.inl wm_1183, wm_7, wm_1186, by decide, by decide +kernel, ⟨rfl, rfl⟩, by decide, by decide⟩
theorem wm_1185 : (Jvm.Cond.instanceMethod ({ cls := "StoryStatesModel", name := "isCommand", desc := "(III)Z" } : Jvm.MethodName)) ∈ sTB := sMem 1185 (by decide +kernel) rfl
theorem ws_M_isCommand : Jvm.Cond.selects "StoryStatesModel" ({ cls := "StoryStatesModel", name := "isCommand", desc := "(III)Z" } : Jvm.MethodName) ({ cls := "StoryStatesModel", name := "isCommand", desc := "(III)Z" } : Jvm.MethodName) ∈ sTB := sSel 60 ({ cls := "StoryStatesModel", name := "isCommand", desc := "(III)Z" } : Jvm.MethodName) (by decide +kernel) rfl
theorem gf_m_M_172_0 : sGf Zm "StoryStatesModel" 172 0 44 none := ⟨0, 60, _, "StoryStatesModel", T_m0, rfl, rfl, rfl, by decide, Or.inl wm_966, rfl, us_m0⟩
theorem wm_967 : (Jvm.Cond.fieldLink "StoryStatesModel" (101 : Nat) "StoryStatesModel" "pastA" "[I") ∈ sTB := sMem 967 (by decide +kernel) rfl
theorem gf_m_M_101_0 : sGf Zm "StoryStatesModel" 101 0 45 (some (some 31)) := ⟨0, 60, _, "StoryStatesModel", T_m0, rfl, rfl, rfl, by decide, Or.inl wm_967, rfl, us_m0⟩
theorem wm_968 : (Jvm.Cond.fieldLink "StoryStatesModel" (104 : Nat) "StoryStatesModel" "pastB" "[I") ∈ sTB := sMem 968 (by decide +kernel) rfl
theorem gf_m_M_104_0 : sGf Zm "StoryStatesModel" 104 0 46 (some (some 32)) := ⟨0, 60, _, "StoryStatesModel", T_m0, rfl, rfl, rfl, by decide, Or.inl wm_968, rfl, us_m0⟩
theorem wm_1187 : (Jvm.Cond.methodLink "StoryStatesModel" (264 : Nat) ({ cls := "StoryStatesModel", name := "lay", desc := "(II)V" } : Jvm.MethodName)) ∈ sTB := sMem 1187 (by decide +kernel) rfl
theorem wm_1190 : (Jvm.Cond.code ({ cls := "StoryStatesModel", name := "lay", desc := "(II)V" } : Jvm.MethodName) prog_10_method_5_code (5 : Nat) (Option.none : Option Jvm.ClassFile.FieldType)) ∈ sTB := sMem 1190 (by decide +kernel) rfl
theorem cw_M_command_111 : sCw "StoryStatesModel" 264 y_M_lay prog_10_method_5_code 5 none rm_M_lay rm_M_command 2 := ⟨Or.inl wm_1187, wm_7, wm_1190, by decide, by decide +kernel, ⟨rfl, rfl⟩, by decide, by decide⟩
theorem wm_1189 : (Jvm.Cond.instanceMethod ({ cls := "StoryStatesModel", name := "lay", desc := "(II)V" } : Jvm.MethodName)) ∈ sTB := sMem 1189 (by decide +kernel) rfl
theorem ws_M_lay : Jvm.Cond.selects "StoryStatesModel" ({ cls := "StoryStatesModel", name := "lay", desc := "(II)V" } : Jvm.MethodName) ({ cls := "StoryStatesModel", name := "lay", desc := "(II)V" } : Jvm.MethodName) ∈ sTB := sSel 60 ({ cls := "StoryStatesModel", name := "lay", desc := "(II)V" } : Jvm.MethodName) (by decide +kernel) rfl
theorem wm_1191 : (Jvm.Cond.methodLink "StoryStatesModel" (268 : Nat) ({ cls := "StoryStatesModel", name := "turn", desc := "(III)V" } : Jvm.MethodName)) ∈ sTB := sMem 1191 (by decide +kernel) rfl
theorem wm_1194 : (Jvm.Cond.code ({ cls := "StoryStatesModel", name := "turn", desc := "(III)V" } : Jvm.MethodName) prog_10_method_34_code (7 : Nat) (Option.none : Option Jvm.ClassFile.FieldType)) ∈ sTB := sMem 1194 (by decide +kernel) rfl
theorem cw_M_command_118 : sCw "StoryStatesModel" 268 y_M_turn prog_10_method_34_code 7 none rm_M_turn rm_M_command 3 := ⟨Or.inl wm_1191, wm_7, wm_1194, by decide, by decide +kernel, ⟨rfl, rfl⟩, by decide, by decide⟩
theorem wm_1193 : (Jvm.Cond.instanceMethod ({ cls := "StoryStatesModel", name := "turn", desc := "(III)V" } : Jvm.MethodName)) ∈ sTB := sMem 1193 (by decide +kernel) rfl
theorem ws_M_turn : Jvm.Cond.selects "StoryStatesModel" ({ cls := "StoryStatesModel", name := "turn", desc := "(III)V" } : Jvm.MethodName) ({ cls := "StoryStatesModel", name := "turn", desc := "(III)V" } : Jvm.MethodName) ∈ sTB := sSel 60 ({ cls := "StoryStatesModel", name := "turn", desc := "(III)V" } : Jvm.MethodName) (by decide +kernel) rfl
theorem cw_M_command_129 : sCw "StoryStatesModel" 159 y_M_packA prog_10_method_3_code 3 (some .int) rm_M_packA rm_M_command 0 := ⟨Or.inl wm_910, wm_7, wm_913, by decide, by decide +kernel, ⟨rfl, rfl⟩, by decide, by decide⟩
theorem cw_M_command_137 : sCw "StoryStatesModel" 166 y_M_packB prog_10_method_4_code 3 (some .int) rm_M_packB rm_M_command 0 := ⟨Or.inl wm_914, wm_7, wm_917, by decide, by decide +kernel, ⟨rfl, rfl⟩, by decide, by decide⟩
theorem gf_m_M_175_0 : sGf Zm "StoryStatesModel" 175 0 47 none := ⟨0, 60, _, "StoryStatesModel", T_m0, rfl, rfl, rfl, by decide, Or.inl wm_969, rfl, us_m0⟩
theorem wm_970 : (Jvm.Cond.fieldLink "StoryStatesModel" (107 : Nat) "StoryStatesModel" "speech" "[I") ∈ sTB := sMem 970 (by decide +kernel) rfl
theorem gf_m_M_107_0 : sGf Zm "StoryStatesModel" 107 0 48 (some (some 33)) := ⟨0, 60, _, "StoryStatesModel", T_m0, rfl, rfl, rfl, by decide, Or.inl wm_970, rfl, us_m0⟩
theorem cw_M_state_18 : sCw "StoryStatesModel" 205 y_M_noThing prog_10_method_10_code 2 (some .boolean) rm_M_noThing rm_M_state 1 := ⟨Or.inl wm_1123, wm_7, wm_1126, by decide, by decide +kernel, ⟨rfl, rfl⟩, by decide, by decide⟩
theorem cw_M_state_31 : sCw "StoryStatesModel" 220 y_M_noNumber prog_10_method_12_code 2 (some .boolean) rm_M_noNumber rm_M_state 1 := ⟨Or.inl wm_1159, wm_7, wm_1162, by decide, by decide +kernel, ⟨rfl, rfl⟩, by decide, by decide⟩
theorem cw_M_state_135 : sCw "StoryStatesModel" 264 y_M_lay prog_10_method_5_code 5 none rm_M_lay rm_M_state 2 := ⟨Or.inl wm_1187, wm_7, wm_1190, by decide, by decide +kernel, ⟨rfl, rfl⟩, by decide, by decide⟩
theorem cw_M_state_232 : sCw "StoryStatesModel" 245 y_M_isSeen prog_10_method_26_code 3 (some .boolean) rm_M_isSeen rm_M_state 1 := ⟨Or.inl wm_1199, wm_7, wm_1202, by decide, by decide +kernel, ⟨rfl, rfl⟩, by decide, by decide⟩
theorem gf_m_M_184_0 : sGf Zm "StoryStatesModel" 184 0 50 none := ⟨0, 60, _, "StoryStatesModel", T_m0, rfl, rfl, rfl, by decide, Or.inl wm_972, rfl, us_m0⟩
theorem cw_M_tryOne_19 : sCw "StoryStatesModel" 264 y_M_lay prog_10_method_5_code 5 none rm_M_lay rm_M_tryOne 2 := ⟨Or.inl wm_1187, wm_7, wm_1190, by decide, by decide +kernel, ⟨rfl, rfl⟩, by decide, by decide⟩
theorem cw_M_tryOne_26 : sCw "StoryStatesModel" 268 y_M_turn prog_10_method_34_code 7 none rm_M_turn rm_M_tryOne 3 := ⟨Or.inl wm_1191, wm_7, wm_1194, by decide, by decide +kernel, ⟨rfl, rfl⟩, by decide, by decide⟩
theorem cw_M_tryOne_30 : sCw "StoryStatesModel" 159 y_M_packA prog_10_method_3_code 3 (some .int) rm_M_packA rm_M_tryOne 0 := ⟨Or.inl wm_910, wm_7, wm_913, by decide, by decide +kernel, ⟨rfl, rfl⟩, by decide, by decide⟩
theorem cw_M_tryOne_36 : sCw "StoryStatesModel" 166 y_M_packB prog_10_method_4_code 3 (some .int) rm_M_packB rm_M_tryOne 0 := ⟨Or.inl wm_914, wm_7, wm_917, by decide, by decide +kernel, ⟨rfl, rfl⟩, by decide, by decide⟩
theorem wm_1251 : (Jvm.Cond.methodLink "StoryStatesModel" (271 : Nat) ({ cls := "StoryStatesModel", name := "search", desc := "(II)I" } : Jvm.MethodName)) ∈ sTB := sMem 1251 (by decide +kernel) rfl
theorem wm_1254 : (Jvm.Cond.code ({ cls := "StoryStatesModel", name := "search", desc := "(II)I" } : Jvm.MethodName) prog_10_method_41_code (4 : Nat) (Option.some Jvm.ClassFile.FieldType.int)) ∈ sTB := sMem 1254 (by decide +kernel) rfl
theorem cw_M_tryOne_46 : sCw "StoryStatesModel" 271 y_M_search prog_10_method_41_code 4 (some .int) rm_M_search rm_M_tryOne 2 := ⟨Or.inl wm_1251, wm_7, wm_1254, by decide, by decide +kernel, ⟨rfl, rfl⟩, by decide, by decide⟩
theorem wm_1253 : (Jvm.Cond.instanceMethod ({ cls := "StoryStatesModel", name := "search", desc := "(II)I" } : Jvm.MethodName)) ∈ sTB := sMem 1253 (by decide +kernel) rfl
theorem ws_M_search : Jvm.Cond.selects "StoryStatesModel" ({ cls := "StoryStatesModel", name := "search", desc := "(II)I" } : Jvm.MethodName) ({ cls := "StoryStatesModel", name := "search", desc := "(II)I" } : Jvm.MethodName) ∈ sTB := sSel 60 ({ cls := "StoryStatesModel", name := "search", desc := "(II)I" } : Jvm.MethodName) (by decide +kernel) rfl
theorem cw_M_tryOne_95 : sCw "StoryStatesModel" 194 y_M_insert prog_10_method_42_code 8 none rm_M_insert rm_M_tryOne 6 := ⟨Or.inl wm_918, wm_7, wm_921, by decide, by decide +kernel, ⟨rfl, rfl⟩, by decide, by decide⟩
theorem gf_m_M_187_0 : sGf Zm "StoryStatesModel" 187 0 51 none := ⟨0, 60, _, "StoryStatesModel", T_m0, rfl, rfl, rfl, by decide, Or.inl wm_973, rfl, us_m0⟩
theorem cw_M_tryAll_35 : sCw "StoryStatesModel" 261 y_M_isCommand prog_10_method_35_code 6 (some .boolean) rm_M_isCommand rm_M_tryAll 3 := ⟨Or.inl wm_1183, wm_7, wm_1186, by decide, by decide +kernel, ⟨rfl, rfl⟩, by decide, by decide⟩
theorem wm_1247 : (Jvm.Cond.methodLink "StoryStatesModel" (275 : Nat) ({ cls := "StoryStatesModel", name := "tryOne", desc := "(III)V" } : Jvm.MethodName)) ∈ sTB := sMem 1247 (by decide +kernel) rfl
theorem wm_1250 : (Jvm.Cond.code ({ cls := "StoryStatesModel", name := "tryOne", desc := "(III)V" } : Jvm.MethodName) prog_10_method_43_code (7 : Nat) (Option.none : Option Jvm.ClassFile.FieldType)) ∈ sTB := sMem 1250 (by decide +kernel) rfl
theorem cw_M_tryAll_45 : sCw "StoryStatesModel" 275 y_M_tryOne prog_10_method_43_code 7 none rm_M_tryOne rm_M_tryAll 3 := ⟨Or.inl wm_1247, wm_7, wm_1250, by decide, by decide +kernel, ⟨rfl, rfl⟩, by decide, by decide⟩
theorem wm_1249 : (Jvm.Cond.instanceMethod ({ cls := "StoryStatesModel", name := "tryOne", desc := "(III)V" } : Jvm.MethodName)) ∈ sTB := sMem 1249 (by decide +kernel) rfl
theorem ws_M_tryOne : Jvm.Cond.selects "StoryStatesModel" ({ cls := "StoryStatesModel", name := "tryOne", desc := "(III)V" } : Jvm.MethodName) ({ cls := "StoryStatesModel", name := "tryOne", desc := "(III)V" } : Jvm.MethodName) ∈ sTB := sSel 60 ({ cls := "StoryStatesModel", name := "tryOne", desc := "(III)V" } : Jvm.MethodName) (by decide +kernel) rfl
theorem wm_1243 : (Jvm.Cond.methodLink "StoryStatesModel" (278 : Nat) ({ cls := "StoryStatesModel", name := "tryAll", desc := "()V" } : Jvm.MethodName)) ∈ sTB := sMem 1243 (by decide +kernel) rfl
theorem wm_1246 : (Jvm.Cond.code ({ cls := "StoryStatesModel", name := "tryAll", desc := "()V" } : Jvm.MethodName) prog_10_method_44_code (4 : Nat) (Option.none : Option Jvm.ClassFile.FieldType)) ∈ sTB := sMem 1246 (by decide +kernel) rfl
theorem cw_M_explore_81 : sCw "StoryStatesModel" 278 y_M_tryAll prog_10_method_44_code 4 none rm_M_tryAll rm_M_explore 0 := ⟨Or.inl wm_1243, wm_7, wm_1246, by decide, by decide +kernel, ⟨rfl, rfl⟩, by decide, by decide⟩
theorem wm_1245 : (Jvm.Cond.instanceMethod ({ cls := "StoryStatesModel", name := "tryAll", desc := "()V" } : Jvm.MethodName)) ∈ sTB := sMem 1245 (by decide +kernel) rfl
theorem ws_M_tryAll : Jvm.Cond.selects "StoryStatesModel" ({ cls := "StoryStatesModel", name := "tryAll", desc := "()V" } : Jvm.MethodName) ({ cls := "StoryStatesModel", name := "tryAll", desc := "()V" } : Jvm.MethodName) ∈ sTB := sSel 60 ({ cls := "StoryStatesModel", name := "tryAll", desc := "()V" } : Jvm.MethodName) (by decide +kernel) rfl
theorem wm_1259 : (Jvm.Cond.methodLink "StoryStatesModel" (281 : Nat) ({ cls := "StoryStatesModel", name := "firstOver", desc := "(I)I" } : Jvm.MethodName)) ∈ sTB := sMem 1259 (by decide +kernel) rfl
theorem wm_1262 : (Jvm.Cond.code ({ cls := "StoryStatesModel", name := "firstOver", desc := "(I)I" } : Jvm.MethodName) prog_10_method_47_code (3 : Nat) (Option.some Jvm.ClassFile.FieldType.int)) ∈ sTB := sMem 1262 (by decide +kernel) rfl
theorem cw_M_reach_43 : sCw "StoryStatesModel" 281 y_M_firstOver prog_10_method_47_code 3 (some .int) rm_M_firstOver rm_M_reach 1 := ⟨Or.inl wm_1259, wm_7, wm_1262, by decide, by decide +kernel, ⟨rfl, rfl⟩, by decide, by decide⟩
theorem wm_1261 : (Jvm.Cond.instanceMethod ({ cls := "StoryStatesModel", name := "firstOver", desc := "(I)I" } : Jvm.MethodName)) ∈ sTB := sMem 1261 (by decide +kernel) rfl
theorem ws_M_firstOver : Jvm.Cond.selects "StoryStatesModel" ({ cls := "StoryStatesModel", name := "firstOver", desc := "(I)I" } : Jvm.MethodName) ({ cls := "StoryStatesModel", name := "firstOver", desc := "(I)I" } : Jvm.MethodName) ∈ sTB := sSel 60 ({ cls := "StoryStatesModel", name := "firstOver", desc := "(I)I" } : Jvm.MethodName) (by decide +kernel) rfl
theorem wm_1267 : (Jvm.Cond.methodLink "StoryStatesModel" (288 : Nat) ({ cls := "StoryStatesModel", name := "finished", desc := "()Z" } : Jvm.MethodName)) ∈ sTB := sMem 1267 (by decide +kernel) rfl
theorem wm_1270 : (Jvm.Cond.code ({ cls := "StoryStatesModel", name := "finished", desc := "()Z" } : Jvm.MethodName) prog_10_method_45_code (1 : Nat) (Option.some Jvm.ClassFile.FieldType.boolean)) ∈ sTB := sMem 1270 (by decide +kernel) rfl
theorem cw_M_reach_74 : sCw "StoryStatesModel" 288 y_M_finished prog_10_method_45_code 1 (some .boolean) rm_M_finished rm_M_reach 0 := ⟨Or.inl wm_1267, wm_7, wm_1270, by decide, by decide +kernel, ⟨rfl, rfl⟩, by decide, by decide⟩
theorem wm_1269 : (Jvm.Cond.instanceMethod ({ cls := "StoryStatesModel", name := "finished", desc := "()Z" } : Jvm.MethodName)) ∈ sTB := sMem 1269 (by decide +kernel) rfl
theorem ws_M_finished : Jvm.Cond.selects "StoryStatesModel" ({ cls := "StoryStatesModel", name := "finished", desc := "()Z" } : Jvm.MethodName) ({ cls := "StoryStatesModel", name := "finished", desc := "()Z" } : Jvm.MethodName) ∈ sTB := sSel 60 ({ cls := "StoryStatesModel", name := "finished", desc := "()Z" } : Jvm.MethodName) (by decide +kernel) rfl
theorem wm_1263 : (Jvm.Cond.methodLink "StoryStatesModel" (285 : Nat) ({ cls := "StoryStatesModel", name := "depth", desc := "(I)I" } : Jvm.MethodName)) ∈ sTB := sMem 1263 (by decide +kernel) rfl
theorem wm_1266 : (Jvm.Cond.code ({ cls := "StoryStatesModel", name := "depth", desc := "(I)I" } : Jvm.MethodName) prog_10_method_48_code (4 : Nat) (Option.some Jvm.ClassFile.FieldType.int)) ∈ sTB := sMem 1266 (by decide +kernel) rfl
theorem cw_M_reach_61 : sCw "StoryStatesModel" 285 y_M_depth prog_10_method_48_code 4 (some .int) rm_M_depth rm_M_reach 1 := ⟨Or.inl wm_1263, wm_7, wm_1266, by decide, by decide +kernel, ⟨rfl, rfl⟩, by decide, by decide⟩
theorem wm_1265 : (Jvm.Cond.instanceMethod ({ cls := "StoryStatesModel", name := "depth", desc := "(I)I" } : Jvm.MethodName)) ∈ sTB := sMem 1265 (by decide +kernel) rfl
theorem ws_M_depth : Jvm.Cond.selects "StoryStatesModel" ({ cls := "StoryStatesModel", name := "depth", desc := "(I)I" } : Jvm.MethodName) ({ cls := "StoryStatesModel", name := "depth", desc := "(I)I" } : Jvm.MethodName) ∈ sTB := sSel 60 ({ cls := "StoryStatesModel", name := "depth", desc := "(I)I" } : Jvm.MethodName) (by decide +kernel) rfl
theorem cw_M_way_43 : sCw "StoryStatesModel" 281 y_M_firstOver prog_10_method_47_code 3 (some .int) rm_M_firstOver rm_M_way 1 := ⟨Or.inl wm_1259, wm_7, wm_1262, by decide, by decide +kernel, ⟨rfl, rfl⟩, by decide, by decide⟩
theorem cw_M_way_61 : sCw "StoryStatesModel" 285 y_M_depth prog_10_method_48_code 4 (some .int) rm_M_depth rm_M_way 1 := ⟨Or.inl wm_1263, wm_7, wm_1266, by decide, by decide +kernel, ⟨rfl, rfl⟩, by decide, by decide⟩
theorem cw_M_way_81 : sCw "StoryStatesModel" 285 y_M_depth prog_10_method_48_code 4 (some .int) rm_M_depth rm_M_way 1 := ⟨Or.inl wm_1263, wm_7, wm_1266, by decide, by decide +kernel, ⟨rfl, rfl⟩, by decide, by decide⟩
theorem wm_981 : (Jvm.Cond.fieldLink "StoryStatesModel" (131 : Nat) "StoryStatesModel" "hope" "[Z") ∈ sTB := sMem 981 (by decide +kernel) rfl
theorem gf_m_M_131_0 : sGf Zm "StoryStatesModel" 131 0 59 (some (some 41)) := ⟨0, 60, _, "StoryStatesModel", T_m0, rfl, rfl, rfl, by decide, Or.inl wm_981, rfl, us_m0⟩
theorem wm_1283 : (Jvm.Cond.methodLink "StoryStatesModel" (292 : Nat) ({ cls := "StoryStatesModel", name := "isFollowed", desc := "(II)Z" } : Jvm.MethodName)) ∈ sTB := sMem 1283 (by decide +kernel) rfl
theorem wm_1286 : (Jvm.Cond.code ({ cls := "StoryStatesModel", name := "isFollowed", desc := "(II)Z" } : Jvm.MethodName) prog_10_method_51_code (3 : Nat) (Option.some Jvm.ClassFile.FieldType.boolean)) ∈ sTB := sMem 1286 (by decide +kernel) rfl
theorem cw_M_judge_120 : sCw "StoryStatesModel" 292 y_M_isFollowed prog_10_method_51_code 3 (some .boolean) rm_M_isFollowed rm_M_judge 2 := ⟨Or.inl wm_1283, wm_7, wm_1286, by decide, by decide +kernel, ⟨rfl, rfl⟩, by decide, by decide⟩
theorem wm_1285 : (Jvm.Cond.instanceMethod ({ cls := "StoryStatesModel", name := "isFollowed", desc := "(II)Z" } : Jvm.MethodName)) ∈ sTB := sMem 1285 (by decide +kernel) rfl
theorem ws_M_isFollowed : Jvm.Cond.selects "StoryStatesModel" ({ cls := "StoryStatesModel", name := "isFollowed", desc := "(II)Z" } : Jvm.MethodName) ({ cls := "StoryStatesModel", name := "isFollowed", desc := "(II)Z" } : Jvm.MethodName) ∈ sTB := sSel 60 ({ cls := "StoryStatesModel", name := "isFollowed", desc := "(II)Z" } : Jvm.MethodName) (by decide +kernel) rfl
theorem cw_M_blamed_28 : sCw "StoryStatesModel" 271 y_M_search prog_10_method_41_code 4 (some .int) rm_M_search rm_M_blamed 2 := ⟨Or.inl wm_1251, wm_7, wm_1254, by decide, by decide +kernel, ⟨rfl, rfl⟩, by decide, by decide⟩
theorem cw_M_stuck_56 : sCw "StoryStatesModel" 292 y_M_isFollowed prog_10_method_51_code 3 (some .boolean) rm_M_isFollowed rm_M_stuck 2 := ⟨Or.inl wm_1283, wm_7, wm_1286, by decide, by decide +kernel, ⟨rfl, rfl⟩, by decide, by decide⟩
theorem cw_M_study_48 : sCw "StoryStatesModel" 288 y_M_finished prog_10_method_45_code 1 (some .boolean) rm_M_finished rm_M_study 0 := ⟨Or.inl wm_1267, wm_7, wm_1270, by decide, by decide +kernel, ⟨rfl, rfl⟩, by decide, by decide⟩
theorem wm_1291 : (Jvm.Cond.methodLink "StoryStatesModel" (301 : Nat) ({ cls := "StoryStatesModel", name := "judge", desc := "()V" } : Jvm.MethodName)) ∈ sTB := sMem 1291 (by decide +kernel) rfl
theorem wm_1294 : (Jvm.Cond.code ({ cls := "StoryStatesModel", name := "judge", desc := "()V" } : Jvm.MethodName) prog_10_method_52_code (5 : Nat) (Option.none : Option Jvm.ClassFile.FieldType)) ∈ sTB := sMem 1294 (by decide +kernel) rfl
theorem cw_M_study_87 : sCw "StoryStatesModel" 301 y_M_judge prog_10_method_52_code 5 none rm_M_judge rm_M_study 0 := ⟨Or.inl wm_1291, wm_7, wm_1294, by decide, by decide +kernel, ⟨rfl, rfl⟩, by decide, by decide⟩
theorem wm_1293 : (Jvm.Cond.instanceMethod ({ cls := "StoryStatesModel", name := "judge", desc := "()V" } : Jvm.MethodName)) ∈ sTB := sMem 1293 (by decide +kernel) rfl
theorem ws_M_judge : Jvm.Cond.selects "StoryStatesModel" ({ cls := "StoryStatesModel", name := "judge", desc := "()V" } : Jvm.MethodName) ({ cls := "StoryStatesModel", name := "judge", desc := "()V" } : Jvm.MethodName) ∈ sTB := sSel 60 ({ cls := "StoryStatesModel", name := "judge", desc := "()V" } : Jvm.MethodName) (by decide +kernel) rfl
theorem cw_M_study_103 : sCw "StoryStatesModel" 271 y_M_search prog_10_method_41_code 4 (some .int) rm_M_search rm_M_study 2 := ⟨Or.inl wm_1251, wm_7, wm_1254, by decide, by decide +kernel, ⟨rfl, rfl⟩, by decide, by decide⟩
theorem wm_1287 : (Jvm.Cond.methodLink "StoryStatesModel" (298 : Nat) ({ cls := "StoryStatesModel", name := "unused", desc := "(I)I" } : Jvm.MethodName)) ∈ sTB := sMem 1287 (by decide +kernel) rfl
theorem wm_1290 : (Jvm.Cond.code ({ cls := "StoryStatesModel", name := "unused", desc := "(I)I" } : Jvm.MethodName) prog_10_method_55_code (4 : Nat) (Option.some Jvm.ClassFile.FieldType.int)) ∈ sTB := sMem 1290 (by decide +kernel) rfl
theorem cw_M_study_82 : sCw "StoryStatesModel" 298 y_M_unused prog_10_method_55_code 4 (some .int) rm_M_unused rm_M_study 1 := ⟨Or.inl wm_1287, wm_7, wm_1290, by decide, by decide +kernel, ⟨rfl, rfl⟩, by decide, by decide⟩
theorem wm_1289 : (Jvm.Cond.instanceMethod ({ cls := "StoryStatesModel", name := "unused", desc := "(I)I" } : Jvm.MethodName)) ∈ sTB := sMem 1289 (by decide +kernel) rfl
theorem ws_M_unused : Jvm.Cond.selects "StoryStatesModel" ({ cls := "StoryStatesModel", name := "unused", desc := "(I)I" } : Jvm.MethodName) ({ cls := "StoryStatesModel", name := "unused", desc := "(I)I" } : Jvm.MethodName) ∈ sTB := sSel 60 ({ cls := "StoryStatesModel", name := "unused", desc := "(I)I" } : Jvm.MethodName) (by decide +kernel) rfl
theorem wm_1279 : (Jvm.Cond.methodLink "StoryStatesModel" (295 : Nat) ({ cls := "StoryStatesModel", name := "stuck", desc := "()I" } : Jvm.MethodName)) ∈ sTB := sMem 1279 (by decide +kernel) rfl
theorem wm_1282 : (Jvm.Cond.code ({ cls := "StoryStatesModel", name := "stuck", desc := "()I" } : Jvm.MethodName) prog_10_method_54_code (5 : Nat) (Option.some Jvm.ClassFile.FieldType.int)) ∈ sTB := sMem 1282 (by decide +kernel) rfl
theorem cw_M_study_71 : sCw "StoryStatesModel" 295 y_M_stuck prog_10_method_54_code 5 (some .int) rm_M_stuck rm_M_study 0 := ⟨Or.inl wm_1279, wm_7, wm_1282, by decide, by decide +kernel, ⟨rfl, rfl⟩, by decide, by decide⟩
theorem wm_1281 : (Jvm.Cond.instanceMethod ({ cls := "StoryStatesModel", name := "stuck", desc := "()I" } : Jvm.MethodName)) ∈ sTB := sMem 1281 (by decide +kernel) rfl
theorem ws_M_stuck : Jvm.Cond.selects "StoryStatesModel" ({ cls := "StoryStatesModel", name := "stuck", desc := "()I" } : Jvm.MethodName) ({ cls := "StoryStatesModel", name := "stuck", desc := "()I" } : Jvm.MethodName) ∈ sTB := sSel 60 ({ cls := "StoryStatesModel", name := "stuck", desc := "()I" } : Jvm.MethodName) (by decide +kernel) rfl
theorem wm_1295 : (Jvm.Cond.methodLink "StoryStatesModel" (304 : Nat) ({ cls := "StoryStatesModel", name := "blamed", desc := "()I" } : Jvm.MethodName)) ∈ sTB := sMem 1295 (by decide +kernel) rfl
theorem wm_1298 : (Jvm.Cond.code ({ cls := "StoryStatesModel", name := "blamed", desc := "()I" } : Jvm.MethodName) prog_10_method_53_code (2 : Nat) (Option.some Jvm.ClassFile.FieldType.int)) ∈ sTB := sMem 1298 (by decide +kernel) rfl
theorem cw_M_study_138 : sCw "StoryStatesModel" 304 y_M_blamed prog_10_method_53_code 2 (some .int) rm_M_blamed rm_M_study 0 := ⟨Or.inl wm_1295, wm_7, wm_1298, by decide, by decide +kernel, ⟨rfl, rfl⟩, by decide, by decide⟩
theorem wm_1297 : (Jvm.Cond.instanceMethod ({ cls := "StoryStatesModel", name := "blamed", desc := "()I" } : Jvm.MethodName)) ∈ sTB := sMem 1297 (by decide +kernel) rfl
theorem ws_M_blamed : Jvm.Cond.selects "StoryStatesModel" ({ cls := "StoryStatesModel", name := "blamed", desc := "()I" } : Jvm.MethodName) ({ cls := "StoryStatesModel", name := "blamed", desc := "()I" } : Jvm.MethodName) ∈ sTB := sSel 60 ({ cls := "StoryStatesModel", name := "blamed", desc := "()I" } : Jvm.MethodName) (by decide +kernel) rfl
