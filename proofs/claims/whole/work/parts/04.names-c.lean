theorem bc_m2 : (Int8.ofInt (-2)).toInt32 = (-2) := by decide
theorem bc_m7 : (Int8.ofInt (-7)).toInt32 = (-7) := by decide
theorem bc_100 : (Int8.ofInt 100).toInt32 = 100 := by decide
theorem bc_12 : (Int8.ofInt 12).toInt32 = 12 := by decide
theorem bc_15 : (Int8.ofInt 15).toInt32 = 15 := by decide
theorem bc_27 : (Int8.ofInt 27).toInt32 = 27 := by decide
theorem bc_33 : (Int8.ofInt 33).toInt32 = 33 := by decide
theorem bc_42 : (Int8.ofInt 42).toInt32 = 42 := by decide
theorem bc_46 : (Int8.ofInt 46).toInt32 = 46 := by decide
theorem bc_54 : (Int8.ofInt 54).toInt32 = 54 := by decide
theorem bc_55 : (Int8.ofInt 55).toInt32 = 55 := by decide
theorem bc_6 : (Int8.ofInt 6).toInt32 = 6 := by decide
theorem bc_60 : (Int8.ofInt 60).toInt32 = 60 := by decide
theorem bc_64 : (Int8.ofInt 64).toInt32 = 64 := by decide
theorem bc_7 : (Int8.ofInt 7).toInt32 = 7 := by decide
theorem bc_8 : (Int8.ofInt 8).toInt32 = 8 := by decide
theorem bc_98 : (Int8.ofInt 98).toInt32 = 98 := by decide
theorem bc_99 : (Int8.ofInt 99).toInt32 = 99 := by decide
theorem ic_m1 : Int32.ofInt (-1) = (-1) := by decide
theorem ic_0 : Int32.ofInt 0 = 0 := by decide
theorem ic_1 : Int32.ofInt 1 = 1 := by decide
theorem ic_2 : Int32.ofInt 2 = 2 := by decide
theorem ic_3 : Int32.ofInt 3 = 3 := by decide
theorem ic_4 : Int32.ofInt 4 = 4 := by decide
theorem ic_5 : Int32.ofInt 5 = 5 := by decide
theorem lc_0 : Int64.ofNat ((0 : Fin 2) : Nat) = 0 := by decide
theorem lc_1 : Int64.ofNat ((1 : Fin 2) : Nat) = 1 := by decide
theorem nc_3 : Int32.ofNat 3 = 3 := by decide
theorem nc_512 : Int32.ofNat 512 = 512 := by decide
theorem sc_1000 : (Int16.ofInt 1000).toInt32 = 1000 := by decide
theorem sc_160 : (Int16.ofInt 160).toInt32 = 160 := by decide
theorem sc_163 : (Int16.ofInt 163).toInt32 = 163 := by decide
theorem sc_511 : (Int16.ofInt 511).toInt32 = 511 := by decide
theorem sc_512 : (Int16.ofInt 512).toInt32 = 512 := by decide
def y_S_mustBeThere : MethodName := ⟨"StoryStates", "mustBeThere", "(Z)V"⟩
def y_S_mustFit : MethodName := ⟨"StoryStates", "mustFit", "(Z)V"⟩
def y_S_mustBeAble : MethodName := ⟨"StoryStates", "mustBeAble", "(Z)V"⟩
def y_W_becomeEmpty : MethodName := ⟨"StoryStates$World", "becomeEmpty", "()V"⟩
def y_S_isFrom : MethodName := ⟨"StoryStates", "isFrom", "(III)Z"⟩
def y_W_hasRoom : MethodName := ⟨"StoryStates$World", "hasRoom", "(I)Z"⟩
def y_W_hasThing : MethodName := ⟨"StoryStates$World", "hasThing", "(I)Z"⟩
def y_W_hasNumber : MethodName := ⟨"StoryStates$World", "hasNumber", "(I)Z"⟩
def y_W_hasEnding : MethodName := ⟨"StoryStates$World", "hasEnding", "(I)Z"⟩
def y_W_hasRule : MethodName := ⟨"StoryStates$World", "hasRule", "(I)Z"⟩
def y_W_hasPlace : MethodName := ⟨"StoryStates$World", "hasPlace", "(I)Z"⟩
def y_W_hasSubject : MethodName := ⟨"StoryStates$World", "hasSubject", "(II)Z"⟩
def y_W_hasCommand : MethodName := ⟨"StoryStates$World", "hasCommand", "(III)Z"⟩
def y_W_isWalker : MethodName := ⟨"StoryStates$World", "isWalker", "(I)Z"⟩
def y_W_setExit : MethodName := ⟨"StoryStates$World", "setExit", "(IIII)V"⟩
def y_W_addRoom : MethodName := ⟨"StoryStates$World", "addRoom", "()I"⟩
def y_W_addThing : MethodName := ⟨"StoryStates$World", "addThing", "(II)I"⟩
def y_W_addNumber : MethodName := ⟨"StoryStates$World", "addNumber", "(II)I"⟩
def y_W_addEnding : MethodName := ⟨"StoryStates$World", "addEnding", "(Z)I"⟩
def y_W_addWalker : MethodName := ⟨"StoryStates$World", "addWalker", "(IIII)V"⟩
def y_W_addTimer : MethodName := ⟨"StoryStates$World", "addTimer", "(II)V"⟩
def y_B_write : MethodName := ⟨"StoryStates$Bits", "write", "(JIII)J"⟩
def y_B_withPlace : MethodName := ⟨"StoryStates$Bits", "withPlace", "(JII)J"⟩
def y_B_withOpen : MethodName := ⟨"StoryStates$Bits", "withOpen", "(JII)J"⟩
def y_B_withAmount : MethodName := ⟨"StoryStates$Bits", "withAmount", "(JII)J"⟩
def y_B_withCount : MethodName := ⟨"StoryStates$Bits", "withCount", "(JII)J"⟩
def y_W_firstState : MethodName := ⟨"StoryStates$World", "firstState", "()J"⟩
def y_R_append : MethodName := ⟨"StoryStates$Rules", "append", "(IIII)I"⟩
def y_C_hasSpace : MethodName := ⟨"StoryStates$Clauses", "hasSpace", "(I)Z"⟩
def y_C_endOf : MethodName := ⟨"StoryStates$Clauses", "endOf", "(I)I"⟩
def y_C_append : MethodName := ⟨"StoryStates$Clauses", "append", "(IIII)V"⟩
def y_B_placeOf : MethodName := ⟨"StoryStates$Bits", "placeOf", "(JI)I"⟩
def y_B_isOpen : MethodName := ⟨"StoryStates$Bits", "isOpen", "(JI)Z"⟩
def y_B_roomOf : MethodName := ⟨"StoryStates$Bits", "roomOf", "(J)I"⟩
def y_B_isSeen : MethodName := ⟨"StoryStates$Bits", "isSeen", "(JI)Z"⟩
def y_E_isSeenOrNone : MethodName := ⟨"StoryStates$Engine", "isSeenOrNone", "(I)Z"⟩
def y_R_answers : MethodName := ⟨"StoryStates$Rules", "answers", "(IIII)Z"⟩
def y_C_startOf : MethodName := ⟨"StoryStates$Clauses", "startOf", "(I)I"⟩
def y_B_amountOf : MethodName := ⟨"StoryStates$Bits", "amountOf", "(JI)I"⟩
def y_E_holds : MethodName := ⟨"StoryStates$Engine", "holds", "(III)Z"⟩
def y_E_conditionsHold : MethodName := ⟨"StoryStates$Engine", "conditionsHold", "(I)Z"⟩
def y_E_fittingRule : MethodName := ⟨"StoryStates$Engine", "fittingRule", "(III)I"⟩
def y_E_say : MethodName := ⟨"StoryStates$Engine", "say", "(I)V"⟩
def y_B_endingOf : MethodName := ⟨"StoryStates$Bits", "endingOf", "(J)I"⟩
def y_B_isOver : MethodName := ⟨"StoryStates$Bits", "isOver", "(J)Z"⟩
def y_B_withEnding : MethodName := ⟨"StoryStates$Bits", "withEnding", "(JI)J"⟩
def y_B_isPartOf : MethodName := ⟨"StoryStates$Bits", "isPartOf", "(JII)Z"⟩
def y_B_withRoom : MethodName := ⟨"StoryStates$Bits", "withRoom", "(JI)J"⟩
def y_E_doEffect : MethodName := ⟨"StoryStates$Engine", "doEffect", "(III)V"⟩
def y_E_doRule : MethodName := ⟨"StoryStates$Engine", "doRule", "(I)V"⟩
def y_B_stepOf : MethodName := ⟨"StoryStates$Bits", "stepOf", "(JI)I"⟩
def y_B_withStep : MethodName := ⟨"StoryStates$Bits", "withStep", "(JII)J"⟩
def y_E_stepWalkers : MethodName := ⟨"StoryStates$Engine", "stepWalkers", "()V"⟩
def y_B_countOf : MethodName := ⟨"StoryStates$Bits", "countOf", "(JI)I"⟩
def y_E_runsOut : MethodName := ⟨"StoryStates$Engine", "runsOut", "(I)Z"⟩
def y_E_putInto : MethodName := ⟨"StoryStates$Engine", "putInto", "(II)Z"⟩
def y_E_turnLid : MethodName := ⟨"StoryStates$Engine", "turnLid", "(II)Z"⟩
def y_E_putDown : MethodName := ⟨"StoryStates$Engine", "putDown", "(I)Z"⟩
def y_E_takeUp : MethodName := ⟨"StoryStates$Engine", "takeUp", "(I)Z"⟩
def y_E_goThrough : MethodName := ⟨"StoryStates$Engine", "goThrough", "(I)Z"⟩
def y_E_actWithoutRule : MethodName := ⟨"StoryStates$Engine", "actWithoutRule", "(III)Z"⟩
def y_E_take : MethodName := ⟨"StoryStates$Engine", "take", "(JIII)J"⟩
def y_A_forget : MethodName := ⟨"StoryStates$Atlas", "forget", "()V"⟩
def y_U_fill : MethodName := ⟨"java/util/Arrays", "fill", "([II)V"⟩
def y_D_of : MethodName := ⟨"StoryStates$Code", "of", "(III)I"⟩
def y_A_listCommands : MethodName := ⟨"StoryStates$Atlas", "listCommands", "(LStoryStates$World;)V"⟩
def y_A_slotOf : MethodName := ⟨"StoryStates$Atlas", "slotOf", "(J)I"⟩
def y_A_append : MethodName := ⟨"StoryStates$Atlas", "append", "(JIII)V"⟩
def y_A_opn : MethodName := ⟨"StoryStates$Atlas", "open", "(LStoryStates$World;)V"⟩
def y_A_hasMore : MethodName := ⟨"StoryStates$Atlas", "hasMore", "()Z"⟩
def y_A_isFinished : MethodName := ⟨"StoryStates$Atlas", "isFinished", "()Z"⟩
def y_D_verbOf : MethodName := ⟨"StoryStates$Code", "verbOf", "(I)I"⟩
def y_D_firstOf : MethodName := ⟨"StoryStates$Code", "firstOf", "(I)I"⟩
def y_D_secondOf : MethodName := ⟨"StoryStates$Code", "secondOf", "(I)I"⟩
def y_A_addTo : MethodName := ⟨"StoryStates$Atlas", "addTo", "([JII)V"⟩
def y_A_note : MethodName := ⟨"StoryStates$Atlas", "note", "(JI)V"⟩
def y_U_fillL : MethodName := ⟨"java/util/Arrays", "fill", "([JJ)V"⟩
def y_A_isHopeful : MethodName := ⟨"StoryStates$Atlas", "isHopeful", "(I)Z"⟩
def y_A_isWon : MethodName := ⟨"StoryStates$Atlas", "isWon", "(ILStoryStates$World;)Z"⟩
def y_A_leadsToHope : MethodName := ⟨"StoryStates$Atlas", "leadsToHope", "(I)Z"⟩
def y_A_findHope : MethodName := ⟨"StoryStates$Atlas", "findHope", "(LStoryStates$World;)V"⟩
def y_A_goThroughNext : MethodName := ⟨"StoryStates$Atlas", "goThroughNext", "(LStoryStates$Engine;)V"⟩
def y_A_isHopeless : MethodName := ⟨"StoryStates$Atlas", "isHopeless", "(J)Z"⟩
def y_A_leadsOnlyToItself : MethodName := ⟨"StoryStates$Atlas", "leadsOnlyToItself", "(I)Z"⟩
def y_A_countStuck : MethodName := ⟨"StoryStates$Atlas", "countStuck", "()I"⟩
def y_A_idleRule : MethodName := ⟨"StoryStates$Atlas", "idleRule", "(II)I"⟩
def y_A_firstOverWith : MethodName := ⟨"StoryStates$Atlas", "firstOverWith", "(I)I"⟩
def y_A_depthOf : MethodName := ⟨"StoryStates$Atlas", "depthOf", "(I)I"⟩
def y_A_codeOnWay : MethodName := ⟨"StoryStates$Atlas", "codeOnWay", "(II)I"⟩
def y_S_startPlay : MethodName := ⟨"StoryStates", "startPlay", "()V"⟩
def y_S_startAnew : MethodName := ⟨"StoryStates", "startAnew", "()V"⟩
def y_S_hasAsked : MethodName := ⟨"StoryStates", "hasAsked", "(II)Z"⟩
def y_S_spoilingTurn : MethodName := ⟨"StoryStates", "spoilingTurn", "()I"⟩
def y_S_isThingKind : MethodName := ⟨"StoryStates", "isThingKind", "(I)Z"⟩
def y_S_isConditionLevel : MethodName := ⟨"StoryStates", "isConditionLevel", "(II)Z"⟩
def y_S_isEffectLevel : MethodName := ⟨"StoryStates", "isEffectLevel", "(II)Z"⟩
def y_S_clear : MethodName := ⟨"StoryStates", "clear", "()V"⟩
def y_S_said : MethodName := ⟨"StoryStates", "said", "(I)I"⟩
def y_S_undo : MethodName := ⟨"StoryStates", "undo", "()Z"⟩
def y_S_room : MethodName := ⟨"StoryStates", "room", "()I"⟩
def y_S_exit : MethodName := ⟨"StoryStates", "exit", "(IIII)V"⟩
def y_S_thing : MethodName := ⟨"StoryStates", "thing", "(II)I"⟩
def y_S_number : MethodName := ⟨"StoryStates", "number", "(II)I"⟩
def y_S_ending : MethodName := ⟨"StoryStates", "ending", "(Z)I"⟩
def y_S_rule : MethodName := ⟨"StoryStates", "rule", "(IIII)I"⟩
def y_S_condition : MethodName := ⟨"StoryStates", "condition", "(IIII)V"⟩
def y_S_effect : MethodName := ⟨"StoryStates", "effect", "(IIII)V"⟩
def y_S_walker : MethodName := ⟨"StoryStates", "walker", "(IIII)V"⟩
def y_S_timer : MethodName := ⟨"StoryStates", "timer", "(II)V"⟩
def y_S_begin : MethodName := ⟨"StoryStates", "begin", "()V"⟩
def y_S_command : MethodName := ⟨"StoryStates", "command", "(III)I"⟩
def y_S_state : MethodName := ⟨"StoryStates", "state", "(II)I"⟩
def y_S_explore : MethodName := ⟨"StoryStates", "explore", "(I)I"⟩
def y_S_reach : MethodName := ⟨"StoryStates", "reach", "(IZ)I"⟩
def y_S_way : MethodName := ⟨"StoryStates", "way", "(III)I"⟩
def y_S_study : MethodName := ⟨"StoryStates", "study", "(II)I"⟩
def y_L_room : MethodName := ⟨"StoryStatesLaw", "room", "(LStoryStates;[J)I"⟩
def y_L_exit : MethodName := ⟨"StoryStatesLaw", "exit", "(LStoryStates;IIII)I"⟩
def y_L_thing : MethodName := ⟨"StoryStatesLaw", "thing", "(LStoryStates;II[J)I"⟩
def y_L_number : MethodName := ⟨"StoryStatesLaw", "number", "(LStoryStates;II[J)I"⟩
def y_L_ending : MethodName := ⟨"StoryStatesLaw", "ending", "(LStoryStates;Z[J)I"⟩
def y_L_rule : MethodName := ⟨"StoryStatesLaw", "rule", "(LStoryStates;IIII[J)I"⟩
def y_L_condition : MethodName := ⟨"StoryStatesLaw", "condition", "(LStoryStates;IIII)I"⟩
def y_L_effect : MethodName := ⟨"StoryStatesLaw", "effect", "(LStoryStates;IIII)I"⟩
def y_L_walker : MethodName := ⟨"StoryStatesLaw", "walker", "(LStoryStates;IIII)I"⟩
def y_L_timer : MethodName := ⟨"StoryStatesLaw", "timer", "(LStoryStates;II)I"⟩
def y_L_begin : MethodName := ⟨"StoryStatesLaw", "begin", "(LStoryStates;)I"⟩
def y_L_command : MethodName := ⟨"StoryStatesLaw", "command", "(LStoryStates;III[J)I"⟩
def y_L_state : MethodName := ⟨"StoryStatesLaw", "state", "(LStoryStates;II[J)I"⟩
def y_L_explore : MethodName := ⟨"StoryStatesLaw", "explore", "(LStoryStates;I[J)I"⟩
def y_L_reach : MethodName := ⟨"StoryStatesLaw", "reach", "(LStoryStates;IZ[J)I"⟩
def y_L_way : MethodName := ⟨"StoryStatesLaw", "way", "(LStoryStates;III[J)I"⟩
def y_L_study : MethodName := ⟨"StoryStatesLaw", "study", "(LStoryStates;II[J)I"⟩
def rm_must : Room := { frames := 6, cells := 1, slots := 6, locals := 81 }
def rm_W_becomeEmpty : Room := { frames := 0, cells := 0, slots := 0, locals := 0 }
def rm_S_isFrom : Room := { frames := 0, cells := 0, slots := 0, locals := 0 }
def rm_W_hasRoom : Room := { frames := 1, cells := 0, slots := 0, locals := 22 }
def rm_W_hasThing : Room := { frames := 1, cells := 0, slots := 0, locals := 22 }
def rm_W_hasNumber : Room := { frames := 1, cells := 0, slots := 0, locals := 22 }
def rm_W_hasEnding : Room := { frames := 1, cells := 0, slots := 0, locals := 22 }
def rm_W_hasRule : Room := { frames := 1, cells := 0, slots := 0, locals := 22 }
def rm_W_hasPlace : Room := { frames := 2, cells := 0, slots := 0, locals := 43 }
def rm_W_hasSubject : Room := { frames := 2, cells := 0, slots := 0, locals := 43 }
def rm_W_hasCommand : Room := { frames := 2, cells := 0, slots := 0, locals := 43 }
def rm_W_isWalker : Room := { frames := 0, cells := 0, slots := 0, locals := 0 }
def rm_W_setExit : Room := { frames := 0, cells := 0, slots := 0, locals := 0 }
def rm_W_addRoom : Room := { frames := 1, cells := 0, slots := 0, locals := 24 }
def rm_W_addThing : Room := { frames := 0, cells := 0, slots := 0, locals := 0 }
def rm_W_addNumber : Room := { frames := 0, cells := 0, slots := 0, locals := 0 }
def rm_W_addEnding : Room := { frames := 0, cells := 0, slots := 0, locals := 0 }
def rm_W_addWalker : Room := { frames := 0, cells := 0, slots := 0, locals := 0 }
def rm_W_addTimer : Room := { frames := 0, cells := 0, slots := 0, locals := 0 }
def rm_B_write : Room := { frames := 0, cells := 0, slots := 0, locals := 0 }
def rm_B_withPlace : Room := { frames := 1, cells := 0, slots := 0, locals := 24 }
def rm_B_withOpen : Room := { frames := 1, cells := 0, slots := 0, locals := 24 }
def rm_B_withAmount : Room := { frames := 1, cells := 0, slots := 0, locals := 24 }
def rm_B_withCount : Room := { frames := 1, cells := 0, slots := 0, locals := 24 }
def rm_W_firstState : Room := { frames := 2, cells := 0, slots := 0, locals := 47 }
def rm_R_append : Room := { frames := 0, cells := 0, slots := 0, locals := 0 }
def rm_C_hasSpace : Room := { frames := 0, cells := 0, slots := 0, locals := 0 }
def rm_C_hasSpace_1 : Room := { frames := 0, cells := 0, slots := 0, locals := 0 }
def rm_C_endOf : Room := { frames := 0, cells := 0, slots := 0, locals := 0 }
def rm_C_append : Room := { frames := 1, cells := 0, slots := 0, locals := 21 }
def rm_C_endOf_1 : Room := { frames := 0, cells := 0, slots := 0, locals := 0 }
def rm_C_append_1 : Room := { frames := 1, cells := 0, slots := 0, locals := 21 }
def rm_B_placeOf : Room := { frames := 0, cells := 0, slots := 0, locals := 0 }
def rm_B_isOpen : Room := { frames := 0, cells := 0, slots := 0, locals := 0 }
def rm_B_roomOf : Room := { frames := 0, cells := 0, slots := 0, locals := 0 }
def rm_B_isSeen : Room := { frames := 1, cells := 0, slots := 0, locals := 22 }
def rm_E_isSeenOrNone : Room := { frames := 2, cells := 0, slots := 0, locals := 46 }
def rm_R_answers : Room := { frames := 0, cells := 0, slots := 0, locals := 0 }
def rm_C_startOf : Room := { frames := 0, cells := 0, slots := 0, locals := 0 }
def rm_B_amountOf : Room := { frames := 0, cells := 0, slots := 0, locals := 0 }
def rm_E_holds : Room := { frames := 1, cells := 0, slots := 0, locals := 22 }
def rm_E_conditionsHold : Room := { frames := 2, cells := 0, slots := 0, locals := 45 }
def rm_E_fittingRule : Room := { frames := 3, cells := 0, slots := 0, locals := 69 }
def rm_E_say : Room := { frames := 0, cells := 0, slots := 0, locals := 0 }
def rm_C_startOf_1 : Room := { frames := 0, cells := 0, slots := 0, locals := 0 }
def rm_B_endingOf : Room := { frames := 0, cells := 0, slots := 0, locals := 0 }
def rm_B_isOver : Room := { frames := 1, cells := 0, slots := 0, locals := 21 }
def rm_B_withEnding : Room := { frames := 1, cells := 0, slots := 0, locals := 24 }
def rm_B_isPartOf : Room := { frames := 1, cells := 0, slots := 0, locals := 22 }
def rm_B_withRoom : Room := { frames := 1, cells := 0, slots := 0, locals := 24 }
def rm_E_doEffect : Room := { frames := 2, cells := 0, slots := 0, locals := 47 }
def rm_E_doRule : Room := { frames := 3, cells := 0, slots := 0, locals := 71 }
def rm_B_stepOf : Room := { frames := 0, cells := 0, slots := 0, locals := 0 }
def rm_B_withStep : Room := { frames := 1, cells := 0, slots := 0, locals := 24 }
def rm_E_stepWalkers : Room := { frames := 2, cells := 0, slots := 0, locals := 47 }
def rm_B_countOf : Room := { frames := 0, cells := 0, slots := 0, locals := 0 }
def rm_E_runsOut : Room := { frames := 2, cells := 0, slots := 0, locals := 47 }
def rm_E_putInto : Room := { frames := 2, cells := 0, slots := 0, locals := 47 }
def rm_E_turnLid : Room := { frames := 2, cells := 0, slots := 0, locals := 47 }
def rm_E_putDown : Room := { frames := 2, cells := 0, slots := 0, locals := 47 }
def rm_E_takeUp : Room := { frames := 2, cells := 0, slots := 0, locals := 47 }
def rm_E_goThrough : Room := { frames := 2, cells := 0, slots := 0, locals := 46 }
def rm_E_actWithoutRule : Room := { frames := 3, cells := 0, slots := 0, locals := 69 }
def rm_E_take : Room := { frames := 4, cells := 0, slots := 0, locals := 95 }
def rm_A_forget : Room := { frames := 0, cells := 0, slots := 0, locals := 0 }
def rm_U_fill : Room := { frames := 0, cells := 0, slots := 0, locals := 0 }
def rm_D_of : Room := { frames := 0, cells := 0, slots := 0, locals := 0 }
def rm_A_listCommands : Room := { frames := 3, cells := 0, slots := 0, locals := 66 }
def rm_A_slotOf : Room := { frames := 0, cells := 0, slots := 0, locals := 0 }
def rm_A_append : Room := { frames := 0, cells := 0, slots := 0, locals := 0 }
def rm_A_opn : Room := { frames := 4, cells := 0, slots := 0, locals := 90 }
def rm_A_hasMore : Room := { frames := 0, cells := 0, slots := 0, locals := 0 }
def rm_A_isFinished : Room := { frames := 0, cells := 0, slots := 0, locals := 0 }
def rm_D_verbOf : Room := { frames := 0, cells := 0, slots := 0, locals := 0 }
def rm_D_firstOf : Room := { frames := 0, cells := 0, slots := 0, locals := 0 }
def rm_D_secondOf : Room := { frames := 0, cells := 0, slots := 0, locals := 0 }
def rm_A_addTo : Room := { frames := 0, cells := 0, slots := 0, locals := 0 }
def rm_A_note : Room := { frames := 1, cells := 0, slots := 0, locals := 26 }
def rm_U_fillL : Room := { frames := 0, cells := 0, slots := 0, locals := 0 }
def rm_A_isHopeful : Room := { frames := 0, cells := 0, slots := 0, locals := 0 }
def rm_A_isWon : Room := { frames := 2, cells := 0, slots := 0, locals := 43 }
def rm_A_leadsToHope : Room := { frames := 0, cells := 0, slots := 0, locals := 0 }
def rm_A_addTo_1 : Room := { frames := 0, cells := 0, slots := 0, locals := 0 }
def rm_A_findHope : Room := { frames := 3, cells := 0, slots := 0, locals := 66 }
def rm_A_goThroughNext : Room := { frames := 5, cells := 0, slots := 0, locals := 123 }
def rm_A_isHopeless : Room := { frames := 1, cells := 0, slots := 0, locals := 24 }
def rm_A_leadsOnlyToItself : Room := { frames := 0, cells := 0, slots := 0, locals := 0 }
def rm_A_countStuck : Room := { frames := 2, cells := 0, slots := 0, locals := 42 }
def rm_A_idleRule : Room := { frames := 0, cells := 0, slots := 0, locals := 0 }
def rm_A_firstOverWith : Room := { frames := 1, cells := 0, slots := 0, locals := 21 }
def rm_A_depthOf : Room := { frames := 0, cells := 0, slots := 0, locals := 0 }
def rm_A_codeOnWay : Room := { frames := 1, cells := 0, slots := 0, locals := 23 }
def rm_S_startPlay : Room := { frames := 3, cells := 0, slots := 0, locals := 70 }
def rm_S_startAnew : Room := { frames := 4, cells := 0, slots := 0, locals := 90 }
def rm_S_hasAsked : Room := { frames := 2, cells := 0, slots := 0, locals := 43 }
def rm_S_spoilingTurn : Room := { frames := 2, cells := 0, slots := 0, locals := 47 }
def rm_S_isThingKind : Room := { frames := 1, cells := 0, slots := 0, locals := 22 }
def rm_S_isConditionLevel : Room := { frames := 1, cells := 0, slots := 0, locals := 22 }
def rm_S_isEffectLevel : Room := { frames := 1, cells := 0, slots := 0, locals := 22 }
def rm_S_clear : Room := { frames := 5, cells := 0, slots := 0, locals := 110 }
def rm_S_said : Room := { frames := 1, cells := 0, slots := 0, locals := 22 }
def rm_S_undo : Room := { frames := 0, cells := 0, slots := 0, locals := 0 }
def rm_S_room : Room := { frames := 7, cells := 1, slots := 6, locals := 110 }
def rm_S_exit : Room := { frames := 7, cells := 1, slots := 6, locals := 110 }
def rm_S_thing : Room := { frames := 7, cells := 1, slots := 6, locals := 110 }
def rm_S_number : Room := { frames := 7, cells := 1, slots := 6, locals := 110 }
def rm_S_ending : Room := { frames := 7, cells := 1, slots := 6, locals := 110 }
def rm_S_rule : Room := { frames := 7, cells := 1, slots := 6, locals := 110 }
def rm_S_condition : Room := { frames := 7, cells := 1, slots := 6, locals := 110 }
def rm_S_effect : Room := { frames := 7, cells := 1, slots := 6, locals := 110 }
def rm_S_walker : Room := { frames := 7, cells := 1, slots := 6, locals := 110 }
def rm_S_timer : Room := { frames := 7, cells := 1, slots := 6, locals := 110 }
def rm_S_begin : Room := { frames := 7, cells := 1, slots := 6, locals := 101 }
def rm_S_command : Room := { frames := 7, cells := 1, slots := 6, locals := 123 }
def rm_S_state : Room := { frames := 7, cells := 1, slots := 6, locals := 101 }
def rm_S_explore : Room := { frames := 7, cells := 1, slots := 6, locals := 151 }
def rm_S_reach : Room := { frames := 7, cells := 1, slots := 6, locals := 101 }
def rm_S_way : Room := { frames := 7, cells := 1, slots := 6, locals := 101 }
def rm_S_study : Room := { frames := 7, cells := 1, slots := 6, locals := 101 }
def rm_L_room : Room := { frames := 8, cells := 1, slots := 6, locals := 131 }
def rm_L_exit : Room := { frames := 8, cells := 1, slots := 6, locals := 134 }
def rm_L_thing : Room := { frames := 8, cells := 1, slots := 6, locals := 133 }
def rm_L_number : Room := { frames := 8, cells := 1, slots := 6, locals := 133 }
def rm_L_ending : Room := { frames := 8, cells := 1, slots := 6, locals := 132 }
def rm_L_rule : Room := { frames := 8, cells := 1, slots := 6, locals := 135 }
def rm_L_condition : Room := { frames := 8, cells := 1, slots := 6, locals := 134 }
def rm_L_effect : Room := { frames := 8, cells := 1, slots := 6, locals := 134 }
def rm_L_walker : Room := { frames := 8, cells := 1, slots := 6, locals := 134 }
def rm_L_timer : Room := { frames := 8, cells := 1, slots := 6, locals := 132 }
def rm_L_begin : Room := { frames := 8, cells := 1, slots := 6, locals := 121 }
def rm_L_command : Room := { frames := 8, cells := 1, slots := 6, locals := 146 }
def rm_L_state : Room := { frames := 8, cells := 1, slots := 6, locals := 125 }
def rm_L_explore : Room := { frames := 8, cells := 1, slots := 6, locals := 173 }
def rm_L_reach : Room := { frames := 8, cells := 1, slots := 6, locals := 124 }
def rm_L_way : Room := { frames := 8, cells := 1, slots := 6, locals := 126 }
def rm_L_study : Room := { frames := 8, cells := 1, slots := 6, locals := 123 }
theorem wm_127 : (Jvm.Cond.fieldLink "StoryStates$World" (53 : Nat) "StoryStates$World" "rooms" "I") ∈ sTB := sMem 127 (by decide +kernel) rfl
theorem pf_c_W_53_2 : sPf Zc "StoryStates$World" 53 2 12 none .int := ⟨2, 18, _, "StoryStates$World", T_c2, ty_c2, rfl, rfl, rfl, by decide, Or.inl wm_127, rfl, us_c2, tyok_c2, nm_c2, rfl, by decide +kernel⟩
theorem wm_129 : (Jvm.Cond.fieldLink "StoryStates$World" (57 : Nat) "StoryStates$World" "things" "I") ∈ sTB := sMem 129 (by decide +kernel) rfl
theorem pf_c_W_57_2 : sPf Zc "StoryStates$World" 57 2 13 none .int := ⟨2, 18, _, "StoryStates$World", T_c2, ty_c2, rfl, rfl, rfl, by decide, Or.inl wm_129, rfl, us_c2, tyok_c2, nm_c2, rfl, by decide +kernel⟩
theorem wm_131 : (Jvm.Cond.fieldLink "StoryStates$World" (60 : Nat) "StoryStates$World" "numbers" "I") ∈ sTB := sMem 131 (by decide +kernel) rfl
theorem pf_c_W_60_2 : sPf Zc "StoryStates$World" 60 2 14 none .int := ⟨2, 18, _, "StoryStates$World", T_c2, ty_c2, rfl, rfl, rfl, by decide, Or.inl wm_131, rfl, us_c2, tyok_c2, nm_c2, rfl, by decide +kernel⟩
theorem wm_133 : (Jvm.Cond.fieldLink "StoryStates$World" (63 : Nat) "StoryStates$World" "endings" "I") ∈ sTB := sMem 133 (by decide +kernel) rfl
theorem pf_c_W_63_2 : sPf Zc "StoryStates$World" 63 2 15 none .int := ⟨2, 18, _, "StoryStates$World", T_c2, ty_c2, rfl, rfl, rfl, by decide, Or.inl wm_133, rfl, us_c2, tyok_c2, nm_c2, rfl, by decide +kernel⟩
theorem wm_117 : (Jvm.Cond.fieldLink "StoryStates$World" (37 : Nat) "StoryStates$World" "rules" "LStoryStates$Rules;") ∈ sTB := sMem 117 (by decide +kernel) rfl
theorem gf_c_W_37_2 : sGf Zc "StoryStates$World" 37 2 7 (some (some 3)) := ⟨2, 18, _, "StoryStates$World", T_c2, rfl, rfl, rfl, by decide, Or.inl wm_117, rfl, us_c2⟩
theorem wm_85 : (Jvm.Cond.fieldLink "StoryStates$World" (66 : Nat) "StoryStates$Rules" "size" "I") ∈ sTB := sMem 85 (by decide +kernel) rfl
theorem pf_c_W_66_3 : sPf Zc "StoryStates$World" 66 3 7 none .int := ⟨3, 8, _, "StoryStates$Rules", T_c3, ty_c3, rfl, rfl, rfl, by decide, Or.inl wm_85, rfl, us_c3, tyok_c3, nm_c3, rfl, by decide +kernel⟩
theorem wm_135 : (Jvm.Cond.fieldLink "StoryStates$World" (69 : Nat) "StoryStates$World" "walkers" "I") ∈ sTB := sMem 135 (by decide +kernel) rfl
theorem pf_c_W_69_2 : sPf Zc "StoryStates$World" 69 2 16 none .int := ⟨2, 18, _, "StoryStates$World", T_c2, ty_c2, rfl, rfl, rfl, by decide, Or.inl wm_135, rfl, us_c2, tyok_c2, nm_c2, rfl, by decide +kernel⟩
theorem wm_138 : (Jvm.Cond.fieldLink "StoryStates$World" (72 : Nat) "StoryStates$World" "timers" "I") ∈ sTB := sMem 138 (by decide +kernel) rfl
theorem pf_c_W_72_2 : sPf Zc "StoryStates$World" 72 2 17 none .int := ⟨2, 18, _, "StoryStates$World", T_c2, ty_c2, rfl, rfl, rfl, by decide, Or.inl wm_138, rfl, us_c2, tyok_c2, nm_c2, rfl, by decide +kernel⟩
theorem gf_c_W_53_2 : sGf Zc "StoryStates$World" 53 2 12 none := ⟨2, 18, _, "StoryStates$World", T_c2, rfl, rfl, rfl, by decide, Or.inl wm_127, rfl, us_c2⟩
theorem wm_413 : (Jvm.Cond.methodLinkNest "StoryStates$World" (75 : Nat) ({ cls := "StoryStates", name := "isFrom", desc := "(III)Z" } : Jvm.MethodName) "StoryStates") ∈ sTB := sMem 413 (by decide +kernel) rfl
theorem wm_1 : (Jvm.Cond.initialized "StoryStates") ∈ sTB := sMem 1 (by decide +kernel) rfl
theorem wm_313 : (Jvm.Cond.code ({ cls := "StoryStates", name := "isFrom", desc := "(III)Z" } : Jvm.MethodName) prog_1_method_29_code (3 : Nat) (Option.some Jvm.ClassFile.FieldType.boolean)) ∈ sTB := sMem 313 (by decide +kernel) rfl
theorem cw_W_hasRoom_8 : sCw "StoryStates$World" 75 y_S_isFrom prog_1_method_29_code 3 (some .boolean) rm_S_isFrom rm_W_hasRoom 3 := ⟨Or.inr ⟨_, wm_413⟩, wm_1, wm_313, by decide, by decide +kernel, ⟨rfl, rfl⟩, by decide, by decide⟩
theorem wm_312 : (Jvm.Cond.static ({ cls := "StoryStates", name := "isFrom", desc := "(III)Z" } : Jvm.MethodName)) ∈ sTB := sMem 312 (by decide +kernel) rfl
theorem gf_c_W_57_2 : sGf Zc "StoryStates$World" 57 2 13 none := ⟨2, 18, _, "StoryStates$World", T_c2, rfl, rfl, rfl, by decide, Or.inl wm_129, rfl, us_c2⟩
theorem cw_W_hasThing_8 : sCw "StoryStates$World" 75 y_S_isFrom prog_1_method_29_code 3 (some .boolean) rm_S_isFrom rm_W_hasThing 3 := ⟨Or.inr ⟨_, wm_413⟩, wm_1, wm_313, by decide, by decide +kernel, ⟨rfl, rfl⟩, by decide, by decide⟩
theorem gf_c_W_60_2 : sGf Zc "StoryStates$World" 60 2 14 none := ⟨2, 18, _, "StoryStates$World", T_c2, rfl, rfl, rfl, by decide, Or.inl wm_131, rfl, us_c2⟩
theorem cw_W_hasNumber_8 : sCw "StoryStates$World" 75 y_S_isFrom prog_1_method_29_code 3 (some .boolean) rm_S_isFrom rm_W_hasNumber 3 := ⟨Or.inr ⟨_, wm_413⟩, wm_1, wm_313, by decide, by decide +kernel, ⟨rfl, rfl⟩, by decide, by decide⟩
theorem gf_c_W_63_2 : sGf Zc "StoryStates$World" 63 2 15 none := ⟨2, 18, _, "StoryStates$World", T_c2, rfl, rfl, rfl, by decide, Or.inl wm_133, rfl, us_c2⟩
theorem cw_W_hasEnding_8 : sCw "StoryStates$World" 75 y_S_isFrom prog_1_method_29_code 3 (some .boolean) rm_S_isFrom rm_W_hasEnding 3 := ⟨Or.inr ⟨_, wm_413⟩, wm_1, wm_313, by decide, by decide +kernel, ⟨rfl, rfl⟩, by decide, by decide⟩
theorem gf_c_W_66_3 : sGf Zc "StoryStates$World" 66 3 7 none := ⟨3, 8, _, "StoryStates$Rules", T_c3, rfl, rfl, rfl, by decide, Or.inl wm_85, rfl, us_c3⟩
theorem cw_W_hasRule_11 : sCw "StoryStates$World" 75 y_S_isFrom prog_1_method_29_code 3 (some .boolean) rm_S_isFrom rm_W_hasRule 3 := ⟨Or.inr ⟨_, wm_413⟩, wm_1, wm_313, by decide, by decide +kernel, ⟨rfl, rfl⟩, by decide, by decide⟩
theorem wm_466 : (Jvm.Cond.methodLink "StoryStates$World" (79 : Nat) ({ cls := "StoryStates$World", name := "hasRoom", desc := "(I)Z" } : Jvm.MethodName)) ∈ sTB := sMem 466 (by decide +kernel) rfl
theorem wm_3 : (Jvm.Cond.initialized "StoryStates$World") ∈ sTB := sMem 3 (by decide +kernel) rfl
theorem wm_412 : (Jvm.Cond.code ({ cls := "StoryStates$World", name := "hasRoom", desc := "(I)Z" } : Jvm.MethodName) prog_8_method_3_code (2 : Nat) (Option.some Jvm.ClassFile.FieldType.boolean)) ∈ sTB := sMem 412 (by decide +kernel) rfl
theorem cw_W_hasPlace_2 : sCw "StoryStates$World" 79 y_W_hasRoom prog_8_method_3_code 2 (some .boolean) rm_W_hasRoom rm_W_hasPlace 1 := ⟨Or.inl wm_466, wm_3, wm_412, by decide, by decide +kernel, ⟨rfl, rfl⟩, by decide, by decide⟩
theorem wm_410 : (Jvm.Cond.instanceMethod ({ cls := "StoryStates$World", name := "hasRoom", desc := "(I)Z" } : Jvm.MethodName)) ∈ sTB := sMem 410 (by decide +kernel) rfl
theorem wm_411 : (Jvm.Cond.selects "StoryStates$World" ({ cls := "StoryStates$World", name := "hasRoom", desc := "(I)Z" } : Jvm.MethodName) ({ cls := "StoryStates$World", name := "hasRoom", desc := "(I)Z" } : Jvm.MethodName)) ∈ sTB := sMem 411 (by decide +kernel) rfl
theorem cw_W_hasPlace_20 : sCw "StoryStates$World" 75 y_S_isFrom prog_1_method_29_code 3 (some .boolean) rm_S_isFrom rm_W_hasPlace 3 := ⟨Or.inr ⟨_, wm_413⟩, wm_1, wm_313, by decide, by decide +kernel, ⟨rfl, rfl⟩, by decide, by decide⟩
theorem cw_W_hasSubject_30 : sCw "StoryStates$World" 79 y_W_hasRoom prog_8_method_3_code 2 (some .boolean) rm_W_hasRoom rm_W_hasSubject 1 := ⟨Or.inl wm_466, wm_3, wm_412, by decide, by decide +kernel, ⟨rfl, rfl⟩, by decide, by decide⟩
theorem wm_522 : (Jvm.Cond.methodLink "StoryStates$World" (83 : Nat) ({ cls := "StoryStates$World", name := "hasThing", desc := "(I)Z" } : Jvm.MethodName)) ∈ sTB := sMem 522 (by decide +kernel) rfl
theorem wm_417 : (Jvm.Cond.code ({ cls := "StoryStates$World", name := "hasThing", desc := "(I)Z" } : Jvm.MethodName) prog_8_method_4_code (2 : Nat) (Option.some Jvm.ClassFile.FieldType.boolean)) ∈ sTB := sMem 417 (by decide +kernel) rfl
theorem cw_W_hasSubject_36 : sCw "StoryStates$World" 83 y_W_hasThing prog_8_method_4_code 2 (some .boolean) rm_W_hasThing rm_W_hasSubject 1 := ⟨Or.inl wm_522, wm_3, wm_417, by decide, by decide +kernel, ⟨rfl, rfl⟩, by decide, by decide⟩
theorem wm_415 : (Jvm.Cond.instanceMethod ({ cls := "StoryStates$World", name := "hasThing", desc := "(I)Z" } : Jvm.MethodName)) ∈ sTB := sMem 415 (by decide +kernel) rfl
theorem wm_416 : (Jvm.Cond.selects "StoryStates$World" ({ cls := "StoryStates$World", name := "hasThing", desc := "(I)Z" } : Jvm.MethodName) ({ cls := "StoryStates$World", name := "hasThing", desc := "(I)Z" } : Jvm.MethodName)) ∈ sTB := sMem 416 (by decide +kernel) rfl
theorem wm_523 : (Jvm.Cond.methodLink "StoryStates$World" (86 : Nat) ({ cls := "StoryStates$World", name := "hasNumber", desc := "(I)Z" } : Jvm.MethodName)) ∈ sTB := sMem 523 (by decide +kernel) rfl
theorem wm_526 : (Jvm.Cond.code ({ cls := "StoryStates$World", name := "hasNumber", desc := "(I)Z" } : Jvm.MethodName) prog_8_method_5_code (2 : Nat) (Option.some Jvm.ClassFile.FieldType.boolean)) ∈ sTB := sMem 526 (by decide +kernel) rfl
theorem cw_W_hasSubject_42 : sCw "StoryStates$World" 86 y_W_hasNumber prog_8_method_5_code 2 (some .boolean) rm_W_hasNumber rm_W_hasSubject 1 := ⟨Or.inl wm_523, wm_3, wm_526, by decide, by decide +kernel, ⟨rfl, rfl⟩, by decide, by decide⟩
theorem wm_524 : (Jvm.Cond.instanceMethod ({ cls := "StoryStates$World", name := "hasNumber", desc := "(I)Z" } : Jvm.MethodName)) ∈ sTB := sMem 524 (by decide +kernel) rfl
theorem wm_525 : (Jvm.Cond.selects "StoryStates$World" ({ cls := "StoryStates$World", name := "hasNumber", desc := "(I)Z" } : Jvm.MethodName) ({ cls := "StoryStates$World", name := "hasNumber", desc := "(I)Z" } : Jvm.MethodName)) ∈ sTB := sMem 525 (by decide +kernel) rfl
theorem cw_W_hasCommand_55 : sCw "StoryStates$World" 75 y_S_isFrom prog_1_method_29_code 3 (some .boolean) rm_S_isFrom rm_W_hasCommand 3 := ⟨Or.inr ⟨_, wm_413⟩, wm_1, wm_313, by decide, by decide +kernel, ⟨rfl, rfl⟩, by decide, by decide⟩
theorem cw_W_hasCommand_74 : sCw "StoryStates$World" 83 y_W_hasThing prog_8_method_4_code 2 (some .boolean) rm_W_hasThing rm_W_hasCommand 1 := ⟨Or.inl wm_522, wm_3, wm_417, by decide, by decide +kernel, ⟨rfl, rfl⟩, by decide, by decide⟩
theorem cw_W_hasCommand_93 : sCw "StoryStates$World" 83 y_W_hasThing prog_8_method_4_code 2 (some .boolean) rm_W_hasThing rm_W_hasCommand 1 := ⟨Or.inl wm_522, wm_3, wm_417, by decide, by decide +kernel, ⟨rfl, rfl⟩, by decide, by decide⟩
theorem cw_W_hasCommand_101 : sCw "StoryStates$World" 83 y_W_hasThing prog_8_method_4_code 2 (some .boolean) rm_W_hasThing rm_W_hasCommand 1 := ⟨Or.inl wm_522, wm_3, wm_417, by decide, by decide +kernel, ⟨rfl, rfl⟩, by decide, by decide⟩
theorem cw_W_hasCommand_136 : sCw "StoryStates$World" 83 y_W_hasThing prog_8_method_4_code 2 (some .boolean) rm_W_hasThing rm_W_hasCommand 1 := ⟨Or.inl wm_522, wm_3, wm_417, by decide, by decide +kernel, ⟨rfl, rfl⟩, by decide, by decide⟩
theorem cw_W_hasCommand_149 : sCw "StoryStates$World" 83 y_W_hasThing prog_8_method_4_code 2 (some .boolean) rm_W_hasThing rm_W_hasCommand 1 := ⟨Or.inl wm_522, wm_3, wm_417, by decide, by decide +kernel, ⟨rfl, rfl⟩, by decide, by decide⟩
theorem gf_c_W_69_2 : sGf Zc "StoryStates$World" 69 2 16 none := ⟨2, 18, _, "StoryStates$World", T_c2, rfl, rfl, rfl, by decide, Or.inl wm_135, rfl, us_c2⟩
theorem wm_120 : (Jvm.Cond.fieldLink "StoryStates$World" (41 : Nat) "StoryStates$World" "walkerThings" "[I") ∈ sTB := sMem 120 (by decide +kernel) rfl
theorem gf_c_W_41_2 : sGf Zc "StoryStates$World" 41 2 8 (some (some 17)) := ⟨2, 18, _, "StoryStates$World", T_c2, rfl, rfl, rfl, by decide, Or.inl wm_120, rfl, us_c2⟩
theorem wm_105 : (Jvm.Cond.fieldLink "StoryStates$World" (9 : Nat) "StoryStates$World" "exitRooms" "[I") ∈ sTB := sMem 105 (by decide +kernel) rfl
theorem gf_c_W_9_2 : sGf Zc "StoryStates$World" 9 2 0 (some (some 10)) := ⟨2, 18, _, "StoryStates$World", T_c2, rfl, rfl, rfl, by decide, Or.inl wm_105, rfl, us_c2⟩
theorem wm_107 : (Jvm.Cond.fieldLink "StoryStates$World" (15 : Nat) "StoryStates$World" "exitDoors" "[I") ∈ sTB := sMem 107 (by decide +kernel) rfl
theorem gf_c_W_15_2 : sGf Zc "StoryStates$World" 15 2 1 (some (some 11)) := ⟨2, 18, _, "StoryStates$World", T_c2, rfl, rfl, rfl, by decide, Or.inl wm_107, rfl, us_c2⟩
theorem wm_396 : (Jvm.Cond.methodLink "StoryStates$World" (89 : Nat) ({ cls := "StoryStates$World", name := "setExit", desc := "(IIII)V" } : Jvm.MethodName)) ∈ sTB := sMem 396 (by decide +kernel) rfl
theorem wm_399 : (Jvm.Cond.code ({ cls := "StoryStates$World", name := "setExit", desc := "(IIII)V" } : Jvm.MethodName) prog_8_method_13_code (5 : Nat) (Option.none : Option Jvm.ClassFile.FieldType)) ∈ sTB := sMem 399 (by decide +kernel) rfl
theorem cw_W_addRoom_15 : sCw "StoryStates$World" 89 y_W_setExit prog_8_method_13_code 5 none rm_W_setExit rm_W_addRoom 4 := ⟨Or.inl wm_396, wm_3, wm_399, by decide, by decide +kernel, ⟨rfl, rfl⟩, by decide, by decide⟩
theorem wm_397 : (Jvm.Cond.instanceMethod ({ cls := "StoryStates$World", name := "setExit", desc := "(IIII)V" } : Jvm.MethodName)) ∈ sTB := sMem 397 (by decide +kernel) rfl
theorem wm_398 : (Jvm.Cond.selects "StoryStates$World" ({ cls := "StoryStates$World", name := "setExit", desc := "(IIII)V" } : Jvm.MethodName) ({ cls := "StoryStates$World", name := "setExit", desc := "(IIII)V" } : Jvm.MethodName)) ∈ sTB := sMem 398 (by decide +kernel) rfl
theorem wm_109 : (Jvm.Cond.fieldLink "StoryStates$World" (18 : Nat) "StoryStates$World" "places" "[I") ∈ sTB := sMem 109 (by decide +kernel) rfl
theorem gf_c_W_18_2 : sGf Zc "StoryStates$World" 18 2 2 (some (some 12)) := ⟨2, 18, _, "StoryStates$World", T_c2, rfl, rfl, rfl, by decide, Or.inl wm_109, rfl, us_c2⟩
theorem wm_110 : (Jvm.Cond.fieldLink "StoryStates$World" (21 : Nat) "StoryStates$World" "kinds" "[I") ∈ sTB := sMem 110 (by decide +kernel) rfl
theorem gf_c_W_21_2 : sGf Zc "StoryStates$World" 21 2 3 (some (some 13)) := ⟨2, 18, _, "StoryStates$World", T_c2, rfl, rfl, rfl, by decide, Or.inl wm_110, rfl, us_c2⟩
theorem wm_112 : (Jvm.Cond.fieldLink "StoryStates$World" (24 : Nat) "StoryStates$World" "firstAmounts" "[I") ∈ sTB := sMem 112 (by decide +kernel) rfl
theorem gf_c_W_24_2 : sGf Zc "StoryStates$World" 24 2 4 (some (some 14)) := ⟨2, 18, _, "StoryStates$World", T_c2, rfl, rfl, rfl, by decide, Or.inl wm_112, rfl, us_c2⟩
theorem wm_113 : (Jvm.Cond.fieldLink "StoryStates$World" (27 : Nat) "StoryStates$World" "mostAmounts" "[I") ∈ sTB := sMem 113 (by decide +kernel) rfl
theorem gf_c_W_27_2 : sGf Zc "StoryStates$World" 27 2 5 (some (some 15)) := ⟨2, 18, _, "StoryStates$World", T_c2, rfl, rfl, rfl, by decide, Or.inl wm_113, rfl, us_c2⟩
theorem wm_115 : (Jvm.Cond.fieldLink "StoryStates$World" (30 : Nat) "StoryStates$World" "isGood" "[Z") ∈ sTB := sMem 115 (by decide +kernel) rfl
theorem gf_c_W_30_2 : sGf Zc "StoryStates$World" 30 2 6 (some (some 16)) := ⟨2, 18, _, "StoryStates$World", T_c2, rfl, rfl, rfl, by decide, Or.inl wm_115, rfl, us_c2⟩
theorem wm_122 : (Jvm.Cond.fieldLink "StoryStates$World" (44 : Nat) "StoryStates$World" "walkerRooms" "[I") ∈ sTB := sMem 122 (by decide +kernel) rfl
theorem gf_c_W_44_2 : sGf Zc "StoryStates$World" 44 2 9 (some (some 18)) := ⟨2, 18, _, "StoryStates$World", T_c2, rfl, rfl, rfl, by decide, Or.inl wm_122, rfl, us_c2⟩
theorem wm_124 : (Jvm.Cond.fieldLink "StoryStates$World" (47 : Nat) "StoryStates$World" "timerRules" "[I") ∈ sTB := sMem 124 (by decide +kernel) rfl
theorem gf_c_W_47_2 : sGf Zc "StoryStates$World" 47 2 10 (some (some 19)) := ⟨2, 18, _, "StoryStates$World", T_c2, rfl, rfl, rfl, by decide, Or.inl wm_124, rfl, us_c2⟩
theorem gf_c_W_72_2 : sGf Zc "StoryStates$World" 72 2 17 none := ⟨2, 18, _, "StoryStates$World", T_c2, rfl, rfl, rfl, by decide, Or.inl wm_138, rfl, us_c2⟩
theorem wm_126 : (Jvm.Cond.fieldLink "StoryStates$World" (50 : Nat) "StoryStates$World" "timerCounts" "[I") ∈ sTB := sMem 126 (by decide +kernel) rfl
theorem gf_c_W_50_2 : sGf Zc "StoryStates$World" 50 2 11 (some (some 20)) := ⟨2, 18, _, "StoryStates$World", T_c2, rfl, rfl, rfl, by decide, Or.inl wm_126, rfl, us_c2⟩
theorem wm_77 : (Jvm.Cond.fieldLink "StoryStates$World" (93 : Nat) "StoryStates$Rules" "ofTimer" "[Z") ∈ sTB := sMem 77 (by decide +kernel) rfl
theorem gf_c_W_93_3 : sGf Zc "StoryStates$World" 93 3 4 (some (some 25)) := ⟨3, 8, _, "StoryStates$Rules", T_c3, rfl, rfl, rfl, by decide, Or.inl wm_77, rfl, us_c3⟩
theorem wm_293 : (Jvm.Cond.constantLong "StoryStates$Bits" (30 : Nat) (-1 : Int64)) ∈ sTB := sMem 293 (by decide +kernel) rfl
theorem wm_290 : (Jvm.Cond.methodLink "StoryStates$Bits" (9 : Nat) ({ cls := "StoryStates$Bits", name := "write", desc := "(JIII)J" } : Jvm.MethodName)) ∈ sTB := sMem 290 (by decide +kernel) rfl
theorem wm_8 : (Jvm.Cond.initialized "StoryStates$Bits") ∈ sTB := sMem 8 (by decide +kernel) rfl
theorem wm_292 : (Jvm.Cond.code ({ cls := "StoryStates$Bits", name := "write", desc := "(JIII)J" } : Jvm.MethodName) prog_3_method_19_code (5 : Nat) (Option.some Jvm.ClassFile.FieldType.long)) ∈ sTB := sMem 292 (by decide +kernel) rfl
theorem cw_B_withPlace_9 : sCw "StoryStates$Bits" 9 y_B_write prog_3_method_19_code 5 (some .long) rm_B_write rm_B_withPlace 4 := ⟨Or.inl wm_290, wm_8, wm_292, by decide, by decide +kernel, ⟨rfl, rfl⟩, by decide, by decide⟩
theorem wm_291 : (Jvm.Cond.static ({ cls := "StoryStates$Bits", name := "write", desc := "(JIII)J" } : Jvm.MethodName)) ∈ sTB := sMem 291 (by decide +kernel) rfl
theorem cw_B_withOpen_7 : sCw "StoryStates$Bits" 9 y_B_write prog_3_method_19_code 5 (some .long) rm_B_write rm_B_withOpen 4 := ⟨Or.inl wm_290, wm_8, wm_292, by decide, by decide +kernel, ⟨rfl, rfl⟩, by decide, by decide⟩
theorem cw_B_withAmount_10 : sCw "StoryStates$Bits" 9 y_B_write prog_3_method_19_code 5 (some .long) rm_B_write rm_B_withAmount 4 := ⟨Or.inl wm_290, wm_8, wm_292, by decide, by decide +kernel, ⟨rfl, rfl⟩, by decide, by decide⟩
theorem cw_B_withCount_10 : sCw "StoryStates$Bits" 9 y_B_write prog_3_method_19_code 5 (some .long) rm_B_write rm_B_withCount 4 := ⟨Or.inl wm_290, wm_8, wm_292, by decide, by decide +kernel, ⟨rfl, rfl⟩, by decide, by decide⟩
theorem wm_287 : (Jvm.Cond.methodLink "StoryStates$World" (96 : Nat) ({ cls := "StoryStates$Bits", name := "withPlace", desc := "(JII)J" } : Jvm.MethodName)) ∈ sTB := sMem 287 (by decide +kernel) rfl
theorem wm_289 : (Jvm.Cond.code ({ cls := "StoryStates$Bits", name := "withPlace", desc := "(JII)J" } : Jvm.MethodName) prog_3_method_5_code (4 : Nat) (Option.some Jvm.ClassFile.FieldType.long)) ∈ sTB := sMem 289 (by decide +kernel) rfl
theorem cw_W_firstState_20 : sCw "StoryStates$World" 96 y_B_withPlace prog_3_method_5_code 4 (some .long) rm_B_withPlace rm_W_firstState 3 := ⟨Or.inl wm_287, wm_8, wm_289, by decide, by decide +kernel, ⟨rfl, rfl⟩, by decide, by decide⟩
theorem wm_288 : (Jvm.Cond.static ({ cls := "StoryStates$Bits", name := "withPlace", desc := "(JII)J" } : Jvm.MethodName)) ∈ sTB := sMem 288 (by decide +kernel) rfl
theorem wm_294 : (Jvm.Cond.methodLink "StoryStates$World" (102 : Nat) ({ cls := "StoryStates$Bits", name := "withOpen", desc := "(JII)J" } : Jvm.MethodName)) ∈ sTB := sMem 294 (by decide +kernel) rfl
theorem wm_296 : (Jvm.Cond.code ({ cls := "StoryStates$Bits", name := "withOpen", desc := "(JII)J" } : Jvm.MethodName) prog_3_method_7_code (4 : Nat) (Option.some Jvm.ClassFile.FieldType.long)) ∈ sTB := sMem 296 (by decide +kernel) rfl
theorem cw_W_firstState_42 : sCw "StoryStates$World" 102 y_B_withOpen prog_3_method_7_code 4 (some .long) rm_B_withOpen rm_W_firstState 3 := ⟨Or.inl wm_294, wm_8, wm_296, by decide, by decide +kernel, ⟨rfl, rfl⟩, by decide, by decide⟩
theorem wm_295 : (Jvm.Cond.static ({ cls := "StoryStates$Bits", name := "withOpen", desc := "(JII)J" } : Jvm.MethodName)) ∈ sTB := sMem 295 (by decide +kernel) rfl
theorem wm_297 : (Jvm.Cond.methodLink "StoryStates$World" (105 : Nat) ({ cls := "StoryStates$Bits", name := "withAmount", desc := "(JII)J" } : Jvm.MethodName)) ∈ sTB := sMem 297 (by decide +kernel) rfl
theorem wm_299 : (Jvm.Cond.code ({ cls := "StoryStates$Bits", name := "withAmount", desc := "(JII)J" } : Jvm.MethodName) prog_3_method_9_code (4 : Nat) (Option.some Jvm.ClassFile.FieldType.long)) ∈ sTB := sMem 299 (by decide +kernel) rfl
theorem cw_W_firstState_70 : sCw "StoryStates$World" 105 y_B_withAmount prog_3_method_9_code 4 (some .long) rm_B_withAmount rm_W_firstState 3 := ⟨Or.inl wm_297, wm_8, wm_299, by decide, by decide +kernel, ⟨rfl, rfl⟩, by decide, by decide⟩
theorem wm_298 : (Jvm.Cond.static ({ cls := "StoryStates$Bits", name := "withAmount", desc := "(JII)J" } : Jvm.MethodName)) ∈ sTB := sMem 298 (by decide +kernel) rfl
theorem wm_300 : (Jvm.Cond.methodLink "StoryStates$World" (108 : Nat) ({ cls := "StoryStates$Bits", name := "withCount", desc := "(JII)J" } : Jvm.MethodName)) ∈ sTB := sMem 300 (by decide +kernel) rfl
theorem wm_302 : (Jvm.Cond.code ({ cls := "StoryStates$Bits", name := "withCount", desc := "(JII)J" } : Jvm.MethodName) prog_3_method_13_code (4 : Nat) (Option.some Jvm.ClassFile.FieldType.long)) ∈ sTB := sMem 302 (by decide +kernel) rfl
theorem cw_W_firstState_98 : sCw "StoryStates$World" 108 y_B_withCount prog_3_method_13_code 4 (some .long) rm_B_withCount rm_W_firstState 3 := ⟨Or.inl wm_300, wm_8, wm_302, by decide, by decide +kernel, ⟨rfl, rfl⟩, by decide, by decide⟩
theorem wm_301 : (Jvm.Cond.static ({ cls := "StoryStates$Bits", name := "withCount", desc := "(JII)J" } : Jvm.MethodName)) ∈ sTB := sMem 301 (by decide +kernel) rfl
theorem wm_70 : (Jvm.Cond.fieldLink "StoryStates$Rules" (9 : Nat) "StoryStates$Rules" "verbs" "[I") ∈ sTB := sMem 70 (by decide +kernel) rfl
theorem gf_c_R_9_3 : sGf Zc "StoryStates$Rules" 9 3 0 (some (some 21)) := ⟨3, 8, _, "StoryStates$Rules", T_c3, rfl, rfl, rfl, by decide, Or.inl wm_70, rfl, us_c3⟩
theorem wm_84 : (Jvm.Cond.fieldLink "StoryStates$Rules" (38 : Nat) "StoryStates$Rules" "size" "I") ∈ sTB := sMem 84 (by decide +kernel) rfl
theorem gf_c_R_38_3 : sGf Zc "StoryStates$Rules" 38 3 7 none := ⟨3, 8, _, "StoryStates$Rules", T_c3, rfl, rfl, rfl, by decide, Or.inl wm_84, rfl, us_c3⟩
theorem wm_71 : (Jvm.Cond.fieldLink "StoryStates$Rules" (15 : Nat) "StoryStates$Rules" "firsts" "[I") ∈ sTB := sMem 71 (by decide +kernel) rfl
theorem gf_c_R_15_3 : sGf Zc "StoryStates$Rules" 15 3 1 (some (some 22)) := ⟨3, 8, _, "StoryStates$Rules", T_c3, rfl, rfl, rfl, by decide, Or.inl wm_71, rfl, us_c3⟩
theorem wm_72 : (Jvm.Cond.fieldLink "StoryStates$Rules" (18 : Nat) "StoryStates$Rules" "seconds" "[I") ∈ sTB := sMem 72 (by decide +kernel) rfl
theorem gf_c_R_18_3 : sGf Zc "StoryStates$Rules" 18 3 2 (some (some 23)) := ⟨3, 8, _, "StoryStates$Rules", T_c3, rfl, rfl, rfl, by decide, Or.inl wm_72, rfl, us_c3⟩
theorem wm_73 : (Jvm.Cond.fieldLink "StoryStates$Rules" (21 : Nat) "StoryStates$Rules" "texts" "[I") ∈ sTB := sMem 73 (by decide +kernel) rfl
theorem gf_c_R_21_3 : sGf Zc "StoryStates$Rules" 21 3 3 (some (some 24)) := ⟨3, 8, _, "StoryStates$Rules", T_c3, rfl, rfl, rfl, by decide, Or.inl wm_73, rfl, us_c3⟩
theorem wm_75 : (Jvm.Cond.fieldLink "StoryStates$Rules" (24 : Nat) "StoryStates$Rules" "ofTimer" "[Z") ∈ sTB := sMem 75 (by decide +kernel) rfl
theorem gf_c_R_24_3 : sGf Zc "StoryStates$Rules" 24 3 4 (some (some 25)) := ⟨3, 8, _, "StoryStates$Rules", T_c3, rfl, rfl, rfl, by decide, Or.inl wm_75, rfl, us_c3⟩
theorem wm_78 : (Jvm.Cond.fieldLink "StoryStates$Rules" (31 : Nat) "StoryStates$Rules" "conditions" "LStoryStates$Clauses;") ∈ sTB := sMem 78 (by decide +kernel) rfl
theorem gf_c_R_31_3 : sGf Zc "StoryStates$Rules" 31 3 5 (some (some 4)) := ⟨3, 8, _, "StoryStates$Rules", T_c3, rfl, rfl, rfl, by decide, Or.inl wm_78, rfl, us_c3⟩
theorem wm_52 : (Jvm.Cond.fieldLink "StoryStates$Rules" (42 : Nat) "StoryStates$Clauses" "sizes" "[I") ∈ sTB := sMem 52 (by decide +kernel) rfl
theorem gf_c_R_42_4 : sGf Zc "StoryStates$Rules" 42 4 0 (some (some 26)) := ⟨4, 4, _, "StoryStates$Clauses", T_c4, rfl, rfl, rfl, by decide, Or.inl wm_52, rfl, us_c4⟩
theorem wm_81 : (Jvm.Cond.fieldLink "StoryStates$Rules" (35 : Nat) "StoryStates$Rules" "effects" "LStoryStates$Clauses;") ∈ sTB := sMem 81 (by decide +kernel) rfl
theorem gf_c_R_35_3 : sGf Zc "StoryStates$Rules" 35 3 6 (some (some 5)) := ⟨3, 8, _, "StoryStates$Rules", T_c3, rfl, rfl, rfl, by decide, Or.inl wm_81, rfl, us_c3⟩
theorem gf_c_R_42_5 : sGf Zc "StoryStates$Rules" 42 5 0 (some (some 30)) := ⟨4, 4, _, "StoryStates$Clauses", T_c4, rfl, rfl, rfl, by decide, Or.inl wm_52, rfl, us_c4⟩
theorem pf_c_R_38_3 : sPf Zc "StoryStates$Rules" 38 3 7 none .int := ⟨3, 8, _, "StoryStates$Rules", T_c3, ty_c3, rfl, rfl, rfl, by decide, Or.inl wm_84, rfl, us_c3, tyok_c3, nm_c3, rfl, by decide +kernel⟩
theorem wm_51 : (Jvm.Cond.fieldLink "StoryStates$Clauses" (9 : Nat) "StoryStates$Clauses" "sizes" "[I") ∈ sTB := sMem 51 (by decide +kernel) rfl
theorem gf_c_C_9_4 : sGf Zc "StoryStates$Clauses" 9 4 0 (some (some 26)) := ⟨4, 4, _, "StoryStates$Clauses", T_c4, rfl, rfl, rfl, by decide, Or.inl wm_51, rfl, us_c4⟩
theorem gf_c_C_9_5 : sGf Zc "StoryStates$Clauses" 9 5 0 (some (some 30)) := ⟨4, 4, _, "StoryStates$Clauses", T_c4, rfl, rfl, rfl, by decide, Or.inl wm_51, rfl, us_c4⟩
theorem wm_538 : (Jvm.Cond.methodLink "StoryStates$Clauses" (24 : Nat) ({ cls := "StoryStates$Clauses", name := "endOf", desc := "(I)I" } : Jvm.MethodName)) ∈ sTB := sMem 538 (by decide +kernel) rfl
theorem wm_5 : (Jvm.Cond.initialized "StoryStates$Clauses") ∈ sTB := sMem 5 (by decide +kernel) rfl
theorem wm_541 : (Jvm.Cond.code ({ cls := "StoryStates$Clauses", name := "endOf", desc := "(I)I" } : Jvm.MethodName) prog_4_method_4_code (2 : Nat) (Option.some Jvm.ClassFile.FieldType.int)) ∈ sTB := sMem 541 (by decide +kernel) rfl
theorem cw_C_append_2 : sCw "StoryStates$Clauses" 24 y_C_endOf prog_4_method_4_code 2 (some .int) rm_C_endOf rm_C_append 1 := ⟨Or.inl wm_538, wm_5, wm_541, by decide, by decide +kernel, ⟨rfl, rfl⟩, by decide, by decide⟩
theorem wm_539 : (Jvm.Cond.instanceMethod ({ cls := "StoryStates$Clauses", name := "endOf", desc := "(I)I" } : Jvm.MethodName)) ∈ sTB := sMem 539 (by decide +kernel) rfl
theorem wm_540 : (Jvm.Cond.selects "StoryStates$Clauses" ({ cls := "StoryStates$Clauses", name := "endOf", desc := "(I)I" } : Jvm.MethodName) ({ cls := "StoryStates$Clauses", name := "endOf", desc := "(I)I" } : Jvm.MethodName)) ∈ sTB := sMem 540 (by decide +kernel) rfl
theorem wm_53 : (Jvm.Cond.fieldLink "StoryStates$Clauses" (15 : Nat) "StoryStates$Clauses" "kinds" "[I") ∈ sTB := sMem 53 (by decide +kernel) rfl
theorem gf_c_C_15_4 : sGf Zc "StoryStates$Clauses" 15 4 1 (some (some 27)) := ⟨4, 4, _, "StoryStates$Clauses", T_c4, rfl, rfl, rfl, by decide, Or.inl wm_53, rfl, us_c4⟩
theorem wm_55 : (Jvm.Cond.fieldLink "StoryStates$Clauses" (18 : Nat) "StoryStates$Clauses" "xs" "[I") ∈ sTB := sMem 55 (by decide +kernel) rfl
theorem gf_c_C_18_4 : sGf Zc "StoryStates$Clauses" 18 4 2 (some (some 28)) := ⟨4, 4, _, "StoryStates$Clauses", T_c4, rfl, rfl, rfl, by decide, Or.inl wm_55, rfl, us_c4⟩
theorem wm_57 : (Jvm.Cond.fieldLink "StoryStates$Clauses" (21 : Nat) "StoryStates$Clauses" "ys" "[I") ∈ sTB := sMem 57 (by decide +kernel) rfl
theorem gf_c_C_21_4 : sGf Zc "StoryStates$Clauses" 21 4 3 (some (some 29)) := ⟨4, 4, _, "StoryStates$Clauses", T_c4, rfl, rfl, rfl, by decide, Or.inl wm_57, rfl, us_c4⟩
theorem cw_C_append_1_2 : sCw "StoryStates$Clauses" 24 y_C_endOf prog_4_method_4_code 2 (some .int) rm_C_endOf_1 rm_C_append_1 1 := ⟨Or.inl wm_538, wm_5, wm_541, by decide, by decide +kernel, ⟨rfl, rfl⟩, by decide, by decide⟩
theorem gf_c_C_15_5 : sGf Zc "StoryStates$Clauses" 15 5 1 (some (some 31)) := ⟨4, 4, _, "StoryStates$Clauses", T_c4, rfl, rfl, rfl, by decide, Or.inl wm_53, rfl, us_c4⟩
theorem gf_c_C_18_5 : sGf Zc "StoryStates$Clauses" 18 5 2 (some (some 32)) := ⟨4, 4, _, "StoryStates$Clauses", T_c4, rfl, rfl, rfl, by decide, Or.inl wm_55, rfl, us_c4⟩
theorem gf_c_C_21_5 : sGf Zc "StoryStates$Clauses" 21 5 3 (some (some 33)) := ⟨4, 4, _, "StoryStates$Clauses", T_c4, rfl, rfl, rfl, by decide, Or.inl wm_57, rfl, us_c4⟩
theorem wm_621 : (Jvm.Cond.methodLink "StoryStates$Bits" (19 : Nat) ({ cls := "StoryStates$Bits", name := "placeOf", desc := "(JI)I" } : Jvm.MethodName)) ∈ sTB := sMem 621 (by decide +kernel) rfl
theorem wm_623 : (Jvm.Cond.code ({ cls := "StoryStates$Bits", name := "placeOf", desc := "(JI)I" } : Jvm.MethodName) prog_3_method_4_code (3 : Nat) (Option.some Jvm.ClassFile.FieldType.int)) ∈ sTB := sMem 623 (by decide +kernel) rfl
theorem cw_B_isSeen_2 : sCw "StoryStates$Bits" 19 y_B_placeOf prog_3_method_4_code 3 (some .int) rm_B_placeOf rm_B_isSeen 2 := ⟨Or.inl wm_621, wm_8, wm_623, by decide, by decide +kernel, ⟨rfl, rfl⟩, by decide, by decide⟩
theorem wm_622 : (Jvm.Cond.static ({ cls := "StoryStates$Bits", name := "placeOf", desc := "(JI)I" } : Jvm.MethodName)) ∈ sTB := sMem 622 (by decide +kernel) rfl
theorem wm_624 : (Jvm.Cond.methodLink "StoryStates$Bits" (23 : Nat) ({ cls := "StoryStates$Bits", name := "isOpen", desc := "(JI)Z" } : Jvm.MethodName)) ∈ sTB := sMem 624 (by decide +kernel) rfl
theorem wm_626 : (Jvm.Cond.code ({ cls := "StoryStates$Bits", name := "isOpen", desc := "(JI)Z" } : Jvm.MethodName) prog_3_method_6_code (3 : Nat) (Option.some Jvm.ClassFile.FieldType.boolean)) ∈ sTB := sMem 626 (by decide +kernel) rfl
theorem cw_B_isSeen_27 : sCw "StoryStates$Bits" 23 y_B_isOpen prog_3_method_6_code 3 (some .boolean) rm_B_isOpen rm_B_isSeen 2 := ⟨Or.inl wm_624, wm_8, wm_626, by decide, by decide +kernel, ⟨rfl, rfl⟩, by decide, by decide⟩
theorem wm_625 : (Jvm.Cond.static ({ cls := "StoryStates$Bits", name := "isOpen", desc := "(JI)Z" } : Jvm.MethodName)) ∈ sTB := sMem 625 (by decide +kernel) rfl
theorem cw_B_isSeen_40 : sCw "StoryStates$Bits" 19 y_B_placeOf prog_3_method_4_code 3 (some .int) rm_B_placeOf rm_B_isSeen 2 := ⟨Or.inl wm_621, wm_8, wm_623, by decide, by decide +kernel, ⟨rfl, rfl⟩, by decide, by decide⟩
theorem wm_627 : (Jvm.Cond.methodLink "StoryStates$Bits" (27 : Nat) ({ cls := "StoryStates$Bits", name := "roomOf", desc := "(J)I" } : Jvm.MethodName)) ∈ sTB := sMem 627 (by decide +kernel) rfl
theorem wm_629 : (Jvm.Cond.code ({ cls := "StoryStates$Bits", name := "roomOf", desc := "(J)I" } : Jvm.MethodName) prog_3_method_2_code (2 : Nat) (Option.some Jvm.ClassFile.FieldType.int)) ∈ sTB := sMem 629 (by decide +kernel) rfl
theorem cw_B_isSeen_58 : sCw "StoryStates$Bits" 27 y_B_roomOf prog_3_method_2_code 2 (some .int) rm_B_roomOf rm_B_isSeen 1 := ⟨Or.inl wm_627, wm_8, wm_629, by decide, by decide +kernel, ⟨rfl, rfl⟩, by decide, by decide⟩
theorem wm_628 : (Jvm.Cond.static ({ cls := "StoryStates$Bits", name := "roomOf", desc := "(J)I" } : Jvm.MethodName)) ∈ sTB := sMem 628 (by decide +kernel) rfl
theorem wm_187 : (Jvm.Cond.fieldLink "StoryStates$Engine" (22 : Nat) "StoryStates$Engine" "now" "J") ∈ sTB := sMem 187 (by decide +kernel) rfl
theorem gf_c_E_22_1 : sGf Zc "StoryStates$Engine" 22 1 4 (some none) := ⟨1, 5, _, "StoryStates$Engine", T_c1, rfl, rfl, rfl, by decide, Or.inl wm_187, rfl, us_c1⟩
theorem wm_618 : (Jvm.Cond.methodLink "StoryStates$Engine" (86 : Nat) ({ cls := "StoryStates$Bits", name := "isSeen", desc := "(JI)Z" } : Jvm.MethodName)) ∈ sTB := sMem 618 (by decide +kernel) rfl
theorem wm_620 : (Jvm.Cond.code ({ cls := "StoryStates$Bits", name := "isSeen", desc := "(JI)Z" } : Jvm.MethodName) prog_3_method_17_code (5 : Nat) (Option.some Jvm.ClassFile.FieldType.boolean)) ∈ sTB := sMem 620 (by decide +kernel) rfl
theorem cw_E_isSeenOrNone_10 : sCw "StoryStates$Engine" 86 y_B_isSeen prog_3_method_17_code 5 (some .boolean) rm_B_isSeen rm_E_isSeenOrNone 2 := ⟨Or.inl wm_618, wm_8, wm_620, by decide, by decide +kernel, ⟨rfl, rfl⟩, by decide, by decide⟩
theorem wm_619 : (Jvm.Cond.static ({ cls := "StoryStates$Bits", name := "isSeen", desc := "(JI)Z" } : Jvm.MethodName)) ∈ sTB := sMem 619 (by decide +kernel) rfl
theorem wm_647 : (Jvm.Cond.methodLink "StoryStates$Engine" (115 : Nat) ({ cls := "StoryStates$Bits", name := "roomOf", desc := "(J)I" } : Jvm.MethodName)) ∈ sTB := sMem 647 (by decide +kernel) rfl
theorem cw_E_holds_36 : sCw "StoryStates$Engine" 115 y_B_roomOf prog_3_method_2_code 2 (some .int) rm_B_roomOf rm_E_holds 1 := ⟨Or.inl wm_647, wm_8, wm_629, by decide, by decide +kernel, ⟨rfl, rfl⟩, by decide, by decide⟩
theorem wm_648 : (Jvm.Cond.methodLink "StoryStates$Engine" (119 : Nat) ({ cls := "StoryStates$Bits", name := "placeOf", desc := "(JI)I" } : Jvm.MethodName)) ∈ sTB := sMem 648 (by decide +kernel) rfl
theorem cw_E_holds_54 : sCw "StoryStates$Engine" 119 y_B_placeOf prog_3_method_4_code 3 (some .int) rm_B_placeOf rm_E_holds 2 := ⟨Or.inl wm_648, wm_8, wm_623, by decide, by decide +kernel, ⟨rfl, rfl⟩, by decide, by decide⟩
theorem wm_649 : (Jvm.Cond.methodLink "StoryStates$Engine" (123 : Nat) ({ cls := "StoryStates$Bits", name := "isOpen", desc := "(JI)Z" } : Jvm.MethodName)) ∈ sTB := sMem 649 (by decide +kernel) rfl
theorem cw_E_holds_72 : sCw "StoryStates$Engine" 123 y_B_isOpen prog_3_method_6_code 3 (some .boolean) rm_B_isOpen rm_E_holds 2 := ⟨Or.inl wm_649, wm_8, wm_626, by decide, by decide +kernel, ⟨rfl, rfl⟩, by decide, by decide⟩
theorem wm_650 : (Jvm.Cond.methodLink "StoryStates$Engine" (126 : Nat) ({ cls := "StoryStates$Bits", name := "amountOf", desc := "(JI)I" } : Jvm.MethodName)) ∈ sTB := sMem 650 (by decide +kernel) rfl
theorem wm_652 : (Jvm.Cond.code ({ cls := "StoryStates$Bits", name := "amountOf", desc := "(JI)I" } : Jvm.MethodName) prog_3_method_8_code (3 : Nat) (Option.some Jvm.ClassFile.FieldType.int)) ∈ sTB := sMem 652 (by decide +kernel) rfl
theorem cw_E_holds_99 : sCw "StoryStates$Engine" 126 y_B_amountOf prog_3_method_8_code 3 (some .int) rm_B_amountOf rm_E_holds 2 := ⟨Or.inl wm_650, wm_8, wm_652, by decide, by decide +kernel, ⟨rfl, rfl⟩, by decide, by decide⟩
theorem wm_651 : (Jvm.Cond.static ({ cls := "StoryStates$Bits", name := "amountOf", desc := "(JI)I" } : Jvm.MethodName)) ∈ sTB := sMem 651 (by decide +kernel) rfl
theorem cw_E_holds_117 : sCw "StoryStates$Engine" 126 y_B_amountOf prog_3_method_8_code 3 (some .int) rm_B_amountOf rm_E_holds 2 := ⟨Or.inl wm_650, wm_8, wm_652, by decide, by decide +kernel, ⟨rfl, rfl⟩, by decide, by decide⟩
theorem wm_178 : (Jvm.Cond.fieldLink "StoryStates$Engine" (12 : Nat) "StoryStates$Engine" "world" "LStoryStates$World;") ∈ sTB := sMem 178 (by decide +kernel) rfl
theorem gf_c_E_12_1 : sGf Zc "StoryStates$Engine" 12 1 0 (some (some 2)) := ⟨1, 5, _, "StoryStates$Engine", T_c1, rfl, rfl, rfl, by decide, Or.inl wm_178, rfl, us_c1⟩
theorem wm_118 : (Jvm.Cond.fieldLink "StoryStates$Engine" (73 : Nat) "StoryStates$World" "rules" "LStoryStates$Rules;") ∈ sTB := sMem 118 (by decide +kernel) rfl
theorem gf_c_E_73_2 : sGf Zc "StoryStates$Engine" 73 2 7 (some (some 3)) := ⟨2, 18, _, "StoryStates$World", T_c2, rfl, rfl, rfl, by decide, Or.inl wm_118, rfl, us_c2⟩
theorem wm_79 : (Jvm.Cond.fieldLink "StoryStates$Engine" (90 : Nat) "StoryStates$Rules" "conditions" "LStoryStates$Clauses;") ∈ sTB := sMem 79 (by decide +kernel) rfl
theorem gf_c_E_90_3 : sGf Zc "StoryStates$Engine" 90 3 5 (some (some 4)) := ⟨3, 8, _, "StoryStates$Rules", T_c3, rfl, rfl, rfl, by decide, Or.inl wm_79, rfl, us_c3⟩
theorem wm_638 : (Jvm.Cond.methodLink "StoryStates$Engine" (94 : Nat) ({ cls := "StoryStates$Clauses", name := "endOf", desc := "(I)I" } : Jvm.MethodName)) ∈ sTB := sMem 638 (by decide +kernel) rfl
theorem cw_E_conditionsHold_13 : sCw "StoryStates$Engine" 94 y_C_endOf prog_4_method_4_code 2 (some .int) rm_C_endOf rm_E_conditionsHold 1 := ⟨Or.inl wm_638, wm_5, wm_541, by decide, by decide +kernel, ⟨rfl, rfl⟩, by decide, by decide⟩
theorem wm_639 : (Jvm.Cond.methodLink "StoryStates$Engine" (100 : Nat) ({ cls := "StoryStates$Clauses", name := "startOf", desc := "(I)I" } : Jvm.MethodName)) ∈ sTB := sMem 639 (by decide +kernel) rfl
theorem wm_642 : (Jvm.Cond.code ({ cls := "StoryStates$Clauses", name := "startOf", desc := "(I)I" } : Jvm.MethodName) prog_4_method_3_code (2 : Nat) (Option.some Jvm.ClassFile.FieldType.int)) ∈ sTB := sMem 642 (by decide +kernel) rfl
theorem cw_E_conditionsHold_19 : sCw "StoryStates$Engine" 100 y_C_startOf prog_4_method_3_code 2 (some .int) rm_C_startOf rm_E_conditionsHold 1 := ⟨Or.inl wm_639, wm_5, wm_642, by decide, by decide +kernel, ⟨rfl, rfl⟩, by decide, by decide⟩
theorem wm_640 : (Jvm.Cond.instanceMethod ({ cls := "StoryStates$Clauses", name := "startOf", desc := "(I)I" } : Jvm.MethodName)) ∈ sTB := sMem 640 (by decide +kernel) rfl
theorem wm_641 : (Jvm.Cond.selects "StoryStates$Clauses" ({ cls := "StoryStates$Clauses", name := "startOf", desc := "(I)I" } : Jvm.MethodName) ({ cls := "StoryStates$Clauses", name := "startOf", desc := "(I)I" } : Jvm.MethodName)) ∈ sTB := sMem 641 (by decide +kernel) rfl
theorem wm_54 : (Jvm.Cond.fieldLink "StoryStates$Engine" (103 : Nat) "StoryStates$Clauses" "kinds" "[I") ∈ sTB := sMem 54 (by decide +kernel) rfl
theorem gf_c_E_103_4 : sGf Zc "StoryStates$Engine" 103 4 1 (some (some 27)) := ⟨4, 4, _, "StoryStates$Clauses", T_c4, rfl, rfl, rfl, by decide, Or.inl wm_54, rfl, us_c4⟩
theorem wm_56 : (Jvm.Cond.fieldLink "StoryStates$Engine" (106 : Nat) "StoryStates$Clauses" "xs" "[I") ∈ sTB := sMem 56 (by decide +kernel) rfl
theorem gf_c_E_106_4 : sGf Zc "StoryStates$Engine" 106 4 2 (some (some 28)) := ⟨4, 4, _, "StoryStates$Clauses", T_c4, rfl, rfl, rfl, by decide, Or.inl wm_56, rfl, us_c4⟩
theorem wm_58 : (Jvm.Cond.fieldLink "StoryStates$Engine" (109 : Nat) "StoryStates$Clauses" "ys" "[I") ∈ sTB := sMem 58 (by decide +kernel) rfl
theorem gf_c_E_109_4 : sGf Zc "StoryStates$Engine" 109 4 3 (some (some 29)) := ⟨4, 4, _, "StoryStates$Clauses", T_c4, rfl, rfl, rfl, by decide, Or.inl wm_58, rfl, us_c4⟩
theorem wm_643 : (Jvm.Cond.methodLink "StoryStates$Engine" (112 : Nat) ({ cls := "StoryStates$Engine", name := "holds", desc := "(III)Z" } : Jvm.MethodName)) ∈ sTB := sMem 643 (by decide +kernel) rfl
theorem wm_2 : (Jvm.Cond.initialized "StoryStates$Engine") ∈ sTB := sMem 2 (by decide +kernel) rfl
theorem wm_646 : (Jvm.Cond.code ({ cls := "StoryStates$Engine", name := "holds", desc := "(III)Z" } : Jvm.MethodName) prog_6_method_6_code (4 : Nat) (Option.some Jvm.ClassFile.FieldType.boolean)) ∈ sTB := sMem 646 (by decide +kernel) rfl
theorem cw_E_conditionsHold_52 : sCw "StoryStates$Engine" 112 y_E_holds prog_6_method_6_code 4 (some .boolean) rm_E_holds rm_E_conditionsHold 3 := ⟨Or.inl wm_643, wm_2, wm_646, by decide, by decide +kernel, ⟨rfl, rfl⟩, by decide, by decide⟩
theorem wm_645 : (Jvm.Cond.instanceMethod ({ cls := "StoryStates$Engine", name := "holds", desc := "(III)Z" } : Jvm.MethodName)) ∈ sTB := sMem 645 (by decide +kernel) rfl
theorem ws_E_holds : Jvm.Cond.selects "StoryStates$Engine" ({ cls := "StoryStates$Engine", name := "holds", desc := "(III)Z" } : Jvm.MethodName) ({ cls := "StoryStates$Engine", name := "holds", desc := "(III)Z" } : Jvm.MethodName) ∈ sTB := sSel 5 ({ cls := "StoryStates$Engine", name := "holds", desc := "(III)Z" } : Jvm.MethodName) (by decide +kernel) rfl
theorem wm_614 : (Jvm.Cond.methodLink "StoryStates$Engine" (70 : Nat) ({ cls := "StoryStates$Engine", name := "isSeenOrNone", desc := "(I)Z" } : Jvm.MethodName)) ∈ sTB := sMem 614 (by decide +kernel) rfl
theorem wm_617 : (Jvm.Cond.code ({ cls := "StoryStates$Engine", name := "isSeenOrNone", desc := "(I)Z" } : Jvm.MethodName) prog_6_method_4_code (2 : Nat) (Option.some Jvm.ClassFile.FieldType.boolean)) ∈ sTB := sMem 617 (by decide +kernel) rfl
theorem cw_E_fittingRule_6 : sCw "StoryStates$Engine" 70 y_E_isSeenOrNone prog_6_method_4_code 2 (some .boolean) rm_E_isSeenOrNone rm_E_fittingRule 1 := ⟨Or.inl wm_614, wm_2, wm_617, by decide, by decide +kernel, ⟨rfl, rfl⟩, by decide, by decide⟩
theorem wm_616 : (Jvm.Cond.instanceMethod ({ cls := "StoryStates$Engine", name := "isSeenOrNone", desc := "(I)Z" } : Jvm.MethodName)) ∈ sTB := sMem 616 (by decide +kernel) rfl
theorem ws_E_isSeenOrNone : Jvm.Cond.selects "StoryStates$Engine" ({ cls := "StoryStates$Engine", name := "isSeenOrNone", desc := "(I)Z" } : Jvm.MethodName) ({ cls := "StoryStates$Engine", name := "isSeenOrNone", desc := "(I)Z" } : Jvm.MethodName) ∈ sTB := sSel 5 ({ cls := "StoryStates$Engine", name := "isSeenOrNone", desc := "(I)Z" } : Jvm.MethodName) (by decide +kernel) rfl
theorem cw_E_fittingRule_14 : sCw "StoryStates$Engine" 70 y_E_isSeenOrNone prog_6_method_4_code 2 (some .boolean) rm_E_isSeenOrNone rm_E_fittingRule 1 := ⟨Or.inl wm_614, wm_2, wm_617, by decide, by decide +kernel, ⟨rfl, rfl⟩, by decide, by decide⟩
theorem wm_86 : (Jvm.Cond.fieldLink "StoryStates$Engine" (77 : Nat) "StoryStates$Rules" "size" "I") ∈ sTB := sMem 86 (by decide +kernel) rfl
theorem gf_c_E_77_3 : sGf Zc "StoryStates$Engine" 77 3 7 none := ⟨3, 8, _, "StoryStates$Rules", T_c3, rfl, rfl, rfl, by decide, Or.inl wm_86, rfl, us_c3⟩
theorem wm_630 : (Jvm.Cond.methodLink "StoryStates$Engine" (82 : Nat) ({ cls := "StoryStates$Rules", name := "answers", desc := "(IIII)Z" } : Jvm.MethodName)) ∈ sTB := sMem 630 (by decide +kernel) rfl
theorem wm_4 : (Jvm.Cond.initialized "StoryStates$Rules") ∈ sTB := sMem 4 (by decide +kernel) rfl
theorem wm_633 : (Jvm.Cond.code ({ cls := "StoryStates$Rules", name := "answers", desc := "(IIII)Z" } : Jvm.MethodName) prog_7_method_3_code (5 : Nat) (Option.some Jvm.ClassFile.FieldType.boolean)) ∈ sTB := sMem 633 (by decide +kernel) rfl
theorem cw_E_fittingRule_52 : sCw "StoryStates$Engine" 82 y_R_answers prog_7_method_3_code 5 (some .boolean) rm_R_answers rm_E_fittingRule 4 := ⟨Or.inl wm_630, wm_4, wm_633, by decide, by decide +kernel, ⟨rfl, rfl⟩, by decide, by decide⟩
theorem wm_631 : (Jvm.Cond.instanceMethod ({ cls := "StoryStates$Rules", name := "answers", desc := "(IIII)Z" } : Jvm.MethodName)) ∈ sTB := sMem 631 (by decide +kernel) rfl
theorem wm_632 : (Jvm.Cond.selects "StoryStates$Rules" ({ cls := "StoryStates$Rules", name := "answers", desc := "(IIII)Z" } : Jvm.MethodName) ({ cls := "StoryStates$Rules", name := "answers", desc := "(IIII)Z" } : Jvm.MethodName)) ∈ sTB := sMem 632 (by decide +kernel) rfl
theorem wm_634 : (Jvm.Cond.methodLink "StoryStates$Engine" (67 : Nat) ({ cls := "StoryStates$Engine", name := "conditionsHold", desc := "(I)Z" } : Jvm.MethodName)) ∈ sTB := sMem 634 (by decide +kernel) rfl
theorem wm_637 : (Jvm.Cond.code ({ cls := "StoryStates$Engine", name := "conditionsHold", desc := "(I)Z" } : Jvm.MethodName) prog_6_method_5_code (5 : Nat) (Option.some Jvm.ClassFile.FieldType.boolean)) ∈ sTB := sMem 637 (by decide +kernel) rfl
theorem cw_E_fittingRule_61 : sCw "StoryStates$Engine" 67 y_E_conditionsHold prog_6_method_5_code 5 (some .boolean) rm_E_conditionsHold rm_E_fittingRule 1 := ⟨Or.inl wm_634, wm_2, wm_637, by decide, by decide +kernel, ⟨rfl, rfl⟩, by decide, by decide⟩
theorem wm_636 : (Jvm.Cond.instanceMethod ({ cls := "StoryStates$Engine", name := "conditionsHold", desc := "(I)Z" } : Jvm.MethodName)) ∈ sTB := sMem 636 (by decide +kernel) rfl
theorem ws_E_conditionsHold : Jvm.Cond.selects "StoryStates$Engine" ({ cls := "StoryStates$Engine", name := "conditionsHold", desc := "(I)Z" } : Jvm.MethodName) ({ cls := "StoryStates$Engine", name := "conditionsHold", desc := "(I)Z" } : Jvm.MethodName) ∈ sTB := sSel 5 ({ cls := "StoryStates$Engine", name := "conditionsHold", desc := "(I)Z" } : Jvm.MethodName) (by decide +kernel) rfl
theorem wm_183 : (Jvm.Cond.fieldLink "StoryStates$Engine" (26 : Nat) "StoryStates$Engine" "textCount" "I") ∈ sTB := sMem 183 (by decide +kernel) rfl
theorem gf_c_E_26_1 : sGf Zc "StoryStates$Engine" 26 1 2 none := ⟨1, 5, _, "StoryStates$Engine", T_c1, rfl, rfl, rfl, by decide, Or.inl wm_183, rfl, us_c1⟩
theorem wm_181 : (Jvm.Cond.fieldLink "StoryStates$Engine" (18 : Nat) "StoryStates$Engine" "texts" "[I") ∈ sTB := sMem 181 (by decide +kernel) rfl
theorem gf_c_E_18_1 : sGf Zc "StoryStates$Engine" 18 1 1 (some (some 9)) := ⟨1, 5, _, "StoryStates$Engine", T_c1, rfl, rfl, rfl, by decide, Or.inl wm_181, rfl, us_c1⟩
theorem pf_c_E_26_1 : sPf Zc "StoryStates$Engine" 26 1 2 none .int := ⟨1, 5, _, "StoryStates$Engine", T_c1, ty_c1, rfl, rfl, rfl, by decide, Or.inl wm_183, rfl, us_c1, tyok_c1, nm_c1, rfl, by decide +kernel⟩
theorem wm_603 : (Jvm.Cond.methodLink "StoryStates$Bits" (15 : Nat) ({ cls := "StoryStates$Bits", name := "endingOf", desc := "(J)I" } : Jvm.MethodName)) ∈ sTB := sMem 603 (by decide +kernel) rfl
theorem wm_605 : (Jvm.Cond.code ({ cls := "StoryStates$Bits", name := "endingOf", desc := "(J)I" } : Jvm.MethodName) prog_3_method_15_code (2 : Nat) (Option.some Jvm.ClassFile.FieldType.int)) ∈ sTB := sMem 605 (by decide +kernel) rfl
theorem cw_B_isOver_1 : sCw "StoryStates$Bits" 15 y_B_endingOf prog_3_method_15_code 2 (some .int) rm_B_endingOf rm_B_isOver 1 := ⟨Or.inl wm_603, wm_8, wm_605, by decide, by decide +kernel, ⟨rfl, rfl⟩, by decide, by decide⟩
theorem wm_604 : (Jvm.Cond.static ({ cls := "StoryStates$Bits", name := "endingOf", desc := "(J)I" } : Jvm.MethodName)) ∈ sTB := sMem 604 (by decide +kernel) rfl
theorem cw_B_withEnding_8 : sCw "StoryStates$Bits" 9 y_B_write prog_3_method_19_code 5 (some .long) rm_B_write rm_B_withEnding 4 := ⟨Or.inl wm_290, wm_8, wm_292, by decide, by decide +kernel, ⟨rfl, rfl⟩, by decide, by decide⟩
theorem cw_B_isPartOf_29 : sCw "StoryStates$Bits" 19 y_B_placeOf prog_3_method_4_code 3 (some .int) rm_B_placeOf rm_B_isPartOf 2 := ⟨Or.inl wm_621, wm_8, wm_623, by decide, by decide +kernel, ⟨rfl, rfl⟩, by decide, by decide⟩
theorem cw_B_withRoom_5 : sCw "StoryStates$Bits" 9 y_B_write prog_3_method_19_code 5 (some .long) rm_B_write rm_B_withRoom 4 := ⟨Or.inl wm_290, wm_8, wm_292, by decide, by decide +kernel, ⟨rfl, rfl⟩, by decide, by decide⟩
theorem wm_666 : (Jvm.Cond.methodLink "StoryStates$Engine" (137 : Nat) ({ cls := "StoryStates$Bits", name := "withRoom", desc := "(JI)J" } : Jvm.MethodName)) ∈ sTB := sMem 666 (by decide +kernel) rfl
theorem wm_668 : (Jvm.Cond.code ({ cls := "StoryStates$Bits", name := "withRoom", desc := "(JI)J" } : Jvm.MethodName) prog_3_method_3_code (3 : Nat) (Option.some Jvm.ClassFile.FieldType.long)) ∈ sTB := sMem 668 (by decide +kernel) rfl
theorem cw_E_doEffect_38 : sCw "StoryStates$Engine" 137 y_B_withRoom prog_3_method_3_code 3 (some .long) rm_B_withRoom rm_E_doEffect 2 := ⟨Or.inl wm_666, wm_8, wm_668, by decide, by decide +kernel, ⟨rfl, rfl⟩, by decide, by decide⟩
theorem wm_667 : (Jvm.Cond.static ({ cls := "StoryStates$Bits", name := "withRoom", desc := "(JI)J" } : Jvm.MethodName)) ∈ sTB := sMem 667 (by decide +kernel) rfl
theorem pf_c_E_22_1 : sPf Zc "StoryStates$Engine" 22 1 4 (some none) .long := ⟨1, 5, _, "StoryStates$Engine", T_c1, ty_c1, rfl, rfl, rfl, by decide, Or.inl wm_187, rfl, us_c1, tyok_c1, nm_c1, rfl, by decide +kernel⟩
theorem wm_669 : (Jvm.Cond.methodLink "StoryStates$Engine" (141 : Nat) ({ cls := "StoryStates$Bits", name := "isPartOf", desc := "(JII)Z" } : Jvm.MethodName)) ∈ sTB := sMem 669 (by decide +kernel) rfl
theorem wm_671 : (Jvm.Cond.code ({ cls := "StoryStates$Bits", name := "isPartOf", desc := "(JII)Z" } : Jvm.MethodName) prog_3_method_18_code (6 : Nat) (Option.some Jvm.ClassFile.FieldType.boolean)) ∈ sTB := sMem 671 (by decide +kernel) rfl
theorem cw_E_doEffect_62 : sCw "StoryStates$Engine" 141 y_B_isPartOf prog_3_method_18_code 6 (some .boolean) rm_B_isPartOf rm_E_doEffect 3 := ⟨Or.inl wm_669, wm_8, wm_671, by decide, by decide +kernel, ⟨rfl, rfl⟩, by decide, by decide⟩
theorem wm_670 : (Jvm.Cond.static ({ cls := "StoryStates$Bits", name := "isPartOf", desc := "(JII)Z" } : Jvm.MethodName)) ∈ sTB := sMem 670 (by decide +kernel) rfl
theorem wm_673 : (Jvm.Cond.methodLink "StoryStates$Engine" (149 : Nat) ({ cls := "StoryStates$Bits", name := "withOpen", desc := "(JII)J" } : Jvm.MethodName)) ∈ sTB := sMem 673 (by decide +kernel) rfl
theorem cw_E_doEffect_91 : sCw "StoryStates$Engine" 149 y_B_withOpen prog_3_method_7_code 4 (some .long) rm_B_withOpen rm_E_doEffect 3 := ⟨Or.inl wm_673, wm_8, wm_296, by decide, by decide +kernel, ⟨rfl, rfl⟩, by decide, by decide⟩
theorem cw_E_doEffect_105 : sCw "StoryStates$Engine" 126 y_B_amountOf prog_3_method_8_code 3 (some .int) rm_B_amountOf rm_E_doEffect 2 := ⟨Or.inl wm_650, wm_8, wm_652, by decide, by decide +kernel, ⟨rfl, rfl⟩, by decide, by decide⟩
theorem wm_114 : (Jvm.Cond.fieldLink "StoryStates$Engine" (152 : Nat) "StoryStates$World" "mostAmounts" "[I") ∈ sTB := sMem 114 (by decide +kernel) rfl
theorem gf_c_E_152_2 : sGf Zc "StoryStates$Engine" 152 2 5 (some (some 15)) := ⟨2, 18, _, "StoryStates$World", T_c2, rfl, rfl, rfl, by decide, Or.inl wm_114, rfl, us_c2⟩
theorem wm_674 : (Jvm.Cond.methodLink "StoryStates$Engine" (155 : Nat) ({ cls := "java/lang/Math", name := "min", desc := "(II)I" } : Jvm.MethodName)) ∈ sTB := sMem 674 (by decide +kernel) rfl
theorem wm_675 : (Jvm.Cond.static ({ cls := "java/lang/Math", name := "min", desc := "(II)I" } : Jvm.MethodName)) ∈ sTB := sMem 675 (by decide +kernel) rfl
theorem wm_15 : (Jvm.Cond.initialized "java/lang/Math") ∈ sTB := sMem 15 (by decide +kernel) rfl
theorem wm_676 : (Jvm.Cond.code ({ cls := "java/lang/Math", name := "min", desc := "(II)I" } : Jvm.MethodName) prog_15_method_69_code (2 : Nat) (Option.some Jvm.ClassFile.FieldType.int)) ∈ sTB := sMem 676 (by decide +kernel) rfl
theorem wm_677 : (Jvm.Cond.methodLink "StoryStates$Engine" (161 : Nat) ({ cls := "java/lang/Math", name := "max", desc := "(II)I" } : Jvm.MethodName)) ∈ sTB := sMem 677 (by decide +kernel) rfl
theorem wm_678 : (Jvm.Cond.static ({ cls := "java/lang/Math", name := "max", desc := "(II)I" } : Jvm.MethodName)) ∈ sTB := sMem 678 (by decide +kernel) rfl
theorem wm_679 : (Jvm.Cond.code ({ cls := "java/lang/Math", name := "max", desc := "(II)I" } : Jvm.MethodName) prog_15_method_65_code (2 : Nat) (Option.some Jvm.ClassFile.FieldType.int)) ∈ sTB := sMem 679 (by decide +kernel) rfl
theorem wm_680 : (Jvm.Cond.methodLink "StoryStates$Engine" (164 : Nat) ({ cls := "StoryStates$Bits", name := "withAmount", desc := "(JII)J" } : Jvm.MethodName)) ∈ sTB := sMem 680 (by decide +kernel) rfl
theorem cw_E_doEffect_136 : sCw "StoryStates$Engine" 164 y_B_withAmount prog_3_method_9_code 4 (some .long) rm_B_withAmount rm_E_doEffect 3 := ⟨Or.inl wm_680, wm_8, wm_299, by decide, by decide +kernel, ⟨rfl, rfl⟩, by decide, by decide⟩
theorem wm_681 : (Jvm.Cond.methodLink "StoryStates$Engine" (167 : Nat) ({ cls := "StoryStates$Bits", name := "withEnding", desc := "(JI)J" } : Jvm.MethodName)) ∈ sTB := sMem 681 (by decide +kernel) rfl
theorem wm_683 : (Jvm.Cond.code ({ cls := "StoryStates$Bits", name := "withEnding", desc := "(JI)J" } : Jvm.MethodName) prog_3_method_16_code (3 : Nat) (Option.some Jvm.ClassFile.FieldType.long)) ∈ sTB := sMem 683 (by decide +kernel) rfl
theorem cw_E_doEffect_151 : sCw "StoryStates$Engine" 167 y_B_withEnding prog_3_method_16_code 3 (some .long) rm_B_withEnding rm_E_doEffect 2 := ⟨Or.inl wm_681, wm_8, wm_683, by decide, by decide +kernel, ⟨rfl, rfl⟩, by decide, by decide⟩
theorem wm_682 : (Jvm.Cond.static ({ cls := "StoryStates$Bits", name := "withEnding", desc := "(JI)J" } : Jvm.MethodName)) ∈ sTB := sMem 682 (by decide +kernel) rfl
theorem wm_672 : (Jvm.Cond.methodLink "StoryStates$Engine" (145 : Nat) ({ cls := "StoryStates$Bits", name := "withPlace", desc := "(JII)J" } : Jvm.MethodName)) ∈ sTB := sMem 672 (by decide +kernel) rfl
theorem cw_E_doEffect_75 : sCw "StoryStates$Engine" 145 y_B_withPlace prog_3_method_5_code 4 (some .long) rm_B_withPlace rm_E_doEffect 3 := ⟨Or.inl wm_672, wm_8, wm_289, by decide, by decide +kernel, ⟨rfl, rfl⟩, by decide, by decide⟩
theorem wm_185 : (Jvm.Cond.fieldLink "StoryStates$Engine" (30 : Nat) "StoryStates$Engine" "rulesDone" "I") ∈ sTB := sMem 185 (by decide +kernel) rfl
theorem gf_c_E_30_1 : sGf Zc "StoryStates$Engine" 30 1 3 none := ⟨1, 5, _, "StoryStates$Engine", T_c1, rfl, rfl, rfl, by decide, Or.inl wm_185, rfl, us_c1⟩
theorem pf_c_E_30_1 : sPf Zc "StoryStates$Engine" 30 1 3 none .int := ⟨1, 5, _, "StoryStates$Engine", T_c1, ty_c1, rfl, rfl, rfl, by decide, Or.inl wm_185, rfl, us_c1, tyok_c1, nm_c1, rfl, by decide +kernel⟩
theorem wm_74 : (Jvm.Cond.fieldLink "StoryStates$Engine" (129 : Nat) "StoryStates$Rules" "texts" "[I") ∈ sTB := sMem 74 (by decide +kernel) rfl
theorem gf_c_E_129_3 : sGf Zc "StoryStates$Engine" 129 3 3 (some (some 24)) := ⟨3, 8, _, "StoryStates$Rules", T_c3, rfl, rfl, rfl, by decide, Or.inl wm_74, rfl, us_c3⟩
theorem wm_657 : (Jvm.Cond.methodLink "StoryStates$Engine" (45 : Nat) ({ cls := "StoryStates$Engine", name := "say", desc := "(I)V" } : Jvm.MethodName)) ∈ sTB := sMem 657 (by decide +kernel) rfl
theorem wm_660 : (Jvm.Cond.code ({ cls := "StoryStates$Engine", name := "say", desc := "(I)V" } : Jvm.MethodName) prog_6_method_17_code (2 : Nat) (Option.none : Option Jvm.ClassFile.FieldType)) ∈ sTB := sMem 660 (by decide +kernel) rfl
theorem cw_E_doRule_25 : sCw "StoryStates$Engine" 45 y_E_say prog_6_method_17_code 2 none rm_E_say rm_E_doRule 1 := ⟨Or.inl wm_657, wm_2, wm_660, by decide, by decide +kernel, ⟨rfl, rfl⟩, by decide, by decide⟩
theorem wm_659 : (Jvm.Cond.instanceMethod ({ cls := "StoryStates$Engine", name := "say", desc := "(I)V" } : Jvm.MethodName)) ∈ sTB := sMem 659 (by decide +kernel) rfl
theorem ws_E_say : Jvm.Cond.selects "StoryStates$Engine" ({ cls := "StoryStates$Engine", name := "say", desc := "(I)V" } : Jvm.MethodName) ({ cls := "StoryStates$Engine", name := "say", desc := "(I)V" } : Jvm.MethodName) ∈ sTB := sSel 5 ({ cls := "StoryStates$Engine", name := "say", desc := "(I)V" } : Jvm.MethodName) (by decide +kernel) rfl
theorem wm_82 : (Jvm.Cond.fieldLink "StoryStates$Engine" (130 : Nat) "StoryStates$Rules" "effects" "LStoryStates$Clauses;") ∈ sTB := sMem 82 (by decide +kernel) rfl
theorem gf_c_E_130_3 : sGf Zc "StoryStates$Engine" 130 3 6 (some (some 5)) := ⟨3, 8, _, "StoryStates$Rules", T_c3, rfl, rfl, rfl, by decide, Or.inl wm_82, rfl, us_c3⟩
theorem cw_E_doRule_41 : sCw "StoryStates$Engine" 94 y_C_endOf prog_4_method_4_code 2 (some .int) rm_C_endOf_1 rm_E_doRule 1 := ⟨Or.inl wm_638, wm_5, wm_541, by decide, by decide +kernel, ⟨rfl, rfl⟩, by decide, by decide⟩
theorem cw_E_doRule_47 : sCw "StoryStates$Engine" 100 y_C_startOf prog_4_method_3_code 2 (some .int) rm_C_startOf_1 rm_E_doRule 1 := ⟨Or.inl wm_639, wm_5, wm_642, by decide, by decide +kernel, ⟨rfl, rfl⟩, by decide, by decide⟩
theorem wm_661 : (Jvm.Cond.methodLink "StoryStates$Engine" (48 : Nat) ({ cls := "StoryStates$Bits", name := "isOver", desc := "(J)Z" } : Jvm.MethodName)) ∈ sTB := sMem 661 (by decide +kernel) rfl
theorem wm_602 : (Jvm.Cond.code ({ cls := "StoryStates$Bits", name := "isOver", desc := "(J)Z" } : Jvm.MethodName) prog_3_method_14_code (2 : Nat) (Option.some Jvm.ClassFile.FieldType.boolean)) ∈ sTB := sMem 602 (by decide +kernel) rfl
theorem cw_E_doRule_62 : sCw "StoryStates$Engine" 48 y_B_isOver prog_3_method_14_code 2 (some .boolean) rm_B_isOver rm_E_doRule 1 := ⟨Or.inl wm_661, wm_8, wm_602, by decide, by decide +kernel, ⟨rfl, rfl⟩, by decide, by decide⟩
theorem wm_601 : (Jvm.Cond.static ({ cls := "StoryStates$Bits", name := "isOver", desc := "(J)Z" } : Jvm.MethodName)) ∈ sTB := sMem 601 (by decide +kernel) rfl
theorem gf_c_E_103_5 : sGf Zc "StoryStates$Engine" 103 5 1 (some (some 31)) := ⟨4, 4, _, "StoryStates$Clauses", T_c4, rfl, rfl, rfl, by decide, Or.inl wm_54, rfl, us_c4⟩
theorem gf_c_E_106_5 : sGf Zc "StoryStates$Engine" 106 5 2 (some (some 32)) := ⟨4, 4, _, "StoryStates$Clauses", T_c4, rfl, rfl, rfl, by decide, Or.inl wm_56, rfl, us_c4⟩
theorem gf_c_E_109_5 : sGf Zc "StoryStates$Engine" 109 5 3 (some (some 33)) := ⟨4, 4, _, "StoryStates$Clauses", T_c4, rfl, rfl, rfl, by decide, Or.inl wm_58, rfl, us_c4⟩
theorem wm_662 : (Jvm.Cond.methodLink "StoryStates$Engine" (133 : Nat) ({ cls := "StoryStates$Engine", name := "doEffect", desc := "(III)V" } : Jvm.MethodName)) ∈ sTB := sMem 662 (by decide +kernel) rfl
theorem wm_665 : (Jvm.Cond.code ({ cls := "StoryStates$Engine", name := "doEffect", desc := "(III)V" } : Jvm.MethodName) prog_6_method_8_code (5 : Nat) (Option.none : Option Jvm.ClassFile.FieldType)) ∈ sTB := sMem 665 (by decide +kernel) rfl
theorem cw_E_doRule_90 : sCw "StoryStates$Engine" 133 y_E_doEffect prog_6_method_8_code 5 none rm_E_doEffect rm_E_doRule 3 := ⟨Or.inl wm_662, wm_2, wm_665, by decide, by decide +kernel, ⟨rfl, rfl⟩, by decide, by decide⟩
theorem wm_664 : (Jvm.Cond.instanceMethod ({ cls := "StoryStates$Engine", name := "doEffect", desc := "(III)V" } : Jvm.MethodName)) ∈ sTB := sMem 664 (by decide +kernel) rfl
theorem ws_E_doEffect : Jvm.Cond.selects "StoryStates$Engine" ({ cls := "StoryStates$Engine", name := "doEffect", desc := "(III)V" } : Jvm.MethodName) ({ cls := "StoryStates$Engine", name := "doEffect", desc := "(III)V" } : Jvm.MethodName) ∈ sTB := sSel 5 ({ cls := "StoryStates$Engine", name := "doEffect", desc := "(III)V" } : Jvm.MethodName) (by decide +kernel) rfl
theorem cw_B_withStep_9 : sCw "StoryStates$Bits" 9 y_B_write prog_3_method_19_code 5 (some .long) rm_B_write rm_B_withStep 4 := ⟨Or.inl wm_290, wm_8, wm_292, by decide, by decide +kernel, ⟨rfl, rfl⟩, by decide, by decide⟩
theorem wm_137 : (Jvm.Cond.fieldLink "StoryStates$Engine" (193 : Nat) "StoryStates$World" "walkers" "I") ∈ sTB := sMem 137 (by decide +kernel) rfl
theorem gf_c_E_193_2 : sGf Zc "StoryStates$Engine" 193 2 16 none := ⟨2, 18, _, "StoryStates$World", T_c2, rfl, rfl, rfl, by decide, Or.inl wm_137, rfl, us_c2⟩
theorem wm_121 : (Jvm.Cond.fieldLink "StoryStates$Engine" (196 : Nat) "StoryStates$World" "walkerThings" "[I") ∈ sTB := sMem 121 (by decide +kernel) rfl
theorem gf_c_E_196_2 : sGf Zc "StoryStates$Engine" 196 2 8 (some (some 17)) := ⟨2, 18, _, "StoryStates$World", T_c2, rfl, rfl, rfl, by decide, Or.inl wm_121, rfl, us_c2⟩
theorem cw_E_stepWalkers_28 : sCw "StoryStates$Engine" 119 y_B_placeOf prog_3_method_4_code 3 (some .int) rm_B_placeOf rm_E_stepWalkers 2 := ⟨Or.inl wm_648, wm_8, wm_623, by decide, by decide +kernel, ⟨rfl, rfl⟩, by decide, by decide⟩
theorem wm_712 : (Jvm.Cond.methodLink "StoryStates$Engine" (199 : Nat) ({ cls := "StoryStates$Bits", name := "stepOf", desc := "(JI)I" } : Jvm.MethodName)) ∈ sTB := sMem 712 (by decide +kernel) rfl
theorem wm_714 : (Jvm.Cond.code ({ cls := "StoryStates$Bits", name := "stepOf", desc := "(JI)I" } : Jvm.MethodName) prog_3_method_10_code (3 : Nat) (Option.some Jvm.ClassFile.FieldType.int)) ∈ sTB := sMem 714 (by decide +kernel) rfl
theorem cw_E_stepWalkers_41 : sCw "StoryStates$Engine" 199 y_B_stepOf prog_3_method_10_code 3 (some .int) rm_B_stepOf rm_E_stepWalkers 2 := ⟨Or.inl wm_712, wm_8, wm_714, by decide, by decide +kernel, ⟨rfl, rfl⟩, by decide, by decide⟩
theorem wm_713 : (Jvm.Cond.static ({ cls := "StoryStates$Bits", name := "stepOf", desc := "(JI)I" } : Jvm.MethodName)) ∈ sTB := sMem 713 (by decide +kernel) rfl
theorem wm_715 : (Jvm.Cond.methodLink "StoryStates$Engine" (202 : Nat) ({ cls := "StoryStates$Bits", name := "withStep", desc := "(JII)J" } : Jvm.MethodName)) ∈ sTB := sMem 715 (by decide +kernel) rfl
theorem wm_717 : (Jvm.Cond.code ({ cls := "StoryStates$Bits", name := "withStep", desc := "(JII)J" } : Jvm.MethodName) prog_3_method_11_code (4 : Nat) (Option.some Jvm.ClassFile.FieldType.long)) ∈ sTB := sMem 717 (by decide +kernel) rfl
theorem cw_E_stepWalkers_67 : sCw "StoryStates$Engine" 202 y_B_withStep prog_3_method_11_code 4 (some .long) rm_B_withStep rm_E_stepWalkers 3 := ⟨Or.inl wm_715, wm_8, wm_717, by decide, by decide +kernel, ⟨rfl, rfl⟩, by decide, by decide⟩
theorem wm_716 : (Jvm.Cond.static ({ cls := "StoryStates$Bits", name := "withStep", desc := "(JII)J" } : Jvm.MethodName)) ∈ sTB := sMem 716 (by decide +kernel) rfl
theorem wm_123 : (Jvm.Cond.fieldLink "StoryStates$Engine" (205 : Nat) "StoryStates$World" "walkerRooms" "[I") ∈ sTB := sMem 123 (by decide +kernel) rfl
theorem gf_c_E_205_2 : sGf Zc "StoryStates$Engine" 205 2 9 (some (some 18)) := ⟨2, 18, _, "StoryStates$World", T_c2, rfl, rfl, rfl, by decide, Or.inl wm_123, rfl, us_c2⟩
theorem cw_E_stepWalkers_93 : sCw "StoryStates$Engine" 145 y_B_withPlace prog_3_method_5_code 4 (some .long) rm_B_withPlace rm_E_stepWalkers 3 := ⟨Or.inl wm_672, wm_8, wm_289, by decide, by decide +kernel, ⟨rfl, rfl⟩, by decide, by decide⟩
theorem wm_722 : (Jvm.Cond.methodLink "StoryStates$Engine" (208 : Nat) ({ cls := "StoryStates$Bits", name := "countOf", desc := "(JI)I" } : Jvm.MethodName)) ∈ sTB := sMem 722 (by decide +kernel) rfl
theorem wm_724 : (Jvm.Cond.code ({ cls := "StoryStates$Bits", name := "countOf", desc := "(JI)I" } : Jvm.MethodName) prog_3_method_12_code (3 : Nat) (Option.some Jvm.ClassFile.FieldType.int)) ∈ sTB := sMem 724 (by decide +kernel) rfl
theorem cw_E_runsOut_5 : sCw "StoryStates$Engine" 208 y_B_countOf prog_3_method_12_code 3 (some .int) rm_B_countOf rm_E_runsOut 2 := ⟨Or.inl wm_722, wm_8, wm_724, by decide, by decide +kernel, ⟨rfl, rfl⟩, by decide, by decide⟩
theorem wm_723 : (Jvm.Cond.static ({ cls := "StoryStates$Bits", name := "countOf", desc := "(JI)I" } : Jvm.MethodName)) ∈ sTB := sMem 723 (by decide +kernel) rfl
theorem wm_725 : (Jvm.Cond.methodLink "StoryStates$Engine" (211 : Nat) ({ cls := "StoryStates$Bits", name := "withCount", desc := "(JII)J" } : Jvm.MethodName)) ∈ sTB := sMem 725 (by decide +kernel) rfl
theorem cw_E_runsOut_24 : sCw "StoryStates$Engine" 211 y_B_withCount prog_3_method_13_code 4 (some .long) rm_B_withCount rm_E_runsOut 3 := ⟨Or.inl wm_725, wm_8, wm_302, by decide, by decide +kernel, ⟨rfl, rfl⟩, by decide, by decide⟩
theorem cw_E_putInto_5 : sCw "StoryStates$Engine" 119 y_B_placeOf prog_3_method_4_code 3 (some .int) rm_B_placeOf rm_E_putInto 2 := ⟨Or.inl wm_648, wm_8, wm_623, by decide, by decide +kernel, ⟨rfl, rfl⟩, by decide, by decide⟩
theorem wm_111 : (Jvm.Cond.fieldLink "StoryStates$Engine" (192 : Nat) "StoryStates$World" "kinds" "[I") ∈ sTB := sMem 111 (by decide +kernel) rfl
theorem gf_c_E_192_2 : sGf Zc "StoryStates$Engine" 192 2 3 (some (some 13)) := ⟨2, 18, _, "StoryStates$World", T_c2, rfl, rfl, rfl, by decide, Or.inl wm_111, rfl, us_c2⟩
theorem cw_E_putInto_32 : sCw "StoryStates$Engine" 123 y_B_isOpen prog_3_method_6_code 3 (some .boolean) rm_B_isOpen rm_E_putInto 2 := ⟨Or.inl wm_649, wm_8, wm_626, by decide, by decide +kernel, ⟨rfl, rfl⟩, by decide, by decide⟩
theorem cw_E_putInto_43 : sCw "StoryStates$Engine" 86 y_B_isSeen prog_3_method_17_code 5 (some .boolean) rm_B_isSeen rm_E_putInto 2 := ⟨Or.inl wm_618, wm_8, wm_620, by decide, by decide +kernel, ⟨rfl, rfl⟩, by decide, by decide⟩
theorem cw_E_putInto_55 : sCw "StoryStates$Engine" 141 y_B_isPartOf prog_3_method_18_code 6 (some .boolean) rm_B_isPartOf rm_E_putInto 3 := ⟨Or.inl wm_669, wm_8, wm_671, by decide, by decide +kernel, ⟨rfl, rfl⟩, by decide, by decide⟩
theorem cw_E_putInto_73 : sCw "StoryStates$Engine" 145 y_B_withPlace prog_3_method_5_code 4 (some .long) rm_B_withPlace rm_E_putInto 3 := ⟨Or.inl wm_672, wm_8, wm_289, by decide, by decide +kernel, ⟨rfl, rfl⟩, by decide, by decide⟩
theorem cw_E_turnLid_19 : sCw "StoryStates$Engine" 123 y_B_isOpen prog_3_method_6_code 3 (some .boolean) rm_B_isOpen rm_E_turnLid 2 := ⟨Or.inl wm_649, wm_8, wm_626, by decide, by decide +kernel, ⟨rfl, rfl⟩, by decide, by decide⟩
theorem cw_E_turnLid_40 : sCw "StoryStates$Engine" 86 y_B_isSeen prog_3_method_17_code 5 (some .boolean) rm_B_isSeen rm_E_turnLid 2 := ⟨Or.inl wm_618, wm_8, wm_620, by decide, by decide +kernel, ⟨rfl, rfl⟩, by decide, by decide⟩
theorem cw_E_turnLid_55 : sCw "StoryStates$Engine" 149 y_B_withOpen prog_3_method_7_code 4 (some .long) rm_B_withOpen rm_E_turnLid 3 := ⟨Or.inl wm_673, wm_8, wm_296, by decide, by decide +kernel, ⟨rfl, rfl⟩, by decide, by decide⟩
theorem cw_E_putDown_5 : sCw "StoryStates$Engine" 119 y_B_placeOf prog_3_method_4_code 3 (some .int) rm_B_placeOf rm_E_putDown 2 := ⟨Or.inl wm_648, wm_8, wm_623, by decide, by decide +kernel, ⟨rfl, rfl⟩, by decide, by decide⟩
theorem cw_E_putDown_25 : sCw "StoryStates$Engine" 115 y_B_roomOf prog_3_method_2_code 2 (some .int) rm_B_roomOf rm_E_putDown 1 := ⟨Or.inl wm_647, wm_8, wm_629, by decide, by decide +kernel, ⟨rfl, rfl⟩, by decide, by decide⟩
theorem cw_E_putDown_28 : sCw "StoryStates$Engine" 145 y_B_withPlace prog_3_method_5_code 4 (some .long) rm_B_withPlace rm_E_putDown 3 := ⟨Or.inl wm_672, wm_8, wm_289, by decide, by decide +kernel, ⟨rfl, rfl⟩, by decide, by decide⟩
theorem cw_E_takeUp_19 : sCw "StoryStates$Engine" 119 y_B_placeOf prog_3_method_4_code 3 (some .int) rm_B_placeOf rm_E_takeUp 2 := ⟨Or.inl wm_648, wm_8, wm_623, by decide, by decide +kernel, ⟨rfl, rfl⟩, by decide, by decide⟩
theorem cw_E_takeUp_32 : sCw "StoryStates$Engine" 86 y_B_isSeen prog_3_method_17_code 5 (some .boolean) rm_B_isSeen rm_E_takeUp 2 := ⟨Or.inl wm_618, wm_8, wm_620, by decide, by decide +kernel, ⟨rfl, rfl⟩, by decide, by decide⟩
theorem cw_E_takeUp_48 : sCw "StoryStates$Engine" 145 y_B_withPlace prog_3_method_5_code 4 (some .long) rm_B_withPlace rm_E_takeUp 3 := ⟨Or.inl wm_672, wm_8, wm_289, by decide, by decide +kernel, ⟨rfl, rfl⟩, by decide, by decide⟩
theorem cw_E_goThrough_4 : sCw "StoryStates$Engine" 115 y_B_roomOf prog_3_method_2_code 2 (some .int) rm_B_roomOf rm_E_goThrough 1 := ⟨Or.inl wm_647, wm_8, wm_629, by decide, by decide +kernel, ⟨rfl, rfl⟩, by decide, by decide⟩
theorem wm_108 : (Jvm.Cond.fieldLink "StoryStates$Engine" (186 : Nat) "StoryStates$World" "exitDoors" "[I") ∈ sTB := sMem 108 (by decide +kernel) rfl
theorem gf_c_E_186_2 : sGf Zc "StoryStates$Engine" 186 2 1 (some (some 11)) := ⟨2, 18, _, "StoryStates$World", T_c2, rfl, rfl, rfl, by decide, Or.inl wm_108, rfl, us_c2⟩
theorem wm_106 : (Jvm.Cond.fieldLink "StoryStates$Engine" (189 : Nat) "StoryStates$World" "exitRooms" "[I") ∈ sTB := sMem 106 (by decide +kernel) rfl
theorem gf_c_E_189_2 : sGf Zc "StoryStates$Engine" 189 2 0 (some (some 10)) := ⟨2, 18, _, "StoryStates$World", T_c2, rfl, rfl, rfl, by decide, Or.inl wm_106, rfl, us_c2⟩
theorem cw_E_goThrough_45 : sCw "StoryStates$Engine" 123 y_B_isOpen prog_3_method_6_code 3 (some .boolean) rm_B_isOpen rm_E_goThrough 2 := ⟨Or.inl wm_649, wm_8, wm_626, by decide, by decide +kernel, ⟨rfl, rfl⟩, by decide, by decide⟩
theorem cw_E_goThrough_67 : sCw "StoryStates$Engine" 137 y_B_withRoom prog_3_method_3_code 3 (some .long) rm_B_withRoom rm_E_goThrough 2 := ⟨Or.inl wm_666, wm_8, wm_668, by decide, by decide +kernel, ⟨rfl, rfl⟩, by decide, by decide⟩
theorem wm_688 : (Jvm.Cond.methodLink "StoryStates$Engine" (170 : Nat) ({ cls := "StoryStates$Engine", name := "goThrough", desc := "(I)Z" } : Jvm.MethodName)) ∈ sTB := sMem 688 (by decide +kernel) rfl
theorem wm_691 : (Jvm.Cond.code ({ cls := "StoryStates$Engine", name := "goThrough", desc := "(I)Z" } : Jvm.MethodName) prog_6_method_10_code (4 : Nat) (Option.some Jvm.ClassFile.FieldType.boolean)) ∈ sTB := sMem 691 (by decide +kernel) rfl
theorem cw_E_actWithoutRule_42 : sCw "StoryStates$Engine" 170 y_E_goThrough prog_6_method_10_code 4 (some .boolean) rm_E_goThrough rm_E_actWithoutRule 1 := ⟨Or.inl wm_688, wm_2, wm_691, by decide, by decide +kernel, ⟨rfl, rfl⟩, by decide, by decide⟩
theorem wm_690 : (Jvm.Cond.instanceMethod ({ cls := "StoryStates$Engine", name := "goThrough", desc := "(I)Z" } : Jvm.MethodName)) ∈ sTB := sMem 690 (by decide +kernel) rfl
theorem ws_E_goThrough : Jvm.Cond.selects "StoryStates$Engine" ({ cls := "StoryStates$Engine", name := "goThrough", desc := "(I)Z" } : Jvm.MethodName) ({ cls := "StoryStates$Engine", name := "goThrough", desc := "(I)Z" } : Jvm.MethodName) ∈ sTB := sSel 5 ({ cls := "StoryStates$Engine", name := "goThrough", desc := "(I)Z" } : Jvm.MethodName) (by decide +kernel) rfl
theorem wm_692 : (Jvm.Cond.methodLink "StoryStates$Engine" (173 : Nat) ({ cls := "StoryStates$Engine", name := "takeUp", desc := "(I)Z" } : Jvm.MethodName)) ∈ sTB := sMem 692 (by decide +kernel) rfl
theorem wm_695 : (Jvm.Cond.code ({ cls := "StoryStates$Engine", name := "takeUp", desc := "(I)Z" } : Jvm.MethodName) prog_6_method_11_code (2 : Nat) (Option.some Jvm.ClassFile.FieldType.boolean)) ∈ sTB := sMem 695 (by decide +kernel) rfl
theorem cw_E_actWithoutRule_48 : sCw "StoryStates$Engine" 173 y_E_takeUp prog_6_method_11_code 2 (some .boolean) rm_E_takeUp rm_E_actWithoutRule 1 := ⟨Or.inl wm_692, wm_2, wm_695, by decide, by decide +kernel, ⟨rfl, rfl⟩, by decide, by decide⟩
theorem wm_694 : (Jvm.Cond.instanceMethod ({ cls := "StoryStates$Engine", name := "takeUp", desc := "(I)Z" } : Jvm.MethodName)) ∈ sTB := sMem 694 (by decide +kernel) rfl
theorem ws_E_takeUp : Jvm.Cond.selects "StoryStates$Engine" ({ cls := "StoryStates$Engine", name := "takeUp", desc := "(I)Z" } : Jvm.MethodName) ({ cls := "StoryStates$Engine", name := "takeUp", desc := "(I)Z" } : Jvm.MethodName) ∈ sTB := sSel 5 ({ cls := "StoryStates$Engine", name := "takeUp", desc := "(I)Z" } : Jvm.MethodName) (by decide +kernel) rfl
theorem wm_696 : (Jvm.Cond.methodLink "StoryStates$Engine" (176 : Nat) ({ cls := "StoryStates$Engine", name := "putDown", desc := "(I)Z" } : Jvm.MethodName)) ∈ sTB := sMem 696 (by decide +kernel) rfl
theorem wm_699 : (Jvm.Cond.code ({ cls := "StoryStates$Engine", name := "putDown", desc := "(I)Z" } : Jvm.MethodName) prog_6_method_12_code (2 : Nat) (Option.some Jvm.ClassFile.FieldType.boolean)) ∈ sTB := sMem 699 (by decide +kernel) rfl
theorem cw_E_actWithoutRule_54 : sCw "StoryStates$Engine" 176 y_E_putDown prog_6_method_12_code 2 (some .boolean) rm_E_putDown rm_E_actWithoutRule 1 := ⟨Or.inl wm_696, wm_2, wm_699, by decide, by decide +kernel, ⟨rfl, rfl⟩, by decide, by decide⟩
theorem wm_698 : (Jvm.Cond.instanceMethod ({ cls := "StoryStates$Engine", name := "putDown", desc := "(I)Z" } : Jvm.MethodName)) ∈ sTB := sMem 698 (by decide +kernel) rfl
theorem ws_E_putDown : Jvm.Cond.selects "StoryStates$Engine" ({ cls := "StoryStates$Engine", name := "putDown", desc := "(I)Z" } : Jvm.MethodName) ({ cls := "StoryStates$Engine", name := "putDown", desc := "(I)Z" } : Jvm.MethodName) ∈ sTB := sSel 5 ({ cls := "StoryStates$Engine", name := "putDown", desc := "(I)Z" } : Jvm.MethodName) (by decide +kernel) rfl
theorem wm_700 : (Jvm.Cond.methodLink "StoryStates$Engine" (179 : Nat) ({ cls := "StoryStates$Engine", name := "turnLid", desc := "(II)Z" } : Jvm.MethodName)) ∈ sTB := sMem 700 (by decide +kernel) rfl
theorem wm_703 : (Jvm.Cond.code ({ cls := "StoryStates$Engine", name := "turnLid", desc := "(II)Z" } : Jvm.MethodName) prog_6_method_13_code (3 : Nat) (Option.some Jvm.ClassFile.FieldType.boolean)) ∈ sTB := sMem 703 (by decide +kernel) rfl
theorem cw_E_actWithoutRule_61 : sCw "StoryStates$Engine" 179 y_E_turnLid prog_6_method_13_code 3 (some .boolean) rm_E_turnLid rm_E_actWithoutRule 2 := ⟨Or.inl wm_700, wm_2, wm_703, by decide, by decide +kernel, ⟨rfl, rfl⟩, by decide, by decide⟩
theorem wm_702 : (Jvm.Cond.instanceMethod ({ cls := "StoryStates$Engine", name := "turnLid", desc := "(II)Z" } : Jvm.MethodName)) ∈ sTB := sMem 702 (by decide +kernel) rfl
theorem ws_E_turnLid : Jvm.Cond.selects "StoryStates$Engine" ({ cls := "StoryStates$Engine", name := "turnLid", desc := "(II)Z" } : Jvm.MethodName) ({ cls := "StoryStates$Engine", name := "turnLid", desc := "(II)Z" } : Jvm.MethodName) ∈ sTB := sSel 5 ({ cls := "StoryStates$Engine", name := "turnLid", desc := "(II)Z" } : Jvm.MethodName) (by decide +kernel) rfl
theorem cw_E_actWithoutRule_68 : sCw "StoryStates$Engine" 179 y_E_turnLid prog_6_method_13_code 3 (some .boolean) rm_E_turnLid rm_E_actWithoutRule 2 := ⟨Or.inl wm_700, wm_2, wm_703, by decide, by decide +kernel, ⟨rfl, rfl⟩, by decide, by decide⟩
theorem wm_704 : (Jvm.Cond.methodLink "StoryStates$Engine" (183 : Nat) ({ cls := "StoryStates$Engine", name := "putInto", desc := "(II)Z" } : Jvm.MethodName)) ∈ sTB := sMem 704 (by decide +kernel) rfl
theorem wm_707 : (Jvm.Cond.code ({ cls := "StoryStates$Engine", name := "putInto", desc := "(II)Z" } : Jvm.MethodName) prog_6_method_14_code (3 : Nat) (Option.some Jvm.ClassFile.FieldType.boolean)) ∈ sTB := sMem 707 (by decide +kernel) rfl
theorem cw_E_actWithoutRule_75 : sCw "StoryStates$Engine" 183 y_E_putInto prog_6_method_14_code 3 (some .boolean) rm_E_putInto rm_E_actWithoutRule 2 := ⟨Or.inl wm_704, wm_2, wm_707, by decide, by decide +kernel, ⟨rfl, rfl⟩, by decide, by decide⟩
theorem wm_706 : (Jvm.Cond.instanceMethod ({ cls := "StoryStates$Engine", name := "putInto", desc := "(II)Z" } : Jvm.MethodName)) ∈ sTB := sMem 706 (by decide +kernel) rfl
theorem ws_E_putInto : Jvm.Cond.selects "StoryStates$Engine" ({ cls := "StoryStates$Engine", name := "putInto", desc := "(II)Z" } : Jvm.MethodName) ({ cls := "StoryStates$Engine", name := "putInto", desc := "(II)Z" } : Jvm.MethodName) ∈ sTB := sSel 5 ({ cls := "StoryStates$Engine", name := "putInto", desc := "(II)Z" } : Jvm.MethodName) (by decide +kernel) rfl
theorem wm_610 : (Jvm.Cond.methodLink "StoryStates$Engine" (33 : Nat) ({ cls := "StoryStates$Engine", name := "fittingRule", desc := "(III)I" } : Jvm.MethodName)) ∈ sTB := sMem 610 (by decide +kernel) rfl
theorem wm_613 : (Jvm.Cond.code ({ cls := "StoryStates$Engine", name := "fittingRule", desc := "(III)I" } : Jvm.MethodName) prog_6_method_3_code (5 : Nat) (Option.some Jvm.ClassFile.FieldType.int)) ∈ sTB := sMem 613 (by decide +kernel) rfl
theorem cw_E_take_21 : sCw "StoryStates$Engine" 33 y_E_fittingRule prog_6_method_3_code 5 (some .int) rm_E_fittingRule rm_E_take 3 := ⟨Or.inl wm_610, wm_2, wm_613, by decide, by decide +kernel, ⟨rfl, rfl⟩, by decide, by decide⟩
theorem wm_612 : (Jvm.Cond.instanceMethod ({ cls := "StoryStates$Engine", name := "fittingRule", desc := "(III)I" } : Jvm.MethodName)) ∈ sTB := sMem 612 (by decide +kernel) rfl
theorem ws_E_fittingRule : Jvm.Cond.selects "StoryStates$Engine" ({ cls := "StoryStates$Engine", name := "fittingRule", desc := "(III)I" } : Jvm.MethodName) ({ cls := "StoryStates$Engine", name := "fittingRule", desc := "(III)I" } : Jvm.MethodName) ∈ sTB := sSel 5 ({ cls := "StoryStates$Engine", name := "fittingRule", desc := "(III)I" } : Jvm.MethodName) (by decide +kernel) rfl
theorem wm_684 : (Jvm.Cond.methodLink "StoryStates$Engine" (41 : Nat) ({ cls := "StoryStates$Engine", name := "actWithoutRule", desc := "(III)Z" } : Jvm.MethodName)) ∈ sTB := sMem 684 (by decide +kernel) rfl
theorem wm_687 : (Jvm.Cond.code ({ cls := "StoryStates$Engine", name := "actWithoutRule", desc := "(III)Z" } : Jvm.MethodName) prog_6_method_9_code (4 : Nat) (Option.some Jvm.ClassFile.FieldType.boolean)) ∈ sTB := sMem 687 (by decide +kernel) rfl
theorem cw_E_take_48 : sCw "StoryStates$Engine" 41 y_E_actWithoutRule prog_6_method_9_code 4 (some .boolean) rm_E_actWithoutRule rm_E_take 3 := ⟨Or.inl wm_684, wm_2, wm_687, by decide, by decide +kernel, ⟨rfl, rfl⟩, by decide, by decide⟩
theorem wm_686 : (Jvm.Cond.instanceMethod ({ cls := "StoryStates$Engine", name := "actWithoutRule", desc := "(III)Z" } : Jvm.MethodName)) ∈ sTB := sMem 686 (by decide +kernel) rfl
theorem ws_E_actWithoutRule : Jvm.Cond.selects "StoryStates$Engine" ({ cls := "StoryStates$Engine", name := "actWithoutRule", desc := "(III)Z" } : Jvm.MethodName) ({ cls := "StoryStates$Engine", name := "actWithoutRule", desc := "(III)Z" } : Jvm.MethodName) ∈ sTB := sSel 5 ({ cls := "StoryStates$Engine", name := "actWithoutRule", desc := "(III)Z" } : Jvm.MethodName) (by decide +kernel) rfl
theorem wm_653 : (Jvm.Cond.methodLink "StoryStates$Engine" (37 : Nat) ({ cls := "StoryStates$Engine", name := "doRule", desc := "(I)V" } : Jvm.MethodName)) ∈ sTB := sMem 653 (by decide +kernel) rfl
theorem wm_656 : (Jvm.Cond.code ({ cls := "StoryStates$Engine", name := "doRule", desc := "(I)V" } : Jvm.MethodName) prog_6_method_7_code (5 : Nat) (Option.none : Option Jvm.ClassFile.FieldType)) ∈ sTB := sMem 656 (by decide +kernel) rfl
theorem cw_E_take_35 : sCw "StoryStates$Engine" 37 y_E_doRule prog_6_method_7_code 5 none rm_E_doRule rm_E_take 1 := ⟨Or.inl wm_653, wm_2, wm_656, by decide, by decide +kernel, ⟨rfl, rfl⟩, by decide, by decide⟩
theorem wm_655 : (Jvm.Cond.instanceMethod ({ cls := "StoryStates$Engine", name := "doRule", desc := "(I)V" } : Jvm.MethodName)) ∈ sTB := sMem 655 (by decide +kernel) rfl
theorem ws_E_doRule : Jvm.Cond.selects "StoryStates$Engine" ({ cls := "StoryStates$Engine", name := "doRule", desc := "(I)V" } : Jvm.MethodName) ({ cls := "StoryStates$Engine", name := "doRule", desc := "(I)V" } : Jvm.MethodName) ∈ sTB := sSel 5 ({ cls := "StoryStates$Engine", name := "doRule", desc := "(I)V" } : Jvm.MethodName) (by decide +kernel) rfl
theorem cw_E_take_63 : sCw "StoryStates$Engine" 45 y_E_say prog_6_method_17_code 2 none rm_E_say rm_E_take 1 := ⟨Or.inl wm_657, wm_2, wm_660, by decide, by decide +kernel, ⟨rfl, rfl⟩, by decide, by decide⟩
theorem cw_E_take_70 : sCw "StoryStates$Engine" 48 y_B_isOver prog_3_method_14_code 2 (some .boolean) rm_B_isOver rm_E_take 1 := ⟨Or.inl wm_661, wm_8, wm_602, by decide, by decide +kernel, ⟨rfl, rfl⟩, by decide, by decide⟩
theorem wm_708 : (Jvm.Cond.methodLink "StoryStates$Engine" (54 : Nat) ({ cls := "StoryStates$Engine", name := "stepWalkers", desc := "()V" } : Jvm.MethodName)) ∈ sTB := sMem 708 (by decide +kernel) rfl
theorem wm_711 : (Jvm.Cond.code ({ cls := "StoryStates$Engine", name := "stepWalkers", desc := "()V" } : Jvm.MethodName) prog_6_method_15_code (5 : Nat) (Option.none : Option Jvm.ClassFile.FieldType)) ∈ sTB := sMem 711 (by decide +kernel) rfl
theorem cw_E_take_77 : sCw "StoryStates$Engine" 54 y_E_stepWalkers prog_6_method_15_code 5 none rm_E_stepWalkers rm_E_take 0 := ⟨Or.inl wm_708, wm_2, wm_711, by decide, by decide +kernel, ⟨rfl, rfl⟩, by decide, by decide⟩
theorem wm_710 : (Jvm.Cond.instanceMethod ({ cls := "StoryStates$Engine", name := "stepWalkers", desc := "()V" } : Jvm.MethodName)) ∈ sTB := sMem 710 (by decide +kernel) rfl
theorem ws_E_stepWalkers : Jvm.Cond.selects "StoryStates$Engine" ({ cls := "StoryStates$Engine", name := "stepWalkers", desc := "()V" } : Jvm.MethodName) ({ cls := "StoryStates$Engine", name := "stepWalkers", desc := "()V" } : Jvm.MethodName) ∈ sTB := sSel 5 ({ cls := "StoryStates$Engine", name := "stepWalkers", desc := "()V" } : Jvm.MethodName) (by decide +kernel) rfl
theorem wm_139 : (Jvm.Cond.fieldLink "StoryStates$Engine" (57 : Nat) "StoryStates$World" "timers" "I") ∈ sTB := sMem 139 (by decide +kernel) rfl
theorem gf_c_E_57_2 : sGf Zc "StoryStates$Engine" 57 2 17 none := ⟨2, 18, _, "StoryStates$World", T_c2, rfl, rfl, rfl, by decide, Or.inl wm_139, rfl, us_c2⟩
theorem cw_E_take_99 : sCw "StoryStates$Engine" 48 y_B_isOver prog_3_method_14_code 2 (some .boolean) rm_B_isOver rm_E_take 1 := ⟨Or.inl wm_661, wm_8, wm_602, by decide, by decide +kernel, ⟨rfl, rfl⟩, by decide, by decide⟩
theorem wm_125 : (Jvm.Cond.fieldLink "StoryStates$Engine" (60 : Nat) "StoryStates$World" "timerRules" "[I") ∈ sTB := sMem 125 (by decide +kernel) rfl
theorem gf_c_E_60_2 : sGf Zc "StoryStates$Engine" 60 2 10 (some (some 19)) := ⟨2, 18, _, "StoryStates$World", T_c2, rfl, rfl, rfl, by decide, Or.inl wm_125, rfl, us_c2⟩
theorem wm_718 : (Jvm.Cond.methodLink "StoryStates$Engine" (63 : Nat) ({ cls := "StoryStates$Engine", name := "runsOut", desc := "(I)Z" } : Jvm.MethodName)) ∈ sTB := sMem 718 (by decide +kernel) rfl
theorem wm_721 : (Jvm.Cond.code ({ cls := "StoryStates$Engine", name := "runsOut", desc := "(I)Z" } : Jvm.MethodName) prog_6_method_16_code (3 : Nat) (Option.some Jvm.ClassFile.FieldType.boolean)) ∈ sTB := sMem 721 (by decide +kernel) rfl
theorem cw_E_take_120 : sCw "StoryStates$Engine" 63 y_E_runsOut prog_6_method_16_code 3 (some .boolean) rm_E_runsOut rm_E_take 1 := ⟨Or.inl wm_718, wm_2, wm_721, by decide, by decide +kernel, ⟨rfl, rfl⟩, by decide, by decide⟩
theorem wm_720 : (Jvm.Cond.instanceMethod ({ cls := "StoryStates$Engine", name := "runsOut", desc := "(I)Z" } : Jvm.MethodName)) ∈ sTB := sMem 720 (by decide +kernel) rfl
theorem ws_E_runsOut : Jvm.Cond.selects "StoryStates$Engine" ({ cls := "StoryStates$Engine", name := "runsOut", desc := "(I)Z" } : Jvm.MethodName) ({ cls := "StoryStates$Engine", name := "runsOut", desc := "(I)Z" } : Jvm.MethodName) ∈ sTB := sSel 5 ({ cls := "StoryStates$Engine", name := "runsOut", desc := "(I)Z" } : Jvm.MethodName) (by decide +kernel) rfl
theorem cw_E_take_129 : sCw "StoryStates$Engine" 67 y_E_conditionsHold prog_6_method_5_code 5 (some .boolean) rm_E_conditionsHold rm_E_take 1 := ⟨Or.inl wm_634, wm_2, wm_637, by decide, by decide +kernel, ⟨rfl, rfl⟩, by decide, by decide⟩
theorem cw_E_take_138 : sCw "StoryStates$Engine" 37 y_E_doRule prog_6_method_7_code 5 none rm_E_doRule rm_E_take 1 := ⟨Or.inl wm_653, wm_2, wm_656, by decide, by decide +kernel, ⟨rfl, rfl⟩, by decide, by decide⟩
theorem wm_215 : (Jvm.Cond.fieldLink "StoryStates$Atlas" (34 : Nat) "StoryStates$Atlas" "found" "I") ∈ sTB := sMem 215 (by decide +kernel) rfl
theorem pf_c_A_34_6 : sPf Zc "StoryStates$Atlas" 34 6 10 none .int := ⟨5, 12, _, "StoryStates$Atlas", T_c5, ty_c5, rfl, rfl, rfl, by decide, Or.inl wm_215, rfl, us_c5, tyok_c5, nm_c5, rfl, by decide +kernel⟩
theorem wm_214 : (Jvm.Cond.fieldLink "StoryStates$Atlas" (38 : Nat) "StoryStates$Atlas" "gone" "I") ∈ sTB := sMem 214 (by decide +kernel) rfl
theorem pf_c_A_38_6 : sPf Zc "StoryStates$Atlas" 38 6 9 none .int := ⟨5, 12, _, "StoryStates$Atlas", T_c5, ty_c5, rfl, rfl, rfl, by decide, Or.inl wm_214, rfl, us_c5, tyok_c5, nm_c5, rfl, by decide +kernel⟩
theorem wm_217 : (Jvm.Cond.fieldLink "StoryStates$Atlas" (41 : Nat) "StoryStates$Atlas" "limitMet" "Z") ∈ sTB := sMem 217 (by decide +kernel) rfl
theorem pf_c_A_41_6 : sPf Zc "StoryStates$Atlas" 41 6 11 none .boolean := ⟨5, 12, _, "StoryStates$Atlas", T_c5, ty_c5, rfl, rfl, rfl, by decide, Or.inl wm_217, rfl, us_c5, tyok_c5, nm_c5, rfl, by decide +kernel⟩
theorem wm_213 : (Jvm.Cond.fieldLink "StoryStates$Atlas" (45 : Nat) "StoryStates$Atlas" "rulesDone" "I") ∈ sTB := sMem 213 (by decide +kernel) rfl
theorem pf_c_A_45_6 : sPf Zc "StoryStates$Atlas" 45 6 8 none .int := ⟨5, 12, _, "StoryStates$Atlas", T_c5, ty_c5, rfl, rfl, rfl, by decide, Or.inl wm_213, rfl, us_c5, tyok_c5, nm_c5, rfl, by decide +kernel⟩
theorem wm_206 : (Jvm.Cond.fieldLink "StoryStates$Atlas" (72 : Nat) "StoryStates$Atlas" "codeCount" "I") ∈ sTB := sMem 206 (by decide +kernel) rfl
theorem pf_c_A_72_6 : sPf Zc "StoryStates$Atlas" 72 6 1 none .int := ⟨5, 12, _, "StoryStates$Atlas", T_c5, ty_c5, rfl, rfl, rfl, by decide, Or.inl wm_206, rfl, us_c5, tyok_c5, nm_c5, rfl, by decide +kernel⟩
theorem gf_c_A_72_6 : sGf Zc "StoryStates$Atlas" 72 6 1 none := ⟨5, 12, _, "StoryStates$Atlas", T_c5, rfl, rfl, rfl, by decide, Or.inl wm_206, rfl, us_c5⟩
theorem wm_767 : (Jvm.Cond.methodLink "StoryStates$Atlas" (75 : Nat) ({ cls := "StoryStates$World", name := "hasCommand", desc := "(III)Z" } : Jvm.MethodName)) ∈ sTB := sMem 767 (by decide +kernel) rfl
theorem wm_599 : (Jvm.Cond.code ({ cls := "StoryStates$World", name := "hasCommand", desc := "(III)Z" } : Jvm.MethodName) prog_8_method_10_code (4 : Nat) (Option.some Jvm.ClassFile.FieldType.boolean)) ∈ sTB := sMem 599 (by decide +kernel) rfl
theorem cw_A_listCommands_46 : sCw "StoryStates$Atlas" 75 y_W_hasCommand prog_8_method_10_code 4 (some .boolean) rm_W_hasCommand rm_A_listCommands 3 := ⟨Or.inl wm_767, wm_3, wm_599, by decide, by decide +kernel, ⟨rfl, rfl⟩, by decide, by decide⟩
theorem wm_597 : (Jvm.Cond.instanceMethod ({ cls := "StoryStates$World", name := "hasCommand", desc := "(III)Z" } : Jvm.MethodName)) ∈ sTB := sMem 597 (by decide +kernel) rfl
theorem wm_598 : (Jvm.Cond.selects "StoryStates$World" ({ cls := "StoryStates$World", name := "hasCommand", desc := "(III)Z" } : Jvm.MethodName) ({ cls := "StoryStates$World", name := "hasCommand", desc := "(III)Z" } : Jvm.MethodName)) ∈ sTB := sMem 598 (by decide +kernel) rfl
theorem wm_205 : (Jvm.Cond.fieldLink "StoryStates$Atlas" (11 : Nat) "StoryStates$Atlas" "codes" "[I") ∈ sTB := sMem 205 (by decide +kernel) rfl
theorem gf_c_A_11_6 : sGf Zc "StoryStates$Atlas" 11 6 0 (some (some 34)) := ⟨5, 12, _, "StoryStates$Atlas", T_c5, rfl, rfl, rfl, by decide, Or.inl wm_205, rfl, us_c5⟩
theorem wm_768 : (Jvm.Cond.methodLink "StoryStates$Atlas" (79 : Nat) ({ cls := "StoryStates$Code", name := "of", desc := "(III)I" } : Jvm.MethodName)) ∈ sTB := sMem 768 (by decide +kernel) rfl
theorem wm_18 : (Jvm.Cond.initialized "StoryStates$Code") ∈ sTB := sMem 18 (by decide +kernel) rfl
theorem wm_770 : (Jvm.Cond.code ({ cls := "StoryStates$Code", name := "of", desc := "(III)I" } : Jvm.MethodName) prog_5_method_2_code (3 : Nat) (Option.some Jvm.ClassFile.FieldType.int)) ∈ sTB := sMem 770 (by decide +kernel) rfl
theorem cw_A_listCommands_64 : sCw "StoryStates$Atlas" 79 y_D_of prog_5_method_2_code 3 (some .int) rm_D_of rm_A_listCommands 3 := ⟨Or.inl wm_768, wm_18, wm_770, by decide, by decide +kernel, ⟨rfl, rfl⟩, by decide, by decide⟩
theorem wm_769 : (Jvm.Cond.static ({ cls := "StoryStates$Code", name := "of", desc := "(III)I" } : Jvm.MethodName)) ∈ sTB := sMem 769 (by decide +kernel) rfl
theorem wm_776 : (Jvm.Cond.constantLong "StoryStates$Atlas" (130 : Nat) (-7046029254386353131 : Int64)) ∈ sTB := sMem 776 (by decide +kernel) rfl
theorem wm_210 : (Jvm.Cond.fieldLink "StoryStates$Atlas" (25 : Nat) "StoryStates$Atlas" "slots" "[I") ∈ sTB := sMem 210 (by decide +kernel) rfl
theorem gf_c_A_25_6 : sGf Zc "StoryStates$Atlas" 25 6 5 (some (some 38)) := ⟨5, 12, _, "StoryStates$Atlas", T_c5, rfl, rfl, rfl, by decide, Or.inl wm_210, rfl, us_c5⟩
theorem wm_207 : (Jvm.Cond.fieldLink "StoryStates$Atlas" (15 : Nat) "StoryStates$Atlas" "states" "[J") ∈ sTB := sMem 207 (by decide +kernel) rfl
theorem gf_c_A_15_6 : sGf Zc "StoryStates$Atlas" 15 6 2 (some (some 35)) := ⟨5, 12, _, "StoryStates$Atlas", T_c5, rfl, rfl, rfl, by decide, Or.inl wm_207, rfl, us_c5⟩
theorem gf_c_A_34_6 : sGf Zc "StoryStates$Atlas" 34 6 10 none := ⟨5, 12, _, "StoryStates$Atlas", T_c5, rfl, rfl, rfl, by decide, Or.inl wm_215, rfl, us_c5⟩
theorem wm_208 : (Jvm.Cond.fieldLink "StoryStates$Atlas" (19 : Nat) "StoryStates$Atlas" "origins" "[I") ∈ sTB := sMem 208 (by decide +kernel) rfl
theorem gf_c_A_19_6 : sGf Zc "StoryStates$Atlas" 19 6 3 (some (some 36)) := ⟨5, 12, _, "StoryStates$Atlas", T_c5, rfl, rfl, rfl, by decide, Or.inl wm_208, rfl, us_c5⟩
theorem wm_209 : (Jvm.Cond.fieldLink "StoryStates$Atlas" (22 : Nat) "StoryStates$Atlas" "codesHere" "[I") ∈ sTB := sMem 209 (by decide +kernel) rfl
theorem gf_c_A_22_6 : sGf Zc "StoryStates$Atlas" 22 6 4 (some (some 37)) := ⟨5, 12, _, "StoryStates$Atlas", T_c5, rfl, rfl, rfl, by decide, Or.inl wm_209, rfl, us_c5⟩
theorem wm_211 : (Jvm.Cond.fieldLink "StoryStates$Atlas" (28 : Nat) "StoryStates$Atlas" "leads" "[J") ∈ sTB := sMem 211 (by decide +kernel) rfl
theorem gf_c_A_28_6 : sGf Zc "StoryStates$Atlas" 28 6 6 (some (some 39)) := ⟨5, 12, _, "StoryStates$Atlas", T_c5, rfl, rfl, rfl, by decide, Or.inl wm_211, rfl, us_c5⟩
theorem wm_760 : (Jvm.Cond.methodLink "StoryStates$Atlas" (48 : Nat) ({ cls := "java/util/Arrays", name := "fill", desc := "([II)V" } : Jvm.MethodName)) ∈ sTB := sMem 760 (by decide +kernel) rfl
theorem wm_17 : (Jvm.Cond.initialized "java/util/Arrays") ∈ sTB := sMem 17 (by decide +kernel) rfl
theorem wm_762 : (Jvm.Cond.code ({ cls := "java/util/Arrays", name := "fill", desc := "([II)V" } : Jvm.MethodName) prog_19_method_103_code (4 : Nat) (Option.none : Option Jvm.ClassFile.FieldType)) ∈ sTB := sMem 762 (by decide +kernel) rfl
theorem cw_A_opn_5 : sCw "StoryStates$Atlas" 48 y_U_fill prog_19_method_103_code 4 none rm_U_fill rm_A_opn 2 := ⟨Or.inl wm_760, wm_17, wm_762, by decide, by decide +kernel, ⟨rfl, rfl⟩, by decide, by decide⟩
theorem wm_761 : (Jvm.Cond.static ({ cls := "java/util/Arrays", name := "fill", desc := "([II)V" } : Jvm.MethodName)) ∈ sTB := sMem 761 (by decide +kernel) rfl
theorem wm_763 : (Jvm.Cond.methodLink "StoryStates$Atlas" (54 : Nat) ({ cls := "StoryStates$Atlas", name := "listCommands", desc := "(LStoryStates$World;)V" } : Jvm.MethodName)) ∈ sTB := sMem 763 (by decide +kernel) rfl
theorem wm_6 : (Jvm.Cond.initialized "StoryStates$Atlas") ∈ sTB := sMem 6 (by decide +kernel) rfl
theorem wm_766 : (Jvm.Cond.code ({ cls := "StoryStates$Atlas", name := "listCommands", desc := "(LStoryStates$World;)V" } : Jvm.MethodName) prog_2_method_4_code (5 : Nat) (Option.none : Option Jvm.ClassFile.FieldType)) ∈ sTB := sMem 766 (by decide +kernel) rfl
theorem cw_A_opn_10 : sCw "StoryStates$Atlas" 54 y_A_listCommands prog_2_method_4_code 5 none rm_A_listCommands rm_A_opn 1 := ⟨Or.inl wm_763, wm_6, wm_766, by decide, by decide +kernel, ⟨rfl, rfl⟩, by decide, by decide⟩
theorem wm_765 : (Jvm.Cond.instanceMethod ({ cls := "StoryStates$Atlas", name := "listCommands", desc := "(LStoryStates$World;)V" } : Jvm.MethodName)) ∈ sTB := sMem 765 (by decide +kernel) rfl
theorem ws_A_listCommands : Jvm.Cond.selects "StoryStates$Atlas" ({ cls := "StoryStates$Atlas", name := "listCommands", desc := "(LStoryStates$World;)V" } : Jvm.MethodName) ({ cls := "StoryStates$Atlas", name := "listCommands", desc := "(LStoryStates$World;)V" } : Jvm.MethodName) ∈ sTB := sSel 12 ({ cls := "StoryStates$Atlas", name := "listCommands", desc := "(LStoryStates$World;)V" } : Jvm.MethodName) (by decide +kernel) rfl
theorem wm_771 : (Jvm.Cond.methodLink "StoryStates$Atlas" (58 : Nat) ({ cls := "StoryStates$World", name := "firstState", desc := "()J" } : Jvm.MethodName)) ∈ sTB := sMem 771 (by decide +kernel) rfl
theorem wm_286 : (Jvm.Cond.code ({ cls := "StoryStates$World", name := "firstState", desc := "()J" } : Jvm.MethodName) prog_8_method_19_code (4 : Nat) (Option.some Jvm.ClassFile.FieldType.long)) ∈ sTB := sMem 286 (by decide +kernel) rfl
theorem cw_A_opn_14 : sCw "StoryStates$Atlas" 58 y_W_firstState prog_8_method_19_code 4 (some .long) rm_W_firstState rm_A_opn 0 := ⟨Or.inl wm_771, wm_3, wm_286, by decide, by decide +kernel, ⟨rfl, rfl⟩, by decide, by decide⟩
theorem wm_284 : (Jvm.Cond.instanceMethod ({ cls := "StoryStates$World", name := "firstState", desc := "()J" } : Jvm.MethodName)) ∈ sTB := sMem 284 (by decide +kernel) rfl
theorem wm_285 : (Jvm.Cond.selects "StoryStates$World" ({ cls := "StoryStates$World", name := "firstState", desc := "()J" } : Jvm.MethodName) ({ cls := "StoryStates$World", name := "firstState", desc := "()J" } : Jvm.MethodName)) ∈ sTB := sMem 285 (by decide +kernel) rfl
theorem wm_772 : (Jvm.Cond.methodLink "StoryStates$Atlas" (64 : Nat) ({ cls := "StoryStates$Atlas", name := "slotOf", desc := "(J)I" } : Jvm.MethodName)) ∈ sTB := sMem 772 (by decide +kernel) rfl
theorem wm_775 : (Jvm.Cond.code ({ cls := "StoryStates$Atlas", name := "slotOf", desc := "(J)I" } : Jvm.MethodName) prog_2_method_10_code (5 : Nat) (Option.some Jvm.ClassFile.FieldType.int)) ∈ sTB := sMem 775 (by decide +kernel) rfl
theorem cw_A_opn_22 : sCw "StoryStates$Atlas" 64 y_A_slotOf prog_2_method_10_code 5 (some .int) rm_A_slotOf rm_A_opn 1 := ⟨Or.inl wm_772, wm_6, wm_775, by decide, by decide +kernel, ⟨rfl, rfl⟩, by decide, by decide⟩
theorem wm_774 : (Jvm.Cond.instanceMethod ({ cls := "StoryStates$Atlas", name := "slotOf", desc := "(J)I" } : Jvm.MethodName)) ∈ sTB := sMem 774 (by decide +kernel) rfl
theorem ws_A_slotOf : Jvm.Cond.selects "StoryStates$Atlas" ({ cls := "StoryStates$Atlas", name := "slotOf", desc := "(J)I" } : Jvm.MethodName) ({ cls := "StoryStates$Atlas", name := "slotOf", desc := "(J)I" } : Jvm.MethodName) ∈ sTB := sSel 12 ({ cls := "StoryStates$Atlas", name := "slotOf", desc := "(J)I" } : Jvm.MethodName) (by decide +kernel) rfl
theorem wm_777 : (Jvm.Cond.methodLink "StoryStates$Atlas" (68 : Nat) ({ cls := "StoryStates$Atlas", name := "append", desc := "(JIII)V" } : Jvm.MethodName)) ∈ sTB := sMem 777 (by decide +kernel) rfl
theorem wm_780 : (Jvm.Cond.code ({ cls := "StoryStates$Atlas", name := "append", desc := "(JIII)V" } : Jvm.MethodName) prog_2_method_9_code (7 : Nat) (Option.none : Option Jvm.ClassFile.FieldType)) ∈ sTB := sMem 780 (by decide +kernel) rfl
theorem cw_A_opn_27 : sCw "StoryStates$Atlas" 68 y_A_append prog_2_method_9_code 7 none rm_A_append rm_A_opn 4 := ⟨Or.inl wm_777, wm_6, wm_780, by decide, by decide +kernel, ⟨rfl, rfl⟩, by decide, by decide⟩
theorem wm_779 : (Jvm.Cond.instanceMethod ({ cls := "StoryStates$Atlas", name := "append", desc := "(JIII)V" } : Jvm.MethodName)) ∈ sTB := sMem 779 (by decide +kernel) rfl
theorem ws_A_append : Jvm.Cond.selects "StoryStates$Atlas" ({ cls := "StoryStates$Atlas", name := "append", desc := "(JIII)V" } : Jvm.MethodName) ({ cls := "StoryStates$Atlas", name := "append", desc := "(JIII)V" } : Jvm.MethodName) ∈ sTB := sSel 12 ({ cls := "StoryStates$Atlas", name := "append", desc := "(JIII)V" } : Jvm.MethodName) (by decide +kernel) rfl
theorem gf_c_A_38_6 : sGf Zc "StoryStates$Atlas" 38 6 9 none := ⟨5, 12, _, "StoryStates$Atlas", T_c5, rfl, rfl, rfl, by decide, Or.inl wm_214, rfl, us_c5⟩
theorem gf_c_A_41_6 : sGf Zc "StoryStates$Atlas" 41 6 11 none := ⟨5, 12, _, "StoryStates$Atlas", T_c5, rfl, rfl, rfl, by decide, Or.inl wm_217, rfl, us_c5⟩
theorem cw_A_note_2 : sCw "StoryStates$Atlas" 64 y_A_slotOf prog_2_method_10_code 5 (some .int) rm_A_slotOf rm_A_note 1 := ⟨Or.inl wm_772, wm_6, wm_775, by decide, by decide +kernel, ⟨rfl, rfl⟩, by decide, by decide⟩
theorem cw_A_note_42 : sCw "StoryStates$Atlas" 68 y_A_append prog_2_method_9_code 7 none rm_A_append rm_A_note 4 := ⟨Or.inl wm_777, wm_6, wm_780, by decide, by decide +kernel, ⟨rfl, rfl⟩, by decide, by decide⟩
theorem wm_805 : (Jvm.Cond.methodLink "StoryStates$Atlas" (126 : Nat) ({ cls := "StoryStates$Atlas", name := "addTo", desc := "([JII)V" } : Jvm.MethodName)) ∈ sTB := sMem 805 (by decide +kernel) rfl
theorem wm_807 : (Jvm.Cond.code ({ cls := "StoryStates$Atlas", name := "addTo", desc := "([JII)V" } : Jvm.MethodName) prog_2_method_15_code (3 : Nat) (Option.none : Option Jvm.ClassFile.FieldType)) ∈ sTB := sMem 807 (by decide +kernel) rfl
theorem cw_A_note_64 : sCw "StoryStates$Atlas" 126 y_A_addTo prog_2_method_15_code 3 none rm_A_addTo rm_A_note 3 := ⟨Or.inl wm_805, wm_6, wm_807, by decide, by decide +kernel, ⟨rfl, rfl⟩, by decide, by decide⟩
theorem wm_806 : (Jvm.Cond.static ({ cls := "StoryStates$Atlas", name := "addTo", desc := "([JII)V" } : Jvm.MethodName)) ∈ sTB := sMem 806 (by decide +kernel) rfl
theorem wm_212 : (Jvm.Cond.fieldLink "StoryStates$Atlas" (31 : Nat) "StoryStates$Atlas" "hopeful" "[J") ∈ sTB := sMem 212 (by decide +kernel) rfl
theorem gf_c_A_31_6 : sGf Zc "StoryStates$Atlas" 31 6 7 (some (some 40)) := ⟨5, 12, _, "StoryStates$Atlas", T_c5, rfl, rfl, rfl, by decide, Or.inl wm_212, rfl, us_c5⟩
theorem wm_827 : (Jvm.Cond.methodLink "StoryStates$Atlas" (146 : Nat) ({ cls := "StoryStates$Bits", name := "endingOf", desc := "(J)I" } : Jvm.MethodName)) ∈ sTB := sMem 827 (by decide +kernel) rfl
theorem cw_A_isWon_6 : sCw "StoryStates$Atlas" 146 y_B_endingOf prog_3_method_15_code 2 (some .int) rm_B_endingOf rm_A_isWon 1 := ⟨Or.inl wm_827, wm_8, wm_605, by decide, by decide +kernel, ⟨rfl, rfl⟩, by decide, by decide⟩
theorem wm_828 : (Jvm.Cond.methodLink "StoryStates$Atlas" (149 : Nat) ({ cls := "StoryStates$World", name := "hasEnding", desc := "(I)Z" } : Jvm.MethodName)) ∈ sTB := sMem 828 (by decide +kernel) rfl
theorem wm_552 : (Jvm.Cond.code ({ cls := "StoryStates$World", name := "hasEnding", desc := "(I)Z" } : Jvm.MethodName) prog_8_method_6_code (2 : Nat) (Option.some Jvm.ClassFile.FieldType.boolean)) ∈ sTB := sMem 552 (by decide +kernel) rfl
theorem cw_A_isWon_12 : sCw "StoryStates$Atlas" 149 y_W_hasEnding prog_8_method_6_code 2 (some .boolean) rm_W_hasEnding rm_A_isWon 1 := ⟨Or.inl wm_828, wm_3, wm_552, by decide, by decide +kernel, ⟨rfl, rfl⟩, by decide, by decide⟩
theorem wm_550 : (Jvm.Cond.instanceMethod ({ cls := "StoryStates$World", name := "hasEnding", desc := "(I)Z" } : Jvm.MethodName)) ∈ sTB := sMem 550 (by decide +kernel) rfl
theorem wm_551 : (Jvm.Cond.selects "StoryStates$World" ({ cls := "StoryStates$World", name := "hasEnding", desc := "(I)Z" } : Jvm.MethodName) ({ cls := "StoryStates$World", name := "hasEnding", desc := "(I)Z" } : Jvm.MethodName)) ∈ sTB := sMem 551 (by decide +kernel) rfl
theorem wm_116 : (Jvm.Cond.fieldLink "StoryStates$Atlas" (152 : Nat) "StoryStates$World" "isGood" "[Z") ∈ sTB := sMem 116 (by decide +kernel) rfl
theorem gf_c_A_152_2 : sGf Zc "StoryStates$Atlas" 152 2 6 (some (some 16)) := ⟨2, 18, _, "StoryStates$World", T_c2, rfl, rfl, rfl, by decide, Or.inl wm_116, rfl, us_c2⟩
theorem wm_816 : (Jvm.Cond.methodLink "StoryStates$Atlas" (132 : Nat) ({ cls := "java/util/Arrays", name := "fill", desc := "([JJ)V" } : Jvm.MethodName)) ∈ sTB := sMem 816 (by decide +kernel) rfl
theorem wm_818 : (Jvm.Cond.code ({ cls := "java/util/Arrays", name := "fill", desc := "([JJ)V" } : Jvm.MethodName) prog_19_method_101_code (5 : Nat) (Option.none : Option Jvm.ClassFile.FieldType)) ∈ sTB := sMem 818 (by decide +kernel) rfl
theorem cw_A_findHope_5 : sCw "StoryStates$Atlas" 132 y_U_fillL prog_19_method_101_code 5 none rm_U_fillL rm_A_findHope 2 := ⟨Or.inl wm_816, wm_17, wm_818, by decide, by decide +kernel, ⟨rfl, rfl⟩, by decide, by decide⟩
theorem wm_817 : (Jvm.Cond.static ({ cls := "java/util/Arrays", name := "fill", desc := "([JJ)V" } : Jvm.MethodName)) ∈ sTB := sMem 817 (by decide +kernel) rfl
theorem wm_819 : (Jvm.Cond.methodLink "StoryStates$Atlas" (135 : Nat) ({ cls := "StoryStates$Atlas", name := "isHopeful", desc := "(I)Z" } : Jvm.MethodName)) ∈ sTB := sMem 819 (by decide +kernel) rfl
theorem wm_822 : (Jvm.Cond.code ({ cls := "StoryStates$Atlas", name := "isHopeful", desc := "(I)Z" } : Jvm.MethodName) prog_2_method_14_code (2 : Nat) (Option.some Jvm.ClassFile.FieldType.boolean)) ∈ sTB := sMem 822 (by decide +kernel) rfl
theorem cw_A_findHope_41 : sCw "StoryStates$Atlas" 135 y_A_isHopeful prog_2_method_14_code 2 (some .boolean) rm_A_isHopeful rm_A_findHope 1 := ⟨Or.inl wm_819, wm_6, wm_822, by decide, by decide +kernel, ⟨rfl, rfl⟩, by decide, by decide⟩
theorem wm_821 : (Jvm.Cond.instanceMethod ({ cls := "StoryStates$Atlas", name := "isHopeful", desc := "(I)Z" } : Jvm.MethodName)) ∈ sTB := sMem 821 (by decide +kernel) rfl
theorem ws_A_isHopeful : Jvm.Cond.selects "StoryStates$Atlas" ({ cls := "StoryStates$Atlas", name := "isHopeful", desc := "(I)Z" } : Jvm.MethodName) ({ cls := "StoryStates$Atlas", name := "isHopeful", desc := "(I)Z" } : Jvm.MethodName) ∈ sTB := sSel 12 ({ cls := "StoryStates$Atlas", name := "isHopeful", desc := "(I)Z" } : Jvm.MethodName) (by decide +kernel) rfl
theorem wm_823 : (Jvm.Cond.methodLink "StoryStates$Atlas" (139 : Nat) ({ cls := "StoryStates$Atlas", name := "isWon", desc := "(ILStoryStates$World;)Z" } : Jvm.MethodName)) ∈ sTB := sMem 823 (by decide +kernel) rfl
theorem wm_826 : (Jvm.Cond.code ({ cls := "StoryStates$Atlas", name := "isWon", desc := "(ILStoryStates$World;)Z" } : Jvm.MethodName) prog_2_method_12_code (4 : Nat) (Option.some Jvm.ClassFile.FieldType.boolean)) ∈ sTB := sMem 826 (by decide +kernel) rfl
theorem cw_A_findHope_51 : sCw "StoryStates$Atlas" 139 y_A_isWon prog_2_method_12_code 4 (some .boolean) rm_A_isWon rm_A_findHope 2 := ⟨Or.inl wm_823, wm_6, wm_826, by decide, by decide +kernel, ⟨rfl, rfl⟩, by decide, by decide⟩
theorem wm_825 : (Jvm.Cond.instanceMethod ({ cls := "StoryStates$Atlas", name := "isWon", desc := "(ILStoryStates$World;)Z" } : Jvm.MethodName)) ∈ sTB := sMem 825 (by decide +kernel) rfl
theorem ws_A_isWon : Jvm.Cond.selects "StoryStates$Atlas" ({ cls := "StoryStates$Atlas", name := "isWon", desc := "(ILStoryStates$World;)Z" } : Jvm.MethodName) ({ cls := "StoryStates$Atlas", name := "isWon", desc := "(ILStoryStates$World;)Z" } : Jvm.MethodName) ∈ sTB := sSel 12 ({ cls := "StoryStates$Atlas", name := "isWon", desc := "(ILStoryStates$World;)Z" } : Jvm.MethodName) (by decide +kernel) rfl
theorem wm_829 : (Jvm.Cond.methodLink "StoryStates$Atlas" (143 : Nat) ({ cls := "StoryStates$Atlas", name := "leadsToHope", desc := "(I)Z" } : Jvm.MethodName)) ∈ sTB := sMem 829 (by decide +kernel) rfl
theorem wm_832 : (Jvm.Cond.code ({ cls := "StoryStates$Atlas", name := "leadsToHope", desc := "(I)Z" } : Jvm.MethodName) prog_2_method_13_code (3 : Nat) (Option.some Jvm.ClassFile.FieldType.boolean)) ∈ sTB := sMem 832 (by decide +kernel) rfl
theorem cw_A_findHope_60 : sCw "StoryStates$Atlas" 143 y_A_leadsToHope prog_2_method_13_code 3 (some .boolean) rm_A_leadsToHope rm_A_findHope 1 := ⟨Or.inl wm_829, wm_6, wm_832, by decide, by decide +kernel, ⟨rfl, rfl⟩, by decide, by decide⟩
theorem wm_831 : (Jvm.Cond.instanceMethod ({ cls := "StoryStates$Atlas", name := "leadsToHope", desc := "(I)Z" } : Jvm.MethodName)) ∈ sTB := sMem 831 (by decide +kernel) rfl
theorem ws_A_leadsToHope : Jvm.Cond.selects "StoryStates$Atlas" ({ cls := "StoryStates$Atlas", name := "leadsToHope", desc := "(I)Z" } : Jvm.MethodName) ({ cls := "StoryStates$Atlas", name := "leadsToHope", desc := "(I)Z" } : Jvm.MethodName) ∈ sTB := sSel 12 ({ cls := "StoryStates$Atlas", name := "leadsToHope", desc := "(I)Z" } : Jvm.MethodName) (by decide +kernel) rfl
theorem cw_A_findHope_73 : sCw "StoryStates$Atlas" 126 y_A_addTo prog_2_method_15_code 3 none rm_A_addTo_1 rm_A_findHope 3 := ⟨Or.inl wm_805, wm_6, wm_807, by decide, by decide +kernel, ⟨rfl, rfl⟩, by decide, by decide⟩
theorem wm_789 : (Jvm.Cond.methodLink "StoryStates$Atlas" (85 : Nat) ({ cls := "StoryStates$Atlas", name := "hasMore", desc := "()Z" } : Jvm.MethodName)) ∈ sTB := sMem 789 (by decide +kernel) rfl
theorem wm_784 : (Jvm.Cond.code ({ cls := "StoryStates$Atlas", name := "hasMore", desc := "()Z" } : Jvm.MethodName) prog_2_method_5_code (1 : Nat) (Option.some Jvm.ClassFile.FieldType.boolean)) ∈ sTB := sMem 784 (by decide +kernel) rfl
theorem cw_A_goThroughNext_1 : sCw "StoryStates$Atlas" 85 y_A_hasMore prog_2_method_5_code 1 (some .boolean) rm_A_hasMore rm_A_goThroughNext 0 := ⟨Or.inl wm_789, wm_6, wm_784, by decide, by decide +kernel, ⟨rfl, rfl⟩, by decide, by decide⟩
theorem wm_782 : (Jvm.Cond.instanceMethod ({ cls := "StoryStates$Atlas", name := "hasMore", desc := "()Z" } : Jvm.MethodName)) ∈ sTB := sMem 782 (by decide +kernel) rfl
theorem wm_783 : (Jvm.Cond.selects "StoryStates$Atlas" ({ cls := "StoryStates$Atlas", name := "hasMore", desc := "()Z" } : Jvm.MethodName) ({ cls := "StoryStates$Atlas", name := "hasMore", desc := "()Z" } : Jvm.MethodName)) ∈ sTB := sMem 783 (by decide +kernel) rfl
theorem wm_790 : (Jvm.Cond.methodLink "StoryStates$Atlas" (89 : Nat) ({ cls := "StoryStates$Bits", name := "isOver", desc := "(J)Z" } : Jvm.MethodName)) ∈ sTB := sMem 790 (by decide +kernel) rfl
theorem cw_A_goThroughNext_19 : sCw "StoryStates$Atlas" 89 y_B_isOver prog_3_method_14_code 2 (some .boolean) rm_B_isOver rm_A_goThroughNext 1 := ⟨Or.inl wm_790, wm_8, wm_602, by decide, by decide +kernel, ⟨rfl, rfl⟩, by decide, by decide⟩
theorem wm_791 : (Jvm.Cond.methodLink "StoryStates$Atlas" (95 : Nat) ({ cls := "StoryStates$Code", name := "verbOf", desc := "(I)I" } : Jvm.MethodName)) ∈ sTB := sMem 791 (by decide +kernel) rfl
theorem wm_793 : (Jvm.Cond.code ({ cls := "StoryStates$Code", name := "verbOf", desc := "(I)I" } : Jvm.MethodName) prog_5_method_3_code (1 : Nat) (Option.some Jvm.ClassFile.FieldType.int)) ∈ sTB := sMem 793 (by decide +kernel) rfl
theorem cw_A_goThroughNext_65 : sCw "StoryStates$Atlas" 95 y_D_verbOf prog_5_method_3_code 1 (some .int) rm_D_verbOf rm_A_goThroughNext 1 := ⟨Or.inl wm_791, wm_18, wm_793, by decide, by decide +kernel, ⟨rfl, rfl⟩, by decide, by decide⟩
theorem wm_792 : (Jvm.Cond.static ({ cls := "StoryStates$Code", name := "verbOf", desc := "(I)I" } : Jvm.MethodName)) ∈ sTB := sMem 792 (by decide +kernel) rfl
theorem wm_794 : (Jvm.Cond.methodLink "StoryStates$Atlas" (99 : Nat) ({ cls := "StoryStates$Code", name := "firstOf", desc := "(I)I" } : Jvm.MethodName)) ∈ sTB := sMem 794 (by decide +kernel) rfl
theorem wm_796 : (Jvm.Cond.code ({ cls := "StoryStates$Code", name := "firstOf", desc := "(I)I" } : Jvm.MethodName) prog_5_method_4_code (1 : Nat) (Option.some Jvm.ClassFile.FieldType.int)) ∈ sTB := sMem 796 (by decide +kernel) rfl
theorem cw_A_goThroughNext_70 : sCw "StoryStates$Atlas" 99 y_D_firstOf prog_5_method_4_code 1 (some .int) rm_D_firstOf rm_A_goThroughNext 1 := ⟨Or.inl wm_794, wm_18, wm_796, by decide, by decide +kernel, ⟨rfl, rfl⟩, by decide, by decide⟩
theorem wm_795 : (Jvm.Cond.static ({ cls := "StoryStates$Code", name := "firstOf", desc := "(I)I" } : Jvm.MethodName)) ∈ sTB := sMem 795 (by decide +kernel) rfl
theorem wm_797 : (Jvm.Cond.methodLink "StoryStates$Atlas" (102 : Nat) ({ cls := "StoryStates$Code", name := "secondOf", desc := "(I)I" } : Jvm.MethodName)) ∈ sTB := sMem 797 (by decide +kernel) rfl
theorem wm_799 : (Jvm.Cond.code ({ cls := "StoryStates$Code", name := "secondOf", desc := "(I)I" } : Jvm.MethodName) prog_5_method_5_code (1 : Nat) (Option.some Jvm.ClassFile.FieldType.int)) ∈ sTB := sMem 799 (by decide +kernel) rfl
theorem cw_A_goThroughNext_75 : sCw "StoryStates$Atlas" 102 y_D_secondOf prog_5_method_5_code 1 (some .int) rm_D_secondOf rm_A_goThroughNext 1 := ⟨Or.inl wm_797, wm_18, wm_799, by decide, by decide +kernel, ⟨rfl, rfl⟩, by decide, by decide⟩
theorem wm_798 : (Jvm.Cond.static ({ cls := "StoryStates$Code", name := "secondOf", desc := "(I)I" } : Jvm.MethodName)) ∈ sTB := sMem 798 (by decide +kernel) rfl
theorem wm_800 : (Jvm.Cond.methodLink "StoryStates$Atlas" (105 : Nat) ({ cls := "StoryStates$Engine", name := "take", desc := "(JIII)J" } : Jvm.MethodName)) ∈ sTB := sMem 800 (by decide +kernel) rfl
theorem wm_609 : (Jvm.Cond.code ({ cls := "StoryStates$Engine", name := "take", desc := "(JIII)J" } : Jvm.MethodName) prog_6_method_2_code (9 : Nat) (Option.some Jvm.ClassFile.FieldType.long)) ∈ sTB := sMem 609 (by decide +kernel) rfl
theorem cw_A_goThroughNext_78 : sCw "StoryStates$Atlas" 105 y_E_take prog_6_method_2_code 9 (some .long) rm_E_take rm_A_goThroughNext 4 := ⟨Or.inl wm_800, wm_2, wm_609, by decide, by decide +kernel, ⟨rfl, rfl⟩, by decide, by decide⟩
theorem wm_607 : (Jvm.Cond.instanceMethod ({ cls := "StoryStates$Engine", name := "take", desc := "(JIII)J" } : Jvm.MethodName)) ∈ sTB := sMem 607 (by decide +kernel) rfl
theorem wm_608 : (Jvm.Cond.selects "StoryStates$Engine" ({ cls := "StoryStates$Engine", name := "take", desc := "(JIII)J" } : Jvm.MethodName) ({ cls := "StoryStates$Engine", name := "take", desc := "(JIII)J" } : Jvm.MethodName)) ∈ sTB := sMem 608 (by decide +kernel) rfl
theorem gf_c_A_45_6 : sGf Zc "StoryStates$Atlas" 45 6 8 none := ⟨5, 12, _, "StoryStates$Atlas", T_c5, rfl, rfl, rfl, by decide, Or.inl wm_213, rfl, us_c5⟩
theorem wm_186 : (Jvm.Cond.fieldLink "StoryStates$Atlas" (111 : Nat) "StoryStates$Engine" "rulesDone" "I") ∈ sTB := sMem 186 (by decide +kernel) rfl
theorem gf_c_A_111_1 : sGf Zc "StoryStates$Atlas" 111 1 3 none := ⟨1, 5, _, "StoryStates$Engine", T_c1, rfl, rfl, rfl, by decide, Or.inl wm_186, rfl, us_c1⟩
theorem wm_801 : (Jvm.Cond.methodLink "StoryStates$Atlas" (112 : Nat) ({ cls := "StoryStates$Atlas", name := "note", desc := "(JI)V" } : Jvm.MethodName)) ∈ sTB := sMem 801 (by decide +kernel) rfl
theorem wm_804 : (Jvm.Cond.code ({ cls := "StoryStates$Atlas", name := "note", desc := "(JI)V" } : Jvm.MethodName) prog_2_method_8_code (5 : Nat) (Option.none : Option Jvm.ClassFile.FieldType)) ∈ sTB := sMem 804 (by decide +kernel) rfl
theorem cw_A_goThroughNext_101 : sCw "StoryStates$Atlas" 112 y_A_note prog_2_method_8_code 5 none rm_A_note rm_A_goThroughNext 2 := ⟨Or.inl wm_801, wm_6, wm_804, by decide, by decide +kernel, ⟨rfl, rfl⟩, by decide, by decide⟩
theorem wm_803 : (Jvm.Cond.instanceMethod ({ cls := "StoryStates$Atlas", name := "note", desc := "(JI)V" } : Jvm.MethodName)) ∈ sTB := sMem 803 (by decide +kernel) rfl
theorem ws_A_note : Jvm.Cond.selects "StoryStates$Atlas" ({ cls := "StoryStates$Atlas", name := "note", desc := "(JI)V" } : Jvm.MethodName) ({ cls := "StoryStates$Atlas", name := "note", desc := "(JI)V" } : Jvm.MethodName) ∈ sTB := sSel 12 ({ cls := "StoryStates$Atlas", name := "note", desc := "(JI)V" } : Jvm.MethodName) (by decide +kernel) rfl
theorem wm_808 : (Jvm.Cond.methodLink "StoryStates$Atlas" (116 : Nat) ({ cls := "StoryStates$Atlas", name := "isFinished", desc := "()Z" } : Jvm.MethodName)) ∈ sTB := sMem 808 (by decide +kernel) rfl
theorem wm_811 : (Jvm.Cond.code ({ cls := "StoryStates$Atlas", name := "isFinished", desc := "()Z" } : Jvm.MethodName) prog_2_method_6_code (1 : Nat) (Option.some Jvm.ClassFile.FieldType.boolean)) ∈ sTB := sMem 811 (by decide +kernel) rfl
theorem cw_A_goThroughNext_128 : sCw "StoryStates$Atlas" 116 y_A_isFinished prog_2_method_6_code 1 (some .boolean) rm_A_isFinished rm_A_goThroughNext 0 := ⟨Or.inl wm_808, wm_6, wm_811, by decide, by decide +kernel, ⟨rfl, rfl⟩, by decide, by decide⟩
theorem wm_809 : (Jvm.Cond.instanceMethod ({ cls := "StoryStates$Atlas", name := "isFinished", desc := "()Z" } : Jvm.MethodName)) ∈ sTB := sMem 809 (by decide +kernel) rfl
theorem wm_810 : (Jvm.Cond.selects "StoryStates$Atlas" ({ cls := "StoryStates$Atlas", name := "isFinished", desc := "()Z" } : Jvm.MethodName) ({ cls := "StoryStates$Atlas", name := "isFinished", desc := "()Z" } : Jvm.MethodName)) ∈ sTB := sMem 810 (by decide +kernel) rfl
theorem wm_180 : (Jvm.Cond.fieldLink "StoryStates$Atlas" (119 : Nat) "StoryStates$Engine" "world" "LStoryStates$World;") ∈ sTB := sMem 180 (by decide +kernel) rfl
theorem gf_c_A_119_1 : sGf Zc "StoryStates$Atlas" 119 1 0 (some (some 2)) := ⟨1, 5, _, "StoryStates$Engine", T_c1, rfl, rfl, rfl, by decide, Or.inl wm_180, rfl, us_c1⟩
theorem wm_812 : (Jvm.Cond.methodLink "StoryStates$Atlas" (123 : Nat) ({ cls := "StoryStates$Atlas", name := "findHope", desc := "(LStoryStates$World;)V" } : Jvm.MethodName)) ∈ sTB := sMem 812 (by decide +kernel) rfl
theorem wm_815 : (Jvm.Cond.code ({ cls := "StoryStates$Atlas", name := "findHope", desc := "(LStoryStates$World;)V" } : Jvm.MethodName) prog_2_method_11_code (5 : Nat) (Option.none : Option Jvm.ClassFile.FieldType)) ∈ sTB := sMem 815 (by decide +kernel) rfl
theorem cw_A_goThroughNext_139 : sCw "StoryStates$Atlas" 123 y_A_findHope prog_2_method_11_code 5 none rm_A_findHope rm_A_goThroughNext 1 := ⟨Or.inl wm_812, wm_6, wm_815, by decide, by decide +kernel, ⟨rfl, rfl⟩, by decide, by decide⟩
theorem wm_814 : (Jvm.Cond.instanceMethod ({ cls := "StoryStates$Atlas", name := "findHope", desc := "(LStoryStates$World;)V" } : Jvm.MethodName)) ∈ sTB := sMem 814 (by decide +kernel) rfl
theorem ws_A_findHope : Jvm.Cond.selects "StoryStates$Atlas" ({ cls := "StoryStates$Atlas", name := "findHope", desc := "(LStoryStates$World;)V" } : Jvm.MethodName) ({ cls := "StoryStates$Atlas", name := "findHope", desc := "(LStoryStates$World;)V" } : Jvm.MethodName) ∈ sTB := sSel 12 ({ cls := "StoryStates$Atlas", name := "findHope", desc := "(LStoryStates$World;)V" } : Jvm.MethodName) (by decide +kernel) rfl
theorem cw_A_isHopeless_6 : sCw "StoryStates$Atlas" 64 y_A_slotOf prog_2_method_10_code 5 (some .int) rm_A_slotOf rm_A_isHopeless 1 := ⟨Or.inl wm_772, wm_6, wm_775, by decide, by decide +kernel, ⟨rfl, rfl⟩, by decide, by decide⟩
theorem cw_A_isHopeless_20 : sCw "StoryStates$Atlas" 135 y_A_isHopeful prog_2_method_14_code 2 (some .boolean) rm_A_isHopeful rm_A_isHopeless 1 := ⟨Or.inl wm_819, wm_6, wm_822, by decide, by decide +kernel, ⟨rfl, rfl⟩, by decide, by decide⟩
theorem cw_A_countStuck_18 : sCw "StoryStates$Atlas" 89 y_B_isOver prog_3_method_14_code 2 (some .boolean) rm_B_isOver rm_A_countStuck 1 := ⟨Or.inl wm_790, wm_8, wm_602, by decide, by decide +kernel, ⟨rfl, rfl⟩, by decide, by decide⟩
theorem wm_884 : (Jvm.Cond.methodLink "StoryStates$Atlas" (156 : Nat) ({ cls := "StoryStates$Atlas", name := "leadsOnlyToItself", desc := "(I)Z" } : Jvm.MethodName)) ∈ sTB := sMem 884 (by decide +kernel) rfl
theorem wm_887 : (Jvm.Cond.code ({ cls := "StoryStates$Atlas", name := "leadsOnlyToItself", desc := "(I)Z" } : Jvm.MethodName) prog_2_method_18_code (5 : Nat) (Option.some Jvm.ClassFile.FieldType.boolean)) ∈ sTB := sMem 887 (by decide +kernel) rfl
theorem cw_A_countStuck_26 : sCw "StoryStates$Atlas" 156 y_A_leadsOnlyToItself prog_2_method_18_code 5 (some .boolean) rm_A_leadsOnlyToItself rm_A_countStuck 1 := ⟨Or.inl wm_884, wm_6, wm_887, by decide, by decide +kernel, ⟨rfl, rfl⟩, by decide, by decide⟩
theorem wm_886 : (Jvm.Cond.instanceMethod ({ cls := "StoryStates$Atlas", name := "leadsOnlyToItself", desc := "(I)Z" } : Jvm.MethodName)) ∈ sTB := sMem 886 (by decide +kernel) rfl
theorem ws_A_leadsOnlyToItself : Jvm.Cond.selects "StoryStates$Atlas" ({ cls := "StoryStates$Atlas", name := "leadsOnlyToItself", desc := "(I)Z" } : Jvm.MethodName) ({ cls := "StoryStates$Atlas", name := "leadsOnlyToItself", desc := "(I)Z" } : Jvm.MethodName) ∈ sTB := sSel 12 ({ cls := "StoryStates$Atlas", name := "leadsOnlyToItself", desc := "(I)Z" } : Jvm.MethodName) (by decide +kernel) rfl
theorem cw_A_firstOverWith_16 : sCw "StoryStates$Atlas" 146 y_B_endingOf prog_3_method_15_code 2 (some .int) rm_B_endingOf rm_A_firstOverWith 1 := ⟨Or.inl wm_827, wm_8, wm_605, by decide, by decide +kernel, ⟨rfl, rfl⟩, by decide, by decide⟩
theorem wm_860 : (Jvm.Cond.methodLink "StoryStates$Atlas" (159 : Nat) ({ cls := "StoryStates$Atlas", name := "depthOf", desc := "(I)I" } : Jvm.MethodName)) ∈ sTB := sMem 860 (by decide +kernel) rfl
theorem wm_848 : (Jvm.Cond.code ({ cls := "StoryStates$Atlas", name := "depthOf", desc := "(I)I" } : Jvm.MethodName) prog_2_method_21_code (4 : Nat) (Option.some Jvm.ClassFile.FieldType.int)) ∈ sTB := sMem 848 (by decide +kernel) rfl
theorem cw_A_codeOnWay_4 : sCw "StoryStates$Atlas" 159 y_A_depthOf prog_2_method_21_code 4 (some .int) rm_A_depthOf rm_A_codeOnWay 1 := ⟨Or.inl wm_860, wm_6, wm_848, by decide, by decide +kernel, ⟨rfl, rfl⟩, by decide, by decide⟩
theorem wm_846 : (Jvm.Cond.instanceMethod ({ cls := "StoryStates$Atlas", name := "depthOf", desc := "(I)I" } : Jvm.MethodName)) ∈ sTB := sMem 846 (by decide +kernel) rfl
theorem wm_847 : (Jvm.Cond.selects "StoryStates$Atlas" ({ cls := "StoryStates$Atlas", name := "depthOf", desc := "(I)I" } : Jvm.MethodName) ({ cls := "StoryStates$Atlas", name := "depthOf", desc := "(I)I" } : Jvm.MethodName)) ∈ sTB := sMem 847 (by decide +kernel) rfl
theorem wm_248 : (Jvm.Cond.fieldLink "StoryStates" (28 : Nat) "StoryStates" "line" "[J") ∈ sTB := sMem 248 (by decide +kernel) rfl
theorem gf_c_S_28_0 : sGf Zc "StoryStates" 28 0 3 (some (some 7)) := ⟨0, 7, _, "StoryStates", T_c0, rfl, rfl, rfl, by decide, Or.inl wm_248, rfl, us_c0⟩
theorem wm_246 : (Jvm.Cond.fieldLink "StoryStates" (20 : Nat) "StoryStates" "world" "LStoryStates$World;") ∈ sTB := sMem 246 (by decide +kernel) rfl
theorem gf_c_S_20_0 : sGf Zc "StoryStates" 20 0 1 (some (some 2)) := ⟨0, 7, _, "StoryStates", T_c0, rfl, rfl, rfl, by decide, Or.inl wm_246, rfl, us_c0⟩
theorem wm_283 : (Jvm.Cond.methodLink "StoryStates" (289 : Nat) ({ cls := "StoryStates$World", name := "firstState", desc := "()J" } : Jvm.MethodName)) ∈ sTB := sMem 283 (by decide +kernel) rfl
theorem cw_S_startPlay_9 : sCw "StoryStates" 289 y_W_firstState prog_8_method_19_code 4 (some .long) rm_W_firstState rm_S_startPlay 0 := ⟨Or.inl wm_283, wm_3, wm_286, by decide, by decide +kernel, ⟨rfl, rfl⟩, by decide, by decide⟩
theorem wm_250 : (Jvm.Cond.fieldLink "StoryStates" (36 : Nat) "StoryStates" "turns" "I") ∈ sTB := sMem 250 (by decide +kernel) rfl
theorem pf_c_S_36_0 : sPf Zc "StoryStates" 36 0 5 none .int := ⟨0, 7, _, "StoryStates", T_c0, ty_c0, rfl, rfl, rfl, by decide, Or.inl wm_250, rfl, us_c0, tyok_c0, nm_c0, rfl, by decide +kernel⟩
theorem wm_251 : (Jvm.Cond.fieldLink "StoryStates" (40 : Nat) "StoryStates" "textCount" "I") ∈ sTB := sMem 251 (by decide +kernel) rfl
theorem pf_c_S_40_0 : sPf Zc "StoryStates" 40 0 6 none .int := ⟨0, 7, _, "StoryStates", T_c0, ty_c0, rfl, rfl, rfl, by decide, Or.inl wm_251, rfl, us_c0, tyok_c0, nm_c0, rfl, by decide +kernel⟩
theorem wm_279 : (Jvm.Cond.methodLink "StoryStates" (172 : Nat) ({ cls := "StoryStates", name := "startPlay", desc := "()V" } : Jvm.MethodName)) ∈ sTB := sMem 279 (by decide +kernel) rfl
theorem wm_282 : (Jvm.Cond.code ({ cls := "StoryStates", name := "startPlay", desc := "()V" } : Jvm.MethodName) prog_1_method_24_code (1 : Nat) (Option.none : Option Jvm.ClassFile.FieldType)) ∈ sTB := sMem 282 (by decide +kernel) rfl
theorem cw_S_startAnew_1 : sCw "StoryStates" 172 y_S_startPlay prog_1_method_24_code 1 none rm_S_startPlay rm_S_startAnew 0 := ⟨Or.inl wm_279, wm_1, wm_282, by decide, by decide +kernel, ⟨rfl, rfl⟩, by decide, by decide⟩
theorem wm_281 : (Jvm.Cond.instanceMethod ({ cls := "StoryStates", name := "startPlay", desc := "()V" } : Jvm.MethodName)) ∈ sTB := sMem 281 (by decide +kernel) rfl
theorem ws_S_startPlay : Jvm.Cond.selects "StoryStates" ({ cls := "StoryStates", name := "startPlay", desc := "()V" } : Jvm.MethodName) ({ cls := "StoryStates", name := "startPlay", desc := "()V" } : Jvm.MethodName) ∈ sTB := sSel 7 ({ cls := "StoryStates", name := "startPlay", desc := "()V" } : Jvm.MethodName) (by decide +kernel) rfl
theorem wm_247 : (Jvm.Cond.fieldLink "StoryStates" (24 : Nat) "StoryStates" "atlas" "LStoryStates$Atlas;") ∈ sTB := sMem 247 (by decide +kernel) rfl
theorem gf_c_S_24_0 : sGf Zc "StoryStates" 24 0 2 (some (some 6)) := ⟨0, 7, _, "StoryStates", T_c0, rfl, rfl, rfl, by decide, Or.inl wm_247, rfl, us_c0⟩
theorem wm_303 : (Jvm.Cond.methodLink "StoryStates" (286 : Nat) ({ cls := "StoryStates$Atlas", name := "forget", desc := "()V" } : Jvm.MethodName)) ∈ sTB := sMem 303 (by decide +kernel) rfl
theorem wm_306 : (Jvm.Cond.code ({ cls := "StoryStates$Atlas", name := "forget", desc := "()V" } : Jvm.MethodName) prog_2_method_2_code (1 : Nat) (Option.none : Option Jvm.ClassFile.FieldType)) ∈ sTB := sMem 306 (by decide +kernel) rfl
theorem cw_S_startAnew_8 : sCw "StoryStates" 286 y_A_forget prog_2_method_2_code 1 none rm_A_forget rm_S_startAnew 0 := ⟨Or.inl wm_303, wm_6, wm_306, by decide, by decide +kernel, ⟨rfl, rfl⟩, by decide, by decide⟩
theorem wm_304 : (Jvm.Cond.instanceMethod ({ cls := "StoryStates$Atlas", name := "forget", desc := "()V" } : Jvm.MethodName)) ∈ sTB := sMem 304 (by decide +kernel) rfl
theorem wm_305 : (Jvm.Cond.selects "StoryStates$Atlas" ({ cls := "StoryStates$Atlas", name := "forget", desc := "()V" } : Jvm.MethodName) ({ cls := "StoryStates$Atlas", name := "forget", desc := "()V" } : Jvm.MethodName)) ∈ sTB := sMem 305 (by decide +kernel) rfl
theorem wm_414 : (Jvm.Cond.methodLink "StoryStates" (66 : Nat) ({ cls := "StoryStates$World", name := "hasThing", desc := "(I)Z" } : Jvm.MethodName)) ∈ sTB := sMem 414 (by decide +kernel) rfl
theorem cw_S_hasAsked_53 : sCw "StoryStates" 66 y_W_hasThing prog_8_method_4_code 2 (some .boolean) rm_W_hasThing rm_S_hasAsked 1 := ⟨Or.inl wm_414, wm_3, wm_417, by decide, by decide +kernel, ⟨rfl, rfl⟩, by decide, by decide⟩
theorem wm_740 : (Jvm.Cond.methodLink "StoryStates" (293 : Nat) ({ cls := "StoryStates$World", name := "hasNumber", desc := "(I)Z" } : Jvm.MethodName)) ∈ sTB := sMem 740 (by decide +kernel) rfl
theorem cw_S_hasAsked_62 : sCw "StoryStates" 293 y_W_hasNumber prog_8_method_5_code 2 (some .boolean) rm_W_hasNumber rm_S_hasAsked 1 := ⟨Or.inl wm_740, wm_3, wm_526, by decide, by decide +kernel, ⟨rfl, rfl⟩, by decide, by decide⟩
theorem wm_140 : (Jvm.Cond.fieldLink "StoryStates" (161 : Nat) "StoryStates$World" "timers" "I") ∈ sTB := sMem 140 (by decide +kernel) rfl
theorem gf_c_S_161_2 : sGf Zc "StoryStates" 161 2 17 none := ⟨2, 18, _, "StoryStates$World", T_c2, rfl, rfl, rfl, by decide, Or.inl wm_140, rfl, us_c2⟩
theorem wm_311 : (Jvm.Cond.methodLink "StoryStates" (72 : Nat) ({ cls := "StoryStates", name := "isFrom", desc := "(III)Z" } : Jvm.MethodName)) ∈ sTB := sMem 311 (by decide +kernel) rfl
theorem cw_S_hasAsked_77 : sCw "StoryStates" 72 y_S_isFrom prog_1_method_29_code 3 (some .boolean) rm_S_isFrom rm_S_hasAsked 3 := ⟨Or.inl wm_311, wm_1, wm_313, by decide, by decide +kernel, ⟨rfl, rfl⟩, by decide, by decide⟩
theorem wm_136 : (Jvm.Cond.fieldLink "StoryStates" (152 : Nat) "StoryStates$World" "walkers" "I") ∈ sTB := sMem 136 (by decide +kernel) rfl
theorem gf_c_S_152_2 : sGf Zc "StoryStates" 152 2 16 none := ⟨2, 18, _, "StoryStates$World", T_c2, rfl, rfl, rfl, by decide, Or.inl wm_136, rfl, us_c2⟩
theorem cw_S_hasAsked_92 : sCw "StoryStates" 72 y_S_isFrom prog_1_method_29_code 3 (some .boolean) rm_S_isFrom rm_S_hasAsked 3 := ⟨Or.inl wm_311, wm_1, wm_313, by decide, by decide +kernel, ⟨rfl, rfl⟩, by decide, by decide⟩
theorem gf_c_S_36_0 : sGf Zc "StoryStates" 36 0 5 none := ⟨0, 7, _, "StoryStates", T_c0, rfl, rfl, rfl, by decide, Or.inl wm_250, rfl, us_c0⟩
theorem wm_872 : (Jvm.Cond.methodLink "StoryStates" (274 : Nat) ({ cls := "StoryStates$Atlas", name := "isHopeless", desc := "(J)Z" } : Jvm.MethodName)) ∈ sTB := sMem 872 (by decide +kernel) rfl
theorem wm_875 : (Jvm.Cond.code ({ cls := "StoryStates$Atlas", name := "isHopeless", desc := "(J)Z" } : Jvm.MethodName) prog_2_method_16_code (4 : Nat) (Option.some Jvm.ClassFile.FieldType.boolean)) ∈ sTB := sMem 875 (by decide +kernel) rfl
theorem cw_S_spoilingTurn_13 : sCw "StoryStates" 274 y_A_isHopeless prog_2_method_16_code 4 (some .boolean) rm_A_isHopeless rm_S_spoilingTurn 1 := ⟨Or.inl wm_872, wm_6, wm_875, by decide, by decide +kernel, ⟨rfl, rfl⟩, by decide, by decide⟩
theorem wm_873 : (Jvm.Cond.instanceMethod ({ cls := "StoryStates$Atlas", name := "isHopeless", desc := "(J)Z" } : Jvm.MethodName)) ∈ sTB := sMem 873 (by decide +kernel) rfl
theorem wm_874 : (Jvm.Cond.selects "StoryStates$Atlas" ({ cls := "StoryStates$Atlas", name := "isHopeless", desc := "(J)Z" } : Jvm.MethodName) ({ cls := "StoryStates$Atlas", name := "isHopeless", desc := "(J)Z" } : Jvm.MethodName)) ∈ sTB := sMem 874 (by decide +kernel) rfl
theorem cw_S_spoilingTurn_42 : sCw "StoryStates" 274 y_A_isHopeless prog_2_method_16_code 4 (some .boolean) rm_A_isHopeless rm_S_spoilingTurn 1 := ⟨Or.inl wm_872, wm_6, wm_875, by decide, by decide +kernel, ⟨rfl, rfl⟩, by decide, by decide⟩
theorem cw_S_isThingKind_16 : sCw "StoryStates" 72 y_S_isFrom prog_1_method_29_code 3 (some .boolean) rm_S_isFrom rm_S_isThingKind 3 := ⟨Or.inl wm_311, wm_1, wm_313, by decide, by decide +kernel, ⟨rfl, rfl⟩, by decide, by decide⟩
theorem cw_S_isConditionLevel_31 : sCw "StoryStates" 72 y_S_isFrom prog_1_method_29_code 3 (some .boolean) rm_S_isFrom rm_S_isConditionLevel 3 := ⟨Or.inl wm_311, wm_1, wm_313, by decide, by decide +kernel, ⟨rfl, rfl⟩, by decide, by decide⟩
theorem cw_S_isConditionLevel_39 : sCw "StoryStates" 72 y_S_isFrom prog_1_method_29_code 3 (some .boolean) rm_S_isFrom rm_S_isConditionLevel 3 := ⟨Or.inl wm_311, wm_1, wm_313, by decide, by decide +kernel, ⟨rfl, rfl⟩, by decide, by decide⟩
theorem cw_S_isEffectLevel_31 : sCw "StoryStates" 72 y_S_isFrom prog_1_method_29_code 3 (some .boolean) rm_S_isFrom rm_S_isEffectLevel 3 := ⟨Or.inl wm_311, wm_1, wm_313, by decide, by decide +kernel, ⟨rfl, rfl⟩, by decide, by decide⟩
theorem cw_S_isEffectLevel_40 : sCw "StoryStates" 72 y_S_isFrom prog_1_method_29_code 3 (some .boolean) rm_S_isFrom rm_S_isEffectLevel 3 := ⟨Or.inl wm_311, wm_1, wm_313, by decide, by decide +kernel, ⟨rfl, rfl⟩, by decide, by decide⟩
theorem wm_271 : (Jvm.Cond.methodLink "StoryStates" (43 : Nat) ({ cls := "StoryStates$World", name := "becomeEmpty", desc := "()V" } : Jvm.MethodName)) ∈ sTB := sMem 271 (by decide +kernel) rfl
theorem wm_274 : (Jvm.Cond.code ({ cls := "StoryStates$World", name := "becomeEmpty", desc := "()V" } : Jvm.MethodName) prog_8_method_2_code (1 : Nat) (Option.none : Option Jvm.ClassFile.FieldType)) ∈ sTB := sMem 274 (by decide +kernel) rfl
theorem cw_S_clear_4 : sCw "StoryStates" 43 y_W_becomeEmpty prog_8_method_2_code 1 none rm_W_becomeEmpty rm_S_clear 0 := ⟨Or.inl wm_271, wm_3, wm_274, by decide, by decide +kernel, ⟨rfl, rfl⟩, by decide, by decide⟩
theorem wm_272 : (Jvm.Cond.instanceMethod ({ cls := "StoryStates$World", name := "becomeEmpty", desc := "()V" } : Jvm.MethodName)) ∈ sTB := sMem 272 (by decide +kernel) rfl
theorem wm_273 : (Jvm.Cond.selects "StoryStates$World" ({ cls := "StoryStates$World", name := "becomeEmpty", desc := "()V" } : Jvm.MethodName) ({ cls := "StoryStates$World", name := "becomeEmpty", desc := "()V" } : Jvm.MethodName)) ∈ sTB := sMem 273 (by decide +kernel) rfl
theorem wm_275 : (Jvm.Cond.methodLink "StoryStates" (48 : Nat) ({ cls := "StoryStates", name := "startAnew", desc := "()V" } : Jvm.MethodName)) ∈ sTB := sMem 275 (by decide +kernel) rfl
theorem wm_278 : (Jvm.Cond.code ({ cls := "StoryStates", name := "startAnew", desc := "()V" } : Jvm.MethodName) prog_1_method_23_code (1 : Nat) (Option.none : Option Jvm.ClassFile.FieldType)) ∈ sTB := sMem 278 (by decide +kernel) rfl
theorem cw_S_clear_8 : sCw "StoryStates" 48 y_S_startAnew prog_1_method_23_code 1 none rm_S_startAnew rm_S_clear 0 := ⟨Or.inl wm_275, wm_1, wm_278, by decide, by decide +kernel, ⟨rfl, rfl⟩, by decide, by decide⟩
theorem wm_277 : (Jvm.Cond.instanceMethod ({ cls := "StoryStates", name := "startAnew", desc := "()V" } : Jvm.MethodName)) ∈ sTB := sMem 277 (by decide +kernel) rfl
theorem ws_S_startAnew : Jvm.Cond.selects "StoryStates" ({ cls := "StoryStates", name := "startAnew", desc := "()V" } : Jvm.MethodName) ({ cls := "StoryStates", name := "startAnew", desc := "()V" } : Jvm.MethodName) ∈ sTB := sSel 7 ({ cls := "StoryStates", name := "startAnew", desc := "()V" } : Jvm.MethodName) (by decide +kernel) rfl
theorem gf_c_S_40_0 : sGf Zc "StoryStates" 40 0 6 none := ⟨0, 7, _, "StoryStates", T_c0, rfl, rfl, rfl, by decide, Or.inl wm_251, rfl, us_c0⟩
theorem cw_S_said_8 : sCw "StoryStates" 72 y_S_isFrom prog_1_method_29_code 3 (some .boolean) rm_S_isFrom rm_S_said 3 := ⟨Or.inl wm_311, wm_1, wm_313, by decide, by decide +kernel, ⟨rfl, rfl⟩, by decide, by decide⟩
theorem wm_249 : (Jvm.Cond.fieldLink "StoryStates" (32 : Nat) "StoryStates" "texts" "[I") ∈ sTB := sMem 249 (by decide +kernel) rfl
theorem gf_c_S_32_0 : sGf Zc "StoryStates" 32 0 4 (some (some 8)) := ⟨0, 7, _, "StoryStates", T_c0, rfl, rfl, rfl, by decide, Or.inl wm_249, rfl, us_c0⟩
theorem wm_128 : (Jvm.Cond.fieldLink "StoryStates" (51 : Nat) "StoryStates$World" "rooms" "I") ∈ sTB := sMem 128 (by decide +kernel) rfl
theorem gf_c_S_51_2 : sGf Zc "StoryStates" 51 2 12 none := ⟨2, 18, _, "StoryStates$World", T_c2, rfl, rfl, rfl, by decide, Or.inl wm_128, rfl, us_c2⟩
theorem wm_326 : (Jvm.Cond.methodLink "StoryStates" (54 : Nat) ({ cls := "StoryStates", name := "mustBeAble", desc := "(Z)V" } : Jvm.MethodName)) ∈ sTB := sMem 326 (by decide +kernel) rfl
theorem wm_328 : (Jvm.Cond.code ({ cls := "StoryStates", name := "mustBeAble", desc := "(Z)V" } : Jvm.MethodName) prog_1_method_32_code (1 : Nat) (Option.none : Option Jvm.ClassFile.FieldType)) ∈ sTB := sMem 328 (by decide +kernel) rfl
theorem wm_327 : (Jvm.Cond.static ({ cls := "StoryStates", name := "mustBeAble", desc := "(Z)V" } : Jvm.MethodName)) ∈ sTB := sMem 327 (by decide +kernel) rfl
theorem cf_S_room_17 : sCf "StoryStates" 54 y_S_mustBeAble prog_1_method_32_code 1 none rm_must rm_S_room 1 := ⟨wm_326, wm_1, wm_328, by decide, by decide +kernel, ⟨by decide, by decide⟩, by decide, by decide⟩
theorem wm_392 : (Jvm.Cond.methodLink "StoryStates" (58 : Nat) ({ cls := "StoryStates$World", name := "addRoom", desc := "()I" } : Jvm.MethodName)) ∈ sTB := sMem 392 (by decide +kernel) rfl
theorem wm_395 : (Jvm.Cond.code ({ cls := "StoryStates$World", name := "addRoom", desc := "()I" } : Jvm.MethodName) prog_8_method_12_code (2 : Nat) (Option.some Jvm.ClassFile.FieldType.int)) ∈ sTB := sMem 395 (by decide +kernel) rfl
theorem cw_S_room_24 : sCw "StoryStates" 58 y_W_addRoom prog_8_method_12_code 2 (some .int) rm_W_addRoom rm_S_room 0 := ⟨Or.inl wm_392, wm_3, wm_395, by decide, by decide +kernel, ⟨rfl, rfl⟩, by decide, by decide⟩
theorem wm_393 : (Jvm.Cond.instanceMethod ({ cls := "StoryStates$World", name := "addRoom", desc := "()I" } : Jvm.MethodName)) ∈ sTB := sMem 393 (by decide +kernel) rfl
theorem wm_394 : (Jvm.Cond.selects "StoryStates$World" ({ cls := "StoryStates$World", name := "addRoom", desc := "()I" } : Jvm.MethodName) ({ cls := "StoryStates$World", name := "addRoom", desc := "()I" } : Jvm.MethodName)) ∈ sTB := sMem 394 (by decide +kernel) rfl
theorem cw_S_room_29 : sCw "StoryStates" 48 y_S_startAnew prog_1_method_23_code 1 none rm_S_startAnew rm_S_room 0 := ⟨Or.inl wm_275, wm_1, wm_278, by decide, by decide +kernel, ⟨rfl, rfl⟩, by decide, by decide⟩
theorem wm_409 : (Jvm.Cond.methodLink "StoryStates" (62 : Nat) ({ cls := "StoryStates$World", name := "hasRoom", desc := "(I)Z" } : Jvm.MethodName)) ∈ sTB := sMem 409 (by decide +kernel) rfl
theorem cw_S_exit_5 : sCw "StoryStates" 62 y_W_hasRoom prog_8_method_3_code 2 (some .boolean) rm_W_hasRoom rm_S_exit 1 := ⟨Or.inl wm_409, wm_3, wm_412, by decide, by decide +kernel, ⟨rfl, rfl⟩, by decide, by decide⟩
theorem cw_S_exit_16 : sCw "StoryStates" 62 y_W_hasRoom prog_8_method_3_code 2 (some .boolean) rm_W_hasRoom rm_S_exit 1 := ⟨Or.inl wm_409, wm_3, wm_412, by decide, by decide +kernel, ⟨rfl, rfl⟩, by decide, by decide⟩
theorem cw_S_exit_34 : sCw "StoryStates" 66 y_W_hasThing prog_8_method_4_code 2 (some .boolean) rm_W_hasThing rm_S_exit 1 := ⟨Or.inl wm_414, wm_3, wm_417, by decide, by decide +kernel, ⟨rfl, rfl⟩, by decide, by decide⟩
theorem wm_418 : (Jvm.Cond.methodLink "StoryStates" (69 : Nat) ({ cls := "StoryStates", name := "mustBeThere", desc := "(Z)V" } : Jvm.MethodName)) ∈ sTB := sMem 418 (by decide +kernel) rfl
theorem wm_420 : (Jvm.Cond.code ({ cls := "StoryStates", name := "mustBeThere", desc := "(Z)V" } : Jvm.MethodName) prog_1_method_30_code (1 : Nat) (Option.none : Option Jvm.ClassFile.FieldType)) ∈ sTB := sMem 420 (by decide +kernel) rfl
theorem wm_419 : (Jvm.Cond.static ({ cls := "StoryStates", name := "mustBeThere", desc := "(Z)V" } : Jvm.MethodName)) ∈ sTB := sMem 419 (by decide +kernel) rfl
theorem cf_S_exit_45 : sCf "StoryStates" 69 y_S_mustBeThere prog_1_method_30_code 1 none rm_must rm_S_exit 1 := ⟨wm_418, wm_1, wm_420, by decide, by decide +kernel, ⟨by decide, by decide⟩, by decide, by decide⟩
theorem cw_S_exit_51 : sCw "StoryStates" 72 y_S_isFrom prog_1_method_29_code 3 (some .boolean) rm_S_isFrom rm_S_exit 3 := ⟨Or.inl wm_311, wm_1, wm_313, by decide, by decide +kernel, ⟨rfl, rfl⟩, by decide, by decide⟩
theorem wm_436 : (Jvm.Cond.methodLink "StoryStates" (76 : Nat) ({ cls := "StoryStates", name := "mustFit", desc := "(Z)V" } : Jvm.MethodName)) ∈ sTB := sMem 436 (by decide +kernel) rfl
theorem wm_438 : (Jvm.Cond.code ({ cls := "StoryStates", name := "mustFit", desc := "(Z)V" } : Jvm.MethodName) prog_1_method_31_code (1 : Nat) (Option.none : Option Jvm.ClassFile.FieldType)) ∈ sTB := sMem 438 (by decide +kernel) rfl
theorem wm_437 : (Jvm.Cond.static ({ cls := "StoryStates", name := "mustFit", desc := "(Z)V" } : Jvm.MethodName)) ∈ sTB := sMem 437 (by decide +kernel) rfl
theorem cf_S_exit_54 : sCf "StoryStates" 76 y_S_mustFit prog_1_method_31_code 1 none rm_must rm_S_exit 1 := ⟨wm_436, wm_1, wm_438, by decide, by decide +kernel, ⟨by decide, by decide⟩, by decide, by decide⟩
theorem wm_454 : (Jvm.Cond.methodLink "StoryStates" (79 : Nat) ({ cls := "StoryStates$World", name := "setExit", desc := "(IIII)V" } : Jvm.MethodName)) ∈ sTB := sMem 454 (by decide +kernel) rfl
theorem cw_S_exit_66 : sCw "StoryStates" 79 y_W_setExit prog_8_method_13_code 5 none rm_W_setExit rm_S_exit 4 := ⟨Or.inl wm_454, wm_3, wm_399, by decide, by decide +kernel, ⟨rfl, rfl⟩, by decide, by decide⟩
theorem cw_S_exit_70 : sCw "StoryStates" 48 y_S_startAnew prog_1_method_23_code 1 none rm_S_startAnew rm_S_exit 0 := ⟨Or.inl wm_275, wm_1, wm_278, by decide, by decide +kernel, ⟨rfl, rfl⟩, by decide, by decide⟩
theorem wm_462 : (Jvm.Cond.methodLink "StoryStates" (83 : Nat) ({ cls := "StoryStates$World", name := "hasPlace", desc := "(I)Z" } : Jvm.MethodName)) ∈ sTB := sMem 462 (by decide +kernel) rfl
theorem wm_465 : (Jvm.Cond.code ({ cls := "StoryStates$World", name := "hasPlace", desc := "(I)Z" } : Jvm.MethodName) prog_8_method_8_code (2 : Nat) (Option.some Jvm.ClassFile.FieldType.boolean)) ∈ sTB := sMem 465 (by decide +kernel) rfl
theorem cw_S_thing_5 : sCw "StoryStates" 83 y_W_hasPlace prog_8_method_8_code 2 (some .boolean) rm_W_hasPlace rm_S_thing 1 := ⟨Or.inl wm_462, wm_3, wm_465, by decide, by decide +kernel, ⟨rfl, rfl⟩, by decide, by decide⟩
theorem wm_463 : (Jvm.Cond.instanceMethod ({ cls := "StoryStates$World", name := "hasPlace", desc := "(I)Z" } : Jvm.MethodName)) ∈ sTB := sMem 463 (by decide +kernel) rfl
theorem wm_464 : (Jvm.Cond.selects "StoryStates$World" ({ cls := "StoryStates$World", name := "hasPlace", desc := "(I)Z" } : Jvm.MethodName) ({ cls := "StoryStates$World", name := "hasPlace", desc := "(I)Z" } : Jvm.MethodName)) ∈ sTB := sMem 464 (by decide +kernel) rfl
theorem cf_S_thing_8 : sCf "StoryStates" 69 y_S_mustBeThere prog_1_method_30_code 1 none rm_must rm_S_thing 1 := ⟨wm_418, wm_1, wm_420, by decide, by decide +kernel, ⟨by decide, by decide⟩, by decide, by decide⟩
theorem wm_467 : (Jvm.Cond.methodLink "StoryStates" (86 : Nat) ({ cls := "StoryStates", name := "isThingKind", desc := "(I)Z" } : Jvm.MethodName)) ∈ sTB := sMem 467 (by decide +kernel) rfl
theorem wm_469 : (Jvm.Cond.code ({ cls := "StoryStates", name := "isThingKind", desc := "(I)Z" } : Jvm.MethodName) prog_1_method_26_code (2 : Nat) (Option.some Jvm.ClassFile.FieldType.boolean)) ∈ sTB := sMem 469 (by decide +kernel) rfl
theorem cw_S_thing_12 : sCw "StoryStates" 86 y_S_isThingKind prog_1_method_26_code 2 (some .boolean) rm_S_isThingKind rm_S_thing 1 := ⟨Or.inl wm_467, wm_1, wm_469, by decide, by decide +kernel, ⟨rfl, rfl⟩, by decide, by decide⟩
theorem wm_468 : (Jvm.Cond.static ({ cls := "StoryStates", name := "isThingKind", desc := "(I)Z" } : Jvm.MethodName)) ∈ sTB := sMem 468 (by decide +kernel) rfl
theorem cf_S_thing_15 : sCf "StoryStates" 76 y_S_mustFit prog_1_method_31_code 1 none rm_must rm_S_thing 1 := ⟨wm_436, wm_1, wm_438, by decide, by decide +kernel, ⟨by decide, by decide⟩, by decide, by decide⟩
theorem wm_130 : (Jvm.Cond.fieldLink "StoryStates" (89 : Nat) "StoryStates$World" "things" "I") ∈ sTB := sMem 130 (by decide +kernel) rfl
theorem gf_c_S_89_2 : sGf Zc "StoryStates" 89 2 13 none := ⟨2, 18, _, "StoryStates$World", T_c2, rfl, rfl, rfl, by decide, Or.inl wm_130, rfl, us_c2⟩
theorem cf_S_thing_35 : sCf "StoryStates" 54 y_S_mustBeAble prog_1_method_32_code 1 none rm_must rm_S_thing 1 := ⟨wm_326, wm_1, wm_328, by decide, by decide +kernel, ⟨by decide, by decide⟩, by decide, by decide⟩
theorem wm_470 : (Jvm.Cond.methodLink "StoryStates" (92 : Nat) ({ cls := "StoryStates$World", name := "addThing", desc := "(II)I" } : Jvm.MethodName)) ∈ sTB := sMem 470 (by decide +kernel) rfl
theorem wm_473 : (Jvm.Cond.code ({ cls := "StoryStates$World", name := "addThing", desc := "(II)I" } : Jvm.MethodName) prog_8_method_14_code (3 : Nat) (Option.some Jvm.ClassFile.FieldType.int)) ∈ sTB := sMem 473 (by decide +kernel) rfl
theorem cw_S_thing_44 : sCw "StoryStates" 92 y_W_addThing prog_8_method_14_code 3 (some .int) rm_W_addThing rm_S_thing 2 := ⟨Or.inl wm_470, wm_3, wm_473, by decide, by decide +kernel, ⟨rfl, rfl⟩, by decide, by decide⟩
theorem wm_471 : (Jvm.Cond.instanceMethod ({ cls := "StoryStates$World", name := "addThing", desc := "(II)I" } : Jvm.MethodName)) ∈ sTB := sMem 471 (by decide +kernel) rfl
theorem wm_472 : (Jvm.Cond.selects "StoryStates$World" ({ cls := "StoryStates$World", name := "addThing", desc := "(II)I" } : Jvm.MethodName) ({ cls := "StoryStates$World", name := "addThing", desc := "(II)I" } : Jvm.MethodName)) ∈ sTB := sMem 472 (by decide +kernel) rfl
theorem cw_S_thing_49 : sCw "StoryStates" 48 y_S_startAnew prog_1_method_23_code 1 none rm_S_startAnew rm_S_thing 0 := ⟨Or.inl wm_275, wm_1, wm_278, by decide, by decide +kernel, ⟨rfl, rfl⟩, by decide, by decide⟩
theorem cw_S_number_4 : sCw "StoryStates" 72 y_S_isFrom prog_1_method_29_code 3 (some .boolean) rm_S_isFrom rm_S_number 3 := ⟨Or.inl wm_311, wm_1, wm_313, by decide, by decide +kernel, ⟨rfl, rfl⟩, by decide, by decide⟩
theorem cw_S_number_13 : sCw "StoryStates" 72 y_S_isFrom prog_1_method_29_code 3 (some .boolean) rm_S_isFrom rm_S_number 3 := ⟨Or.inl wm_311, wm_1, wm_313, by decide, by decide +kernel, ⟨rfl, rfl⟩, by decide, by decide⟩
theorem cf_S_number_24 : sCf "StoryStates" 76 y_S_mustFit prog_1_method_31_code 1 none rm_must rm_S_number 1 := ⟨wm_436, wm_1, wm_438, by decide, by decide +kernel, ⟨by decide, by decide⟩, by decide, by decide⟩
theorem wm_132 : (Jvm.Cond.fieldLink "StoryStates" (96 : Nat) "StoryStates$World" "numbers" "I") ∈ sTB := sMem 132 (by decide +kernel) rfl
theorem gf_c_S_96_2 : sGf Zc "StoryStates" 96 2 14 none := ⟨2, 18, _, "StoryStates$World", T_c2, rfl, rfl, rfl, by decide, Or.inl wm_132, rfl, us_c2⟩
theorem cf_S_number_43 : sCf "StoryStates" 54 y_S_mustBeAble prog_1_method_32_code 1 none rm_must rm_S_number 1 := ⟨wm_326, wm_1, wm_328, by decide, by decide +kernel, ⟨by decide, by decide⟩, by decide, by decide⟩
theorem wm_481 : (Jvm.Cond.methodLink "StoryStates" (99 : Nat) ({ cls := "StoryStates$World", name := "addNumber", desc := "(II)I" } : Jvm.MethodName)) ∈ sTB := sMem 481 (by decide +kernel) rfl
theorem wm_484 : (Jvm.Cond.code ({ cls := "StoryStates$World", name := "addNumber", desc := "(II)I" } : Jvm.MethodName) prog_8_method_15_code (3 : Nat) (Option.some Jvm.ClassFile.FieldType.int)) ∈ sTB := sMem 484 (by decide +kernel) rfl
theorem cw_S_number_52 : sCw "StoryStates" 99 y_W_addNumber prog_8_method_15_code 3 (some .int) rm_W_addNumber rm_S_number 2 := ⟨Or.inl wm_481, wm_3, wm_484, by decide, by decide +kernel, ⟨rfl, rfl⟩, by decide, by decide⟩
theorem wm_482 : (Jvm.Cond.instanceMethod ({ cls := "StoryStates$World", name := "addNumber", desc := "(II)I" } : Jvm.MethodName)) ∈ sTB := sMem 482 (by decide +kernel) rfl
theorem wm_483 : (Jvm.Cond.selects "StoryStates$World" ({ cls := "StoryStates$World", name := "addNumber", desc := "(II)I" } : Jvm.MethodName) ({ cls := "StoryStates$World", name := "addNumber", desc := "(II)I" } : Jvm.MethodName)) ∈ sTB := sMem 483 (by decide +kernel) rfl
theorem cw_S_number_57 : sCw "StoryStates" 48 y_S_startAnew prog_1_method_23_code 1 none rm_S_startAnew rm_S_number 0 := ⟨Or.inl wm_275, wm_1, wm_278, by decide, by decide +kernel, ⟨rfl, rfl⟩, by decide, by decide⟩
theorem wm_134 : (Jvm.Cond.fieldLink "StoryStates" (102 : Nat) "StoryStates$World" "endings" "I") ∈ sTB := sMem 134 (by decide +kernel) rfl
theorem gf_c_S_102_2 : sGf Zc "StoryStates" 102 2 15 none := ⟨2, 18, _, "StoryStates$World", T_c2, rfl, rfl, rfl, by decide, Or.inl wm_134, rfl, us_c2⟩
theorem cf_S_ending_16 : sCf "StoryStates" 54 y_S_mustBeAble prog_1_method_32_code 1 none rm_must rm_S_ending 1 := ⟨wm_326, wm_1, wm_328, by decide, by decide +kernel, ⟨by decide, by decide⟩, by decide, by decide⟩
theorem wm_492 : (Jvm.Cond.methodLink "StoryStates" (105 : Nat) ({ cls := "StoryStates$World", name := "addEnding", desc := "(Z)I" } : Jvm.MethodName)) ∈ sTB := sMem 492 (by decide +kernel) rfl
theorem wm_495 : (Jvm.Cond.code ({ cls := "StoryStates$World", name := "addEnding", desc := "(Z)I" } : Jvm.MethodName) prog_8_method_16_code (2 : Nat) (Option.some Jvm.ClassFile.FieldType.int)) ∈ sTB := sMem 495 (by decide +kernel) rfl
theorem cw_S_ending_24 : sCw "StoryStates" 105 y_W_addEnding prog_8_method_16_code 2 (some .int) rm_W_addEnding rm_S_ending 1 := ⟨Or.inl wm_492, wm_3, wm_495, by decide, by decide +kernel, ⟨rfl, rfl⟩, by decide, by decide⟩
theorem wm_493 : (Jvm.Cond.instanceMethod ({ cls := "StoryStates$World", name := "addEnding", desc := "(Z)I" } : Jvm.MethodName)) ∈ sTB := sMem 493 (by decide +kernel) rfl
theorem wm_494 : (Jvm.Cond.selects "StoryStates$World" ({ cls := "StoryStates$World", name := "addEnding", desc := "(Z)I" } : Jvm.MethodName) ({ cls := "StoryStates$World", name := "addEnding", desc := "(Z)I" } : Jvm.MethodName)) ∈ sTB := sMem 494 (by decide +kernel) rfl
theorem cw_S_ending_29 : sCw "StoryStates" 48 y_S_startAnew prog_1_method_23_code 1 none rm_S_startAnew rm_S_ending 0 := ⟨Or.inl wm_275, wm_1, wm_278, by decide, by decide +kernel, ⟨rfl, rfl⟩, by decide, by decide⟩
theorem cw_S_rule_4 : sCw "StoryStates" 72 y_S_isFrom prog_1_method_29_code 3 (some .boolean) rm_S_isFrom rm_S_rule 3 := ⟨Or.inl wm_311, wm_1, wm_313, by decide, by decide +kernel, ⟨rfl, rfl⟩, by decide, by decide⟩
theorem cw_S_rule_15 : sCw "StoryStates" 72 y_S_isFrom prog_1_method_29_code 3 (some .boolean) rm_S_isFrom rm_S_rule 3 := ⟨Or.inl wm_311, wm_1, wm_313, by decide, by decide +kernel, ⟨rfl, rfl⟩, by decide, by decide⟩
theorem cf_S_rule_26 : sCf "StoryStates" 76 y_S_mustFit prog_1_method_31_code 1 none rm_must rm_S_rule 1 := ⟨wm_436, wm_1, wm_438, by decide, by decide +kernel, ⟨by decide, by decide⟩, by decide, by decide⟩
theorem cw_S_rule_33 : sCw "StoryStates" 72 y_S_isFrom prog_1_method_29_code 3 (some .boolean) rm_S_isFrom rm_S_rule 3 := ⟨Or.inl wm_311, wm_1, wm_313, by decide, by decide +kernel, ⟨rfl, rfl⟩, by decide, by decide⟩
theorem cw_S_rule_43 : sCw "StoryStates" 72 y_S_isFrom prog_1_method_29_code 3 (some .boolean) rm_S_isFrom rm_S_rule 3 := ⟨Or.inl wm_311, wm_1, wm_313, by decide, by decide +kernel, ⟨rfl, rfl⟩, by decide, by decide⟩
theorem cf_S_rule_54 : sCf "StoryStates" 76 y_S_mustFit prog_1_method_31_code 1 none rm_must rm_S_rule 1 := ⟨wm_436, wm_1, wm_438, by decide, by decide +kernel, ⟨by decide, by decide⟩, by decide, by decide⟩
theorem wm_119 : (Jvm.Cond.fieldLink "StoryStates" (109 : Nat) "StoryStates$World" "rules" "LStoryStates$Rules;") ∈ sTB := sMem 119 (by decide +kernel) rfl
theorem gf_c_S_109_2 : sGf Zc "StoryStates" 109 2 7 (some (some 3)) := ⟨2, 18, _, "StoryStates$World", T_c2, rfl, rfl, rfl, by decide, Or.inl wm_119, rfl, us_c2⟩
theorem wm_87 : (Jvm.Cond.fieldLink "StoryStates" (113 : Nat) "StoryStates$Rules" "size" "I") ∈ sTB := sMem 87 (by decide +kernel) rfl
theorem gf_c_S_113_3 : sGf Zc "StoryStates" 113 3 7 none := ⟨3, 8, _, "StoryStates$Rules", T_c3, rfl, rfl, rfl, by decide, Or.inl wm_87, rfl, us_c3⟩
theorem cf_S_rule_77 : sCf "StoryStates" 54 y_S_mustBeAble prog_1_method_32_code 1 none rm_must rm_S_rule 1 := ⟨wm_326, wm_1, wm_328, by decide, by decide +kernel, ⟨by decide, by decide⟩, by decide, by decide⟩
theorem wm_503 : (Jvm.Cond.methodLink "StoryStates" (118 : Nat) ({ cls := "StoryStates$Rules", name := "append", desc := "(IIII)I" } : Jvm.MethodName)) ∈ sTB := sMem 503 (by decide +kernel) rfl
theorem wm_506 : (Jvm.Cond.code ({ cls := "StoryStates$Rules", name := "append", desc := "(IIII)I" } : Jvm.MethodName) prog_7_method_2_code (5 : Nat) (Option.some Jvm.ClassFile.FieldType.int)) ∈ sTB := sMem 506 (by decide +kernel) rfl
theorem cw_S_rule_92 : sCw "StoryStates" 118 y_R_append prog_7_method_2_code 5 (some .int) rm_R_append rm_S_rule 4 := ⟨Or.inl wm_503, wm_4, wm_506, by decide, by decide +kernel, ⟨rfl, rfl⟩, by decide, by decide⟩
theorem wm_504 : (Jvm.Cond.instanceMethod ({ cls := "StoryStates$Rules", name := "append", desc := "(IIII)I" } : Jvm.MethodName)) ∈ sTB := sMem 504 (by decide +kernel) rfl
theorem wm_505 : (Jvm.Cond.selects "StoryStates$Rules" ({ cls := "StoryStates$Rules", name := "append", desc := "(IIII)I" } : Jvm.MethodName) ({ cls := "StoryStates$Rules", name := "append", desc := "(IIII)I" } : Jvm.MethodName)) ∈ sTB := sMem 505 (by decide +kernel) rfl
theorem cw_S_rule_98 : sCw "StoryStates" 48 y_S_startAnew prog_1_method_23_code 1 none rm_S_startAnew rm_S_rule 0 := ⟨Or.inl wm_275, wm_1, wm_278, by decide, by decide +kernel, ⟨rfl, rfl⟩, by decide, by decide⟩
theorem wm_514 : (Jvm.Cond.methodLink "StoryStates" (122 : Nat) ({ cls := "StoryStates$World", name := "hasRule", desc := "(I)Z" } : Jvm.MethodName)) ∈ sTB := sMem 514 (by decide +kernel) rfl
theorem wm_517 : (Jvm.Cond.code ({ cls := "StoryStates$World", name := "hasRule", desc := "(I)Z" } : Jvm.MethodName) prog_8_method_7_code (2 : Nat) (Option.some Jvm.ClassFile.FieldType.boolean)) ∈ sTB := sMem 517 (by decide +kernel) rfl
theorem cw_S_condition_5 : sCw "StoryStates" 122 y_W_hasRule prog_8_method_7_code 2 (some .boolean) rm_W_hasRule rm_S_condition 1 := ⟨Or.inl wm_514, wm_3, wm_517, by decide, by decide +kernel, ⟨rfl, rfl⟩, by decide, by decide⟩
theorem wm_515 : (Jvm.Cond.instanceMethod ({ cls := "StoryStates$World", name := "hasRule", desc := "(I)Z" } : Jvm.MethodName)) ∈ sTB := sMem 515 (by decide +kernel) rfl
theorem wm_516 : (Jvm.Cond.selects "StoryStates$World" ({ cls := "StoryStates$World", name := "hasRule", desc := "(I)Z" } : Jvm.MethodName) ({ cls := "StoryStates$World", name := "hasRule", desc := "(I)Z" } : Jvm.MethodName)) ∈ sTB := sMem 516 (by decide +kernel) rfl
theorem cf_S_condition_8 : sCf "StoryStates" 69 y_S_mustBeThere prog_1_method_30_code 1 none rm_must rm_S_condition 1 := ⟨wm_418, wm_1, wm_420, by decide, by decide +kernel, ⟨by decide, by decide⟩, by decide, by decide⟩
theorem cw_S_condition_14 : sCw "StoryStates" 72 y_S_isFrom prog_1_method_29_code 3 (some .boolean) rm_S_isFrom rm_S_condition 3 := ⟨Or.inl wm_311, wm_1, wm_313, by decide, by decide +kernel, ⟨rfl, rfl⟩, by decide, by decide⟩
theorem cf_S_condition_17 : sCf "StoryStates" 76 y_S_mustFit prog_1_method_31_code 1 none rm_must rm_S_condition 1 := ⟨wm_436, wm_1, wm_438, by decide, by decide +kernel, ⟨by decide, by decide⟩, by decide, by decide⟩
theorem wm_518 : (Jvm.Cond.methodLink "StoryStates" (125 : Nat) ({ cls := "StoryStates$World", name := "hasSubject", desc := "(II)Z" } : Jvm.MethodName)) ∈ sTB := sMem 518 (by decide +kernel) rfl
theorem wm_521 : (Jvm.Cond.code ({ cls := "StoryStates$World", name := "hasSubject", desc := "(II)Z" } : Jvm.MethodName) prog_8_method_9_code (3 : Nat) (Option.some Jvm.ClassFile.FieldType.boolean)) ∈ sTB := sMem 521 (by decide +kernel) rfl
theorem cw_S_condition_26 : sCw "StoryStates" 125 y_W_hasSubject prog_8_method_9_code 3 (some .boolean) rm_W_hasSubject rm_S_condition 2 := ⟨Or.inl wm_518, wm_3, wm_521, by decide, by decide +kernel, ⟨rfl, rfl⟩, by decide, by decide⟩
theorem wm_519 : (Jvm.Cond.instanceMethod ({ cls := "StoryStates$World", name := "hasSubject", desc := "(II)Z" } : Jvm.MethodName)) ∈ sTB := sMem 519 (by decide +kernel) rfl
theorem wm_520 : (Jvm.Cond.selects "StoryStates$World" ({ cls := "StoryStates$World", name := "hasSubject", desc := "(II)Z" } : Jvm.MethodName) ({ cls := "StoryStates$World", name := "hasSubject", desc := "(II)Z" } : Jvm.MethodName)) ∈ sTB := sMem 520 (by decide +kernel) rfl
theorem cf_S_condition_29 : sCf "StoryStates" 69 y_S_mustBeThere prog_1_method_30_code 1 none rm_must rm_S_condition 1 := ⟨wm_418, wm_1, wm_420, by decide, by decide +kernel, ⟨by decide, by decide⟩, by decide, by decide⟩
theorem cw_S_condition_43 : sCw "StoryStates" 83 y_W_hasPlace prog_8_method_8_code 2 (some .boolean) rm_W_hasPlace rm_S_condition 1 := ⟨Or.inl wm_462, wm_3, wm_465, by decide, by decide +kernel, ⟨rfl, rfl⟩, by decide, by decide⟩
theorem cf_S_condition_54 : sCf "StoryStates" 69 y_S_mustBeThere prog_1_method_30_code 1 none rm_must rm_S_condition 1 := ⟨wm_418, wm_1, wm_420, by decide, by decide +kernel, ⟨by decide, by decide⟩, by decide, by decide⟩
theorem wm_527 : (Jvm.Cond.methodLink "StoryStates" (129 : Nat) ({ cls := "StoryStates", name := "isConditionLevel", desc := "(II)Z" } : Jvm.MethodName)) ∈ sTB := sMem 527 (by decide +kernel) rfl
theorem wm_529 : (Jvm.Cond.code ({ cls := "StoryStates", name := "isConditionLevel", desc := "(II)Z" } : Jvm.MethodName) prog_1_method_27_code (2 : Nat) (Option.some Jvm.ClassFile.FieldType.boolean)) ∈ sTB := sMem 529 (by decide +kernel) rfl
theorem cw_S_condition_60 : sCw "StoryStates" 129 y_S_isConditionLevel prog_1_method_27_code 2 (some .boolean) rm_S_isConditionLevel rm_S_condition 2 := ⟨Or.inl wm_527, wm_1, wm_529, by decide, by decide +kernel, ⟨rfl, rfl⟩, by decide, by decide⟩
theorem wm_528 : (Jvm.Cond.static ({ cls := "StoryStates", name := "isConditionLevel", desc := "(II)Z" } : Jvm.MethodName)) ∈ sTB := sMem 528 (by decide +kernel) rfl
theorem cf_S_condition_63 : sCf "StoryStates" 76 y_S_mustFit prog_1_method_31_code 1 none rm_must rm_S_condition 1 := ⟨wm_436, wm_1, wm_438, by decide, by decide +kernel, ⟨by decide, by decide⟩, by decide, by decide⟩
theorem wm_80 : (Jvm.Cond.fieldLink "StoryStates" (132 : Nat) "StoryStates$Rules" "conditions" "LStoryStates$Clauses;") ∈ sTB := sMem 80 (by decide +kernel) rfl
theorem gf_c_S_132_3 : sGf Zc "StoryStates" 132 3 5 (some (some 4)) := ⟨3, 8, _, "StoryStates$Rules", T_c3, rfl, rfl, rfl, by decide, Or.inl wm_80, rfl, us_c3⟩
theorem wm_530 : (Jvm.Cond.methodLink "StoryStates" (136 : Nat) ({ cls := "StoryStates$Clauses", name := "hasSpace", desc := "(I)Z" } : Jvm.MethodName)) ∈ sTB := sMem 530 (by decide +kernel) rfl
theorem wm_533 : (Jvm.Cond.code ({ cls := "StoryStates$Clauses", name := "hasSpace", desc := "(I)Z" } : Jvm.MethodName) prog_4_method_2_code (2 : Nat) (Option.some Jvm.ClassFile.FieldType.boolean)) ∈ sTB := sMem 533 (by decide +kernel) rfl
theorem cw_S_condition_77 : sCw "StoryStates" 136 y_C_hasSpace prog_4_method_2_code 2 (some .boolean) rm_C_hasSpace rm_S_condition 1 := ⟨Or.inl wm_530, wm_5, wm_533, by decide, by decide +kernel, ⟨rfl, rfl⟩, by decide, by decide⟩
theorem wm_531 : (Jvm.Cond.instanceMethod ({ cls := "StoryStates$Clauses", name := "hasSpace", desc := "(I)Z" } : Jvm.MethodName)) ∈ sTB := sMem 531 (by decide +kernel) rfl
theorem wm_532 : (Jvm.Cond.selects "StoryStates$Clauses" ({ cls := "StoryStates$Clauses", name := "hasSpace", desc := "(I)Z" } : Jvm.MethodName) ({ cls := "StoryStates$Clauses", name := "hasSpace", desc := "(I)Z" } : Jvm.MethodName)) ∈ sTB := sMem 532 (by decide +kernel) rfl
theorem cf_S_condition_80 : sCf "StoryStates" 54 y_S_mustBeAble prog_1_method_32_code 1 none rm_must rm_S_condition 1 := ⟨wm_326, wm_1, wm_328, by decide, by decide +kernel, ⟨by decide, by decide⟩, by decide, by decide⟩
theorem wm_534 : (Jvm.Cond.methodLink "StoryStates" (141 : Nat) ({ cls := "StoryStates$Clauses", name := "append", desc := "(IIII)V" } : Jvm.MethodName)) ∈ sTB := sMem 534 (by decide +kernel) rfl
theorem wm_537 : (Jvm.Cond.code ({ cls := "StoryStates$Clauses", name := "append", desc := "(IIII)V" } : Jvm.MethodName) prog_4_method_5_code (6 : Nat) (Option.none : Option Jvm.ClassFile.FieldType)) ∈ sTB := sMem 537 (by decide +kernel) rfl
theorem cw_S_condition_98 : sCw "StoryStates" 141 y_C_append prog_4_method_5_code 6 none rm_C_append rm_S_condition 4 := ⟨Or.inl wm_534, wm_5, wm_537, by decide, by decide +kernel, ⟨rfl, rfl⟩, by decide, by decide⟩
theorem wm_535 : (Jvm.Cond.instanceMethod ({ cls := "StoryStates$Clauses", name := "append", desc := "(IIII)V" } : Jvm.MethodName)) ∈ sTB := sMem 535 (by decide +kernel) rfl
theorem wm_536 : (Jvm.Cond.selects "StoryStates$Clauses" ({ cls := "StoryStates$Clauses", name := "append", desc := "(IIII)V" } : Jvm.MethodName) ({ cls := "StoryStates$Clauses", name := "append", desc := "(IIII)V" } : Jvm.MethodName)) ∈ sTB := sMem 536 (by decide +kernel) rfl
theorem cw_S_condition_102 : sCw "StoryStates" 48 y_S_startAnew prog_1_method_23_code 1 none rm_S_startAnew rm_S_condition 0 := ⟨Or.inl wm_275, wm_1, wm_278, by decide, by decide +kernel, ⟨rfl, rfl⟩, by decide, by decide⟩
theorem cw_S_effect_5 : sCw "StoryStates" 122 y_W_hasRule prog_8_method_7_code 2 (some .boolean) rm_W_hasRule rm_S_effect 1 := ⟨Or.inl wm_514, wm_3, wm_517, by decide, by decide +kernel, ⟨rfl, rfl⟩, by decide, by decide⟩
theorem cf_S_effect_8 : sCf "StoryStates" 69 y_S_mustBeThere prog_1_method_30_code 1 none rm_must rm_S_effect 1 := ⟨wm_418, wm_1, wm_420, by decide, by decide +kernel, ⟨by decide, by decide⟩, by decide, by decide⟩
theorem cw_S_effect_14 : sCw "StoryStates" 72 y_S_isFrom prog_1_method_29_code 3 (some .boolean) rm_S_isFrom rm_S_effect 3 := ⟨Or.inl wm_311, wm_1, wm_313, by decide, by decide +kernel, ⟨rfl, rfl⟩, by decide, by decide⟩
theorem cf_S_effect_17 : sCf "StoryStates" 76 y_S_mustFit prog_1_method_31_code 1 none rm_must rm_S_effect 1 := ⟨wm_436, wm_1, wm_438, by decide, by decide +kernel, ⟨by decide, by decide⟩, by decide, by decide⟩
theorem cw_S_effect_42 : sCw "StoryStates" 125 y_W_hasSubject prog_8_method_9_code 3 (some .boolean) rm_W_hasSubject rm_S_effect 2 := ⟨Or.inl wm_518, wm_3, wm_521, by decide, by decide +kernel, ⟨rfl, rfl⟩, by decide, by decide⟩
theorem wm_549 : (Jvm.Cond.methodLink "StoryStates" (143 : Nat) ({ cls := "StoryStates$World", name := "hasEnding", desc := "(I)Z" } : Jvm.MethodName)) ∈ sTB := sMem 549 (by decide +kernel) rfl
theorem cw_S_effect_30 : sCw "StoryStates" 143 y_W_hasEnding prog_8_method_6_code 2 (some .boolean) rm_W_hasEnding rm_S_effect 1 := ⟨Or.inl wm_549, wm_3, wm_552, by decide, by decide +kernel, ⟨rfl, rfl⟩, by decide, by decide⟩
theorem cf_S_effect_45 : sCf "StoryStates" 69 y_S_mustBeThere prog_1_method_30_code 1 none rm_must rm_S_effect 1 := ⟨wm_418, wm_1, wm_420, by decide, by decide +kernel, ⟨by decide, by decide⟩, by decide, by decide⟩
theorem cw_S_effect_59 : sCw "StoryStates" 83 y_W_hasPlace prog_8_method_8_code 2 (some .boolean) rm_W_hasPlace rm_S_effect 1 := ⟨Or.inl wm_462, wm_3, wm_465, by decide, by decide +kernel, ⟨rfl, rfl⟩, by decide, by decide⟩
theorem cf_S_effect_70 : sCf "StoryStates" 69 y_S_mustBeThere prog_1_method_30_code 1 none rm_must rm_S_effect 1 := ⟨wm_418, wm_1, wm_420, by decide, by decide +kernel, ⟨by decide, by decide⟩, by decide, by decide⟩
theorem wm_553 : (Jvm.Cond.methodLink "StoryStates" (146 : Nat) ({ cls := "StoryStates", name := "isEffectLevel", desc := "(II)Z" } : Jvm.MethodName)) ∈ sTB := sMem 553 (by decide +kernel) rfl
theorem wm_555 : (Jvm.Cond.code ({ cls := "StoryStates", name := "isEffectLevel", desc := "(II)Z" } : Jvm.MethodName) prog_1_method_28_code (2 : Nat) (Option.some Jvm.ClassFile.FieldType.boolean)) ∈ sTB := sMem 555 (by decide +kernel) rfl
theorem cw_S_effect_76 : sCw "StoryStates" 146 y_S_isEffectLevel prog_1_method_28_code 2 (some .boolean) rm_S_isEffectLevel rm_S_effect 2 := ⟨Or.inl wm_553, wm_1, wm_555, by decide, by decide +kernel, ⟨rfl, rfl⟩, by decide, by decide⟩
theorem wm_554 : (Jvm.Cond.static ({ cls := "StoryStates", name := "isEffectLevel", desc := "(II)Z" } : Jvm.MethodName)) ∈ sTB := sMem 554 (by decide +kernel) rfl
theorem cf_S_effect_79 : sCf "StoryStates" 76 y_S_mustFit prog_1_method_31_code 1 none rm_must rm_S_effect 1 := ⟨wm_436, wm_1, wm_438, by decide, by decide +kernel, ⟨by decide, by decide⟩, by decide, by decide⟩
theorem wm_83 : (Jvm.Cond.fieldLink "StoryStates" (149 : Nat) "StoryStates$Rules" "effects" "LStoryStates$Clauses;") ∈ sTB := sMem 83 (by decide +kernel) rfl
theorem gf_c_S_149_3 : sGf Zc "StoryStates" 149 3 6 (some (some 5)) := ⟨3, 8, _, "StoryStates$Rules", T_c3, rfl, rfl, rfl, by decide, Or.inl wm_83, rfl, us_c3⟩
theorem cw_S_effect_93 : sCw "StoryStates" 136 y_C_hasSpace prog_4_method_2_code 2 (some .boolean) rm_C_hasSpace_1 rm_S_effect 1 := ⟨Or.inl wm_530, wm_5, wm_533, by decide, by decide +kernel, ⟨rfl, rfl⟩, by decide, by decide⟩
theorem cf_S_effect_96 : sCf "StoryStates" 54 y_S_mustBeAble prog_1_method_32_code 1 none rm_must rm_S_effect 1 := ⟨wm_326, wm_1, wm_328, by decide, by decide +kernel, ⟨by decide, by decide⟩, by decide, by decide⟩
theorem cw_S_effect_114 : sCw "StoryStates" 141 y_C_append prog_4_method_5_code 6 none rm_C_append_1 rm_S_effect 4 := ⟨Or.inl wm_534, wm_5, wm_537, by decide, by decide +kernel, ⟨rfl, rfl⟩, by decide, by decide⟩
theorem cw_S_effect_118 : sCw "StoryStates" 48 y_S_startAnew prog_1_method_23_code 1 none rm_S_startAnew rm_S_effect 0 := ⟨Or.inl wm_275, wm_1, wm_278, by decide, by decide +kernel, ⟨rfl, rfl⟩, by decide, by decide⟩
theorem cw_S_walker_5 : sCw "StoryStates" 66 y_W_hasThing prog_8_method_4_code 2 (some .boolean) rm_W_hasThing rm_S_walker 1 := ⟨Or.inl wm_414, wm_3, wm_417, by decide, by decide +kernel, ⟨rfl, rfl⟩, by decide, by decide⟩
theorem cf_S_walker_8 : sCf "StoryStates" 69 y_S_mustBeThere prog_1_method_30_code 1 none rm_must rm_S_walker 1 := ⟨wm_418, wm_1, wm_420, by decide, by decide +kernel, ⟨by decide, by decide⟩, by decide, by decide⟩
theorem cw_S_walker_16 : sCw "StoryStates" 62 y_W_hasRoom prog_8_method_3_code 2 (some .boolean) rm_W_hasRoom rm_S_walker 1 := ⟨Or.inl wm_409, wm_3, wm_412, by decide, by decide +kernel, ⟨rfl, rfl⟩, by decide, by decide⟩
theorem cw_S_walker_27 : sCw "StoryStates" 62 y_W_hasRoom prog_8_method_3_code 2 (some .boolean) rm_W_hasRoom rm_S_walker 1 := ⟨Or.inl wm_409, wm_3, wm_412, by decide, by decide +kernel, ⟨rfl, rfl⟩, by decide, by decide⟩
theorem cw_S_walker_39 : sCw "StoryStates" 62 y_W_hasRoom prog_8_method_3_code 2 (some .boolean) rm_W_hasRoom rm_S_walker 1 := ⟨Or.inl wm_409, wm_3, wm_412, by decide, by decide +kernel, ⟨rfl, rfl⟩, by decide, by decide⟩
theorem cf_S_walker_50 : sCf "StoryStates" 69 y_S_mustBeThere prog_1_method_30_code 1 none rm_must rm_S_walker 1 := ⟨wm_418, wm_1, wm_420, by decide, by decide +kernel, ⟨by decide, by decide⟩, by decide, by decide⟩
theorem wm_563 : (Jvm.Cond.methodLink "StoryStates" (155 : Nat) ({ cls := "StoryStates$World", name := "isWalker", desc := "(I)Z" } : Jvm.MethodName)) ∈ sTB := sMem 563 (by decide +kernel) rfl
theorem wm_566 : (Jvm.Cond.code ({ cls := "StoryStates$World", name := "isWalker", desc := "(I)Z" } : Jvm.MethodName) prog_8_method_11_code (3 : Nat) (Option.some Jvm.ClassFile.FieldType.boolean)) ∈ sTB := sMem 566 (by decide +kernel) rfl
theorem cw_S_walker_69 : sCw "StoryStates" 155 y_W_isWalker prog_8_method_11_code 3 (some .boolean) rm_W_isWalker rm_S_walker 1 := ⟨Or.inl wm_563, wm_3, wm_566, by decide, by decide +kernel, ⟨rfl, rfl⟩, by decide, by decide⟩
theorem wm_564 : (Jvm.Cond.instanceMethod ({ cls := "StoryStates$World", name := "isWalker", desc := "(I)Z" } : Jvm.MethodName)) ∈ sTB := sMem 564 (by decide +kernel) rfl
theorem wm_565 : (Jvm.Cond.selects "StoryStates$World" ({ cls := "StoryStates$World", name := "isWalker", desc := "(I)Z" } : Jvm.MethodName) ({ cls := "StoryStates$World", name := "isWalker", desc := "(I)Z" } : Jvm.MethodName)) ∈ sTB := sMem 565 (by decide +kernel) rfl
theorem cf_S_walker_80 : sCf "StoryStates" 54 y_S_mustBeAble prog_1_method_32_code 1 none rm_must rm_S_walker 1 := ⟨wm_326, wm_1, wm_328, by decide, by decide +kernel, ⟨by decide, by decide⟩, by decide, by decide⟩
theorem wm_567 : (Jvm.Cond.methodLink "StoryStates" (158 : Nat) ({ cls := "StoryStates$World", name := "addWalker", desc := "(IIII)V" } : Jvm.MethodName)) ∈ sTB := sMem 567 (by decide +kernel) rfl
theorem wm_570 : (Jvm.Cond.code ({ cls := "StoryStates$World", name := "addWalker", desc := "(IIII)V" } : Jvm.MethodName) prog_8_method_17_code (5 : Nat) (Option.none : Option Jvm.ClassFile.FieldType)) ∈ sTB := sMem 570 (by decide +kernel) rfl
theorem cw_S_walker_92 : sCw "StoryStates" 158 y_W_addWalker prog_8_method_17_code 5 none rm_W_addWalker rm_S_walker 4 := ⟨Or.inl wm_567, wm_3, wm_570, by decide, by decide +kernel, ⟨rfl, rfl⟩, by decide, by decide⟩
theorem wm_568 : (Jvm.Cond.instanceMethod ({ cls := "StoryStates$World", name := "addWalker", desc := "(IIII)V" } : Jvm.MethodName)) ∈ sTB := sMem 568 (by decide +kernel) rfl
theorem wm_569 : (Jvm.Cond.selects "StoryStates$World" ({ cls := "StoryStates$World", name := "addWalker", desc := "(IIII)V" } : Jvm.MethodName) ({ cls := "StoryStates$World", name := "addWalker", desc := "(IIII)V" } : Jvm.MethodName)) ∈ sTB := sMem 569 (by decide +kernel) rfl
theorem cw_S_walker_96 : sCw "StoryStates" 48 y_S_startAnew prog_1_method_23_code 1 none rm_S_startAnew rm_S_walker 0 := ⟨Or.inl wm_275, wm_1, wm_278, by decide, by decide +kernel, ⟨rfl, rfl⟩, by decide, by decide⟩
theorem cw_S_timer_5 : sCw "StoryStates" 122 y_W_hasRule prog_8_method_7_code 2 (some .boolean) rm_W_hasRule rm_S_timer 1 := ⟨Or.inl wm_514, wm_3, wm_517, by decide, by decide +kernel, ⟨rfl, rfl⟩, by decide, by decide⟩
theorem cf_S_timer_8 : sCf "StoryStates" 69 y_S_mustBeThere prog_1_method_30_code 1 none rm_must rm_S_timer 1 := ⟨wm_418, wm_1, wm_420, by decide, by decide +kernel, ⟨by decide, by decide⟩, by decide, by decide⟩
theorem cw_S_timer_15 : sCw "StoryStates" 72 y_S_isFrom prog_1_method_29_code 3 (some .boolean) rm_S_isFrom rm_S_timer 3 := ⟨Or.inl wm_311, wm_1, wm_313, by decide, by decide +kernel, ⟨rfl, rfl⟩, by decide, by decide⟩
theorem cf_S_timer_18 : sCf "StoryStates" 76 y_S_mustFit prog_1_method_31_code 1 none rm_must rm_S_timer 1 := ⟨wm_436, wm_1, wm_438, by decide, by decide +kernel, ⟨by decide, by decide⟩, by decide, by decide⟩
theorem wm_76 : (Jvm.Cond.fieldLink "StoryStates" (164 : Nat) "StoryStates$Rules" "ofTimer" "[Z") ∈ sTB := sMem 76 (by decide +kernel) rfl
theorem gf_c_S_164_3 : sGf Zc "StoryStates" 164 3 4 (some (some 25)) := ⟨3, 8, _, "StoryStates$Rules", T_c3, rfl, rfl, rfl, by decide, Or.inl wm_76, rfl, us_c3⟩
theorem cf_S_timer_52 : sCf "StoryStates" 54 y_S_mustBeAble prog_1_method_32_code 1 none rm_must rm_S_timer 1 := ⟨wm_326, wm_1, wm_328, by decide, by decide +kernel, ⟨by decide, by decide⟩, by decide, by decide⟩
theorem wm_578 : (Jvm.Cond.methodLink "StoryStates" (168 : Nat) ({ cls := "StoryStates$World", name := "addTimer", desc := "(II)V" } : Jvm.MethodName)) ∈ sTB := sMem 578 (by decide +kernel) rfl
theorem wm_581 : (Jvm.Cond.code ({ cls := "StoryStates$World", name := "addTimer", desc := "(II)V" } : Jvm.MethodName) prog_8_method_18_code (3 : Nat) (Option.none : Option Jvm.ClassFile.FieldType)) ∈ sTB := sMem 581 (by decide +kernel) rfl
theorem cw_S_timer_61 : sCw "StoryStates" 168 y_W_addTimer prog_8_method_18_code 3 none rm_W_addTimer rm_S_timer 2 := ⟨Or.inl wm_578, wm_3, wm_581, by decide, by decide +kernel, ⟨rfl, rfl⟩, by decide, by decide⟩
theorem wm_579 : (Jvm.Cond.instanceMethod ({ cls := "StoryStates$World", name := "addTimer", desc := "(II)V" } : Jvm.MethodName)) ∈ sTB := sMem 579 (by decide +kernel) rfl
theorem wm_580 : (Jvm.Cond.selects "StoryStates$World" ({ cls := "StoryStates$World", name := "addTimer", desc := "(II)V" } : Jvm.MethodName) ({ cls := "StoryStates$World", name := "addTimer", desc := "(II)V" } : Jvm.MethodName)) ∈ sTB := sMem 580 (by decide +kernel) rfl
theorem cw_S_timer_65 : sCw "StoryStates" 48 y_S_startAnew prog_1_method_23_code 1 none rm_S_startAnew rm_S_timer 0 := ⟨Or.inl wm_275, wm_1, wm_278, by decide, by decide +kernel, ⟨rfl, rfl⟩, by decide, by decide⟩
theorem cf_S_begin_15 : sCf "StoryStates" 54 y_S_mustBeAble prog_1_method_32_code 1 none rm_must rm_S_begin 1 := ⟨wm_326, wm_1, wm_328, by decide, by decide +kernel, ⟨by decide, by decide⟩, by decide, by decide⟩
theorem cw_S_begin_19 : sCw "StoryStates" 172 y_S_startPlay prog_1_method_24_code 1 none rm_S_startPlay rm_S_begin 0 := ⟨Or.inl wm_279, wm_1, wm_282, by decide, by decide +kernel, ⟨rfl, rfl⟩, by decide, by decide⟩
theorem wm_596 : (Jvm.Cond.methodLink "StoryStates" (175 : Nat) ({ cls := "StoryStates$World", name := "hasCommand", desc := "(III)Z" } : Jvm.MethodName)) ∈ sTB := sMem 596 (by decide +kernel) rfl
theorem cw_S_command_7 : sCw "StoryStates" 175 y_W_hasCommand prog_8_method_10_code 4 (some .boolean) rm_W_hasCommand rm_S_command 3 := ⟨Or.inl wm_596, wm_3, wm_599, by decide, by decide +kernel, ⟨rfl, rfl⟩, by decide, by decide⟩
theorem cf_S_command_10 : sCf "StoryStates" 76 y_S_mustFit prog_1_method_31_code 1 none rm_must rm_S_command 1 := ⟨wm_436, wm_1, wm_438, by decide, by decide +kernel, ⟨by decide, by decide⟩, by decide, by decide⟩
theorem cf_S_command_37 : sCf "StoryStates" 54 y_S_mustBeAble prog_1_method_32_code 1 none rm_must rm_S_command 1 := ⟨wm_326, wm_1, wm_328, by decide, by decide +kernel, ⟨by decide, by decide⟩, by decide, by decide⟩
theorem wm_600 : (Jvm.Cond.methodLink "StoryStates" (178 : Nat) ({ cls := "StoryStates$Bits", name := "isOver", desc := "(J)Z" } : Jvm.MethodName)) ∈ sTB := sMem 600 (by decide +kernel) rfl
theorem cw_S_command_49 : sCw "StoryStates" 178 y_B_isOver prog_3_method_14_code 2 (some .boolean) rm_B_isOver rm_S_command 1 := ⟨Or.inl wm_600, wm_8, wm_602, by decide, by decide +kernel, ⟨rfl, rfl⟩, by decide, by decide⟩
theorem wm_245 : (Jvm.Cond.fieldLink "StoryStates" (12 : Nat) "StoryStates" "engine" "LStoryStates$Engine;") ∈ sTB := sMem 245 (by decide +kernel) rfl
theorem gf_c_S_12_0 : sGf Zc "StoryStates" 12 0 0 (some (some 1)) := ⟨0, 7, _, "StoryStates", T_c0, rfl, rfl, rfl, by decide, Or.inl wm_245, rfl, us_c0⟩
theorem wm_606 : (Jvm.Cond.methodLink "StoryStates" (184 : Nat) ({ cls := "StoryStates$Engine", name := "take", desc := "(JIII)J" } : Jvm.MethodName)) ∈ sTB := sMem 606 (by decide +kernel) rfl
theorem cw_S_command_83 : sCw "StoryStates" 184 y_E_take prog_6_method_2_code 9 (some .long) rm_E_take rm_S_command 4 := ⟨Or.inl wm_606, wm_2, wm_609, by decide, by decide +kernel, ⟨rfl, rfl⟩, by decide, by decide⟩
theorem wm_184 : (Jvm.Cond.fieldLink "StoryStates" (188 : Nat) "StoryStates$Engine" "textCount" "I") ∈ sTB := sMem 184 (by decide +kernel) rfl
theorem gf_c_S_188_1 : sGf Zc "StoryStates" 188 1 2 none := ⟨1, 5, _, "StoryStates$Engine", T_c1, rfl, rfl, rfl, by decide, Or.inl wm_184, rfl, us_c1⟩
theorem wm_182 : (Jvm.Cond.fieldLink "StoryStates" (189 : Nat) "StoryStates$Engine" "texts" "[I") ∈ sTB := sMem 182 (by decide +kernel) rfl
theorem gf_c_S_189_1 : sGf Zc "StoryStates" 189 1 1 (some (some 9)) := ⟨1, 5, _, "StoryStates$Engine", T_c1, rfl, rfl, rfl, by decide, Or.inl wm_182, rfl, us_c1⟩
theorem wm_726 : (Jvm.Cond.methodLink "StoryStates" (190 : Nat) ({ cls := "java/lang/System", name := "arraycopy", desc := "(Ljava/lang/Object;ILjava/lang/Object;II)V" } : Jvm.MethodName)) ∈ sTB := sMem 726 (by decide +kernel) rfl
theorem wm_728 : (Jvm.Cond.native ({ cls := "java/lang/System", name := "arraycopy", desc := "(Ljava/lang/Object;ILjava/lang/Object;II)V" } : Jvm.MethodName)) ∈ sTB := sMem 728 (by decide +kernel) rfl
theorem wm_727 : (Jvm.Cond.static ({ cls := "java/lang/System", name := "arraycopy", desc := "(Ljava/lang/Object;ILjava/lang/Object;II)V" } : Jvm.MethodName)) ∈ sTB := sMem 727 (by decide +kernel) rfl
theorem wm_16 : (Jvm.Cond.initialized "java/lang/System") ∈ sTB := sMem 16 (by decide +kernel) rfl
theorem wm_736 : (Jvm.Cond.methodLink "StoryStates" (196 : Nat) ({ cls := "StoryStates", name := "hasAsked", desc := "(II)Z" } : Jvm.MethodName)) ∈ sTB := sMem 736 (by decide +kernel) rfl
theorem wm_739 : (Jvm.Cond.code ({ cls := "StoryStates", name := "hasAsked", desc := "(II)Z" } : Jvm.MethodName) prog_1_method_25_code (3 : Nat) (Option.some Jvm.ClassFile.FieldType.boolean)) ∈ sTB := sMem 739 (by decide +kernel) rfl
theorem cw_S_state_3 : sCw "StoryStates" 196 y_S_hasAsked prog_1_method_25_code 3 (some .boolean) rm_S_hasAsked rm_S_state 2 := ⟨Or.inl wm_736, wm_1, wm_739, by decide, by decide +kernel, ⟨rfl, rfl⟩, by decide, by decide⟩
theorem wm_738 : (Jvm.Cond.instanceMethod ({ cls := "StoryStates", name := "hasAsked", desc := "(II)Z" } : Jvm.MethodName)) ∈ sTB := sMem 738 (by decide +kernel) rfl
theorem ws_S_hasAsked : Jvm.Cond.selects "StoryStates" ({ cls := "StoryStates", name := "hasAsked", desc := "(II)Z" } : Jvm.MethodName) ({ cls := "StoryStates", name := "hasAsked", desc := "(II)Z" } : Jvm.MethodName) ∈ sTB := sSel 7 ({ cls := "StoryStates", name := "hasAsked", desc := "(II)Z" } : Jvm.MethodName) (by decide +kernel) rfl
theorem cf_S_state_6 : sCf "StoryStates" 69 y_S_mustBeThere prog_1_method_30_code 1 none rm_must rm_S_state 1 := ⟨wm_418, wm_1, wm_420, by decide, by decide +kernel, ⟨by decide, by decide⟩, by decide, by decide⟩
theorem cw_S_state_13 : sCw "StoryStates" 72 y_S_isFrom prog_1_method_29_code 3 (some .boolean) rm_S_isFrom rm_S_state 3 := ⟨Or.inl wm_311, wm_1, wm_313, by decide, by decide +kernel, ⟨rfl, rfl⟩, by decide, by decide⟩
theorem cf_S_state_16 : sCf "StoryStates" 76 y_S_mustFit prog_1_method_31_code 1 none rm_must rm_S_state 1 := ⟨wm_436, wm_1, wm_438, by decide, by decide +kernel, ⟨by decide, by decide⟩, by decide, by decide⟩
theorem cf_S_state_34 : sCf "StoryStates" 54 y_S_mustBeAble prog_1_method_32_code 1 none rm_must rm_S_state 1 := ⟨wm_326, wm_1, wm_328, by decide, by decide +kernel, ⟨by decide, by decide⟩, by decide, by decide⟩
theorem wm_741 : (Jvm.Cond.methodLink "StoryStates" (199 : Nat) ({ cls := "StoryStates$Bits", name := "roomOf", desc := "(J)I" } : Jvm.MethodName)) ∈ sTB := sMem 741 (by decide +kernel) rfl
theorem cw_S_state_97 : sCw "StoryStates" 199 y_B_roomOf prog_3_method_2_code 2 (some .int) rm_B_roomOf rm_S_state 1 := ⟨Or.inl wm_741, wm_8, wm_629, by decide, by decide +kernel, ⟨rfl, rfl⟩, by decide, by decide⟩
theorem wm_742 : (Jvm.Cond.methodLink "StoryStates" (203 : Nat) ({ cls := "StoryStates$Bits", name := "placeOf", desc := "(JI)I" } : Jvm.MethodName)) ∈ sTB := sMem 742 (by decide +kernel) rfl
theorem cw_S_state_103 : sCw "StoryStates" 203 y_B_placeOf prog_3_method_4_code 3 (some .int) rm_B_placeOf rm_S_state 2 := ⟨Or.inl wm_742, wm_8, wm_623, by decide, by decide +kernel, ⟨rfl, rfl⟩, by decide, by decide⟩
theorem wm_743 : (Jvm.Cond.methodLink "StoryStates" (207 : Nat) ({ cls := "StoryStates$Bits", name := "isOpen", desc := "(JI)Z" } : Jvm.MethodName)) ∈ sTB := sMem 743 (by decide +kernel) rfl
theorem cw_S_state_109 : sCw "StoryStates" 207 y_B_isOpen prog_3_method_6_code 3 (some .boolean) rm_B_isOpen rm_S_state 2 := ⟨Or.inl wm_743, wm_8, wm_626, by decide, by decide +kernel, ⟨rfl, rfl⟩, by decide, by decide⟩
theorem wm_744 : (Jvm.Cond.methodLink "StoryStates" (211 : Nat) ({ cls := "StoryStates$Bits", name := "amountOf", desc := "(JI)I" } : Jvm.MethodName)) ∈ sTB := sMem 744 (by decide +kernel) rfl
theorem cw_S_state_123 : sCw "StoryStates" 211 y_B_amountOf prog_3_method_8_code 3 (some .int) rm_B_amountOf rm_S_state 2 := ⟨Or.inl wm_744, wm_8, wm_652, by decide, by decide +kernel, ⟨rfl, rfl⟩, by decide, by decide⟩
theorem wm_745 : (Jvm.Cond.methodLink "StoryStates" (214 : Nat) ({ cls := "StoryStates$Bits", name := "endingOf", desc := "(J)I" } : Jvm.MethodName)) ∈ sTB := sMem 745 (by decide +kernel) rfl
theorem cw_S_state_128 : sCw "StoryStates" 214 y_B_endingOf prog_3_method_15_code 2 (some .int) rm_B_endingOf rm_S_state 1 := ⟨Or.inl wm_745, wm_8, wm_605, by decide, by decide +kernel, ⟨rfl, rfl⟩, by decide, by decide⟩
theorem wm_746 : (Jvm.Cond.methodLink "StoryStates" (217 : Nat) ({ cls := "StoryStates$Bits", name := "isSeen", desc := "(JI)Z" } : Jvm.MethodName)) ∈ sTB := sMem 746 (by decide +kernel) rfl
theorem cw_S_state_139 : sCw "StoryStates" 217 y_B_isSeen prog_3_method_17_code 5 (some .boolean) rm_B_isSeen rm_S_state 2 := ⟨Or.inl wm_746, wm_8, wm_620, by decide, by decide +kernel, ⟨rfl, rfl⟩, by decide, by decide⟩
theorem wm_747 : (Jvm.Cond.methodLink "StoryStates" (220 : Nat) ({ cls := "StoryStates$Bits", name := "countOf", desc := "(JI)I" } : Jvm.MethodName)) ∈ sTB := sMem 747 (by decide +kernel) rfl
theorem cw_S_state_153 : sCw "StoryStates" 220 y_B_countOf prog_3_method_12_code 3 (some .int) rm_B_countOf rm_S_state 2 := ⟨Or.inl wm_747, wm_8, wm_724, by decide, by decide +kernel, ⟨rfl, rfl⟩, by decide, by decide⟩
theorem wm_748 : (Jvm.Cond.methodLink "StoryStates" (223 : Nat) ({ cls := "StoryStates$Bits", name := "stepOf", desc := "(JI)I" } : Jvm.MethodName)) ∈ sTB := sMem 748 (by decide +kernel) rfl
theorem cw_S_state_159 : sCw "StoryStates" 223 y_B_stepOf prog_3_method_10_code 3 (some .int) rm_B_stepOf rm_S_state 2 := ⟨Or.inl wm_748, wm_8, wm_714, by decide, by decide +kernel, ⟨rfl, rfl⟩, by decide, by decide⟩
theorem cf_S_explore_15 : sCf "StoryStates" 54 y_S_mustBeAble prog_1_method_32_code 1 none rm_must rm_S_explore 1 := ⟨wm_326, wm_1, wm_328, by decide, by decide +kernel, ⟨by decide, by decide⟩, by decide, by decide⟩
theorem cw_S_explore_23 : sCw "StoryStates" 72 y_S_isFrom prog_1_method_29_code 3 (some .boolean) rm_S_isFrom rm_S_explore 3 := ⟨Or.inl wm_311, wm_1, wm_313, by decide, by decide +kernel, ⟨rfl, rfl⟩, by decide, by decide⟩
theorem cf_S_explore_26 : sCf "StoryStates" 76 y_S_mustFit prog_1_method_31_code 1 none rm_must rm_S_explore 1 := ⟨wm_436, wm_1, wm_438, by decide, by decide +kernel, ⟨by decide, by decide⟩, by decide, by decide⟩
theorem wm_216 : (Jvm.Cond.fieldLink "StoryStates" (226 : Nat) "StoryStates$Atlas" "found" "I") ∈ sTB := sMem 216 (by decide +kernel) rfl
theorem gf_c_S_226_6 : sGf Zc "StoryStates" 226 6 10 none := ⟨5, 12, _, "StoryStates$Atlas", T_c5, rfl, rfl, rfl, by decide, Or.inl wm_216, rfl, us_c5⟩
theorem wm_756 : (Jvm.Cond.methodLink "StoryStates" (229 : Nat) ({ cls := "StoryStates$Atlas", name := "open", desc := "(LStoryStates$World;)V" } : Jvm.MethodName)) ∈ sTB := sMem 756 (by decide +kernel) rfl
theorem wm_759 : (Jvm.Cond.code ({ cls := "StoryStates$Atlas", name := "open", desc := "(LStoryStates$World;)V" } : Jvm.MethodName) prog_2_method_3_code (4 : Nat) (Option.none : Option Jvm.ClassFile.FieldType)) ∈ sTB := sMem 759 (by decide +kernel) rfl
theorem cw_S_explore_47 : sCw "StoryStates" 229 y_A_opn prog_2_method_3_code 4 none rm_A_opn rm_S_explore 1 := ⟨Or.inl wm_756, wm_6, wm_759, by decide, by decide +kernel, ⟨rfl, rfl⟩, by decide, by decide⟩
theorem wm_757 : (Jvm.Cond.instanceMethod ({ cls := "StoryStates$Atlas", name := "open", desc := "(LStoryStates$World;)V" } : Jvm.MethodName)) ∈ sTB := sMem 757 (by decide +kernel) rfl
theorem wm_758 : (Jvm.Cond.selects "StoryStates$Atlas" ({ cls := "StoryStates$Atlas", name := "open", desc := "(LStoryStates$World;)V" } : Jvm.MethodName) ({ cls := "StoryStates$Atlas", name := "open", desc := "(LStoryStates$World;)V" } : Jvm.MethodName)) ∈ sTB := sMem 758 (by decide +kernel) rfl
theorem wm_781 : (Jvm.Cond.methodLink "StoryStates" (233 : Nat) ({ cls := "StoryStates$Atlas", name := "hasMore", desc := "()Z" } : Jvm.MethodName)) ∈ sTB := sMem 781 (by decide +kernel) rfl
theorem cw_S_explore_61 : sCw "StoryStates" 233 y_A_hasMore prog_2_method_5_code 1 (some .boolean) rm_A_hasMore rm_S_explore 0 := ⟨Or.inl wm_781, wm_6, wm_784, by decide, by decide +kernel, ⟨rfl, rfl⟩, by decide, by decide⟩
theorem wm_785 : (Jvm.Cond.methodLink "StoryStates" (237 : Nat) ({ cls := "StoryStates$Atlas", name := "goThroughNext", desc := "(LStoryStates$Engine;)V" } : Jvm.MethodName)) ∈ sTB := sMem 785 (by decide +kernel) rfl
theorem wm_788 : (Jvm.Cond.code ({ cls := "StoryStates$Atlas", name := "goThroughNext", desc := "(LStoryStates$Engine;)V" } : Jvm.MethodName) prog_2_method_7_code (9 : Nat) (Option.none : Option Jvm.ClassFile.FieldType)) ∈ sTB := sMem 788 (by decide +kernel) rfl
theorem cw_S_explore_75 : sCw "StoryStates" 237 y_A_goThroughNext prog_2_method_7_code 9 none rm_A_goThroughNext rm_S_explore 1 := ⟨Or.inl wm_785, wm_6, wm_788, by decide, by decide +kernel, ⟨rfl, rfl⟩, by decide, by decide⟩
theorem wm_786 : (Jvm.Cond.instanceMethod ({ cls := "StoryStates$Atlas", name := "goThroughNext", desc := "(LStoryStates$Engine;)V" } : Jvm.MethodName)) ∈ sTB := sMem 786 (by decide +kernel) rfl
theorem wm_787 : (Jvm.Cond.selects "StoryStates$Atlas" ({ cls := "StoryStates$Atlas", name := "goThroughNext", desc := "(LStoryStates$Engine;)V" } : Jvm.MethodName) ({ cls := "StoryStates$Atlas", name := "goThroughNext", desc := "(LStoryStates$Engine;)V" } : Jvm.MethodName)) ∈ sTB := sMem 787 (by decide +kernel) rfl
theorem wm_218 : (Jvm.Cond.fieldLink "StoryStates" (241 : Nat) "StoryStates$Atlas" "limitMet" "Z") ∈ sTB := sMem 218 (by decide +kernel) rfl
theorem gf_c_S_241_6 : sGf Zc "StoryStates" 241 6 11 none := ⟨5, 12, _, "StoryStates$Atlas", T_c5, rfl, rfl, rfl, by decide, Or.inl wm_218, rfl, us_c5⟩
theorem wm_833 : (Jvm.Cond.methodLink "StoryStates" (245 : Nat) ({ cls := "StoryStates$Atlas", name := "isFinished", desc := "()Z" } : Jvm.MethodName)) ∈ sTB := sMem 833 (by decide +kernel) rfl
theorem cw_S_explore_100 : sCw "StoryStates" 245 y_A_isFinished prog_2_method_6_code 1 (some .boolean) rm_A_isFinished rm_S_explore 0 := ⟨Or.inl wm_833, wm_6, wm_811, by decide, by decide +kernel, ⟨rfl, rfl⟩, by decide, by decide⟩
theorem cf_S_reach_15 : sCf "StoryStates" 54 y_S_mustBeAble prog_1_method_32_code 1 none rm_must rm_S_reach 1 := ⟨wm_326, wm_1, wm_328, by decide, by decide +kernel, ⟨by decide, by decide⟩, by decide, by decide⟩
theorem cw_S_reach_23 : sCw "StoryStates" 143 y_W_hasEnding prog_8_method_6_code 2 (some .boolean) rm_W_hasEnding rm_S_reach 1 := ⟨Or.inl wm_549, wm_3, wm_552, by decide, by decide +kernel, ⟨rfl, rfl⟩, by decide, by decide⟩
theorem cf_S_reach_26 : sCf "StoryStates" 69 y_S_mustBeThere prog_1_method_30_code 1 none rm_must rm_S_reach 1 := ⟨wm_418, wm_1, wm_420, by decide, by decide +kernel, ⟨by decide, by decide⟩, by decide, by decide⟩
theorem wm_841 : (Jvm.Cond.methodLink "StoryStates" (248 : Nat) ({ cls := "StoryStates$Atlas", name := "firstOverWith", desc := "(I)I" } : Jvm.MethodName)) ∈ sTB := sMem 841 (by decide +kernel) rfl
theorem wm_844 : (Jvm.Cond.code ({ cls := "StoryStates$Atlas", name := "firstOverWith", desc := "(I)I" } : Jvm.MethodName) prog_2_method_20_code (3 : Nat) (Option.some Jvm.ClassFile.FieldType.int)) ∈ sTB := sMem 844 (by decide +kernel) rfl
theorem cw_S_reach_34 : sCw "StoryStates" 248 y_A_firstOverWith prog_2_method_20_code 3 (some .int) rm_A_firstOverWith rm_S_reach 1 := ⟨Or.inl wm_841, wm_6, wm_844, by decide, by decide +kernel, ⟨rfl, rfl⟩, by decide, by decide⟩
theorem wm_842 : (Jvm.Cond.instanceMethod ({ cls := "StoryStates$Atlas", name := "firstOverWith", desc := "(I)I" } : Jvm.MethodName)) ∈ sTB := sMem 842 (by decide +kernel) rfl
theorem wm_843 : (Jvm.Cond.selects "StoryStates$Atlas" ({ cls := "StoryStates$Atlas", name := "firstOverWith", desc := "(I)I" } : Jvm.MethodName) ({ cls := "StoryStates$Atlas", name := "firstOverWith", desc := "(I)I" } : Jvm.MethodName)) ∈ sTB := sMem 843 (by decide +kernel) rfl
theorem cw_S_reach_71 : sCw "StoryStates" 245 y_A_isFinished prog_2_method_6_code 1 (some .boolean) rm_A_isFinished rm_S_reach 0 := ⟨Or.inl wm_833, wm_6, wm_811, by decide, by decide +kernel, ⟨rfl, rfl⟩, by decide, by decide⟩
theorem wm_845 : (Jvm.Cond.methodLink "StoryStates" (252 : Nat) ({ cls := "StoryStates$Atlas", name := "depthOf", desc := "(I)I" } : Jvm.MethodName)) ∈ sTB := sMem 845 (by decide +kernel) rfl
theorem cw_S_reach_56 : sCw "StoryStates" 252 y_A_depthOf prog_2_method_21_code 4 (some .int) rm_A_depthOf rm_S_reach 1 := ⟨Or.inl wm_845, wm_6, wm_848, by decide, by decide +kernel, ⟨rfl, rfl⟩, by decide, by decide⟩
theorem cf_S_way_15 : sCf "StoryStates" 54 y_S_mustBeAble prog_1_method_32_code 1 none rm_must rm_S_way 1 := ⟨wm_326, wm_1, wm_328, by decide, by decide +kernel, ⟨by decide, by decide⟩, by decide, by decide⟩
theorem cw_S_way_23 : sCw "StoryStates" 143 y_W_hasEnding prog_8_method_6_code 2 (some .boolean) rm_W_hasEnding rm_S_way 1 := ⟨Or.inl wm_549, wm_3, wm_552, by decide, by decide +kernel, ⟨rfl, rfl⟩, by decide, by decide⟩
theorem cf_S_way_26 : sCf "StoryStates" 69 y_S_mustBeThere prog_1_method_30_code 1 none rm_must rm_S_way 1 := ⟨wm_418, wm_1, wm_420, by decide, by decide +kernel, ⟨by decide, by decide⟩, by decide, by decide⟩
theorem cw_S_way_34 : sCw "StoryStates" 248 y_A_firstOverWith prog_2_method_20_code 3 (some .int) rm_A_firstOverWith rm_S_way 1 := ⟨Or.inl wm_841, wm_6, wm_844, by decide, by decide +kernel, ⟨rfl, rfl⟩, by decide, by decide⟩
theorem cw_S_way_53 : sCw "StoryStates" 252 y_A_depthOf prog_2_method_21_code 4 (some .int) rm_A_depthOf rm_S_way 1 := ⟨Or.inl wm_845, wm_6, wm_848, by decide, by decide +kernel, ⟨rfl, rfl⟩, by decide, by decide⟩
theorem cw_S_way_58 : sCw "StoryStates" 72 y_S_isFrom prog_1_method_29_code 3 (some .boolean) rm_S_isFrom rm_S_way 3 := ⟨Or.inl wm_311, wm_1, wm_313, by decide, by decide +kernel, ⟨rfl, rfl⟩, by decide, by decide⟩
theorem wm_856 : (Jvm.Cond.methodLink "StoryStates" (255 : Nat) ({ cls := "StoryStates$Atlas", name := "codeOnWay", desc := "(II)I" } : Jvm.MethodName)) ∈ sTB := sMem 856 (by decide +kernel) rfl
theorem wm_859 : (Jvm.Cond.code ({ cls := "StoryStates$Atlas", name := "codeOnWay", desc := "(II)I" } : Jvm.MethodName) prog_2_method_22_code (5 : Nat) (Option.some Jvm.ClassFile.FieldType.int)) ∈ sTB := sMem 859 (by decide +kernel) rfl
theorem cw_S_way_73 : sCw "StoryStates" 255 y_A_codeOnWay prog_2_method_22_code 5 (some .int) rm_A_codeOnWay rm_S_way 2 := ⟨Or.inl wm_856, wm_6, wm_859, by decide, by decide +kernel, ⟨rfl, rfl⟩, by decide, by decide⟩
theorem wm_857 : (Jvm.Cond.instanceMethod ({ cls := "StoryStates$Atlas", name := "codeOnWay", desc := "(II)I" } : Jvm.MethodName)) ∈ sTB := sMem 857 (by decide +kernel) rfl
theorem wm_858 : (Jvm.Cond.selects "StoryStates$Atlas" ({ cls := "StoryStates$Atlas", name := "codeOnWay", desc := "(II)I" } : Jvm.MethodName) ({ cls := "StoryStates$Atlas", name := "codeOnWay", desc := "(II)I" } : Jvm.MethodName)) ∈ sTB := sMem 858 (by decide +kernel) rfl
theorem wm_861 : (Jvm.Cond.methodLink "StoryStates" (258 : Nat) ({ cls := "StoryStates$Code", name := "verbOf", desc := "(I)I" } : Jvm.MethodName)) ∈ sTB := sMem 861 (by decide +kernel) rfl
theorem cw_S_way_106 : sCw "StoryStates" 258 y_D_verbOf prog_5_method_3_code 1 (some .int) rm_D_verbOf rm_S_way 1 := ⟨Or.inl wm_861, wm_18, wm_793, by decide, by decide +kernel, ⟨rfl, rfl⟩, by decide, by decide⟩
theorem wm_862 : (Jvm.Cond.methodLink "StoryStates" (263 : Nat) ({ cls := "StoryStates$Code", name := "firstOf", desc := "(I)I" } : Jvm.MethodName)) ∈ sTB := sMem 862 (by decide +kernel) rfl
theorem cw_S_way_112 : sCw "StoryStates" 263 y_D_firstOf prog_5_method_4_code 1 (some .int) rm_D_firstOf rm_S_way 1 := ⟨Or.inl wm_862, wm_18, wm_796, by decide, by decide +kernel, ⟨rfl, rfl⟩, by decide, by decide⟩
theorem wm_863 : (Jvm.Cond.methodLink "StoryStates" (266 : Nat) ({ cls := "StoryStates$Code", name := "secondOf", desc := "(I)I" } : Jvm.MethodName)) ∈ sTB := sMem 863 (by decide +kernel) rfl
theorem cw_S_way_118 : sCw "StoryStates" 266 y_D_secondOf prog_5_method_5_code 1 (some .int) rm_D_secondOf rm_S_way 1 := ⟨Or.inl wm_863, wm_18, wm_799, by decide, by decide +kernel, ⟨rfl, rfl⟩, by decide, by decide⟩
theorem cf_S_study_15 : sCf "StoryStates" 54 y_S_mustBeAble prog_1_method_32_code 1 none rm_must rm_S_study 1 := ⟨wm_326, wm_1, wm_328, by decide, by decide +kernel, ⟨by decide, by decide⟩, by decide, by decide⟩
theorem cw_S_study_21 : sCw "StoryStates" 72 y_S_isFrom prog_1_method_29_code 3 (some .boolean) rm_S_isFrom rm_S_study 3 := ⟨Or.inl wm_311, wm_1, wm_313, by decide, by decide +kernel, ⟨rfl, rfl⟩, by decide, by decide⟩
theorem cf_S_study_24 : sCf "StoryStates" 76 y_S_mustFit prog_1_method_31_code 1 none rm_must rm_S_study 1 := ⟨wm_436, wm_1, wm_438, by decide, by decide +kernel, ⟨by decide, by decide⟩, by decide, by decide⟩
theorem cw_S_study_47 : sCw "StoryStates" 245 y_A_isFinished prog_2_method_6_code 1 (some .boolean) rm_A_isFinished rm_S_study 0 := ⟨Or.inl wm_833, wm_6, wm_811, by decide, by decide +kernel, ⟨rfl, rfl⟩, by decide, by decide⟩
theorem cw_S_study_105 : sCw "StoryStates" 274 y_A_isHopeless prog_2_method_16_code 4 (some .boolean) rm_A_isHopeless rm_S_study 1 := ⟨Or.inl wm_872, wm_6, wm_875, by decide, by decide +kernel, ⟨rfl, rfl⟩, by decide, by decide⟩
theorem wm_876 : (Jvm.Cond.methodLink "StoryStates" (277 : Nat) ({ cls := "StoryStates", name := "spoilingTurn", desc := "()I" } : Jvm.MethodName)) ∈ sTB := sMem 876 (by decide +kernel) rfl
theorem wm_879 : (Jvm.Cond.code ({ cls := "StoryStates", name := "spoilingTurn", desc := "()I" } : Jvm.MethodName) prog_1_method_22_code (2 : Nat) (Option.some Jvm.ClassFile.FieldType.int)) ∈ sTB := sMem 879 (by decide +kernel) rfl
theorem cw_S_study_118 : sCw "StoryStates" 277 y_S_spoilingTurn prog_1_method_22_code 2 (some .int) rm_S_spoilingTurn rm_S_study 0 := ⟨Or.inl wm_876, wm_1, wm_879, by decide, by decide +kernel, ⟨rfl, rfl⟩, by decide, by decide⟩
theorem wm_878 : (Jvm.Cond.instanceMethod ({ cls := "StoryStates", name := "spoilingTurn", desc := "()I" } : Jvm.MethodName)) ∈ sTB := sMem 878 (by decide +kernel) rfl
theorem ws_S_spoilingTurn : Jvm.Cond.selects "StoryStates" ({ cls := "StoryStates", name := "spoilingTurn", desc := "()I" } : Jvm.MethodName) ({ cls := "StoryStates", name := "spoilingTurn", desc := "()I" } : Jvm.MethodName) ∈ sTB := sSel 7 ({ cls := "StoryStates", name := "spoilingTurn", desc := "()I" } : Jvm.MethodName) (by decide +kernel) rfl
theorem wm_880 : (Jvm.Cond.methodLink "StoryStates" (280 : Nat) ({ cls := "StoryStates$Atlas", name := "countStuck", desc := "()I" } : Jvm.MethodName)) ∈ sTB := sMem 880 (by decide +kernel) rfl
theorem wm_883 : (Jvm.Cond.code ({ cls := "StoryStates$Atlas", name := "countStuck", desc := "()I" } : Jvm.MethodName) prog_2_method_17_code (3 : Nat) (Option.some Jvm.ClassFile.FieldType.int)) ∈ sTB := sMem 883 (by decide +kernel) rfl
theorem cw_S_study_126 : sCw "StoryStates" 280 y_A_countStuck prog_2_method_17_code 3 (some .int) rm_A_countStuck rm_S_study 0 := ⟨Or.inl wm_880, wm_6, wm_883, by decide, by decide +kernel, ⟨rfl, rfl⟩, by decide, by decide⟩
theorem wm_881 : (Jvm.Cond.instanceMethod ({ cls := "StoryStates$Atlas", name := "countStuck", desc := "()I" } : Jvm.MethodName)) ∈ sTB := sMem 881 (by decide +kernel) rfl
theorem wm_882 : (Jvm.Cond.selects "StoryStates$Atlas" ({ cls := "StoryStates$Atlas", name := "countStuck", desc := "()I" } : Jvm.MethodName) ({ cls := "StoryStates$Atlas", name := "countStuck", desc := "()I" } : Jvm.MethodName)) ∈ sTB := sMem 882 (by decide +kernel) rfl
theorem wm_888 : (Jvm.Cond.methodLink "StoryStates" (283 : Nat) ({ cls := "StoryStates$Atlas", name := "idleRule", desc := "(II)I" } : Jvm.MethodName)) ∈ sTB := sMem 888 (by decide +kernel) rfl
theorem wm_891 : (Jvm.Cond.code ({ cls := "StoryStates$Atlas", name := "idleRule", desc := "(II)I" } : Jvm.MethodName) prog_2_method_19_code (5 : Nat) (Option.some Jvm.ClassFile.FieldType.int)) ∈ sTB := sMem 891 (by decide +kernel) rfl
theorem cw_S_study_145 : sCw "StoryStates" 283 y_A_idleRule prog_2_method_19_code 5 (some .int) rm_A_idleRule rm_S_study 2 := ⟨Or.inl wm_888, wm_6, wm_891, by decide, by decide +kernel, ⟨rfl, rfl⟩, by decide, by decide⟩
theorem wm_889 : (Jvm.Cond.instanceMethod ({ cls := "StoryStates$Atlas", name := "idleRule", desc := "(II)I" } : Jvm.MethodName)) ∈ sTB := sMem 889 (by decide +kernel) rfl
theorem wm_890 : (Jvm.Cond.selects "StoryStates$Atlas" ({ cls := "StoryStates$Atlas", name := "idleRule", desc := "(II)I" } : Jvm.MethodName) ({ cls := "StoryStates$Atlas", name := "idleRule", desc := "(II)I" } : Jvm.MethodName)) ∈ sTB := sMem 890 (by decide +kernel) rfl
theorem wm_871 : (Jvm.Cond.methodLink "StoryStates" (269 : Nat) ({ cls := "java/lang/Math", name := "max", desc := "(II)I" } : Jvm.MethodName)) ∈ sTB := sMem 871 (by decide +kernel) rfl
theorem wm_322 : (Jvm.Cond.methodLink "StoryStatesLaw" (7 : Nat) ({ cls := "StoryStates", name := "room", desc := "()I" } : Jvm.MethodName)) ∈ sTB := sMem 322 (by decide +kernel) rfl
theorem wm_325 : (Jvm.Cond.code ({ cls := "StoryStates", name := "room", desc := "()I" } : Jvm.MethodName) prog_1_method_3_code (2 : Nat) (Option.some Jvm.ClassFile.FieldType.int)) ∈ sTB := sMem 325 (by decide +kernel) rfl
theorem wm_323 : (Jvm.Cond.instanceMethod ({ cls := "StoryStates", name := "room", desc := "()I" } : Jvm.MethodName)) ∈ sTB := sMem 323 (by decide +kernel) rfl
theorem wm_324 : (Jvm.Cond.selects "StoryStates" ({ cls := "StoryStates", name := "room", desc := "()I" } : Jvm.MethodName) ({ cls := "StoryStates", name := "room", desc := "()I" } : Jvm.MethodName)) ∈ sTB := sMem 324 (by decide +kernel) rfl
theorem cf_L_room_3 : sCf "StoryStatesLaw" 7 y_S_room prog_1_method_3_code 2 (some .int) rm_S_room rm_L_room 0 := ⟨wm_322, wm_1, wm_325, by decide, by decide +kernel, ⟨by decide, by decide⟩, by decide, by decide⟩
theorem wm_321 : (Jvm.Cond.classLink "StoryStatesLaw" (13 : Nat) "java/lang/IllegalStateException") ∈ sTB := sMem 321 (by decide +kernel) rfl
theorem hr_L_room : sRows "StoryStatesLaw" 3 [(0, 8, 11, 13)] [(11, 2)] := ⟨⟨by decide, by decide⟩, rfl, by decide, by decide, wm_321, trivial⟩
theorem wm_405 : (Jvm.Cond.methodLink "StoryStatesLaw" (15 : Nat) ({ cls := "StoryStates", name := "exit", desc := "(IIII)V" } : Jvm.MethodName)) ∈ sTB := sMem 405 (by decide +kernel) rfl
theorem wm_408 : (Jvm.Cond.code ({ cls := "StoryStates", name := "exit", desc := "(IIII)V" } : Jvm.MethodName) prog_1_method_4_code (5 : Nat) (Option.none : Option Jvm.ClassFile.FieldType)) ∈ sTB := sMem 408 (by decide +kernel) rfl
theorem wm_406 : (Jvm.Cond.instanceMethod ({ cls := "StoryStates", name := "exit", desc := "(IIII)V" } : Jvm.MethodName)) ∈ sTB := sMem 406 (by decide +kernel) rfl
theorem wm_407 : (Jvm.Cond.selects "StoryStates" ({ cls := "StoryStates", name := "exit", desc := "(IIII)V" } : Jvm.MethodName) ({ cls := "StoryStates", name := "exit", desc := "(IIII)V" } : Jvm.MethodName)) ∈ sTB := sMem 407 (by decide +kernel) rfl
theorem cf_L_exit_6 : sCf "StoryStatesLaw" 15 y_S_exit prog_1_method_4_code 5 none rm_S_exit rm_L_exit 4 := ⟨wm_405, wm_1, wm_408, by decide, by decide +kernel, ⟨by decide, by decide⟩, by decide, by decide⟩
theorem wm_404 : (Jvm.Cond.classLink "StoryStatesLaw" (21 : Nat) "java/lang/IllegalArgumentException") ∈ sTB := sMem 404 (by decide +kernel) rfl
theorem wm_403 : (Jvm.Cond.classLink "StoryStatesLaw" (19 : Nat) "java/lang/IndexOutOfBoundsException") ∈ sTB := sMem 403 (by decide +kernel) rfl
theorem hr_L_exit : sRows "StoryStatesLaw" 6 [(0, 9, 12, 19), (0, 9, 16, 21)] [(12, 0), (16, 1)] := ⟨⟨by decide, by decide⟩, rfl, by decide, by decide, wm_403, ⟨⟨by decide, by decide⟩, rfl, by decide, by decide, wm_404, trivial⟩⟩
theorem wm_458 : (Jvm.Cond.methodLink "StoryStatesLaw" (23 : Nat) ({ cls := "StoryStates", name := "thing", desc := "(II)I" } : Jvm.MethodName)) ∈ sTB := sMem 458 (by decide +kernel) rfl
theorem wm_461 : (Jvm.Cond.code ({ cls := "StoryStates", name := "thing", desc := "(II)I" } : Jvm.MethodName) prog_1_method_5_code (4 : Nat) (Option.some Jvm.ClassFile.FieldType.int)) ∈ sTB := sMem 461 (by decide +kernel) rfl
theorem wm_459 : (Jvm.Cond.instanceMethod ({ cls := "StoryStates", name := "thing", desc := "(II)I" } : Jvm.MethodName)) ∈ sTB := sMem 459 (by decide +kernel) rfl
theorem wm_460 : (Jvm.Cond.selects "StoryStates" ({ cls := "StoryStates", name := "thing", desc := "(II)I" } : Jvm.MethodName) ({ cls := "StoryStates", name := "thing", desc := "(II)I" } : Jvm.MethodName)) ∈ sTB := sMem 460 (by decide +kernel) rfl
theorem cf_L_thing_5 : sCf "StoryStatesLaw" 23 y_S_thing prog_1_method_5_code 4 (some .int) rm_S_thing rm_L_thing 2 := ⟨wm_458, wm_1, wm_461, by decide, by decide +kernel, ⟨by decide, by decide⟩, by decide, by decide⟩
theorem hr_L_thing : sRows "StoryStatesLaw" 5 [(0, 10, 13, 19), (0, 10, 17, 21), (0, 10, 21, 13)] [(13, 0), (17, 1), (21, 2)] := ⟨⟨by decide, by decide⟩, rfl, by decide, by decide, wm_403, ⟨⟨by decide, by decide⟩, rfl, by decide, by decide, wm_404, ⟨⟨by decide, by decide⟩, rfl, by decide, by decide, wm_321, trivial⟩⟩⟩
theorem wm_477 : (Jvm.Cond.methodLink "StoryStatesLaw" (27 : Nat) ({ cls := "StoryStates", name := "number", desc := "(II)I" } : Jvm.MethodName)) ∈ sTB := sMem 477 (by decide +kernel) rfl
theorem wm_480 : (Jvm.Cond.code ({ cls := "StoryStates", name := "number", desc := "(II)I" } : Jvm.MethodName) prog_1_method_6_code (4 : Nat) (Option.some Jvm.ClassFile.FieldType.int)) ∈ sTB := sMem 480 (by decide +kernel) rfl
theorem wm_478 : (Jvm.Cond.instanceMethod ({ cls := "StoryStates", name := "number", desc := "(II)I" } : Jvm.MethodName)) ∈ sTB := sMem 478 (by decide +kernel) rfl
theorem wm_479 : (Jvm.Cond.selects "StoryStates" ({ cls := "StoryStates", name := "number", desc := "(II)I" } : Jvm.MethodName) ({ cls := "StoryStates", name := "number", desc := "(II)I" } : Jvm.MethodName)) ∈ sTB := sMem 479 (by decide +kernel) rfl
theorem cf_L_number_5 : sCf "StoryStatesLaw" 27 y_S_number prog_1_method_6_code 4 (some .int) rm_S_number rm_L_number 2 := ⟨wm_477, wm_1, wm_480, by decide, by decide +kernel, ⟨by decide, by decide⟩, by decide, by decide⟩
theorem hr_L_number : sRows "StoryStatesLaw" 5 [(0, 10, 13, 21), (0, 10, 17, 13)] [(13, 1), (17, 2)] := ⟨⟨by decide, by decide⟩, rfl, by decide, by decide, wm_404, ⟨⟨by decide, by decide⟩, rfl, by decide, by decide, wm_321, trivial⟩⟩
theorem wm_488 : (Jvm.Cond.methodLink "StoryStatesLaw" (30 : Nat) ({ cls := "StoryStates", name := "ending", desc := "(Z)I" } : Jvm.MethodName)) ∈ sTB := sMem 488 (by decide +kernel) rfl
theorem wm_491 : (Jvm.Cond.code ({ cls := "StoryStates", name := "ending", desc := "(Z)I" } : Jvm.MethodName) prog_1_method_7_code (3 : Nat) (Option.some Jvm.ClassFile.FieldType.int)) ∈ sTB := sMem 491 (by decide +kernel) rfl
theorem wm_489 : (Jvm.Cond.instanceMethod ({ cls := "StoryStates", name := "ending", desc := "(Z)I" } : Jvm.MethodName)) ∈ sTB := sMem 489 (by decide +kernel) rfl
theorem wm_490 : (Jvm.Cond.selects "StoryStates" ({ cls := "StoryStates", name := "ending", desc := "(Z)I" } : Jvm.MethodName) ({ cls := "StoryStates", name := "ending", desc := "(Z)I" } : Jvm.MethodName)) ∈ sTB := sMem 490 (by decide +kernel) rfl
theorem cf_L_ending_4 : sCf "StoryStatesLaw" 30 y_S_ending prog_1_method_7_code 3 (some .int) rm_S_ending rm_L_ending 1 := ⟨wm_488, wm_1, wm_491, by decide, by decide +kernel, ⟨by decide, by decide⟩, by decide, by decide⟩
theorem hr_L_ending : sRows "StoryStatesLaw" 4 [(0, 9, 12, 13)] [(12, 2)] := ⟨⟨by decide, by decide⟩, rfl, by decide, by decide, wm_321, trivial⟩
theorem wm_499 : (Jvm.Cond.methodLink "StoryStatesLaw" (34 : Nat) ({ cls := "StoryStates", name := "rule", desc := "(IIII)I" } : Jvm.MethodName)) ∈ sTB := sMem 499 (by decide +kernel) rfl
theorem wm_502 : (Jvm.Cond.code ({ cls := "StoryStates", name := "rule", desc := "(IIII)I" } : Jvm.MethodName) prog_1_method_8_code (6 : Nat) (Option.some Jvm.ClassFile.FieldType.int)) ∈ sTB := sMem 502 (by decide +kernel) rfl
theorem wm_500 : (Jvm.Cond.instanceMethod ({ cls := "StoryStates", name := "rule", desc := "(IIII)I" } : Jvm.MethodName)) ∈ sTB := sMem 500 (by decide +kernel) rfl
theorem wm_501 : (Jvm.Cond.selects "StoryStates" ({ cls := "StoryStates", name := "rule", desc := "(IIII)I" } : Jvm.MethodName) ({ cls := "StoryStates", name := "rule", desc := "(IIII)I" } : Jvm.MethodName)) ∈ sTB := sMem 501 (by decide +kernel) rfl
theorem cf_L_rule_9 : sCf "StoryStatesLaw" 34 y_S_rule prog_1_method_8_code 6 (some .int) rm_S_rule rm_L_rule 4 := ⟨wm_499, wm_1, wm_502, by decide, by decide +kernel, ⟨by decide, by decide⟩, by decide, by decide⟩
theorem hr_L_rule : sRows "StoryStatesLaw" 9 [(0, 14, 17, 21), (0, 14, 21, 13)] [(17, 1), (21, 2)] := ⟨⟨by decide, by decide⟩, rfl, by decide, by decide, wm_404, ⟨⟨by decide, by decide⟩, rfl, by decide, by decide, wm_321, trivial⟩⟩
theorem wm_510 : (Jvm.Cond.methodLink "StoryStatesLaw" (38 : Nat) ({ cls := "StoryStates", name := "condition", desc := "(IIII)V" } : Jvm.MethodName)) ∈ sTB := sMem 510 (by decide +kernel) rfl
theorem wm_513 : (Jvm.Cond.code ({ cls := "StoryStates", name := "condition", desc := "(IIII)V" } : Jvm.MethodName) prog_1_method_9_code (5 : Nat) (Option.none : Option Jvm.ClassFile.FieldType)) ∈ sTB := sMem 513 (by decide +kernel) rfl
theorem wm_511 : (Jvm.Cond.instanceMethod ({ cls := "StoryStates", name := "condition", desc := "(IIII)V" } : Jvm.MethodName)) ∈ sTB := sMem 511 (by decide +kernel) rfl
theorem wm_512 : (Jvm.Cond.selects "StoryStates" ({ cls := "StoryStates", name := "condition", desc := "(IIII)V" } : Jvm.MethodName) ({ cls := "StoryStates", name := "condition", desc := "(IIII)V" } : Jvm.MethodName)) ∈ sTB := sMem 512 (by decide +kernel) rfl
theorem cf_L_condition_6 : sCf "StoryStatesLaw" 38 y_S_condition prog_1_method_9_code 5 none rm_S_condition rm_L_condition 4 := ⟨wm_510, wm_1, wm_513, by decide, by decide +kernel, ⟨by decide, by decide⟩, by decide, by decide⟩
theorem hr_L_condition : sRows "StoryStatesLaw" 6 [(0, 9, 12, 19), (0, 9, 16, 21), (0, 9, 20, 13)] [(12, 0), (16, 1), (20, 2)] := ⟨⟨by decide, by decide⟩, rfl, by decide, by decide, wm_403, ⟨⟨by decide, by decide⟩, rfl, by decide, by decide, wm_404, ⟨⟨by decide, by decide⟩, rfl, by decide, by decide, wm_321, trivial⟩⟩⟩
theorem wm_545 : (Jvm.Cond.methodLink "StoryStatesLaw" (41 : Nat) ({ cls := "StoryStates", name := "effect", desc := "(IIII)V" } : Jvm.MethodName)) ∈ sTB := sMem 545 (by decide +kernel) rfl
theorem wm_548 : (Jvm.Cond.code ({ cls := "StoryStates", name := "effect", desc := "(IIII)V" } : Jvm.MethodName) prog_1_method_10_code (5 : Nat) (Option.none : Option Jvm.ClassFile.FieldType)) ∈ sTB := sMem 548 (by decide +kernel) rfl
theorem wm_546 : (Jvm.Cond.instanceMethod ({ cls := "StoryStates", name := "effect", desc := "(IIII)V" } : Jvm.MethodName)) ∈ sTB := sMem 546 (by decide +kernel) rfl
theorem wm_547 : (Jvm.Cond.selects "StoryStates" ({ cls := "StoryStates", name := "effect", desc := "(IIII)V" } : Jvm.MethodName) ({ cls := "StoryStates", name := "effect", desc := "(IIII)V" } : Jvm.MethodName)) ∈ sTB := sMem 547 (by decide +kernel) rfl
theorem cf_L_effect_6 : sCf "StoryStatesLaw" 41 y_S_effect prog_1_method_10_code 5 none rm_S_effect rm_L_effect 4 := ⟨wm_545, wm_1, wm_548, by decide, by decide +kernel, ⟨by decide, by decide⟩, by decide, by decide⟩
theorem hr_L_effect : sRows "StoryStatesLaw" 6 [(0, 9, 12, 19), (0, 9, 16, 21), (0, 9, 20, 13)] [(12, 0), (16, 1), (20, 2)] := ⟨⟨by decide, by decide⟩, rfl, by decide, by decide, wm_403, ⟨⟨by decide, by decide⟩, rfl, by decide, by decide, wm_404, ⟨⟨by decide, by decide⟩, rfl, by decide, by decide, wm_321, trivial⟩⟩⟩
theorem wm_559 : (Jvm.Cond.methodLink "StoryStatesLaw" (44 : Nat) ({ cls := "StoryStates", name := "walker", desc := "(IIII)V" } : Jvm.MethodName)) ∈ sTB := sMem 559 (by decide +kernel) rfl
theorem wm_562 : (Jvm.Cond.code ({ cls := "StoryStates", name := "walker", desc := "(IIII)V" } : Jvm.MethodName) prog_1_method_11_code (5 : Nat) (Option.none : Option Jvm.ClassFile.FieldType)) ∈ sTB := sMem 562 (by decide +kernel) rfl
theorem wm_560 : (Jvm.Cond.instanceMethod ({ cls := "StoryStates", name := "walker", desc := "(IIII)V" } : Jvm.MethodName)) ∈ sTB := sMem 560 (by decide +kernel) rfl
theorem wm_561 : (Jvm.Cond.selects "StoryStates" ({ cls := "StoryStates", name := "walker", desc := "(IIII)V" } : Jvm.MethodName) ({ cls := "StoryStates", name := "walker", desc := "(IIII)V" } : Jvm.MethodName)) ∈ sTB := sMem 561 (by decide +kernel) rfl
theorem cf_L_walker_6 : sCf "StoryStatesLaw" 44 y_S_walker prog_1_method_11_code 5 none rm_S_walker rm_L_walker 4 := ⟨wm_559, wm_1, wm_562, by decide, by decide +kernel, ⟨by decide, by decide⟩, by decide, by decide⟩
theorem hr_L_walker : sRows "StoryStatesLaw" 6 [(0, 9, 12, 19), (0, 9, 16, 13)] [(12, 0), (16, 2)] := ⟨⟨by decide, by decide⟩, rfl, by decide, by decide, wm_403, ⟨⟨by decide, by decide⟩, rfl, by decide, by decide, wm_321, trivial⟩⟩
theorem wm_574 : (Jvm.Cond.methodLink "StoryStatesLaw" (47 : Nat) ({ cls := "StoryStates", name := "timer", desc := "(II)V" } : Jvm.MethodName)) ∈ sTB := sMem 574 (by decide +kernel) rfl
theorem wm_577 : (Jvm.Cond.code ({ cls := "StoryStates", name := "timer", desc := "(II)V" } : Jvm.MethodName) prog_1_method_12_code (3 : Nat) (Option.none : Option Jvm.ClassFile.FieldType)) ∈ sTB := sMem 577 (by decide +kernel) rfl
theorem wm_575 : (Jvm.Cond.instanceMethod ({ cls := "StoryStates", name := "timer", desc := "(II)V" } : Jvm.MethodName)) ∈ sTB := sMem 575 (by decide +kernel) rfl
theorem wm_576 : (Jvm.Cond.selects "StoryStates" ({ cls := "StoryStates", name := "timer", desc := "(II)V" } : Jvm.MethodName) ({ cls := "StoryStates", name := "timer", desc := "(II)V" } : Jvm.MethodName)) ∈ sTB := sMem 576 (by decide +kernel) rfl
theorem cf_L_timer_3 : sCf "StoryStatesLaw" 47 y_S_timer prog_1_method_12_code 3 none rm_S_timer rm_L_timer 2 := ⟨wm_574, wm_1, wm_577, by decide, by decide +kernel, ⟨by decide, by decide⟩, by decide, by decide⟩
theorem hr_L_timer : sRows "StoryStatesLaw" 3 [(0, 6, 9, 19), (0, 6, 12, 21), (0, 6, 15, 13)] [(9, 0), (12, 1), (15, 2)] := ⟨⟨by decide, by decide⟩, rfl, by decide, by decide, wm_403, ⟨⟨by decide, by decide⟩, rfl, by decide, by decide, wm_404, ⟨⟨by decide, by decide⟩, rfl, by decide, by decide, wm_321, trivial⟩⟩⟩
theorem wm_585 : (Jvm.Cond.methodLink "StoryStatesLaw" (51 : Nat) ({ cls := "StoryStates", name := "begin", desc := "()V" } : Jvm.MethodName)) ∈ sTB := sMem 585 (by decide +kernel) rfl
theorem wm_588 : (Jvm.Cond.code ({ cls := "StoryStates", name := "begin", desc := "()V" } : Jvm.MethodName) prog_1_method_13_code (1 : Nat) (Option.none : Option Jvm.ClassFile.FieldType)) ∈ sTB := sMem 588 (by decide +kernel) rfl
theorem wm_586 : (Jvm.Cond.instanceMethod ({ cls := "StoryStates", name := "begin", desc := "()V" } : Jvm.MethodName)) ∈ sTB := sMem 586 (by decide +kernel) rfl
theorem wm_587 : (Jvm.Cond.selects "StoryStates" ({ cls := "StoryStates", name := "begin", desc := "()V" } : Jvm.MethodName) ({ cls := "StoryStates", name := "begin", desc := "()V" } : Jvm.MethodName)) ∈ sTB := sMem 587 (by decide +kernel) rfl
theorem cf_L_begin_1 : sCf "StoryStatesLaw" 51 y_S_begin prog_1_method_13_code 1 none rm_S_begin rm_L_begin 0 := ⟨wm_585, wm_1, wm_588, by decide, by decide +kernel, ⟨by decide, by decide⟩, by decide, by decide⟩
theorem hr_L_begin : sRows "StoryStatesLaw" 1 [(0, 4, 7, 13)] [(7, 2)] := ⟨⟨by decide, by decide⟩, rfl, by decide, by decide, wm_321, trivial⟩
theorem wm_592 : (Jvm.Cond.methodLink "StoryStatesLaw" (54 : Nat) ({ cls := "StoryStates", name := "command", desc := "(III)I" } : Jvm.MethodName)) ∈ sTB := sMem 592 (by decide +kernel) rfl
theorem wm_595 : (Jvm.Cond.code ({ cls := "StoryStates", name := "command", desc := "(III)I" } : Jvm.MethodName) prog_1_method_14_code (4 : Nat) (Option.some Jvm.ClassFile.FieldType.int)) ∈ sTB := sMem 595 (by decide +kernel) rfl
theorem wm_593 : (Jvm.Cond.instanceMethod ({ cls := "StoryStates", name := "command", desc := "(III)I" } : Jvm.MethodName)) ∈ sTB := sMem 593 (by decide +kernel) rfl
theorem wm_594 : (Jvm.Cond.selects "StoryStates" ({ cls := "StoryStates", name := "command", desc := "(III)I" } : Jvm.MethodName) ({ cls := "StoryStates", name := "command", desc := "(III)I" } : Jvm.MethodName)) ∈ sTB := sMem 594 (by decide +kernel) rfl
theorem cf_L_command_7 : sCf "StoryStatesLaw" 54 y_S_command prog_1_method_14_code 4 (some .int) rm_S_command rm_L_command 3 := ⟨wm_592, wm_1, wm_595, by decide, by decide +kernel, ⟨by decide, by decide⟩, by decide, by decide⟩
theorem hr_L_command : sRows "StoryStatesLaw" 7 [(0, 12, 15, 21), (0, 12, 19, 13)] [(15, 1), (19, 2)] := ⟨⟨by decide, by decide⟩, rfl, by decide, by decide, wm_404, ⟨⟨by decide, by decide⟩, rfl, by decide, by decide, wm_321, trivial⟩⟩
theorem wm_732 : (Jvm.Cond.methodLink "StoryStatesLaw" (58 : Nat) ({ cls := "StoryStates", name := "state", desc := "(II)I" } : Jvm.MethodName)) ∈ sTB := sMem 732 (by decide +kernel) rfl
theorem wm_735 : (Jvm.Cond.code ({ cls := "StoryStates", name := "state", desc := "(II)I" } : Jvm.MethodName) prog_1_method_17_code (5 : Nat) (Option.some Jvm.ClassFile.FieldType.int)) ∈ sTB := sMem 735 (by decide +kernel) rfl
theorem wm_733 : (Jvm.Cond.instanceMethod ({ cls := "StoryStates", name := "state", desc := "(II)I" } : Jvm.MethodName)) ∈ sTB := sMem 733 (by decide +kernel) rfl
theorem wm_734 : (Jvm.Cond.selects "StoryStates" ({ cls := "StoryStates", name := "state", desc := "(II)I" } : Jvm.MethodName) ({ cls := "StoryStates", name := "state", desc := "(II)I" } : Jvm.MethodName)) ∈ sTB := sMem 734 (by decide +kernel) rfl
theorem cf_L_state_5 : sCf "StoryStatesLaw" 58 y_S_state prog_1_method_17_code 5 (some .int) rm_S_state rm_L_state 2 := ⟨wm_732, wm_1, wm_735, by decide, by decide +kernel, ⟨by decide, by decide⟩, by decide, by decide⟩
theorem hr_L_state : sRows "StoryStatesLaw" 5 [(0, 10, 13, 19), (0, 10, 17, 21), (0, 10, 21, 13)] [(13, 0), (17, 1), (21, 2)] := ⟨⟨by decide, by decide⟩, rfl, by decide, by decide, wm_403, ⟨⟨by decide, by decide⟩, rfl, by decide, by decide, wm_404, ⟨⟨by decide, by decide⟩, rfl, by decide, by decide, wm_321, trivial⟩⟩⟩
theorem wm_752 : (Jvm.Cond.methodLink "StoryStatesLaw" (61 : Nat) ({ cls := "StoryStates", name := "explore", desc := "(I)I" } : Jvm.MethodName)) ∈ sTB := sMem 752 (by decide +kernel) rfl
theorem wm_755 : (Jvm.Cond.code ({ cls := "StoryStates", name := "explore", desc := "(I)I" } : Jvm.MethodName) prog_1_method_18_code (3 : Nat) (Option.some Jvm.ClassFile.FieldType.int)) ∈ sTB := sMem 755 (by decide +kernel) rfl
theorem wm_753 : (Jvm.Cond.instanceMethod ({ cls := "StoryStates", name := "explore", desc := "(I)I" } : Jvm.MethodName)) ∈ sTB := sMem 753 (by decide +kernel) rfl
theorem wm_754 : (Jvm.Cond.selects "StoryStates" ({ cls := "StoryStates", name := "explore", desc := "(I)I" } : Jvm.MethodName) ({ cls := "StoryStates", name := "explore", desc := "(I)I" } : Jvm.MethodName)) ∈ sTB := sMem 754 (by decide +kernel) rfl
theorem cf_L_explore_4 : sCf "StoryStatesLaw" 61 y_S_explore prog_1_method_18_code 3 (some .int) rm_S_explore rm_L_explore 1 := ⟨wm_752, wm_1, wm_755, by decide, by decide +kernel, ⟨by decide, by decide⟩, by decide, by decide⟩
theorem hr_L_explore : sRows "StoryStatesLaw" 4 [(0, 9, 12, 13), (0, 9, 15, 21)] [(12, 2), (15, 1)] := ⟨⟨by decide, by decide⟩, rfl, by decide, by decide, wm_321, ⟨⟨by decide, by decide⟩, rfl, by decide, by decide, wm_404, trivial⟩⟩
theorem wm_837 : (Jvm.Cond.methodLink "StoryStatesLaw" (65 : Nat) ({ cls := "StoryStates", name := "reach", desc := "(IZ)I" } : Jvm.MethodName)) ∈ sTB := sMem 837 (by decide +kernel) rfl
theorem wm_840 : (Jvm.Cond.code ({ cls := "StoryStates", name := "reach", desc := "(IZ)I" } : Jvm.MethodName) prog_1_method_19_code (4 : Nat) (Option.some Jvm.ClassFile.FieldType.int)) ∈ sTB := sMem 840 (by decide +kernel) rfl
theorem wm_838 : (Jvm.Cond.instanceMethod ({ cls := "StoryStates", name := "reach", desc := "(IZ)I" } : Jvm.MethodName)) ∈ sTB := sMem 838 (by decide +kernel) rfl
theorem wm_839 : (Jvm.Cond.selects "StoryStates" ({ cls := "StoryStates", name := "reach", desc := "(IZ)I" } : Jvm.MethodName) ({ cls := "StoryStates", name := "reach", desc := "(IZ)I" } : Jvm.MethodName)) ∈ sTB := sMem 839 (by decide +kernel) rfl
theorem cf_L_reach_5 : sCf "StoryStatesLaw" 65 y_S_reach prog_1_method_19_code 4 (some .int) rm_S_reach rm_L_reach 2 := ⟨wm_837, wm_1, wm_840, by decide, by decide +kernel, ⟨by decide, by decide⟩, by decide, by decide⟩
theorem hr_L_reach : sRows "StoryStatesLaw" 5 [(0, 10, 13, 13), (0, 10, 17, 19)] [(13, 2), (17, 0)] := ⟨⟨by decide, by decide⟩, rfl, by decide, by decide, wm_321, ⟨⟨by decide, by decide⟩, rfl, by decide, by decide, wm_403, trivial⟩⟩
theorem wm_852 : (Jvm.Cond.methodLink "StoryStatesLaw" (69 : Nat) ({ cls := "StoryStates", name := "way", desc := "(III)I" } : Jvm.MethodName)) ∈ sTB := sMem 852 (by decide +kernel) rfl
theorem wm_855 : (Jvm.Cond.code ({ cls := "StoryStates", name := "way", desc := "(III)I" } : Jvm.MethodName) prog_1_method_20_code (6 : Nat) (Option.some Jvm.ClassFile.FieldType.int)) ∈ sTB := sMem 855 (by decide +kernel) rfl
theorem wm_853 : (Jvm.Cond.instanceMethod ({ cls := "StoryStates", name := "way", desc := "(III)I" } : Jvm.MethodName)) ∈ sTB := sMem 853 (by decide +kernel) rfl
theorem wm_854 : (Jvm.Cond.selects "StoryStates" ({ cls := "StoryStates", name := "way", desc := "(III)I" } : Jvm.MethodName) ({ cls := "StoryStates", name := "way", desc := "(III)I" } : Jvm.MethodName)) ∈ sTB := sMem 854 (by decide +kernel) rfl
theorem cf_L_way_7 : sCf "StoryStatesLaw" 69 y_S_way prog_1_method_20_code 6 (some .int) rm_S_way rm_L_way 3 := ⟨wm_852, wm_1, wm_855, by decide, by decide +kernel, ⟨by decide, by decide⟩, by decide, by decide⟩
theorem hr_L_way : sRows "StoryStatesLaw" 7 [(0, 12, 15, 13), (0, 12, 19, 19)] [(15, 2), (19, 0)] := ⟨⟨by decide, by decide⟩, rfl, by decide, by decide, wm_321, ⟨⟨by decide, by decide⟩, rfl, by decide, by decide, wm_403, trivial⟩⟩
theorem wm_867 : (Jvm.Cond.methodLink "StoryStatesLaw" (72 : Nat) ({ cls := "StoryStates", name := "study", desc := "(II)I" } : Jvm.MethodName)) ∈ sTB := sMem 867 (by decide +kernel) rfl
theorem wm_870 : (Jvm.Cond.code ({ cls := "StoryStates", name := "study", desc := "(II)I" } : Jvm.MethodName) prog_1_method_21_code (3 : Nat) (Option.some Jvm.ClassFile.FieldType.int)) ∈ sTB := sMem 870 (by decide +kernel) rfl
theorem wm_868 : (Jvm.Cond.instanceMethod ({ cls := "StoryStates", name := "study", desc := "(II)I" } : Jvm.MethodName)) ∈ sTB := sMem 868 (by decide +kernel) rfl
theorem wm_869 : (Jvm.Cond.selects "StoryStates" ({ cls := "StoryStates", name := "study", desc := "(II)I" } : Jvm.MethodName) ({ cls := "StoryStates", name := "study", desc := "(II)I" } : Jvm.MethodName)) ∈ sTB := sMem 869 (by decide +kernel) rfl
theorem cf_L_study_5 : sCf "StoryStatesLaw" 72 y_S_study prog_1_method_21_code 3 (some .int) rm_S_study rm_L_study 2 := ⟨wm_867, wm_1, wm_870, by decide, by decide +kernel, ⟨by decide, by decide⟩, by decide, by decide⟩
theorem hr_L_study : sRows "StoryStatesLaw" 5 [(0, 10, 13, 13), (0, 10, 17, 21)] [(13, 2), (17, 1)] := ⟨⟨by decide, by decide⟩, rfl, by decide, by decide, wm_321, ⟨⟨by decide, by decide⟩, rfl, by decide, by decide, wm_404, trivial⟩⟩
theorem wm_421 : (Jvm.Cond.classLink "StoryStates" (296 : Nat) "java/lang/IndexOutOfBoundsException") ∈ sTB := sMem 421 (by decide +kernel) rfl
theorem wm_422 : (Jvm.Cond.instantiable "java/lang/IndexOutOfBoundsException" (6 : Nat)) ∈ sTB := sMem 422 (by decide +kernel) rfl
theorem wm_13 : (Jvm.Cond.initialized "java/lang/IndexOutOfBoundsException") ∈ sTB := sMem 13 (by decide +kernel) rfl
theorem wm_439 : (Jvm.Cond.classLink "StoryStates" (299 : Nat) "java/lang/IllegalArgumentException") ∈ sTB := sMem 439 (by decide +kernel) rfl
theorem wm_440 : (Jvm.Cond.instantiable "java/lang/IllegalArgumentException" (6 : Nat)) ∈ sTB := sMem 440 (by decide +kernel) rfl
theorem wm_14 : (Jvm.Cond.initialized "java/lang/IllegalArgumentException") ∈ sTB := sMem 14 (by decide +kernel) rfl
theorem wm_329 : (Jvm.Cond.classLink "StoryStates" (302 : Nat) "java/lang/IllegalStateException") ∈ sTB := sMem 329 (by decide +kernel) rfl
theorem wm_330 : (Jvm.Cond.instantiable "java/lang/IllegalStateException" (6 : Nat)) ∈ sTB := sMem 330 (by decide +kernel) rfl
theorem wm_12 : (Jvm.Cond.initialized "java/lang/IllegalStateException") ∈ sTB := sMem 12 (by decide +kernel) rfl
