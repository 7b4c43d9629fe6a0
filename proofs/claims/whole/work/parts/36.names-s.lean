theorem wm_20 : (Jvm.Cond.instantiable "StoryStates" (7 : Nat)) ∈ sTB := sMem 20 (by decide +kernel) rfl
theorem wm_893 : (Jvm.Cond.instantiable "StoryStatesModel" (60 : Nat)) ∈ sTB := sMem 893 (by decide +kernel) rfl
theorem wm_19 : (Jvm.Cond.classLink "StoryStatesLaw" (8 : Nat) "StoryStates") ∈ sTB := sMem 19 (by decide +kernel) rfl
theorem wm_892 : (Jvm.Cond.classLink "StoryStatesLaw" (76 : Nat) "StoryStatesModel") ∈ sTB := sMem 892 (by decide +kernel) rfl
theorem wm_21 : (Jvm.Cond.methodLink "StoryStatesLaw" (75 : Nat) ({ cls := "StoryStates", name := "<init>", desc := "()V" } : Jvm.MethodName)) ∈ sTB := sMem 21 (by decide +kernel) rfl
theorem wm_894 : (Jvm.Cond.methodLink "StoryStatesLaw" (78 : Nat) ({ cls := "StoryStatesModel", name := "<init>", desc := "()V" } : Jvm.MethodName)) ∈ sTB := sMem 894 (by decide +kernel) rfl
theorem wm_23 : (Jvm.Cond.code ({ cls := "StoryStates", name := "<init>", desc := "()V" } : Jvm.MethodName) prog_1_method_1_code (1 : Nat) (Option.none : Option Jvm.ClassFile.FieldType)) ∈ sTB := sMem 23 (by decide +kernel) rfl
theorem wm_896 : (Jvm.Cond.code ({ cls := "StoryStatesModel", name := "<init>", desc := "()V" } : Jvm.MethodName) prog_10_method_1_code (1 : Nat) (Option.none : Option Jvm.ClassFile.FieldType)) ∈ sTB := sMem 896 (by decide +kernel) rfl
theorem wm_22 : (Jvm.Cond.instanceMethod ({ cls := "StoryStates", name := "<init>", desc := "()V" } : Jvm.MethodName)) ∈ sTB := sMem 22 (by decide +kernel) rfl
theorem wm_895 : (Jvm.Cond.instanceMethod ({ cls := "StoryStatesModel", name := "<init>", desc := "()V" } : Jvm.MethodName)) ∈ sTB := sMem 895 (by decide +kernel) rfl
theorem d_L_law_0 : decode code 0 = .ok (.new 8, 3) := by decide +kernel
theorem d_L_law_3 : decode code 3 = .ok (.dup, 1) := by decide +kernel
theorem d_L_law_4 : decode code 4 = .ok (.invokespecial 75, 3) := by decide +kernel
theorem d_L_law_7 : decode code 7 = .ok (.astore_n 1, 1) := by decide +kernel
theorem d_L_law_8 : decode code 8 = .ok (.new 76, 3) := by decide +kernel
theorem d_L_law_11 : decode code 11 = .ok (.dup, 1) := by decide +kernel
theorem d_L_law_12 : decode code 12 = .ok (.invokespecial 78, 3) := by decide +kernel
theorem d_L_law_15 : decode code 15 = .ok (.astore_n 2, 1) := by decide +kernel
theorem d_L_law_16 : decode code 16 = .ok (.iconst 1, 1) := by decide +kernel
theorem d_L_law_17 : decode code 17 = .ok (.newarray .long, 2) := by decide +kernel
theorem d_L_law_19 : decode code 19 = .ok (.astore_n 3, 1) := by decide +kernel
theorem d_L_law_20 : decode code 20 = .ok (.iconst 0, 1) := by decide +kernel
theorem d_L_law_21 : decode code 21 = .ok (.istore 4, 2) := by decide +kernel
