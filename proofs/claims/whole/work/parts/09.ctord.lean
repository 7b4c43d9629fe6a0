theorem wm_24 : (Jvm.Cond.methodLink "StoryStates" (3 : Nat) ({ cls := "java/lang/Object", name := "<init>", desc := "()V" } : Jvm.MethodName)) ∈ sTB := sMem 24 (by decide +kernel) rfl
theorem wm_25 : (Jvm.Cond.instanceMethod ({ cls := "java/lang/Object", name := "<init>", desc := "()V" } : Jvm.MethodName)) ∈ sTB := sMem 25 (by decide +kernel) rfl
theorem wm_26 : (Jvm.Cond.code ({ cls := "java/lang/Object", name := "<init>", desc := "()V" } : Jvm.MethodName) object_method_1_code (1 : Nat) (Option.none : Option Jvm.ClassFile.FieldType)) ∈ sTB := sMem 26 (by decide +kernel) rfl
theorem wm_32 : (Jvm.Cond.methodLink "StoryStates$Engine" (3 : Nat) ({ cls := "java/lang/Object", name := "<init>", desc := "()V" } : Jvm.MethodName)) ∈ sTB := sMem 32 (by decide +kernel) rfl
theorem wm_38 : (Jvm.Cond.methodLink "StoryStates$World" (3 : Nat) ({ cls := "java/lang/Object", name := "<init>", desc := "()V" } : Jvm.MethodName)) ∈ sTB := sMem 38 (by decide +kernel) rfl
theorem wm_68 : (Jvm.Cond.arrayClass Jvm.ClassFile.FieldType.int) ∈ sTB := sMem 68 (by decide +kernel) rfl
theorem wm_69 : (Jvm.Cond.arrayClass Jvm.ClassFile.FieldType.boolean) ∈ sTB := sMem 69 (by decide +kernel) rfl
theorem wm_44 : (Jvm.Cond.methodLink "StoryStates$Rules" (3 : Nat) ({ cls := "java/lang/Object", name := "<init>", desc := "()V" } : Jvm.MethodName)) ∈ sTB := sMem 44 (by decide +kernel) rfl
theorem wm_50 : (Jvm.Cond.methodLink "StoryStates$Clauses" (3 : Nat) ({ cls := "java/lang/Object", name := "<init>", desc := "()V" } : Jvm.MethodName)) ∈ sTB := sMem 50 (by decide +kernel) rfl
theorem wm_45 : (Jvm.Cond.classLink "StoryStates$Rules" (28 : Nat) "StoryStates$Clauses") ∈ sTB := sMem 45 (by decide +kernel) rfl
theorem wm_46 : (Jvm.Cond.instantiable "StoryStates$Clauses" (4 : Nat)) ∈ sTB := sMem 46 (by decide +kernel) rfl
theorem wm_47 : (Jvm.Cond.methodLinkNest "StoryStates$Rules" (30 : Nat) ({ cls := "StoryStates$Clauses", name := "<init>", desc := "()V" } : Jvm.MethodName) "StoryStates") ∈ sTB := sMem 47 (by decide +kernel) rfl
theorem wm_49 : (Jvm.Cond.code ({ cls := "StoryStates$Clauses", name := "<init>", desc := "()V" } : Jvm.MethodName) prog_4_method_1_code (1 : Nat) (Option.none : Option Jvm.ClassFile.FieldType)) ∈ sTB := sMem 49 (by decide +kernel) rfl
theorem wm_48 : (Jvm.Cond.instanceMethod ({ cls := "StoryStates$Clauses", name := "<init>", desc := "()V" } : Jvm.MethodName)) ∈ sTB := sMem 48 (by decide +kernel) rfl
theorem wm_39 : (Jvm.Cond.classLink "StoryStates$World" (34 : Nat) "StoryStates$Rules") ∈ sTB := sMem 39 (by decide +kernel) rfl
theorem wm_40 : (Jvm.Cond.instantiable "StoryStates$Rules" (8 : Nat)) ∈ sTB := sMem 40 (by decide +kernel) rfl
theorem wm_41 : (Jvm.Cond.methodLinkNest "StoryStates$World" (36 : Nat) ({ cls := "StoryStates$Rules", name := "<init>", desc := "()V" } : Jvm.MethodName) "StoryStates") ∈ sTB := sMem 41 (by decide +kernel) rfl
theorem wm_43 : (Jvm.Cond.code ({ cls := "StoryStates$Rules", name := "<init>", desc := "()V" } : Jvm.MethodName) prog_7_method_1_code (1 : Nat) (Option.none : Option Jvm.ClassFile.FieldType)) ∈ sTB := sMem 43 (by decide +kernel) rfl
theorem wm_42 : (Jvm.Cond.instanceMethod ({ cls := "StoryStates$Rules", name := "<init>", desc := "()V" } : Jvm.MethodName)) ∈ sTB := sMem 42 (by decide +kernel) rfl
theorem wm_33 : (Jvm.Cond.classLink "StoryStates$Engine" (9 : Nat) "StoryStates$World") ∈ sTB := sMem 33 (by decide +kernel) rfl
theorem wm_34 : (Jvm.Cond.instantiable "StoryStates$World" (18 : Nat)) ∈ sTB := sMem 34 (by decide +kernel) rfl
theorem wm_35 : (Jvm.Cond.methodLinkNest "StoryStates$Engine" (11 : Nat) ({ cls := "StoryStates$World", name := "<init>", desc := "()V" } : Jvm.MethodName) "StoryStates") ∈ sTB := sMem 35 (by decide +kernel) rfl
theorem wm_37 : (Jvm.Cond.code ({ cls := "StoryStates$World", name := "<init>", desc := "()V" } : Jvm.MethodName) prog_8_method_1_code (1 : Nat) (Option.none : Option Jvm.ClassFile.FieldType)) ∈ sTB := sMem 37 (by decide +kernel) rfl
theorem wm_36 : (Jvm.Cond.instanceMethod ({ cls := "StoryStates$World", name := "<init>", desc := "()V" } : Jvm.MethodName)) ∈ sTB := sMem 36 (by decide +kernel) rfl
theorem wm_27 : (Jvm.Cond.classLink "StoryStates" (9 : Nat) "StoryStates$Engine") ∈ sTB := sMem 27 (by decide +kernel) rfl
theorem wm_28 : (Jvm.Cond.instantiable "StoryStates$Engine" (5 : Nat)) ∈ sTB := sMem 28 (by decide +kernel) rfl
theorem wm_29 : (Jvm.Cond.methodLinkNest "StoryStates" (11 : Nat) ({ cls := "StoryStates$Engine", name := "<init>", desc := "()V" } : Jvm.MethodName) "StoryStates") ∈ sTB := sMem 29 (by decide +kernel) rfl
theorem wm_31 : (Jvm.Cond.code ({ cls := "StoryStates$Engine", name := "<init>", desc := "()V" } : Jvm.MethodName) prog_6_method_1_code (1 : Nat) (Option.none : Option Jvm.ClassFile.FieldType)) ∈ sTB := sMem 31 (by decide +kernel) rfl
theorem wm_30 : (Jvm.Cond.instanceMethod ({ cls := "StoryStates$Engine", name := "<init>", desc := "()V" } : Jvm.MethodName)) ∈ sTB := sMem 30 (by decide +kernel) rfl
theorem wm_179 : (Jvm.Cond.fieldLink "StoryStates" (16 : Nat) "StoryStates$Engine" "world" "LStoryStates$World;") ∈ sTB := sMem 179 (by decide +kernel) rfl
theorem wm_204 : (Jvm.Cond.methodLink "StoryStates$Atlas" (5 : Nat) ({ cls := "java/lang/Object", name := "<init>", desc := "()V" } : Jvm.MethodName)) ∈ sTB := sMem 204 (by decide +kernel) rfl
theorem wm_244 : (Jvm.Cond.arrayClass Jvm.ClassFile.FieldType.long) ∈ sTB := sMem 244 (by decide +kernel) rfl
theorem wm_199 : (Jvm.Cond.classLink "StoryStates" (21 : Nat) "StoryStates$Atlas") ∈ sTB := sMem 199 (by decide +kernel) rfl
theorem wm_200 : (Jvm.Cond.instantiable "StoryStates$Atlas" (12 : Nat)) ∈ sTB := sMem 200 (by decide +kernel) rfl
theorem wm_201 : (Jvm.Cond.methodLinkNest "StoryStates" (23 : Nat) ({ cls := "StoryStates$Atlas", name := "<init>", desc := "()V" } : Jvm.MethodName) "StoryStates") ∈ sTB := sMem 201 (by decide +kernel) rfl
theorem wm_203 : (Jvm.Cond.code ({ cls := "StoryStates$Atlas", name := "<init>", desc := "()V" } : Jvm.MethodName) prog_2_method_1_code (1 : Nat) (Option.none : Option Jvm.ClassFile.FieldType)) ∈ sTB := sMem 203 (by decide +kernel) rfl
theorem wm_202 : (Jvm.Cond.instanceMethod ({ cls := "StoryStates$Atlas", name := "<init>", desc := "()V" } : Jvm.MethodName)) ∈ sTB := sMem 202 (by decide +kernel) rfl
theorem wm_897 : (Jvm.Cond.methodLink "StoryStatesModel" (1 : Nat) ({ cls := "java/lang/Object", name := "<init>", desc := "()V" } : Jvm.MethodName)) ∈ sTB := sMem 897 (by decide +kernel) rfl
theorem d_S_init_0 : decode prog_1_method_1_code 0 = .ok (.aload_n 0, 1) := by decide +kernel
theorem d_S_init_1 : decode prog_1_method_1_code 1 = .ok (.invokespecial 3, 3) := by decide +kernel
theorem d_S_init_4 : decode prog_1_method_1_code 4 = .ok (.aload_n 0, 1) := by decide +kernel
theorem d_S_init_5 : decode prog_1_method_1_code 5 = .ok (.new 9, 3) := by decide +kernel
theorem d_E_init_0 : decode prog_6_method_1_code 0 = .ok (.aload_n 0, 1) := by decide +kernel
theorem d_E_init_1 : decode prog_6_method_1_code 1 = .ok (.invokespecial 3, 3) := by decide +kernel
theorem d_E_init_4 : decode prog_6_method_1_code 4 = .ok (.aload_n 0, 1) := by decide +kernel
theorem d_E_init_5 : decode prog_6_method_1_code 5 = .ok (.new 9, 3) := by decide +kernel
theorem d_W_init_0 : decode prog_8_method_1_code 0 = .ok (.aload_n 0, 1) := by decide +kernel
theorem d_W_init_1 : decode prog_8_method_1_code 1 = .ok (.invokespecial 3, 3) := by decide +kernel
theorem d_W_init_4 : decode prog_8_method_1_code 4 = .ok (.aload_n 0, 1) := by decide +kernel
theorem d_W_init_5 : decode prog_8_method_1_code 5 = .ok (.bipush 24, 2) := by decide +kernel
theorem d_W_init_7 : decode prog_8_method_1_code 7 = .ok (.newarray .int, 2) := by decide +kernel
theorem d_W_init_9 : decode prog_8_method_1_code 9 = .ok (.putfield 9, 3) := by decide +kernel
theorem d_W_init_12 : decode prog_8_method_1_code 12 = .ok (.aload_n 0, 1) := by decide +kernel
theorem d_W_init_13 : decode prog_8_method_1_code 13 = .ok (.bipush 24, 2) := by decide +kernel
theorem d_W_init_15 : decode prog_8_method_1_code 15 = .ok (.newarray .int, 2) := by decide +kernel
theorem d_W_init_17 : decode prog_8_method_1_code 17 = .ok (.putfield 15, 3) := by decide +kernel
theorem d_W_init_20 : decode prog_8_method_1_code 20 = .ok (.aload_n 0, 1) := by decide +kernel
theorem d_W_init_21 : decode prog_8_method_1_code 21 = .ok (.bipush 6, 2) := by decide +kernel
theorem d_W_init_23 : decode prog_8_method_1_code 23 = .ok (.newarray .int, 2) := by decide +kernel
theorem d_W_init_25 : decode prog_8_method_1_code 25 = .ok (.putfield 18, 3) := by decide +kernel
theorem d_W_init_28 : decode prog_8_method_1_code 28 = .ok (.aload_n 0, 1) := by decide +kernel
theorem d_W_init_29 : decode prog_8_method_1_code 29 = .ok (.bipush 6, 2) := by decide +kernel
theorem d_W_init_31 : decode prog_8_method_1_code 31 = .ok (.newarray .int, 2) := by decide +kernel
theorem d_W_init_33 : decode prog_8_method_1_code 33 = .ok (.putfield 21, 3) := by decide +kernel
theorem d_W_init_36 : decode prog_8_method_1_code 36 = .ok (.aload_n 0, 1) := by decide +kernel
theorem d_W_init_37 : decode prog_8_method_1_code 37 = .ok (.iconst 3, 1) := by decide +kernel
theorem d_W_init_38 : decode prog_8_method_1_code 38 = .ok (.newarray .int, 2) := by decide +kernel
theorem d_W_init_40 : decode prog_8_method_1_code 40 = .ok (.putfield 24, 3) := by decide +kernel
theorem d_W_init_43 : decode prog_8_method_1_code 43 = .ok (.aload_n 0, 1) := by decide +kernel
theorem d_W_init_44 : decode prog_8_method_1_code 44 = .ok (.iconst 3, 1) := by decide +kernel
theorem d_W_init_45 : decode prog_8_method_1_code 45 = .ok (.newarray .int, 2) := by decide +kernel
theorem d_W_init_47 : decode prog_8_method_1_code 47 = .ok (.putfield 27, 3) := by decide +kernel
theorem d_W_init_50 : decode prog_8_method_1_code 50 = .ok (.aload_n 0, 1) := by decide +kernel
theorem d_W_init_51 : decode prog_8_method_1_code 51 = .ok (.iconst 4, 1) := by decide +kernel
theorem d_W_init_52 : decode prog_8_method_1_code 52 = .ok (.newarray .boolean, 2) := by decide +kernel
theorem d_W_init_54 : decode prog_8_method_1_code 54 = .ok (.putfield 30, 3) := by decide +kernel
theorem d_W_init_57 : decode prog_8_method_1_code 57 = .ok (.aload_n 0, 1) := by decide +kernel
theorem d_W_init_58 : decode prog_8_method_1_code 58 = .ok (.new 34, 3) := by decide +kernel
theorem d_R_init_0 : decode prog_7_method_1_code 0 = .ok (.aload_n 0, 1) := by decide +kernel
theorem d_R_init_1 : decode prog_7_method_1_code 1 = .ok (.invokespecial 3, 3) := by decide +kernel
theorem d_R_init_4 : decode prog_7_method_1_code 4 = .ok (.aload_n 0, 1) := by decide +kernel
theorem d_R_init_5 : decode prog_7_method_1_code 5 = .ok (.bipush 12, 2) := by decide +kernel
theorem d_R_init_7 : decode prog_7_method_1_code 7 = .ok (.newarray .int, 2) := by decide +kernel
theorem d_R_init_9 : decode prog_7_method_1_code 9 = .ok (.putfield 9, 3) := by decide +kernel
theorem d_R_init_12 : decode prog_7_method_1_code 12 = .ok (.aload_n 0, 1) := by decide +kernel
theorem d_R_init_13 : decode prog_7_method_1_code 13 = .ok (.bipush 12, 2) := by decide +kernel
theorem d_R_init_15 : decode prog_7_method_1_code 15 = .ok (.newarray .int, 2) := by decide +kernel
theorem d_R_init_17 : decode prog_7_method_1_code 17 = .ok (.putfield 15, 3) := by decide +kernel
theorem d_R_init_20 : decode prog_7_method_1_code 20 = .ok (.aload_n 0, 1) := by decide +kernel
theorem d_R_init_21 : decode prog_7_method_1_code 21 = .ok (.bipush 12, 2) := by decide +kernel
theorem d_R_init_23 : decode prog_7_method_1_code 23 = .ok (.newarray .int, 2) := by decide +kernel
theorem d_R_init_25 : decode prog_7_method_1_code 25 = .ok (.putfield 18, 3) := by decide +kernel
theorem d_R_init_28 : decode prog_7_method_1_code 28 = .ok (.aload_n 0, 1) := by decide +kernel
theorem d_R_init_29 : decode prog_7_method_1_code 29 = .ok (.bipush 12, 2) := by decide +kernel
theorem d_R_init_31 : decode prog_7_method_1_code 31 = .ok (.newarray .int, 2) := by decide +kernel
theorem d_R_init_33 : decode prog_7_method_1_code 33 = .ok (.putfield 21, 3) := by decide +kernel
theorem d_R_init_36 : decode prog_7_method_1_code 36 = .ok (.aload_n 0, 1) := by decide +kernel
theorem d_R_init_37 : decode prog_7_method_1_code 37 = .ok (.bipush 12, 2) := by decide +kernel
theorem d_R_init_39 : decode prog_7_method_1_code 39 = .ok (.newarray .boolean, 2) := by decide +kernel
theorem d_R_init_41 : decode prog_7_method_1_code 41 = .ok (.putfield 24, 3) := by decide +kernel
theorem d_R_init_44 : decode prog_7_method_1_code 44 = .ok (.aload_n 0, 1) := by decide +kernel
theorem d_R_init_45 : decode prog_7_method_1_code 45 = .ok (.new 28, 3) := by decide +kernel
theorem d_C_init_0 : decode prog_4_method_1_code 0 = .ok (.aload_n 0, 1) := by decide +kernel
theorem d_C_init_1 : decode prog_4_method_1_code 1 = .ok (.invokespecial 3, 3) := by decide +kernel
theorem d_C_init_4 : decode prog_4_method_1_code 4 = .ok (.aload_n 0, 1) := by decide +kernel
theorem d_C_init_5 : decode prog_4_method_1_code 5 = .ok (.bipush 12, 2) := by decide +kernel
theorem d_C_init_7 : decode prog_4_method_1_code 7 = .ok (.newarray .int, 2) := by decide +kernel
theorem d_C_init_9 : decode prog_4_method_1_code 9 = .ok (.putfield 9, 3) := by decide +kernel
theorem d_C_init_12 : decode prog_4_method_1_code 12 = .ok (.aload_n 0, 1) := by decide +kernel
theorem d_C_init_13 : decode prog_4_method_1_code 13 = .ok (.bipush 36, 2) := by decide +kernel
theorem d_C_init_15 : decode prog_4_method_1_code 15 = .ok (.newarray .int, 2) := by decide +kernel
theorem d_C_init_17 : decode prog_4_method_1_code 17 = .ok (.putfield 15, 3) := by decide +kernel
theorem d_C_init_20 : decode prog_4_method_1_code 20 = .ok (.aload_n 0, 1) := by decide +kernel
theorem d_C_init_21 : decode prog_4_method_1_code 21 = .ok (.bipush 36, 2) := by decide +kernel
theorem d_C_init_23 : decode prog_4_method_1_code 23 = .ok (.newarray .int, 2) := by decide +kernel
theorem d_C_init_25 : decode prog_4_method_1_code 25 = .ok (.putfield 18, 3) := by decide +kernel
theorem d_C_init_28 : decode prog_4_method_1_code 28 = .ok (.aload_n 0, 1) := by decide +kernel
theorem d_C_init_29 : decode prog_4_method_1_code 29 = .ok (.bipush 36, 2) := by decide +kernel
theorem d_C_init_31 : decode prog_4_method_1_code 31 = .ok (.newarray .int, 2) := by decide +kernel
theorem d_C_init_33 : decode prog_4_method_1_code 33 = .ok (.putfield 21, 3) := by decide +kernel
theorem d_C_init_36 : decode prog_4_method_1_code 36 = .ok (.return_, 1) := by decide +kernel
theorem d_R_init_48 : decode prog_7_method_1_code 48 = .ok (.dup, 1) := by decide +kernel
theorem d_R_init_49 : decode prog_7_method_1_code 49 = .ok (.invokespecial 30, 3) := by decide +kernel
theorem d_R_init_52 : decode prog_7_method_1_code 52 = .ok (.putfield 31, 3) := by decide +kernel
theorem d_R_init_55 : decode prog_7_method_1_code 55 = .ok (.aload_n 0, 1) := by decide +kernel
theorem d_R_init_56 : decode prog_7_method_1_code 56 = .ok (.new 28, 3) := by decide +kernel
theorem d_R_init_59 : decode prog_7_method_1_code 59 = .ok (.dup, 1) := by decide +kernel
theorem d_R_init_60 : decode prog_7_method_1_code 60 = .ok (.invokespecial 30, 3) := by decide +kernel
theorem d_R_init_63 : decode prog_7_method_1_code 63 = .ok (.putfield 35, 3) := by decide +kernel
theorem d_R_init_66 : decode prog_7_method_1_code 66 = .ok (.return_, 1) := by decide +kernel
theorem d_W_init_61 : decode prog_8_method_1_code 61 = .ok (.dup, 1) := by decide +kernel
theorem d_W_init_62 : decode prog_8_method_1_code 62 = .ok (.invokespecial 36, 3) := by decide +kernel
theorem d_W_init_65 : decode prog_8_method_1_code 65 = .ok (.putfield 37, 3) := by decide +kernel
theorem d_W_init_68 : decode prog_8_method_1_code 68 = .ok (.aload_n 0, 1) := by decide +kernel
theorem d_W_init_69 : decode prog_8_method_1_code 69 = .ok (.iconst 2, 1) := by decide +kernel
theorem d_W_init_70 : decode prog_8_method_1_code 70 = .ok (.newarray .int, 2) := by decide +kernel
theorem d_W_init_72 : decode prog_8_method_1_code 72 = .ok (.putfield 41, 3) := by decide +kernel
theorem d_W_init_75 : decode prog_8_method_1_code 75 = .ok (.aload_n 0, 1) := by decide +kernel
theorem d_W_init_76 : decode prog_8_method_1_code 76 = .ok (.bipush 6, 2) := by decide +kernel
theorem d_W_init_78 : decode prog_8_method_1_code 78 = .ok (.newarray .int, 2) := by decide +kernel
theorem d_W_init_80 : decode prog_8_method_1_code 80 = .ok (.putfield 44, 3) := by decide +kernel
theorem d_W_init_83 : decode prog_8_method_1_code 83 = .ok (.aload_n 0, 1) := by decide +kernel
theorem d_W_init_84 : decode prog_8_method_1_code 84 = .ok (.iconst 2, 1) := by decide +kernel
theorem d_W_init_85 : decode prog_8_method_1_code 85 = .ok (.newarray .int, 2) := by decide +kernel
theorem d_W_init_87 : decode prog_8_method_1_code 87 = .ok (.putfield 47, 3) := by decide +kernel
theorem d_W_init_90 : decode prog_8_method_1_code 90 = .ok (.aload_n 0, 1) := by decide +kernel
theorem d_W_init_91 : decode prog_8_method_1_code 91 = .ok (.iconst 2, 1) := by decide +kernel
theorem d_W_init_92 : decode prog_8_method_1_code 92 = .ok (.newarray .int, 2) := by decide +kernel
theorem d_W_init_94 : decode prog_8_method_1_code 94 = .ok (.putfield 50, 3) := by decide +kernel
theorem d_W_init_97 : decode prog_8_method_1_code 97 = .ok (.return_, 1) := by decide +kernel
theorem d_E_init_8 : decode prog_6_method_1_code 8 = .ok (.dup, 1) := by decide +kernel
theorem d_E_init_9 : decode prog_6_method_1_code 9 = .ok (.invokespecial 11, 3) := by decide +kernel
theorem d_E_init_12 : decode prog_6_method_1_code 12 = .ok (.putfield 12, 3) := by decide +kernel
theorem d_E_init_15 : decode prog_6_method_1_code 15 = .ok (.aload_n 0, 1) := by decide +kernel
theorem d_E_init_16 : decode prog_6_method_1_code 16 = .ok (.iconst 3, 1) := by decide +kernel
theorem d_E_init_17 : decode prog_6_method_1_code 17 = .ok (.newarray .int, 2) := by decide +kernel
theorem d_E_init_19 : decode prog_6_method_1_code 19 = .ok (.putfield 18, 3) := by decide +kernel
theorem d_E_init_22 : decode prog_6_method_1_code 22 = .ok (.return_, 1) := by decide +kernel
theorem d_S_init_8 : decode prog_1_method_1_code 8 = .ok (.dup, 1) := by decide +kernel
theorem d_S_init_9 : decode prog_1_method_1_code 9 = .ok (.invokespecial 11, 3) := by decide +kernel
theorem d_S_init_12 : decode prog_1_method_1_code 12 = .ok (.putfield 12, 3) := by decide +kernel
theorem d_S_init_15 : decode prog_1_method_1_code 15 = .ok (.aload_n 0, 1) := by decide +kernel
theorem d_S_init_16 : decode prog_1_method_1_code 16 = .ok (.aload_n 0, 1) := by decide +kernel
theorem d_S_init_17 : decode prog_1_method_1_code 17 = .ok (.getfield 12, 3) := by decide +kernel
theorem d_S_init_20 : decode prog_1_method_1_code 20 = .ok (.getfield 16, 3) := by decide +kernel
theorem d_S_init_23 : decode prog_1_method_1_code 23 = .ok (.putfield 20, 3) := by decide +kernel
theorem d_S_init_26 : decode prog_1_method_1_code 26 = .ok (.aload_n 0, 1) := by decide +kernel
theorem d_S_init_27 : decode prog_1_method_1_code 27 = .ok (.new 21, 3) := by decide +kernel
theorem d_A_init_0 : decode prog_2_method_1_code 0 = .ok (.aload_n 0, 1) := by decide +kernel
theorem d_A_init_1 : decode prog_2_method_1_code 1 = .ok (.invokespecial 5, 3) := by decide +kernel
theorem d_A_init_4 : decode prog_2_method_1_code 4 = .ok (.aload_n 0, 1) := by decide +kernel
theorem d_A_init_5 : decode prog_2_method_1_code 5 = .ok (.sipush 163, 3) := by decide +kernel
theorem d_A_init_8 : decode prog_2_method_1_code 8 = .ok (.newarray .int, 2) := by decide +kernel
theorem d_A_init_10 : decode prog_2_method_1_code 10 = .ok (.putfield 11, 3) := by decide +kernel
theorem d_A_init_13 : decode prog_2_method_1_code 13 = .ok (.aload_n 0, 1) := by decide +kernel
theorem d_A_init_14 : decode prog_2_method_1_code 14 = .ok (.sipush 160, 3) := by decide +kernel
theorem d_A_init_17 : decode prog_2_method_1_code 17 = .ok (.newarray .long, 2) := by decide +kernel
theorem d_A_init_19 : decode prog_2_method_1_code 19 = .ok (.putfield 15, 3) := by decide +kernel
theorem d_A_init_22 : decode prog_2_method_1_code 22 = .ok (.aload_n 0, 1) := by decide +kernel
theorem d_A_init_23 : decode prog_2_method_1_code 23 = .ok (.sipush 160, 3) := by decide +kernel
theorem d_A_init_26 : decode prog_2_method_1_code 26 = .ok (.newarray .int, 2) := by decide +kernel
theorem d_A_init_28 : decode prog_2_method_1_code 28 = .ok (.putfield 19, 3) := by decide +kernel
theorem d_A_init_31 : decode prog_2_method_1_code 31 = .ok (.aload_n 0, 1) := by decide +kernel
theorem d_A_init_32 : decode prog_2_method_1_code 32 = .ok (.sipush 160, 3) := by decide +kernel
theorem d_A_init_35 : decode prog_2_method_1_code 35 = .ok (.newarray .int, 2) := by decide +kernel
theorem d_A_init_37 : decode prog_2_method_1_code 37 = .ok (.putfield 22, 3) := by decide +kernel
theorem d_A_init_40 : decode prog_2_method_1_code 40 = .ok (.aload_n 0, 1) := by decide +kernel
theorem d_A_init_41 : decode prog_2_method_1_code 41 = .ok (.sipush 512, 3) := by decide +kernel
theorem d_A_init_44 : decode prog_2_method_1_code 44 = .ok (.newarray .int, 2) := by decide +kernel
theorem d_A_init_46 : decode prog_2_method_1_code 46 = .ok (.putfield 25, 3) := by decide +kernel
theorem d_A_init_49 : decode prog_2_method_1_code 49 = .ok (.aload_n 0, 1) := by decide +kernel
theorem d_A_init_50 : decode prog_2_method_1_code 50 = .ok (.sipush 480, 3) := by decide +kernel
theorem d_A_init_53 : decode prog_2_method_1_code 53 = .ok (.newarray .long, 2) := by decide +kernel
theorem d_A_init_55 : decode prog_2_method_1_code 55 = .ok (.putfield 28, 3) := by decide +kernel
theorem d_A_init_58 : decode prog_2_method_1_code 58 = .ok (.aload_n 0, 1) := by decide +kernel
theorem d_A_init_59 : decode prog_2_method_1_code 59 = .ok (.iconst 3, 1) := by decide +kernel
theorem d_A_init_60 : decode prog_2_method_1_code 60 = .ok (.newarray .long, 2) := by decide +kernel
theorem d_A_init_62 : decode prog_2_method_1_code 62 = .ok (.putfield 31, 3) := by decide +kernel
theorem d_A_init_65 : decode prog_2_method_1_code 65 = .ok (.return_, 1) := by decide +kernel
theorem d_S_init_30 : decode prog_1_method_1_code 30 = .ok (.dup, 1) := by decide +kernel
theorem d_S_init_31 : decode prog_1_method_1_code 31 = .ok (.invokespecial 23, 3) := by decide +kernel
theorem d_S_init_34 : decode prog_1_method_1_code 34 = .ok (.putfield 24, 3) := by decide +kernel
theorem d_S_init_37 : decode prog_1_method_1_code 37 = .ok (.aload_n 0, 1) := by decide +kernel
theorem d_S_init_38 : decode prog_1_method_1_code 38 = .ok (.bipush 61, 2) := by decide +kernel
theorem d_S_init_40 : decode prog_1_method_1_code 40 = .ok (.newarray .long, 2) := by decide +kernel
theorem d_S_init_42 : decode prog_1_method_1_code 42 = .ok (.putfield 28, 3) := by decide +kernel
theorem d_S_init_45 : decode prog_1_method_1_code 45 = .ok (.aload_n 0, 1) := by decide +kernel
theorem d_S_init_46 : decode prog_1_method_1_code 46 = .ok (.iconst 3, 1) := by decide +kernel
theorem d_S_init_47 : decode prog_1_method_1_code 47 = .ok (.newarray .int, 2) := by decide +kernel
theorem d_S_init_49 : decode prog_1_method_1_code 49 = .ok (.putfield 32, 3) := by decide +kernel
theorem d_S_init_52 : decode prog_1_method_1_code 52 = .ok (.aload_n 0, 1) := by decide +kernel
theorem d_S_init_53 : decode prog_1_method_1_code 53 = .ok (.iconst 0, 1) := by decide +kernel
theorem d_S_init_54 : decode prog_1_method_1_code 54 = .ok (.putfield 36, 3) := by decide +kernel
theorem d_S_init_57 : decode prog_1_method_1_code 57 = .ok (.aload_n 0, 1) := by decide +kernel
theorem d_S_init_58 : decode prog_1_method_1_code 58 = .ok (.iconst 0, 1) := by decide +kernel
theorem d_S_init_59 : decode prog_1_method_1_code 59 = .ok (.putfield 40, 3) := by decide +kernel
theorem d_S_init_62 : decode prog_1_method_1_code 62 = .ok (.return_, 1) := by decide +kernel
theorem d_M_init_0 : decode prog_10_method_1_code 0 = .ok (.aload_n 0, 1) := by decide +kernel
theorem d_M_init_1 : decode prog_10_method_1_code 1 = .ok (.invokespecial 1, 3) := by decide +kernel
theorem d_M_init_4 : decode prog_10_method_1_code 4 = .ok (.aload_n 0, 1) := by decide +kernel
theorem d_M_init_5 : decode prog_10_method_1_code 5 = .ok (.bipush 24, 2) := by decide +kernel
theorem d_M_init_7 : decode prog_10_method_1_code 7 = .ok (.newarray .int, 2) := by decide +kernel
theorem d_M_init_9 : decode prog_10_method_1_code 9 = .ok (.putfield 7, 3) := by decide +kernel
theorem d_M_init_12 : decode prog_10_method_1_code 12 = .ok (.aload_n 0, 1) := by decide +kernel
theorem d_M_init_13 : decode prog_10_method_1_code 13 = .ok (.bipush 24, 2) := by decide +kernel
theorem d_M_init_15 : decode prog_10_method_1_code 15 = .ok (.newarray .int, 2) := by decide +kernel
theorem d_M_init_17 : decode prog_10_method_1_code 17 = .ok (.putfield 13, 3) := by decide +kernel
theorem d_M_init_20 : decode prog_10_method_1_code 20 = .ok (.aload_n 0, 1) := by decide +kernel
theorem d_M_init_21 : decode prog_10_method_1_code 21 = .ok (.bipush 6, 2) := by decide +kernel
theorem d_M_init_23 : decode prog_10_method_1_code 23 = .ok (.newarray .int, 2) := by decide +kernel
theorem d_M_init_25 : decode prog_10_method_1_code 25 = .ok (.putfield 16, 3) := by decide +kernel
theorem d_M_init_28 : decode prog_10_method_1_code 28 = .ok (.aload_n 0, 1) := by decide +kernel
theorem d_M_init_29 : decode prog_10_method_1_code 29 = .ok (.bipush 6, 2) := by decide +kernel
theorem d_M_init_31 : decode prog_10_method_1_code 31 = .ok (.newarray .int, 2) := by decide +kernel
theorem d_M_init_33 : decode prog_10_method_1_code 33 = .ok (.putfield 19, 3) := by decide +kernel
theorem d_M_init_36 : decode prog_10_method_1_code 36 = .ok (.aload_n 0, 1) := by decide +kernel
theorem d_M_init_37 : decode prog_10_method_1_code 37 = .ok (.iconst 3, 1) := by decide +kernel
theorem d_M_init_38 : decode prog_10_method_1_code 38 = .ok (.newarray .int, 2) := by decide +kernel
theorem d_M_init_40 : decode prog_10_method_1_code 40 = .ok (.putfield 22, 3) := by decide +kernel
theorem d_M_init_43 : decode prog_10_method_1_code 43 = .ok (.aload_n 0, 1) := by decide +kernel
theorem d_M_init_44 : decode prog_10_method_1_code 44 = .ok (.iconst 3, 1) := by decide +kernel
theorem d_M_init_45 : decode prog_10_method_1_code 45 = .ok (.newarray .int, 2) := by decide +kernel
theorem d_M_init_47 : decode prog_10_method_1_code 47 = .ok (.putfield 25, 3) := by decide +kernel
theorem d_M_init_50 : decode prog_10_method_1_code 50 = .ok (.aload_n 0, 1) := by decide +kernel
theorem d_M_init_51 : decode prog_10_method_1_code 51 = .ok (.iconst 4, 1) := by decide +kernel
theorem d_M_init_52 : decode prog_10_method_1_code 52 = .ok (.newarray .boolean, 2) := by decide +kernel
theorem d_M_init_54 : decode prog_10_method_1_code 54 = .ok (.putfield 28, 3) := by decide +kernel
theorem d_M_init_57 : decode prog_10_method_1_code 57 = .ok (.aload_n 0, 1) := by decide +kernel
theorem d_M_init_58 : decode prog_10_method_1_code 58 = .ok (.bipush 12, 2) := by decide +kernel
theorem d_M_init_60 : decode prog_10_method_1_code 60 = .ok (.newarray .int, 2) := by decide +kernel
theorem d_M_init_62 : decode prog_10_method_1_code 62 = .ok (.putfield 32, 3) := by decide +kernel
theorem d_M_init_65 : decode prog_10_method_1_code 65 = .ok (.aload_n 0, 1) := by decide +kernel
theorem d_M_init_66 : decode prog_10_method_1_code 66 = .ok (.bipush 12, 2) := by decide +kernel
theorem d_M_init_68 : decode prog_10_method_1_code 68 = .ok (.newarray .int, 2) := by decide +kernel
theorem d_M_init_70 : decode prog_10_method_1_code 70 = .ok (.putfield 35, 3) := by decide +kernel
theorem d_M_init_73 : decode prog_10_method_1_code 73 = .ok (.aload_n 0, 1) := by decide +kernel
theorem d_M_init_74 : decode prog_10_method_1_code 74 = .ok (.bipush 12, 2) := by decide +kernel
theorem d_M_init_76 : decode prog_10_method_1_code 76 = .ok (.newarray .int, 2) := by decide +kernel
theorem d_M_init_78 : decode prog_10_method_1_code 78 = .ok (.putfield 38, 3) := by decide +kernel
theorem d_M_init_81 : decode prog_10_method_1_code 81 = .ok (.aload_n 0, 1) := by decide +kernel
theorem d_M_init_82 : decode prog_10_method_1_code 82 = .ok (.bipush 12, 2) := by decide +kernel
theorem d_M_init_84 : decode prog_10_method_1_code 84 = .ok (.newarray .int, 2) := by decide +kernel
theorem d_M_init_86 : decode prog_10_method_1_code 86 = .ok (.putfield 41, 3) := by decide +kernel
theorem d_M_init_89 : decode prog_10_method_1_code 89 = .ok (.aload_n 0, 1) := by decide +kernel
theorem d_M_init_90 : decode prog_10_method_1_code 90 = .ok (.bipush 12, 2) := by decide +kernel
theorem d_M_init_92 : decode prog_10_method_1_code 92 = .ok (.newarray .boolean, 2) := by decide +kernel
theorem d_M_init_94 : decode prog_10_method_1_code 94 = .ok (.putfield 44, 3) := by decide +kernel
theorem d_M_init_97 : decode prog_10_method_1_code 97 = .ok (.aload_n 0, 1) := by decide +kernel
theorem d_M_init_98 : decode prog_10_method_1_code 98 = .ok (.bipush 12, 2) := by decide +kernel
theorem d_M_init_100 : decode prog_10_method_1_code 100 = .ok (.newarray .int, 2) := by decide +kernel
theorem d_M_init_102 : decode prog_10_method_1_code 102 = .ok (.putfield 47, 3) := by decide +kernel
theorem d_M_init_105 : decode prog_10_method_1_code 105 = .ok (.aload_n 0, 1) := by decide +kernel
theorem d_M_init_106 : decode prog_10_method_1_code 106 = .ok (.bipush 36, 2) := by decide +kernel
theorem d_M_init_108 : decode prog_10_method_1_code 108 = .ok (.newarray .int, 2) := by decide +kernel
theorem d_M_init_110 : decode prog_10_method_1_code 110 = .ok (.putfield 50, 3) := by decide +kernel
theorem d_M_init_113 : decode prog_10_method_1_code 113 = .ok (.aload_n 0, 1) := by decide +kernel
theorem d_M_init_114 : decode prog_10_method_1_code 114 = .ok (.bipush 36, 2) := by decide +kernel
theorem d_M_init_116 : decode prog_10_method_1_code 116 = .ok (.newarray .int, 2) := by decide +kernel
theorem d_M_init_118 : decode prog_10_method_1_code 118 = .ok (.putfield 53, 3) := by decide +kernel
theorem d_M_init_121 : decode prog_10_method_1_code 121 = .ok (.aload_n 0, 1) := by decide +kernel
theorem d_M_init_122 : decode prog_10_method_1_code 122 = .ok (.bipush 36, 2) := by decide +kernel
theorem d_M_init_124 : decode prog_10_method_1_code 124 = .ok (.newarray .int, 2) := by decide +kernel
theorem d_M_init_126 : decode prog_10_method_1_code 126 = .ok (.putfield 56, 3) := by decide +kernel
theorem d_M_init_129 : decode prog_10_method_1_code 129 = .ok (.aload_n 0, 1) := by decide +kernel
theorem d_M_init_130 : decode prog_10_method_1_code 130 = .ok (.bipush 12, 2) := by decide +kernel
theorem d_M_init_132 : decode prog_10_method_1_code 132 = .ok (.newarray .int, 2) := by decide +kernel
theorem d_M_init_134 : decode prog_10_method_1_code 134 = .ok (.putfield 59, 3) := by decide +kernel
theorem d_M_init_137 : decode prog_10_method_1_code 137 = .ok (.aload_n 0, 1) := by decide +kernel
theorem d_M_init_138 : decode prog_10_method_1_code 138 = .ok (.bipush 36, 2) := by decide +kernel
theorem d_M_init_140 : decode prog_10_method_1_code 140 = .ok (.newarray .int, 2) := by decide +kernel
theorem d_M_init_142 : decode prog_10_method_1_code 142 = .ok (.putfield 62, 3) := by decide +kernel
theorem d_M_init_145 : decode prog_10_method_1_code 145 = .ok (.aload_n 0, 1) := by decide +kernel
theorem d_M_init_146 : decode prog_10_method_1_code 146 = .ok (.bipush 36, 2) := by decide +kernel
theorem d_M_init_148 : decode prog_10_method_1_code 148 = .ok (.newarray .int, 2) := by decide +kernel
theorem d_M_init_150 : decode prog_10_method_1_code 150 = .ok (.putfield 65, 3) := by decide +kernel
theorem d_M_init_153 : decode prog_10_method_1_code 153 = .ok (.aload_n 0, 1) := by decide +kernel
theorem d_M_init_154 : decode prog_10_method_1_code 154 = .ok (.bipush 36, 2) := by decide +kernel
theorem d_M_init_156 : decode prog_10_method_1_code 156 = .ok (.newarray .int, 2) := by decide +kernel
theorem d_M_init_158 : decode prog_10_method_1_code 158 = .ok (.putfield 68, 3) := by decide +kernel
theorem d_M_init_161 : decode prog_10_method_1_code 161 = .ok (.aload_n 0, 1) := by decide +kernel
theorem d_M_init_162 : decode prog_10_method_1_code 162 = .ok (.iconst 2, 1) := by decide +kernel
theorem d_M_init_163 : decode prog_10_method_1_code 163 = .ok (.newarray .int, 2) := by decide +kernel
theorem d_M_init_165 : decode prog_10_method_1_code 165 = .ok (.putfield 71, 3) := by decide +kernel
theorem d_M_init_168 : decode prog_10_method_1_code 168 = .ok (.aload_n 0, 1) := by decide +kernel
theorem d_M_init_169 : decode prog_10_method_1_code 169 = .ok (.bipush 6, 2) := by decide +kernel
theorem d_M_init_171 : decode prog_10_method_1_code 171 = .ok (.newarray .int, 2) := by decide +kernel
theorem d_M_init_173 : decode prog_10_method_1_code 173 = .ok (.putfield 74, 3) := by decide +kernel
theorem d_M_init_176 : decode prog_10_method_1_code 176 = .ok (.aload_n 0, 1) := by decide +kernel
theorem d_M_init_177 : decode prog_10_method_1_code 177 = .ok (.iconst 2, 1) := by decide +kernel
theorem d_M_init_178 : decode prog_10_method_1_code 178 = .ok (.newarray .int, 2) := by decide +kernel
theorem d_M_init_180 : decode prog_10_method_1_code 180 = .ok (.putfield 77, 3) := by decide +kernel
theorem d_M_init_183 : decode prog_10_method_1_code 183 = .ok (.aload_n 0, 1) := by decide +kernel
theorem d_M_init_184 : decode prog_10_method_1_code 184 = .ok (.iconst 2, 1) := by decide +kernel
theorem d_M_init_185 : decode prog_10_method_1_code 185 = .ok (.newarray .int, 2) := by decide +kernel
theorem d_M_init_187 : decode prog_10_method_1_code 187 = .ok (.putfield 80, 3) := by decide +kernel
theorem d_M_init_190 : decode prog_10_method_1_code 190 = .ok (.aload_n 0, 1) := by decide +kernel
theorem d_M_init_191 : decode prog_10_method_1_code 191 = .ok (.bipush 6, 2) := by decide +kernel
theorem d_M_init_193 : decode prog_10_method_1_code 193 = .ok (.newarray .int, 2) := by decide +kernel
theorem d_M_init_195 : decode prog_10_method_1_code 195 = .ok (.putfield 83, 3) := by decide +kernel
theorem d_M_init_198 : decode prog_10_method_1_code 198 = .ok (.aload_n 0, 1) := by decide +kernel
theorem d_M_init_199 : decode prog_10_method_1_code 199 = .ok (.bipush 6, 2) := by decide +kernel
theorem d_M_init_201 : decode prog_10_method_1_code 201 = .ok (.newarray .boolean, 2) := by decide +kernel
theorem d_M_init_203 : decode prog_10_method_1_code 203 = .ok (.putfield 86, 3) := by decide +kernel
theorem d_M_init_206 : decode prog_10_method_1_code 206 = .ok (.aload_n 0, 1) := by decide +kernel
theorem d_M_init_207 : decode prog_10_method_1_code 207 = .ok (.iconst 3, 1) := by decide +kernel
theorem d_M_init_208 : decode prog_10_method_1_code 208 = .ok (.newarray .int, 2) := by decide +kernel
theorem d_M_init_210 : decode prog_10_method_1_code 210 = .ok (.putfield 89, 3) := by decide +kernel
theorem d_M_init_213 : decode prog_10_method_1_code 213 = .ok (.aload_n 0, 1) := by decide +kernel
theorem d_M_init_214 : decode prog_10_method_1_code 214 = .ok (.iconst 2, 1) := by decide +kernel
theorem d_M_init_215 : decode prog_10_method_1_code 215 = .ok (.newarray .int, 2) := by decide +kernel
theorem d_M_init_217 : decode prog_10_method_1_code 217 = .ok (.putfield 92, 3) := by decide +kernel
theorem d_M_init_220 : decode prog_10_method_1_code 220 = .ok (.aload_n 0, 1) := by decide +kernel
theorem d_M_init_221 : decode prog_10_method_1_code 221 = .ok (.iconst 2, 1) := by decide +kernel
theorem d_M_init_222 : decode prog_10_method_1_code 222 = .ok (.newarray .int, 2) := by decide +kernel
theorem d_M_init_224 : decode prog_10_method_1_code 224 = .ok (.putfield 95, 3) := by decide +kernel
theorem d_M_init_227 : decode prog_10_method_1_code 227 = .ok (.aload_n 0, 1) := by decide +kernel
theorem d_M_init_228 : decode prog_10_method_1_code 228 = .ok (.iconst 4, 1) := by decide +kernel
theorem d_M_init_229 : decode prog_10_method_1_code 229 = .ok (.newarray .int, 2) := by decide +kernel
theorem d_M_init_231 : decode prog_10_method_1_code 231 = .ok (.putfield 98, 3) := by decide +kernel
theorem d_M_init_234 : decode prog_10_method_1_code 234 = .ok (.aload_n 0, 1) := by decide +kernel
theorem d_M_init_235 : decode prog_10_method_1_code 235 = .ok (.bipush 60, 2) := by decide +kernel
theorem d_M_init_237 : decode prog_10_method_1_code 237 = .ok (.newarray .int, 2) := by decide +kernel
theorem d_M_init_239 : decode prog_10_method_1_code 239 = .ok (.putfield 101, 3) := by decide +kernel
theorem d_M_init_242 : decode prog_10_method_1_code 242 = .ok (.aload_n 0, 1) := by decide +kernel
theorem d_M_init_243 : decode prog_10_method_1_code 243 = .ok (.bipush 60, 2) := by decide +kernel
theorem d_M_init_245 : decode prog_10_method_1_code 245 = .ok (.newarray .int, 2) := by decide +kernel
theorem d_M_init_247 : decode prog_10_method_1_code 247 = .ok (.putfield 104, 3) := by decide +kernel
theorem d_M_init_250 : decode prog_10_method_1_code 250 = .ok (.aload_n 0, 1) := by decide +kernel
theorem d_M_init_251 : decode prog_10_method_1_code 251 = .ok (.iconst 4, 1) := by decide +kernel
theorem d_M_init_252 : decode prog_10_method_1_code 252 = .ok (.newarray .int, 2) := by decide +kernel
theorem d_M_init_254 : decode prog_10_method_1_code 254 = .ok (.putfield 107, 3) := by decide +kernel
theorem d_M_init_257 : decode prog_10_method_1_code 257 = .ok (.aload_n 0, 1) := by decide +kernel
theorem d_M_init_258 : decode prog_10_method_1_code 258 = .ok (.sipush 160, 3) := by decide +kernel
theorem d_M_init_261 : decode prog_10_method_1_code 261 = .ok (.newarray .int, 2) := by decide +kernel
theorem d_M_init_263 : decode prog_10_method_1_code 263 = .ok (.putfield 110, 3) := by decide +kernel
theorem d_M_init_266 : decode prog_10_method_1_code 266 = .ok (.aload_n 0, 1) := by decide +kernel
theorem d_M_init_267 : decode prog_10_method_1_code 267 = .ok (.sipush 160, 3) := by decide +kernel
theorem d_M_init_270 : decode prog_10_method_1_code 270 = .ok (.newarray .int, 2) := by decide +kernel
theorem d_M_init_272 : decode prog_10_method_1_code 272 = .ok (.putfield 113, 3) := by decide +kernel
theorem d_M_init_275 : decode prog_10_method_1_code 275 = .ok (.aload_n 0, 1) := by decide +kernel
theorem d_M_init_276 : decode prog_10_method_1_code 276 = .ok (.sipush 160, 3) := by decide +kernel
theorem d_M_init_279 : decode prog_10_method_1_code 279 = .ok (.newarray .int, 2) := by decide +kernel
theorem d_M_init_281 : decode prog_10_method_1_code 281 = .ok (.putfield 116, 3) := by decide +kernel
theorem d_M_init_284 : decode prog_10_method_1_code 284 = .ok (.aload_n 0, 1) := by decide +kernel
theorem d_M_init_285 : decode prog_10_method_1_code 285 = .ok (.sipush 160, 3) := by decide +kernel
theorem d_M_init_288 : decode prog_10_method_1_code 288 = .ok (.newarray .int, 2) := by decide +kernel
theorem d_M_init_290 : decode prog_10_method_1_code 290 = .ok (.putfield 119, 3) := by decide +kernel
theorem d_M_init_293 : decode prog_10_method_1_code 293 = .ok (.aload_n 0, 1) := by decide +kernel
theorem d_M_init_294 : decode prog_10_method_1_code 294 = .ok (.sipush 160, 3) := by decide +kernel
theorem d_M_init_297 : decode prog_10_method_1_code 297 = .ok (.newarray .int, 2) := by decide +kernel
theorem d_M_init_299 : decode prog_10_method_1_code 299 = .ok (.putfield 122, 3) := by decide +kernel
theorem d_M_init_302 : decode prog_10_method_1_code 302 = .ok (.aload_n 0, 1) := by decide +kernel
theorem d_M_init_303 : decode prog_10_method_1_code 303 = .ok (.sipush 160, 3) := by decide +kernel
theorem d_M_init_306 : decode prog_10_method_1_code 306 = .ok (.newarray .int, 2) := by decide +kernel
theorem d_M_init_308 : decode prog_10_method_1_code 308 = .ok (.putfield 125, 3) := by decide +kernel
theorem d_M_init_311 : decode prog_10_method_1_code 311 = .ok (.aload_n 0, 1) := by decide +kernel
theorem d_M_init_312 : decode prog_10_method_1_code 312 = .ok (.sipush 800, 3) := by decide +kernel
theorem d_M_init_315 : decode prog_10_method_1_code 315 = .ok (.newarray .int, 2) := by decide +kernel
theorem d_M_init_317 : decode prog_10_method_1_code 317 = .ok (.putfield 128, 3) := by decide +kernel
theorem d_M_init_320 : decode prog_10_method_1_code 320 = .ok (.aload_n 0, 1) := by decide +kernel
theorem d_M_init_321 : decode prog_10_method_1_code 321 = .ok (.sipush 160, 3) := by decide +kernel
theorem d_M_init_324 : decode prog_10_method_1_code 324 = .ok (.newarray .boolean, 2) := by decide +kernel
theorem d_M_init_326 : decode prog_10_method_1_code 326 = .ok (.putfield 131, 3) := by decide +kernel
theorem d_M_init_329 : decode prog_10_method_1_code 329 = .ok (.aload_n 0, 1) := by decide +kernel
theorem d_M_init_330 : decode prog_10_method_1_code 330 = .ok (.invokevirtual 134, 3) := by decide +kernel
theorem d_M_init_333 : decode prog_10_method_1_code 333 = .ok (.return_, 1) := by decide +kernel
