theorem m4_93 : Cond.methodLink "HomeSystem$TextCompiler" 129 ⟨"HomeSystem$Tokens", "rewind", "()V"⟩ ∈ AL := AL_4 (List.mem_of_getElem? (i := 93) rfl) rfl
theorem m4_96 : Cond.code ⟨"HomeSystem$Tokens", "rewind", "()V"⟩ prog_12_method_22_code 1 (Option.none : Option Jvm.ClassFile.FieldType) ∈ AL := AL_4 (List.mem_of_getElem? (i := 96) rfl) rfl
theorem m4_95 : Cond.selects "HomeSystem$Tokens" ⟨"HomeSystem$Tokens", "rewind", "()V"⟩ ⟨"HomeSystem$Tokens", "rewind", "()V"⟩ ∈ AL := AL_4 (List.mem_of_getElem? (i := 95) rfl) rfl
theorem m4_94 : Cond.instanceMethod ⟨"HomeSystem$Tokens", "rewind", "()V"⟩ ∈ AL := AL_4 (List.mem_of_getElem? (i := 94) rfl) rfl
theorem m4_97 : Cond.methodLink "HomeSystem$TextCompiler" 132 ⟨"HomeSystem$Names", "clear", "()V"⟩ ∈ AL := AL_4 (List.mem_of_getElem? (i := 97) rfl) rfl
theorem m4_100 : Cond.code ⟨"HomeSystem$Names", "clear", "()V"⟩ prog_5_method_3_code 1 (Option.none : Option Jvm.ClassFile.FieldType) ∈ AL := AL_4 (List.mem_of_getElem? (i := 100) rfl) rfl
theorem m4_99 : Cond.selects "HomeSystem$Names" ⟨"HomeSystem$Names", "clear", "()V"⟩ ⟨"HomeSystem$Names", "clear", "()V"⟩ ∈ AL := AL_4 (List.mem_of_getElem? (i := 99) rfl) rfl
theorem m4_98 : Cond.instanceMethod ⟨"HomeSystem$Names", "clear", "()V"⟩ ∈ AL := AL_4 (List.mem_of_getElem? (i := 98) rfl) rfl
abbrev b_Cmp_startOver : ByteArray := prog_10_method_5_code
def y_Cmp_startOver : MethodName := ⟨"HomeSystem$TextCompiler", "startOver", "()V"⟩
theorem d_Cmp_startOver_0 : decode b_Cmp_startOver 0 = .ok (.aload_n 0, 1) := by decide +kernel
theorem d_Cmp_startOver_1 : decode b_Cmp_startOver 1 = .ok (.getfield 18, 3) := by decide +kernel
theorem d_Cmp_startOver_4 : decode b_Cmp_startOver 4 = .ok (.invokevirtual 129, 3) := by decide +kernel
theorem d_Cmp_startOver_7 : decode b_Cmp_startOver 7 = .ok (.aload_n 0, 1) := by decide +kernel
theorem d_Cmp_startOver_8 : decode b_Cmp_startOver 8 = .ok (.getfield 22, 3) := by decide +kernel
theorem d_Cmp_startOver_11 : decode b_Cmp_startOver 11 = .ok (.invokevirtual 132, 3) := by decide +kernel
theorem d_Cmp_startOver_14 : decode b_Cmp_startOver 14 = .ok (.aload_n 0, 1) := by decide +kernel
theorem d_Cmp_startOver_15 : decode b_Cmp_startOver 15 = .ok (.getfield 26, 3) := by decide +kernel
theorem d_Cmp_startOver_18 : decode b_Cmp_startOver 18 = .ok (.iconst 0, 1) := by decide +kernel
theorem d_Cmp_startOver_19 : decode b_Cmp_startOver 19 = .ok (.putfield 71, 3) := by decide +kernel
theorem d_Cmp_startOver_22 : decode b_Cmp_startOver 22 = .ok (.aload_n 0, 1) := by decide +kernel
theorem d_Cmp_startOver_23 : decode b_Cmp_startOver 23 = .ok (.getfield 39, 3) := by decide +kernel
theorem d_Cmp_startOver_26 : decode b_Cmp_startOver 26 = .ok (.iconst 0, 1) := by decide +kernel
theorem d_Cmp_startOver_27 : decode b_Cmp_startOver 27 = .ok (.putfield 71, 3) := by decide +kernel
theorem d_Cmp_startOver_30 : decode b_Cmp_startOver 30 = .ok (.aload_n 0, 1) := by decide +kernel
theorem d_Cmp_startOver_31 : decode b_Cmp_startOver 31 = .ok (.aconst_null, 1) := by decide +kernel
theorem d_Cmp_startOver_32 : decode b_Cmp_startOver 32 = .ok (.putfield 135, 3) := by decide +kernel
theorem d_Cmp_startOver_35 : decode b_Cmp_startOver 35 = .ok (.aload_n 0, 1) := by decide +kernel
theorem d_Cmp_startOver_36 : decode b_Cmp_startOver 36 = .ok (.iconst 0, 1) := by decide +kernel
theorem d_Cmp_startOver_37 : decode b_Cmp_startOver 37 = .ok (.putfield 119, 3) := by decide +kernel
theorem d_Cmp_startOver_40 : decode b_Cmp_startOver 40 = .ok (.aload_n 0, 1) := by decide +kernel
theorem d_Cmp_startOver_41 : decode b_Cmp_startOver 41 = .ok (.iconst 0, 1) := by decide +kernel
theorem d_Cmp_startOver_42 : decode b_Cmp_startOver 42 = .ok (.putfield 125, 3) := by decide +kernel
theorem d_Cmp_startOver_45 : decode b_Cmp_startOver 45 = .ok (.aload_n 0, 1) := by decide +kernel
theorem d_Cmp_startOver_46 : decode b_Cmp_startOver 46 = .ok (.iconst 0, 1) := by decide +kernel
theorem d_Cmp_startOver_47 : decode b_Cmp_startOver 47 = .ok (.putfield 139, 3) := by decide +kernel
theorem d_Cmp_startOver_50 : decode b_Cmp_startOver 50 = .ok (.aload_n 0, 1) := by decide +kernel
theorem d_Cmp_startOver_51 : decode b_Cmp_startOver 51 = .ok (.iconst 0, 1) := by decide +kernel
theorem d_Cmp_startOver_52 : decode b_Cmp_startOver 52 = .ok (.putfield 142, 3) := by decide +kernel
theorem d_Cmp_startOver_55 : decode b_Cmp_startOver 55 = .ok (.aload_n 0, 1) := by decide +kernel
theorem d_Cmp_startOver_56 : decode b_Cmp_startOver 56 = .ok (.iconst 0, 1) := by decide +kernel
theorem d_Cmp_startOver_57 : decode b_Cmp_startOver 57 = .ok (.putfield 145, 3) := by decide +kernel
theorem d_Cmp_startOver_60 : decode b_Cmp_startOver 60 = .ok (.aload_n 0, 1) := by decide +kernel
theorem d_Cmp_startOver_61 : decode b_Cmp_startOver 61 = .ok (.iconst (-1), 1) := by decide +kernel
theorem d_Cmp_startOver_62 : decode b_Cmp_startOver 62 = .ok (.putfield 148, 3) := by decide +kernel
theorem d_Cmp_startOver_65 : decode b_Cmp_startOver 65 = .ok (.aload_n 0, 1) := by decide +kernel
theorem d_Cmp_startOver_66 : decode b_Cmp_startOver 66 = .ok (.iconst (-1), 1) := by decide +kernel
theorem d_Cmp_startOver_67 : decode b_Cmp_startOver 67 = .ok (.putfield 151, 3) := by decide +kernel
theorem d_Cmp_startOver_70 : decode b_Cmp_startOver 70 = .ok (.return_, 1) := by decide +kernel
theorem q_Cmp_startOver : px_y y_Cmp_startOver 0 := by unfold px_y; decide +kernel
