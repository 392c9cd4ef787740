theorem m1_55 : Cond.methodLink "HomeSystem$Tokens" 23 ⟨"java/lang/String", "length", "()I"⟩ ∈ AL := AL_1 (List.mem_of_getElem? (i := 55) rfl) rfl
theorem m1_65 : Cond.methodLink "HomeSystem$Tokens" 39 ⟨"java/lang/String", "charAt", "(I)C"⟩ ∈ AL := AL_1 (List.mem_of_getElem? (i := 65) rfl) rfl
theorem m1_68 : Cond.code ⟨"java/lang/String", "charAt", "(I)C"⟩ prog_31_method_56_code 2 (Option.some FieldType.char) ∈ AL := AL_1 (List.mem_of_getElem? (i := 68) rfl) rfl
theorem m1_66 : Cond.instanceMethod ⟨"java/lang/String", "charAt", "(I)C"⟩ ∈ AL := AL_1 (List.mem_of_getElem? (i := 66) rfl) rfl
theorem m1_67 : Cond.selects "java/lang/String" ⟨"java/lang/String", "charAt", "(I)C"⟩ ⟨"java/lang/String", "charAt", "(I)C"⟩ ∈ AL := AL_1 (List.mem_of_getElem? (i := 67) rfl) rfl
theorem m1_53 : Cond.methodLink "HomeSystem$Tokens" 3 ⟨"java/lang/Object", "<init>", "()V"⟩ ∈ AL := AL_1 (List.mem_of_getElem? (i := 53) rfl) rfl
theorem m1_167 : Cond.arrayClass FieldType.char ∈ AL := AL_1 (List.mem_of_getElem? (i := 167) rfl) rfl
abbrev b_Tok_init : ByteArray := prog_12_method_1_code
def y_Tok_init : MethodName := ⟨"HomeSystem$Tokens", "<init>", "()V"⟩
theorem d_Tok_init_0 : decode b_Tok_init 0 = .ok (.aload_n 0, 1) := by decide +kernel
theorem d_Tok_init_1 : decode b_Tok_init 1 = .ok (.invokespecial 3, 3) := by decide +kernel
theorem d_Tok_init_4 : decode b_Tok_init 4 = .ok (.aload_n 0, 1) := by decide +kernel
theorem d_Tok_init_5 : decode b_Tok_init 5 = .ok (.sipush 2049, 3) := by decide +kernel
theorem d_Tok_init_8 : decode b_Tok_init 8 = .ok (.newarray .int, 2) := by decide +kernel
theorem d_Tok_init_10 : decode b_Tok_init 10 = .ok (.putfield 9, 3) := by decide +kernel
theorem d_Tok_init_13 : decode b_Tok_init 13 = .ok (.aload_n 0, 1) := by decide +kernel
theorem d_Tok_init_14 : decode b_Tok_init 14 = .ok (.sipush 2049, 3) := by decide +kernel
theorem d_Tok_init_17 : decode b_Tok_init 17 = .ok (.newarray .int, 2) := by decide +kernel
theorem d_Tok_init_19 : decode b_Tok_init 19 = .ok (.putfield 15, 3) := by decide +kernel
theorem d_Tok_init_22 : decode b_Tok_init 22 = .ok (.aload_n 0, 1) := by decide +kernel
theorem d_Tok_init_23 : decode b_Tok_init 23 = .ok (.sipush 2049, 3) := by decide +kernel
theorem d_Tok_init_26 : decode b_Tok_init 26 = .ok (.newarray .int, 2) := by decide +kernel
theorem d_Tok_init_28 : decode b_Tok_init 28 = .ok (.putfield 18, 3) := by decide +kernel
theorem d_Tok_init_31 : decode b_Tok_init 31 = .ok (.aload_n 0, 1) := by decide +kernel
theorem d_Tok_init_32 : decode b_Tok_init 32 = .ok (.ldc 21, 2) := by decide +kernel
theorem d_Tok_init_34 : decode b_Tok_init 34 = .ok (.invokevirtual 23, 3) := by decide +kernel
theorem d_Tok_init_37 : decode b_Tok_init 37 = .ok (.sipush 2048, 3) := by decide +kernel
theorem d_Tok_init_40 : decode b_Tok_init 40 = .ok (.iadd, 1) := by decide +kernel
theorem d_Tok_init_41 : decode b_Tok_init 41 = .ok (.newarray .char, 2) := by decide +kernel
theorem d_Tok_init_43 : decode b_Tok_init 43 = .ok (.putfield 29, 3) := by decide +kernel
theorem d_Tok_init_46 : decode b_Tok_init 46 = .ok (.aload_n 0, 1) := by decide +kernel
theorem d_Tok_init_47 : decode b_Tok_init 47 = .ok (.sipush 2074, 3) := by decide +kernel
theorem d_Tok_init_50 : decode b_Tok_init 50 = .ok (.newarray .int, 2) := by decide +kernel
theorem d_Tok_init_52 : decode b_Tok_init 52 = .ok (.putfield 33, 3) := by decide +kernel
theorem d_Tok_init_55 : decode b_Tok_init 55 = .ok (.aload_n 0, 1) := by decide +kernel
theorem d_Tok_init_56 : decode b_Tok_init 56 = .ok (.sipush 2048, 3) := by decide +kernel
theorem d_Tok_init_59 : decode b_Tok_init 59 = .ok (.newarray .int, 2) := by decide +kernel
theorem d_Tok_init_61 : decode b_Tok_init 61 = .ok (.putfield 36, 3) := by decide +kernel
theorem d_Tok_init_64 : decode b_Tok_init 64 = .ok (.iconst 0, 1) := by decide +kernel
theorem d_Tok_init_65 : decode b_Tok_init 65 = .ok (.istore_n 1, 1) := by decide +kernel
theorem d_Tok_init_66 : decode b_Tok_init 66 = .ok (.iconst 0, 1) := by decide +kernel
theorem d_Tok_init_67 : decode b_Tok_init 67 = .ok (.istore_n 2, 1) := by decide +kernel
theorem d_Tok_init_68 : decode b_Tok_init 68 = .ok (.iconst 0, 1) := by decide +kernel
theorem d_Tok_init_69 : decode b_Tok_init 69 = .ok (.istore_n 3, 1) := by decide +kernel
theorem d_Tok_init_70 : decode b_Tok_init 70 = .ok (.iload_n 3, 1) := by decide +kernel
theorem d_Tok_init_71 : decode b_Tok_init 71 = .ok (.ldc 21, 2) := by decide +kernel
theorem d_Tok_init_73 : decode b_Tok_init 73 = .ok (.invokevirtual 23, 3) := by decide +kernel
theorem d_Tok_init_76 : decode b_Tok_init 76 = .ok (.if_icmp .ge 48, 3) := by decide +kernel
theorem d_Tok_init_79 : decode b_Tok_init 79 = .ok (.ldc 21, 2) := by decide +kernel
theorem d_Tok_init_81 : decode b_Tok_init 81 = .ok (.iload_n 3, 1) := by decide +kernel
theorem d_Tok_init_82 : decode b_Tok_init 82 = .ok (.invokevirtual 39, 3) := by decide +kernel
theorem d_Tok_init_85 : decode b_Tok_init 85 = .ok (.istore 4, 2) := by decide +kernel
theorem d_Tok_init_87 : decode b_Tok_init 87 = .ok (.iload 4, 2) := by decide +kernel
theorem d_Tok_init_89 : decode b_Tok_init 89 = .ok (.bipush 32, 2) := by decide +kernel
theorem d_Tok_init_91 : decode b_Tok_init 91 = .ok (.if_icmp .ne 16, 3) := by decide +kernel
theorem d_Tok_init_94 : decode b_Tok_init 94 = .ok (.aload_n 0, 1) := by decide +kernel
theorem d_Tok_init_95 : decode b_Tok_init 95 = .ok (.getfield 33, 3) := by decide +kernel
theorem d_Tok_init_98 : decode b_Tok_init 98 = .ok (.iload_n 2, 1) := by decide +kernel
theorem d_Tok_init_99 : decode b_Tok_init 99 = .ok (.iload_n 1, 1) := by decide +kernel
theorem d_Tok_init_100 : decode b_Tok_init 100 = .ok (.iastore, 1) := by decide +kernel
theorem d_Tok_init_101 : decode b_Tok_init 101 = .ok (.iinc 2 1, 3) := by decide +kernel
theorem d_Tok_init_104 : decode b_Tok_init 104 = .ok (.goto 14, 3) := by decide +kernel
theorem d_Tok_init_107 : decode b_Tok_init 107 = .ok (.aload_n 0, 1) := by decide +kernel
theorem d_Tok_init_108 : decode b_Tok_init 108 = .ok (.getfield 29, 3) := by decide +kernel
theorem d_Tok_init_111 : decode b_Tok_init 111 = .ok (.iload_n 1, 1) := by decide +kernel
theorem d_Tok_init_112 : decode b_Tok_init 112 = .ok (.iload 4, 2) := by decide +kernel
theorem d_Tok_init_114 : decode b_Tok_init 114 = .ok (.castore, 1) := by decide +kernel
theorem d_Tok_init_115 : decode b_Tok_init 115 = .ok (.iinc 1 1, 3) := by decide +kernel
theorem d_Tok_init_118 : decode b_Tok_init 118 = .ok (.iinc 3 1, 3) := by decide +kernel
theorem d_Tok_init_121 : decode b_Tok_init 121 = .ok (.goto (-51), 3) := by decide +kernel
theorem d_Tok_init_124 : decode b_Tok_init 124 = .ok (.return_, 1) := by decide +kernel
theorem q_Tok_init : px_y y_Tok_init 0 := by unfold px_y; decide +kernel
