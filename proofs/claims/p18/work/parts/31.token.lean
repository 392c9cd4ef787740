theorem m4_7 : Cond.methodLink "HomeSystem$Tokens" 129 ⟨"java/lang/String", "indexOf", "(I)I"⟩ ∈ AL := AL_4 (List.mem_of_getElem? (i := 7) rfl) rfl
theorem m4_10 : Cond.code ⟨"java/lang/String", "indexOf", "(I)I"⟩ prog_31_method_79_code 2 (Option.some FieldType.int) ∈ AL := AL_4 (List.mem_of_getElem? (i := 10) rfl) rfl
theorem m4_8 : Cond.instanceMethod ⟨"java/lang/String", "indexOf", "(I)I"⟩ ∈ AL := AL_4 (List.mem_of_getElem? (i := 8) rfl) rfl
theorem m4_9 : Cond.selects "java/lang/String" ⟨"java/lang/String", "indexOf", "(I)I"⟩ ⟨"java/lang/String", "indexOf", "(I)I"⟩ ∈ AL := AL_4 (List.mem_of_getElem? (i := 9) rfl) rfl
theorem m4_65 : Cond.methodLink "HomeSystem$Tokens" 135 ⟨"HomeSystem$Tokens", "withEquals", "(I)I"⟩ ∈ AL := AL_4 (List.mem_of_getElem? (i := 65) rfl) rfl
theorem m4_67 : Cond.code ⟨"HomeSystem$Tokens", "withEquals", "(I)I"⟩ prog_12_method_21_code 1 (Option.some FieldType.int) ∈ AL := AL_4 (List.mem_of_getElem? (i := 67) rfl) rfl
theorem m4_66 : Cond.static ⟨"HomeSystem$Tokens", "withEquals", "(I)I"⟩ ∈ AL := AL_4 (List.mem_of_getElem? (i := 66) rfl) rfl
theorem m4_62 : Cond.methodLink "HomeSystem$Tokens" 132 ⟨"HomeSystem$Tokens", "doubled", "(I)I"⟩ ∈ AL := AL_4 (List.mem_of_getElem? (i := 62) rfl) rfl
theorem m4_64 : Cond.code ⟨"HomeSystem$Tokens", "doubled", "(I)I"⟩ prog_12_method_20_code 1 (Option.some FieldType.int) ∈ AL := AL_4 (List.mem_of_getElem? (i := 64) rfl) rfl
theorem m4_63 : Cond.static ⟨"HomeSystem$Tokens", "doubled", "(I)I"⟩ ∈ AL := AL_4 (List.mem_of_getElem? (i := 63) rfl) rfl
theorem m4_2 : Cond.methodLink "HomeSystem$Tokens" 105 ⟨"HomeSystem$Tokens", "mark", "(I)I"⟩ ∈ AL := AL_4 (List.mem_of_getElem? (i := 2) rfl) rfl
theorem m4_5 : Cond.code ⟨"HomeSystem$Tokens", "mark", "(I)I"⟩ prog_12_method_19_code 6 (Option.some FieldType.int) ∈ AL := AL_4 (List.mem_of_getElem? (i := 5) rfl) rfl
theorem ms_2_3 : Cond.selects "HomeSystem$Tokens" ⟨"HomeSystem$Tokens", "mark", "(I)I"⟩ ⟨"HomeSystem$Tokens", "mark", "(I)I"⟩ ∈ AL := AL_p (q := (⟨"HomeSystem$Tokens", "mark", "(I)I"⟩, 19)) (by unfold lw_privs; exact List.mem_append_right _ (List.mem_append_left _ (List.mem_of_getElem? (i := 3) rfl)))
theorem m4_4 : Cond.instanceMethod ⟨"HomeSystem$Tokens", "mark", "(I)I"⟩ ∈ AL := AL_4 (List.mem_of_getElem? (i := 4) rfl) rfl
theorem m3_238 : Cond.methodLink "HomeSystem$Tokens" 102 ⟨"HomeSystem$Tokens", "string", "()I"⟩ ∈ AL := AL_3 (List.mem_of_getElem? (i := 238) rfl) rfl
theorem m4_1 : Cond.code ⟨"HomeSystem$Tokens", "string", "()I"⟩ prog_12_method_18_code 4 (Option.some FieldType.int) ∈ AL := AL_4 (List.mem_of_getElem? (i := 1) rfl) rfl
theorem ms_2_2 : Cond.selects "HomeSystem$Tokens" ⟨"HomeSystem$Tokens", "string", "()I"⟩ ⟨"HomeSystem$Tokens", "string", "()I"⟩ ∈ AL := AL_p (q := (⟨"HomeSystem$Tokens", "string", "()I"⟩, 19)) (by unfold lw_privs; exact List.mem_append_right _ (List.mem_append_left _ (List.mem_of_getElem? (i := 2) rfl)))
theorem m4_0 : Cond.instanceMethod ⟨"HomeSystem$Tokens", "string", "()I"⟩ ∈ AL := AL_4 (List.mem_of_getElem? (i := 0) rfl) rfl
theorem m3_226 : Cond.methodLink "HomeSystem$Tokens" 99 ⟨"HomeSystem$Tokens", "character", "()I"⟩ ∈ AL := AL_3 (List.mem_of_getElem? (i := 226) rfl) rfl
theorem m3_229 : Cond.code ⟨"HomeSystem$Tokens", "character", "()I"⟩ prog_12_method_17_code 3 (Option.some FieldType.int) ∈ AL := AL_3 (List.mem_of_getElem? (i := 229) rfl) rfl
theorem ms_1_15 : Cond.selects "HomeSystem$Tokens" ⟨"HomeSystem$Tokens", "character", "()I"⟩ ⟨"HomeSystem$Tokens", "character", "()I"⟩ ∈ AL := AL_p (q := (⟨"HomeSystem$Tokens", "character", "()I"⟩, 19)) (by unfold lw_privs; exact List.mem_append_left _ (List.mem_of_getElem? (i := 15) rfl))
theorem m3_228 : Cond.instanceMethod ⟨"HomeSystem$Tokens", "character", "()I"⟩ ∈ AL := AL_3 (List.mem_of_getElem? (i := 228) rfl) rfl
theorem m3_217 : Cond.methodLink "HomeSystem$Tokens" 96 ⟨"HomeSystem$Tokens", "number", "()I"⟩ ∈ AL := AL_3 (List.mem_of_getElem? (i := 217) rfl) rfl
theorem m3_220 : Cond.code ⟨"HomeSystem$Tokens", "number", "()I"⟩ prog_12_method_13_code 8 (Option.some FieldType.int) ∈ AL := AL_3 (List.mem_of_getElem? (i := 220) rfl) rfl
theorem ms_1_13 : Cond.selects "HomeSystem$Tokens" ⟨"HomeSystem$Tokens", "number", "()I"⟩ ⟨"HomeSystem$Tokens", "number", "()I"⟩ ∈ AL := AL_p (q := (⟨"HomeSystem$Tokens", "number", "()I"⟩, 19)) (by unfold lw_privs; exact List.mem_append_left _ (List.mem_of_getElem? (i := 13) rfl))
theorem m3_219 : Cond.instanceMethod ⟨"HomeSystem$Tokens", "number", "()I"⟩ ∈ AL := AL_3 (List.mem_of_getElem? (i := 219) rfl) rfl
theorem m3_202 : Cond.methodLink "HomeSystem$Tokens" 90 ⟨"HomeSystem$Tokens", "name", "()I"⟩ ∈ AL := AL_3 (List.mem_of_getElem? (i := 202) rfl) rfl
theorem m3_205 : Cond.code ⟨"HomeSystem$Tokens", "name", "()I"⟩ prog_12_method_10_code 4 (Option.some FieldType.int) ∈ AL := AL_3 (List.mem_of_getElem? (i := 205) rfl) rfl
theorem ms_1_10 : Cond.selects "HomeSystem$Tokens" ⟨"HomeSystem$Tokens", "name", "()I"⟩ ⟨"HomeSystem$Tokens", "name", "()I"⟩ ∈ AL := AL_p (q := (⟨"HomeSystem$Tokens", "name", "()I"⟩, 19)) (by unfold lw_privs; exact List.mem_append_left _ (List.mem_of_getElem? (i := 10) rfl))
theorem m3_204 : Cond.instanceMethod ⟨"HomeSystem$Tokens", "name", "()I"⟩ ∈ AL := AL_3 (List.mem_of_getElem? (i := 204) rfl) rfl
theorem m3_179 : Cond.methodLink "HomeSystem$Tokens" 66 ⟨"HomeSystem$Tokens", "skip", "()V"⟩ ∈ AL := AL_3 (List.mem_of_getElem? (i := 179) rfl) rfl
theorem m3_182 : Cond.code ⟨"HomeSystem$Tokens", "skip", "()V"⟩ prog_12_method_4_code 5 (Option.none : Option Jvm.ClassFile.FieldType) ∈ AL := AL_3 (List.mem_of_getElem? (i := 182) rfl) rfl
theorem ms_1_5 : Cond.selects "HomeSystem$Tokens" ⟨"HomeSystem$Tokens", "skip", "()V"⟩ ⟨"HomeSystem$Tokens", "skip", "()V"⟩ ∈ AL := AL_p (q := (⟨"HomeSystem$Tokens", "skip", "()V"⟩, 19)) (by unfold lw_privs; exact List.mem_append_left _ (List.mem_of_getElem? (i := 5) rfl))
theorem m3_181 : Cond.instanceMethod ⟨"HomeSystem$Tokens", "skip", "()V"⟩ ∈ AL := AL_3 (List.mem_of_getElem? (i := 181) rfl) rfl
theorem m3_195 : Cond.methodLink "HomeSystem$Tokens" 69 ⟨"HomeSystem$Tokens", "token", "()Z"⟩ ∈ AL := AL_3 (List.mem_of_getElem? (i := 195) rfl) rfl
theorem m3_198 : Cond.code ⟨"HomeSystem$Tokens", "token", "()Z"⟩ prog_12_method_7_code 4 (Option.some FieldType.boolean) ∈ AL := AL_3 (List.mem_of_getElem? (i := 198) rfl) rfl
theorem ms_1_9 : Cond.selects "HomeSystem$Tokens" ⟨"HomeSystem$Tokens", "token", "()Z"⟩ ⟨"HomeSystem$Tokens", "token", "()Z"⟩ ∈ AL := AL_p (q := (⟨"HomeSystem$Tokens", "token", "()Z"⟩, 19)) (by unfold lw_privs; exact List.mem_append_left _ (List.mem_of_getElem? (i := 9) rfl))
theorem m3_197 : Cond.instanceMethod ⟨"HomeSystem$Tokens", "token", "()Z"⟩ ∈ AL := AL_3 (List.mem_of_getElem? (i := 197) rfl) rfl
abbrev b_Tok_mark : ByteArray := prog_12_method_19_code
def y_Tok_mark : MethodName := ⟨"HomeSystem$Tokens", "mark", "(I)I"⟩
theorem d_Tok_mark_0 : decode b_Tok_mark 0 = .ok (.iload_n 1, 1) := by decide +kernel
theorem d_Tok_mark_1 : decode b_Tok_mark 1 = .ok (.bipush 61, 2) := by decide +kernel
theorem d_Tok_mark_3 : decode b_Tok_mark 3 = .ok (.if_icmp .ne 9, 3) := by decide +kernel
theorem d_Tok_mark_6 : decode b_Tok_mark 6 = .ok (.sipush 256, 3) := by decide +kernel
theorem d_Tok_mark_9 : decode b_Tok_mark 9 = .ok (.goto 4, 3) := by decide +kernel
theorem d_Tok_mark_12 : decode b_Tok_mark 12 = .ok (.iload_n 1, 1) := by decide +kernel
theorem d_Tok_mark_13 : decode b_Tok_mark 13 = .ok (.istore_n 2, 1) := by decide +kernel
theorem d_Tok_mark_14 : decode b_Tok_mark 14 = .ok (.iconst 1, 1) := by decide +kernel
theorem d_Tok_mark_15 : decode b_Tok_mark 15 = .ok (.istore_n 3, 1) := by decide +kernel
theorem d_Tok_mark_16 : decode b_Tok_mark 16 = .ok (.ldc 127, 2) := by decide +kernel
theorem d_Tok_mark_18 : decode b_Tok_mark 18 = .ok (.iload_n 1, 1) := by decide +kernel
theorem d_Tok_mark_19 : decode b_Tok_mark 19 = .ok (.i2c, 1) := by decide +kernel
theorem d_Tok_mark_20 : decode b_Tok_mark 20 = .ok (.invokevirtual 129, 3) := by decide +kernel
theorem d_Tok_mark_23 : decode b_Tok_mark 23 = .ok (.ifCond .lt 24, 3) := by decide +kernel
theorem d_Tok_mark_26 : decode b_Tok_mark 26 = .ok (.iload_n 1, 1) := by decide +kernel
theorem d_Tok_mark_27 : decode b_Tok_mark 27 = .ok (.bipush 47, 2) := by decide +kernel
theorem d_Tok_mark_29 : decode b_Tok_mark 29 = .ok (.if_icmp .ne 21, 3) := by decide +kernel
theorem d_Tok_mark_32 : decode b_Tok_mark 32 = .ok (.aload_n 0, 1) := by decide +kernel
theorem d_Tok_mark_33 : decode b_Tok_mark 33 = .ok (.aload_n 0, 1) := by decide +kernel
theorem d_Tok_mark_34 : decode b_Tok_mark 34 = .ok (.getfield 50, 3) := by decide +kernel
theorem d_Tok_mark_37 : decode b_Tok_mark 37 = .ok (.iconst 1, 1) := by decide +kernel
theorem d_Tok_mark_38 : decode b_Tok_mark 38 = .ok (.iadd, 1) := by decide +kernel
theorem d_Tok_mark_39 : decode b_Tok_mark 39 = .ok (.invokevirtual 73, 3) := by decide +kernel
theorem d_Tok_mark_42 : decode b_Tok_mark 42 = .ok (.bipush 42, 2) := by decide +kernel
theorem d_Tok_mark_44 : decode b_Tok_mark 44 = .ok (.if_icmp .ne 6, 3) := by decide +kernel
theorem d_Tok_mark_47 : decode b_Tok_mark 47 = .ok (.bipush 19, 2) := by decide +kernel
theorem d_Tok_mark_49 : decode b_Tok_mark 49 = .ok (.ireturn, 1) := by decide +kernel
theorem d_Tok_mark_50 : decode b_Tok_mark 50 = .ok (.aload_n 0, 1) := by decide +kernel
theorem d_Tok_mark_51 : decode b_Tok_mark 51 = .ok (.aload_n 0, 1) := by decide +kernel
theorem d_Tok_mark_52 : decode b_Tok_mark 52 = .ok (.getfield 50, 3) := by decide +kernel
theorem d_Tok_mark_55 : decode b_Tok_mark 55 = .ok (.iconst 1, 1) := by decide +kernel
theorem d_Tok_mark_56 : decode b_Tok_mark 56 = .ok (.iadd, 1) := by decide +kernel
theorem d_Tok_mark_57 : decode b_Tok_mark 57 = .ok (.invokevirtual 73, 3) := by decide +kernel
theorem d_Tok_mark_60 : decode b_Tok_mark 60 = .ok (.iload_n 1, 1) := by decide +kernel
theorem d_Tok_mark_61 : decode b_Tok_mark 61 = .ok (.if_icmp .ne 10, 3) := by decide +kernel
theorem d_Tok_mark_64 : decode b_Tok_mark 64 = .ok (.iload_n 1, 1) := by decide +kernel
theorem d_Tok_mark_65 : decode b_Tok_mark 65 = .ok (.invokestatic 132, 3) := by decide +kernel
theorem d_Tok_mark_68 : decode b_Tok_mark 68 = .ok (.goto 4, 3) := by decide +kernel
theorem d_Tok_mark_71 : decode b_Tok_mark 71 = .ok (.iconst 0, 1) := by decide +kernel
theorem d_Tok_mark_72 : decode b_Tok_mark 72 = .ok (.istore 4, 2) := by decide +kernel
theorem d_Tok_mark_74 : decode b_Tok_mark 74 = .ok (.iload 4, 2) := by decide +kernel
theorem d_Tok_mark_76 : decode b_Tok_mark 76 = .ok (.ifCond .le 8, 3) := by decide +kernel
theorem d_Tok_mark_79 : decode b_Tok_mark 79 = .ok (.iload 4, 2) := by decide +kernel
theorem d_Tok_mark_81 : decode b_Tok_mark 81 = .ok (.istore_n 2, 1) := by decide +kernel
theorem d_Tok_mark_82 : decode b_Tok_mark 82 = .ok (.iconst 2, 1) := by decide +kernel
theorem d_Tok_mark_83 : decode b_Tok_mark 83 = .ok (.istore_n 3, 1) := by decide +kernel
theorem d_Tok_mark_84 : decode b_Tok_mark 84 = .ok (.aload_n 0, 1) := by decide +kernel
theorem d_Tok_mark_85 : decode b_Tok_mark 85 = .ok (.aload_n 0, 1) := by decide +kernel
theorem d_Tok_mark_86 : decode b_Tok_mark 86 = .ok (.getfield 50, 3) := by decide +kernel
theorem d_Tok_mark_89 : decode b_Tok_mark 89 = .ok (.iload_n 3, 1) := by decide +kernel
theorem d_Tok_mark_90 : decode b_Tok_mark 90 = .ok (.iadd, 1) := by decide +kernel
theorem d_Tok_mark_91 : decode b_Tok_mark 91 = .ok (.invokevirtual 73, 3) := by decide +kernel
theorem d_Tok_mark_94 : decode b_Tok_mark 94 = .ok (.bipush 61, 2) := by decide +kernel
theorem d_Tok_mark_96 : decode b_Tok_mark 96 = .ok (.if_icmp .ne 10, 3) := by decide +kernel
theorem d_Tok_mark_99 : decode b_Tok_mark 99 = .ok (.iload_n 2, 1) := by decide +kernel
theorem d_Tok_mark_100 : decode b_Tok_mark 100 = .ok (.invokestatic 135, 3) := by decide +kernel
theorem d_Tok_mark_103 : decode b_Tok_mark 103 = .ok (.goto 4, 3) := by decide +kernel
theorem d_Tok_mark_106 : decode b_Tok_mark 106 = .ok (.iconst 0, 1) := by decide +kernel
theorem d_Tok_mark_107 : decode b_Tok_mark 107 = .ok (.istore 5, 2) := by decide +kernel
theorem d_Tok_mark_109 : decode b_Tok_mark 109 = .ok (.iload 5, 2) := by decide +kernel
theorem d_Tok_mark_111 : decode b_Tok_mark 111 = .ok (.ifCond .le 9, 3) := by decide +kernel
theorem d_Tok_mark_114 : decode b_Tok_mark 114 = .ok (.iload 5, 2) := by decide +kernel
theorem d_Tok_mark_116 : decode b_Tok_mark 116 = .ok (.istore_n 2, 1) := by decide +kernel
theorem d_Tok_mark_117 : decode b_Tok_mark 117 = .ok (.iinc 3 1, 3) := by decide +kernel
theorem d_Tok_mark_120 : decode b_Tok_mark 120 = .ok (.aload_n 0, 1) := by decide +kernel
theorem d_Tok_mark_121 : decode b_Tok_mark 121 = .ok (.dup, 1) := by decide +kernel
theorem d_Tok_mark_122 : decode b_Tok_mark 122 = .ok (.getfield 50, 3) := by decide +kernel
theorem d_Tok_mark_125 : decode b_Tok_mark 125 = .ok (.iload_n 3, 1) := by decide +kernel
theorem d_Tok_mark_126 : decode b_Tok_mark 126 = .ok (.iadd, 1) := by decide +kernel
theorem d_Tok_mark_127 : decode b_Tok_mark 127 = .ok (.putfield 50, 3) := by decide +kernel
theorem d_Tok_mark_130 : decode b_Tok_mark 130 = .ok (.iload_n 2, 1) := by decide +kernel
theorem d_Tok_mark_131 : decode b_Tok_mark 131 = .ok (.ireturn, 1) := by decide +kernel
theorem q_Tok_mark : px_y y_Tok_mark 1 := by unfold px_y; decide +kernel
abbrev b_Tok_token : ByteArray := prog_12_method_7_code
def y_Tok_token : MethodName := ⟨"HomeSystem$Tokens", "token", "()Z"⟩
theorem d_Tok_token_0 : decode b_Tok_token 0 = .ok (.aload_n 0, 1) := by decide +kernel
theorem d_Tok_token_1 : decode b_Tok_token 1 = .ok (.getfield 50, 3) := by decide +kernel
theorem d_Tok_token_4 : decode b_Tok_token 4 = .ok (.istore_n 1, 1) := by decide +kernel
theorem d_Tok_token_5 : decode b_Tok_token 5 = .ok (.aload_n 0, 1) := by decide +kernel
theorem d_Tok_token_6 : decode b_Tok_token 6 = .ok (.aload_n 0, 1) := by decide +kernel
theorem d_Tok_token_7 : decode b_Tok_token 7 = .ok (.getfield 50, 3) := by decide +kernel
theorem d_Tok_token_10 : decode b_Tok_token 10 = .ok (.invokevirtual 73, 3) := by decide +kernel
theorem d_Tok_token_13 : decode b_Tok_token 13 = .ok (.istore_n 2, 1) := by decide +kernel
theorem d_Tok_token_14 : decode b_Tok_token 14 = .ok (.iconst 0, 1) := by decide +kernel
theorem d_Tok_token_15 : decode b_Tok_token 15 = .ok (.istore_n 3, 1) := by decide +kernel
theorem d_Tok_token_16 : decode b_Tok_token 16 = .ok (.aload_n 0, 1) := by decide +kernel
theorem d_Tok_token_17 : decode b_Tok_token 17 = .ok (.iconst 0, 1) := by decide +kernel
theorem d_Tok_token_18 : decode b_Tok_token 18 = .ok (.putfield 83, 3) := by decide +kernel
theorem d_Tok_token_21 : decode b_Tok_token 21 = .ok (.iload_n 2, 1) := by decide +kernel
theorem d_Tok_token_22 : decode b_Tok_token 22 = .ok (.invokestatic 86, 3) := by decide +kernel
theorem d_Tok_token_25 : decode b_Tok_token 25 = .ok (.ifCond .eq 11, 3) := by decide +kernel
theorem d_Tok_token_28 : decode b_Tok_token 28 = .ok (.aload_n 0, 1) := by decide +kernel
theorem d_Tok_token_29 : decode b_Tok_token 29 = .ok (.invokevirtual 90, 3) := by decide +kernel
theorem d_Tok_token_32 : decode b_Tok_token 32 = .ok (.istore_n 3, 1) := by decide +kernel
theorem d_Tok_token_33 : decode b_Tok_token 33 = .ok (.goto 56, 3) := by decide +kernel
theorem d_Tok_token_36 : decode b_Tok_token 36 = .ok (.iload_n 2, 1) := by decide +kernel
theorem d_Tok_token_37 : decode b_Tok_token 37 = .ok (.invokestatic 93, 3) := by decide +kernel
theorem d_Tok_token_40 : decode b_Tok_token 40 = .ok (.ifCond .eq 11, 3) := by decide +kernel
theorem d_Tok_token_43 : decode b_Tok_token 43 = .ok (.aload_n 0, 1) := by decide +kernel
theorem d_Tok_token_44 : decode b_Tok_token 44 = .ok (.invokevirtual 96, 3) := by decide +kernel
theorem d_Tok_token_47 : decode b_Tok_token 47 = .ok (.istore_n 3, 1) := by decide +kernel
theorem d_Tok_token_48 : decode b_Tok_token 48 = .ok (.goto 41, 3) := by decide +kernel
theorem d_Tok_token_51 : decode b_Tok_token 51 = .ok (.iload_n 2, 1) := by decide +kernel
theorem d_Tok_token_52 : decode b_Tok_token 52 = .ok (.bipush 39, 2) := by decide +kernel
theorem d_Tok_token_54 : decode b_Tok_token 54 = .ok (.if_icmp .ne 11, 3) := by decide +kernel
theorem d_Tok_token_57 : decode b_Tok_token 57 = .ok (.aload_n 0, 1) := by decide +kernel
theorem d_Tok_token_58 : decode b_Tok_token 58 = .ok (.invokevirtual 99, 3) := by decide +kernel
theorem d_Tok_token_61 : decode b_Tok_token 61 = .ok (.istore_n 3, 1) := by decide +kernel
theorem d_Tok_token_62 : decode b_Tok_token 62 = .ok (.goto 27, 3) := by decide +kernel
theorem d_Tok_token_65 : decode b_Tok_token 65 = .ok (.iload_n 2, 1) := by decide +kernel
theorem d_Tok_token_66 : decode b_Tok_token 66 = .ok (.bipush 34, 2) := by decide +kernel
theorem d_Tok_token_68 : decode b_Tok_token 68 = .ok (.if_icmp .ne 11, 3) := by decide +kernel
theorem d_Tok_token_71 : decode b_Tok_token 71 = .ok (.aload_n 0, 1) := by decide +kernel
theorem d_Tok_token_72 : decode b_Tok_token 72 = .ok (.invokevirtual 102, 3) := by decide +kernel
theorem d_Tok_token_75 : decode b_Tok_token 75 = .ok (.istore_n 3, 1) := by decide +kernel
theorem d_Tok_token_76 : decode b_Tok_token 76 = .ok (.goto 13, 3) := by decide +kernel
theorem d_Tok_token_79 : decode b_Tok_token 79 = .ok (.iload_n 2, 1) := by decide +kernel
theorem d_Tok_token_80 : decode b_Tok_token 80 = .ok (.ifCond .lt 9, 3) := by decide +kernel
theorem d_Tok_token_83 : decode b_Tok_token 83 = .ok (.aload_n 0, 1) := by decide +kernel
theorem d_Tok_token_84 : decode b_Tok_token 84 = .ok (.iload_n 2, 1) := by decide +kernel
theorem d_Tok_token_85 : decode b_Tok_token 85 = .ok (.invokevirtual 105, 3) := by decide +kernel
theorem d_Tok_token_88 : decode b_Tok_token 88 = .ok (.istore_n 3, 1) := by decide +kernel
theorem d_Tok_token_89 : decode b_Tok_token 89 = .ok (.aload_n 0, 1) := by decide +kernel
theorem d_Tok_token_90 : decode b_Tok_token 90 = .ok (.getfield 53, 3) := by decide +kernel
theorem d_Tok_token_93 : decode b_Tok_token 93 = .ok (.aload_n 0, 1) := by decide +kernel
theorem d_Tok_token_94 : decode b_Tok_token 94 = .ok (.getfield 9, 3) := by decide +kernel
theorem d_Tok_token_97 : decode b_Tok_token 97 = .ok (.arraylength, 1) := by decide +kernel
theorem d_Tok_token_98 : decode b_Tok_token 98 = .ok (.if_icmp .ge 46, 3) := by decide +kernel
theorem d_Tok_token_101 : decode b_Tok_token 101 = .ok (.aload_n 0, 1) := by decide +kernel
theorem d_Tok_token_102 : decode b_Tok_token 102 = .ok (.getfield 9, 3) := by decide +kernel
theorem d_Tok_token_105 : decode b_Tok_token 105 = .ok (.aload_n 0, 1) := by decide +kernel
theorem d_Tok_token_106 : decode b_Tok_token 106 = .ok (.getfield 53, 3) := by decide +kernel
theorem d_Tok_token_109 : decode b_Tok_token 109 = .ok (.iload_n 3, 1) := by decide +kernel
theorem d_Tok_token_110 : decode b_Tok_token 110 = .ok (.iastore, 1) := by decide +kernel
theorem d_Tok_token_111 : decode b_Tok_token 111 = .ok (.aload_n 0, 1) := by decide +kernel
theorem d_Tok_token_112 : decode b_Tok_token 112 = .ok (.getfield 15, 3) := by decide +kernel
theorem d_Tok_token_115 : decode b_Tok_token 115 = .ok (.aload_n 0, 1) := by decide +kernel
theorem d_Tok_token_116 : decode b_Tok_token 116 = .ok (.getfield 53, 3) := by decide +kernel
theorem d_Tok_token_119 : decode b_Tok_token 119 = .ok (.iload_n 1, 1) := by decide +kernel
theorem d_Tok_token_120 : decode b_Tok_token 120 = .ok (.iastore, 1) := by decide +kernel
theorem d_Tok_token_121 : decode b_Tok_token 121 = .ok (.aload_n 0, 1) := by decide +kernel
theorem d_Tok_token_122 : decode b_Tok_token 122 = .ok (.getfield 18, 3) := by decide +kernel
theorem d_Tok_token_125 : decode b_Tok_token 125 = .ok (.aload_n 0, 1) := by decide +kernel
theorem d_Tok_token_126 : decode b_Tok_token 126 = .ok (.getfield 53, 3) := by decide +kernel
theorem d_Tok_token_129 : decode b_Tok_token 129 = .ok (.aload_n 0, 1) := by decide +kernel
theorem d_Tok_token_130 : decode b_Tok_token 130 = .ok (.getfield 83, 3) := by decide +kernel
theorem d_Tok_token_133 : decode b_Tok_token 133 = .ok (.iastore, 1) := by decide +kernel
theorem d_Tok_token_134 : decode b_Tok_token 134 = .ok (.aload_n 0, 1) := by decide +kernel
theorem d_Tok_token_135 : decode b_Tok_token 135 = .ok (.dup, 1) := by decide +kernel
theorem d_Tok_token_136 : decode b_Tok_token 136 = .ok (.getfield 53, 3) := by decide +kernel
theorem d_Tok_token_139 : decode b_Tok_token 139 = .ok (.iconst 1, 1) := by decide +kernel
theorem d_Tok_token_140 : decode b_Tok_token 140 = .ok (.iadd, 1) := by decide +kernel
theorem d_Tok_token_141 : decode b_Tok_token 141 = .ok (.putfield 53, 3) := by decide +kernel
theorem d_Tok_token_144 : decode b_Tok_token 144 = .ok (.iload_n 3, 1) := by decide +kernel
theorem d_Tok_token_145 : decode b_Tok_token 145 = .ok (.ifCond .eq 13, 3) := by decide +kernel
theorem d_Tok_token_148 : decode b_Tok_token 148 = .ok (.iload_n 3, 1) := by decide +kernel
theorem d_Tok_token_149 : decode b_Tok_token 149 = .ok (.bipush 19, 2) := by decide +kernel
theorem d_Tok_token_151 : decode b_Tok_token 151 = .ok (.if_icmp .eq 7, 3) := by decide +kernel
theorem d_Tok_token_154 : decode b_Tok_token 154 = .ok (.iconst 1, 1) := by decide +kernel
theorem d_Tok_token_155 : decode b_Tok_token 155 = .ok (.goto 4, 3) := by decide +kernel
theorem d_Tok_token_158 : decode b_Tok_token 158 = .ok (.iconst 0, 1) := by decide +kernel
theorem d_Tok_token_159 : decode b_Tok_token 159 = .ok (.ireturn, 1) := by decide +kernel
theorem q_Tok_token : px_y y_Tok_token 0 := by unfold px_y; decide +kernel
abbrev b_Tok_scan : ByteArray := prog_12_method_2_code
def y_Tok_scan : MethodName := ⟨"HomeSystem$Tokens", "scan", "([BI)V"⟩
theorem d_Tok_scan_0 : decode b_Tok_scan 0 = .ok (.aload_n 0, 1) := by decide +kernel
theorem d_Tok_scan_1 : decode b_Tok_scan 1 = .ok (.aload_n 1, 1) := by decide +kernel
theorem d_Tok_scan_2 : decode b_Tok_scan 2 = .ok (.putfield 43, 3) := by decide +kernel
theorem d_Tok_scan_5 : decode b_Tok_scan 5 = .ok (.aload_n 0, 1) := by decide +kernel
theorem d_Tok_scan_6 : decode b_Tok_scan 6 = .ok (.iload_n 2, 1) := by decide +kernel
theorem d_Tok_scan_7 : decode b_Tok_scan 7 = .ok (.putfield 47, 3) := by decide +kernel
theorem d_Tok_scan_10 : decode b_Tok_scan 10 = .ok (.aload_n 0, 1) := by decide +kernel
theorem d_Tok_scan_11 : decode b_Tok_scan 11 = .ok (.iconst 0, 1) := by decide +kernel
theorem d_Tok_scan_12 : decode b_Tok_scan 12 = .ok (.putfield 50, 3) := by decide +kernel
theorem d_Tok_scan_15 : decode b_Tok_scan 15 = .ok (.aload_n 0, 1) := by decide +kernel
theorem d_Tok_scan_16 : decode b_Tok_scan 16 = .ok (.iconst 0, 1) := by decide +kernel
theorem d_Tok_scan_17 : decode b_Tok_scan 17 = .ok (.putfield 53, 3) := by decide +kernel
theorem d_Tok_scan_20 : decode b_Tok_scan 20 = .ok (.aload_n 0, 1) := by decide +kernel
theorem d_Tok_scan_21 : decode b_Tok_scan 21 = .ok (.bipush 26, 2) := by decide +kernel
theorem d_Tok_scan_23 : decode b_Tok_scan 23 = .ok (.putfield 56, 3) := by decide +kernel
theorem d_Tok_scan_26 : decode b_Tok_scan 26 = .ok (.aload_n 0, 1) := by decide +kernel
theorem d_Tok_scan_27 : decode b_Tok_scan 27 = .ok (.iconst 0, 1) := by decide +kernel
theorem d_Tok_scan_28 : decode b_Tok_scan 28 = .ok (.putfield 59, 3) := by decide +kernel
theorem d_Tok_scan_31 : decode b_Tok_scan 31 = .ok (.aload_n 0, 1) := by decide +kernel
theorem d_Tok_scan_32 : decode b_Tok_scan 32 = .ok (.iconst 0, 1) := by decide +kernel
theorem d_Tok_scan_33 : decode b_Tok_scan 33 = .ok (.putfield 62, 3) := by decide +kernel
theorem d_Tok_scan_36 : decode b_Tok_scan 36 = .ok (.iconst 1, 1) := by decide +kernel
theorem d_Tok_scan_37 : decode b_Tok_scan 37 = .ok (.istore_n 3, 1) := by decide +kernel
theorem d_Tok_scan_38 : decode b_Tok_scan 38 = .ok (.iconst 0, 1) := by decide +kernel
theorem d_Tok_scan_39 : decode b_Tok_scan 39 = .ok (.istore 4, 2) := by decide +kernel
theorem d_Tok_scan_41 : decode b_Tok_scan 41 = .ok (.iload 4, 2) := by decide +kernel
theorem d_Tok_scan_43 : decode b_Tok_scan 43 = .ok (.aload_n 0, 1) := by decide +kernel
theorem d_Tok_scan_44 : decode b_Tok_scan 44 = .ok (.getfield 47, 3) := by decide +kernel
theorem d_Tok_scan_47 : decode b_Tok_scan 47 = .ok (.if_icmp .gt 22, 3) := by decide +kernel
theorem d_Tok_scan_50 : decode b_Tok_scan 50 = .ok (.iload_n 3, 1) := by decide +kernel
theorem d_Tok_scan_51 : decode b_Tok_scan 51 = .ok (.ifCond .eq 18, 3) := by decide +kernel
theorem d_Tok_scan_54 : decode b_Tok_scan 54 = .ok (.aload_n 0, 1) := by decide +kernel
theorem d_Tok_scan_55 : decode b_Tok_scan 55 = .ok (.invokevirtual 66, 3) := by decide +kernel
theorem d_Tok_scan_58 : decode b_Tok_scan 58 = .ok (.aload_n 0, 1) := by decide +kernel
theorem d_Tok_scan_59 : decode b_Tok_scan 59 = .ok (.invokevirtual 69, 3) := by decide +kernel
theorem d_Tok_scan_62 : decode b_Tok_scan 62 = .ok (.istore_n 3, 1) := by decide +kernel
theorem d_Tok_scan_63 : decode b_Tok_scan 63 = .ok (.iinc 4 1, 3) := by decide +kernel
theorem d_Tok_scan_66 : decode b_Tok_scan 66 = .ok (.goto (-25), 3) := by decide +kernel
theorem d_Tok_scan_69 : decode b_Tok_scan 69 = .ok (.return_, 1) := by decide +kernel
theorem q_Tok_scan : px_y y_Tok_scan 2 := by unfold px_y; decide +kernel
