theorem oz_05f97a0004 {a0 : Int} {n1 : Nat} (h0 : (n1 : Int) = a0) (h1 : ¬ (43 : Int) ≤ a0) : 0 ≤ a0 ∧ a0 < ((43 : Nat) : Int) := by omega
theorem oz_78b121ec6f {a0 a1 : Int} (h0 : a0 < a1) (h1 : a1 ≤ 2048) : a0 ≤ 4000 := by omega
theorem oz_9fa9825dcd {a0 a1 : Int} {n2 : Nat} (h0 : a0 = a1 + 1) (h1 : (n2 : Int) = a1) : 0 ≤ a0 := by omega
theorem oz_9c66ac5e29 {a0 a1 : Int} (h0 : a0 = a1 + 1) (h1 : ¬ (43 : Int) ≤ a1) : a0 ≤ 43 := by omega
theorem oz_d8e5b66e53 {a0 a2 : Int} {n1 : Nat} (h0 : 44 - a2 < ((n1 + 1 : Nat) : Int)) (h1 : a0 = a2 + 1) : 44 - a0 < (n1 : Int) := by omega
theorem oz_1c04ad23e8 {a0 a1 a2 a4 : Int} {n3 : Nat} (h0 : a0 + 2 - a1 - a4 < ((n3 + 1 : Nat) : Int)) (h1 : a2 = a4 + 1) : a0 + 2 - a1 - a2 < (n3 : Int) := by omega
theorem oz_676ddfcb1b {a0 a1 a2 : Int} (h0 : a0 = a1 + (2 : Int)) (h1 : a1 = a2 + (1 : Int)) (h2 : 0 ≤ a2) : 0 ≤ a0 := by omega
theorem oz_2b89fb80b9 {a0 a1 a2 : Int} (h0 : a0 = a1 + (1 : Int)) (h1 : a1 = a2 + (1 : Int)) (h2 : 0 ≤ a2) : 0 ≤ a0 := by omega
theorem oz_5aceba244f {a0 a1 : Int} (h0 : a0 < a1) : a0 + (0 : Int) ≤ a1 := by omega
theorem oz_e00ec8391b {a0 : Int} (h0 : a0 ≤ 2049) : a0 ≤ 2059 := by omega
theorem oz_e1f61422c9 {a0 a1 : Int} (h0 : ¬ a1 ≤ a0) : a0 < a1 := by omega
theorem oz_99c0df1a02 {a0 : Int} (h0 : 0 ≤ a0) (h1 : a0 ≤ 2049) : 0 ≤ a0 ∧ a0 < ((2060 : Nat) : Int) := by omega
theorem oz_7d1a3665d9 {a0 a1 a2 : Int} (h0 : a0 = a1) (h1 : ¬ a1 ≤ a2) (h2 : 0 ≤ a2) : 0 ≤ a0 := by omega
theorem oz_bef6f68ae5 {a0 a1 a2 : Int} (h0 : a0 = a1) (h1 : a1 = a2) (h2 : a2 ≤ 2048) : a0 ≤ 2048 := by omega
theorem oz_fcc6387d7b {a0 a1 a2 a3 : Int} (h0 : a2 = a1) (h1 : a0 ≤ a3) (h2 : a3 = a2) : a0 ≤ a1 := by omega
theorem oz_5e052c77ae {a0 a1 a2 a4 : Int} {n3 : Nat} (h0 : 2*(a0-a1)+a4 < ((n3 + 1 : Nat) : Int)) (h1 : a2 = (0 : Int)) (h2 : 0 ≤ a4) (h3 : ¬ a4 = (0 : Int)) : 2*(a0-a1)+a2 < (n3 : Int) := by omega
theorem oz_0ffba53c78 {a0 : Int} (h0 : (0 : Int) ≤ a0) : 0 ≤ a0 := by omega
theorem m9_224 : Cond.fieldLink "HomeSystemModel$Program" 133 "HomeSystemModel$Program" "marks" "[Ljava/lang/String;" ∈ AL := AL_9 (List.mem_of_getElem? (i := 224) rfl) rfl
theorem m11_153 : Cond.methodLink "HomeSystemModel$Program" 321 ⟨"HomeSystemModel$Program", "keyword", "(II)I"⟩ ∈ AL := AL_11 (List.mem_of_getElem? (i := 153) rfl) rfl
theorem m11_156 : Cond.code ⟨"HomeSystemModel$Program", "keyword", "(II)I"⟩ prog_16_method_10_code 4 (Option.some FieldType.int) ∈ AL := AL_11 (List.mem_of_getElem? (i := 156) rfl) rfl
theorem ms_8_1 : Cond.selects "HomeSystemModel$Program" ⟨"HomeSystemModel$Program", "keyword", "(II)I"⟩ ⟨"HomeSystemModel$Program", "keyword", "(II)I"⟩ ∈ AL := AL_p (q := (⟨"HomeSystemModel$Program", "keyword", "(II)I"⟩, 69)) (by unfold lw_privs; exact List.mem_append_right _ (List.mem_append_right _ (List.mem_append_right _ (List.mem_append_right _ (List.mem_append_right _ (List.mem_append_right _ (List.mem_append_right _ (List.mem_append_left _ (List.mem_of_getElem? (i := 1) rfl)))))))))
theorem m11_155 : Cond.instanceMethod ⟨"HomeSystemModel$Program", "keyword", "(II)I"⟩ ∈ AL := AL_11 (List.mem_of_getElem? (i := 155) rfl) rfl
theorem m11_147 : Cond.methodLink "HomeSystemModel$Program" 318 ⟨"HomeSystemModel$Program", "isLetter", "(I)Z"⟩ ∈ AL := AL_11 (List.mem_of_getElem? (i := 147) rfl) rfl
theorem m11_149 : Cond.code ⟨"HomeSystemModel$Program", "isLetter", "(I)Z"⟩ prog_16_method_4_code 1 (Option.some FieldType.boolean) ∈ AL := AL_11 (List.mem_of_getElem? (i := 149) rfl) rfl
theorem m11_148 : Cond.static ⟨"HomeSystemModel$Program", "isLetter", "(I)Z"⟩ ∈ AL := AL_11 (List.mem_of_getElem? (i := 148) rfl) rfl
theorem m11_181 : Cond.methodLink "HomeSystemModel$Program" 335 ⟨"HomeSystemModel$Program", "readString", "(I)Z"⟩ ∈ AL := AL_11 (List.mem_of_getElem? (i := 181) rfl) rfl
theorem m11_184 : Cond.code ⟨"HomeSystemModel$Program", "readString", "(I)Z"⟩ prog_16_method_13_code 5 (Option.some FieldType.boolean) ∈ AL := AL_11 (List.mem_of_getElem? (i := 184) rfl) rfl
theorem ms_8_6 : Cond.selects "HomeSystemModel$Program" ⟨"HomeSystemModel$Program", "readString", "(I)Z"⟩ ⟨"HomeSystemModel$Program", "readString", "(I)Z"⟩ ∈ AL := AL_p (q := (⟨"HomeSystemModel$Program", "readString", "(I)Z"⟩, 69)) (by unfold lw_privs; exact List.mem_append_right _ (List.mem_append_right _ (List.mem_append_right _ (List.mem_append_right _ (List.mem_append_right _ (List.mem_append_right _ (List.mem_append_right _ (List.mem_append_left _ (List.mem_of_getElem? (i := 6) rfl)))))))))
theorem m11_183 : Cond.instanceMethod ⟨"HomeSystemModel$Program", "readString", "(I)Z"⟩ ∈ AL := AL_11 (List.mem_of_getElem? (i := 183) rfl) rfl
theorem m11_167 : Cond.methodLink "HomeSystemModel$Program" 329 ⟨"HomeSystemModel$Program", "readNumber", "(I)Z"⟩ ∈ AL := AL_11 (List.mem_of_getElem? (i := 167) rfl) rfl
theorem m11_170 : Cond.code ⟨"HomeSystemModel$Program", "readNumber", "(I)Z"⟩ prog_16_method_12_code 7 (Option.some FieldType.boolean) ∈ AL := AL_11 (List.mem_of_getElem? (i := 170) rfl) rfl
theorem ms_8_4 : Cond.selects "HomeSystemModel$Program" ⟨"HomeSystemModel$Program", "readNumber", "(I)Z"⟩ ⟨"HomeSystemModel$Program", "readNumber", "(I)Z"⟩ ∈ AL := AL_p (q := (⟨"HomeSystemModel$Program", "readNumber", "(I)Z"⟩, 69)) (by unfold lw_privs; exact List.mem_append_right _ (List.mem_append_right _ (List.mem_append_right _ (List.mem_append_right _ (List.mem_append_right _ (List.mem_append_right _ (List.mem_append_right _ (List.mem_append_left _ (List.mem_of_getElem? (i := 4) rfl)))))))))
theorem m11_169 : Cond.instanceMethod ⟨"HomeSystemModel$Program", "readNumber", "(I)Z"⟩ ∈ AL := AL_11 (List.mem_of_getElem? (i := 169) rfl) rfl
theorem m11_143 : Cond.methodLink "HomeSystemModel$Program" 350 ⟨"HomeSystemModel$Program", "readToken", "(I)Z"⟩ ∈ AL := AL_11 (List.mem_of_getElem? (i := 143) rfl) rfl
theorem m11_146 : Cond.code ⟨"HomeSystemModel$Program", "readToken", "(I)Z"⟩ prog_16_method_11_code 5 (Option.some FieldType.boolean) ∈ AL := AL_11 (List.mem_of_getElem? (i := 146) rfl) rfl
theorem ms_8_0 : Cond.selects "HomeSystemModel$Program" ⟨"HomeSystemModel$Program", "readToken", "(I)Z"⟩ ⟨"HomeSystemModel$Program", "readToken", "(I)Z"⟩ ∈ AL := AL_p (q := (⟨"HomeSystemModel$Program", "readToken", "(I)Z"⟩, 69)) (by unfold lw_privs; exact List.mem_append_right _ (List.mem_append_right _ (List.mem_append_right _ (List.mem_append_right _ (List.mem_append_right _ (List.mem_append_right _ (List.mem_append_right _ (List.mem_append_left _ (List.mem_of_getElem? (i := 0) rfl)))))))))
theorem m11_145 : Cond.instanceMethod ⟨"HomeSystemModel$Program", "readToken", "(I)Z"⟩ ∈ AL := AL_11 (List.mem_of_getElem? (i := 145) rfl) rfl
theorem m11_135 : Cond.methodLink "HomeSystemModel$Program" 347 ⟨"HomeSystemModel$Program", "skip", "(I)I"⟩ ∈ AL := AL_11 (List.mem_of_getElem? (i := 135) rfl) rfl
theorem m11_138 : Cond.code ⟨"HomeSystemModel$Program", "skip", "(I)I"⟩ prog_16_method_6_code 6 (Option.some FieldType.int) ∈ AL := AL_11 (List.mem_of_getElem? (i := 138) rfl) rfl
theorem ms_7_14 : Cond.selects "HomeSystemModel$Program" ⟨"HomeSystemModel$Program", "skip", "(I)I"⟩ ⟨"HomeSystemModel$Program", "skip", "(I)I"⟩ ∈ AL := AL_p (q := (⟨"HomeSystemModel$Program", "skip", "(I)I"⟩, 69)) (by unfold lw_privs; exact List.mem_append_right _ (List.mem_append_right _ (List.mem_append_right _ (List.mem_append_right _ (List.mem_append_right _ (List.mem_append_right _ (List.mem_append_left _ (List.mem_of_getElem? (i := 14) rfl))))))))
theorem m11_137 : Cond.instanceMethod ⟨"HomeSystemModel$Program", "skip", "(I)I"⟩ ∈ AL := AL_11 (List.mem_of_getElem? (i := 137) rfl) rfl
abbrev b_Mpg_readToken : ByteArray := prog_16_method_11_code
def y_Mpg_readToken : MethodName := ⟨"HomeSystemModel$Program", "readToken", "(I)Z"⟩
theorem d_Mpg_readToken_0 : decode b_Mpg_readToken 0 = .ok (.aload_n 0, 1) := by decide +kernel
theorem d_Mpg_readToken_1 : decode b_Mpg_readToken 1 = .ok (.iload_n 1, 1) := by decide +kernel
theorem d_Mpg_readToken_2 : decode b_Mpg_readToken 2 = .ok (.invokevirtual 300, 3) := by decide +kernel
theorem d_Mpg_readToken_5 : decode b_Mpg_readToken 5 = .ok (.istore_n 2, 1) := by decide +kernel
theorem d_Mpg_readToken_6 : decode b_Mpg_readToken 6 = .ok (.iconst 0, 1) := by decide +kernel
theorem d_Mpg_readToken_7 : decode b_Mpg_readToken 7 = .ok (.istore_n 3, 1) := by decide +kernel
theorem d_Mpg_readToken_8 : decode b_Mpg_readToken 8 = .ok (.iload_n 2, 1) := by decide +kernel
theorem d_Mpg_readToken_9 : decode b_Mpg_readToken 9 = .ok (.invokestatic 318, 3) := by decide +kernel
theorem d_Mpg_readToken_12 : decode b_Mpg_readToken 12 = .ok (.ifCond .eq 73, 3) := by decide +kernel
theorem d_Mpg_readToken_15 : decode b_Mpg_readToken 15 = .ok (.aload_n 0, 1) := by decide +kernel
theorem d_Mpg_readToken_16 : decode b_Mpg_readToken 16 = .ok (.iload_n 1, 1) := by decide +kernel
theorem d_Mpg_readToken_17 : decode b_Mpg_readToken 17 = .ok (.iload_n 3, 1) := by decide +kernel
theorem d_Mpg_readToken_18 : decode b_Mpg_readToken 18 = .ok (.iadd, 1) := by decide +kernel
theorem d_Mpg_readToken_19 : decode b_Mpg_readToken 19 = .ok (.invokevirtual 300, 3) := by decide +kernel
theorem d_Mpg_readToken_22 : decode b_Mpg_readToken 22 = .ok (.invokestatic 318, 3) := by decide +kernel
theorem d_Mpg_readToken_25 : decode b_Mpg_readToken 25 = .ok (.ifCond .ne 16, 3) := by decide +kernel
theorem d_Mpg_readToken_28 : decode b_Mpg_readToken 28 = .ok (.aload_n 0, 1) := by decide +kernel
theorem d_Mpg_readToken_29 : decode b_Mpg_readToken 29 = .ok (.iload_n 1, 1) := by decide +kernel
theorem d_Mpg_readToken_30 : decode b_Mpg_readToken 30 = .ok (.iload_n 3, 1) := by decide +kernel
theorem d_Mpg_readToken_31 : decode b_Mpg_readToken 31 = .ok (.iadd, 1) := by decide +kernel
theorem d_Mpg_readToken_32 : decode b_Mpg_readToken 32 = .ok (.invokevirtual 300, 3) := by decide +kernel
theorem d_Mpg_readToken_35 : decode b_Mpg_readToken 35 = .ok (.invokestatic 296, 3) := by decide +kernel
theorem d_Mpg_readToken_38 : decode b_Mpg_readToken 38 = .ok (.ifCond .eq 9, 3) := by decide +kernel
theorem d_Mpg_readToken_41 : decode b_Mpg_readToken 41 = .ok (.iinc 3 1, 3) := by decide +kernel
theorem d_Mpg_readToken_44 : decode b_Mpg_readToken 44 = .ok (.goto (-29), 3) := by decide +kernel
theorem d_Mpg_readToken_47 : decode b_Mpg_readToken 47 = .ok (.aload_n 0, 1) := by decide +kernel
theorem d_Mpg_readToken_48 : decode b_Mpg_readToken 48 = .ok (.iload_n 1, 1) := by decide +kernel
theorem d_Mpg_readToken_49 : decode b_Mpg_readToken 49 = .ok (.iload_n 3, 1) := by decide +kernel
theorem d_Mpg_readToken_50 : decode b_Mpg_readToken 50 = .ok (.invokevirtual 321, 3) := by decide +kernel
theorem d_Mpg_readToken_53 : decode b_Mpg_readToken 53 = .ok (.istore 4, 2) := by decide +kernel
theorem d_Mpg_readToken_55 : decode b_Mpg_readToken 55 = .ok (.aload_n 0, 1) := by decide +kernel
theorem d_Mpg_readToken_56 : decode b_Mpg_readToken 56 = .ok (.iload_n 1, 1) := by decide +kernel
theorem d_Mpg_readToken_57 : decode b_Mpg_readToken 57 = .ok (.iload_n 3, 1) := by decide +kernel
theorem d_Mpg_readToken_58 : decode b_Mpg_readToken 58 = .ok (.iload 4, 2) := by decide +kernel
theorem d_Mpg_readToken_60 : decode b_Mpg_readToken 60 = .ok (.ifCond .lt 7, 3) := by decide +kernel
theorem d_Mpg_readToken_63 : decode b_Mpg_readToken 63 = .ok (.iconst 2, 1) := by decide +kernel
theorem d_Mpg_readToken_64 : decode b_Mpg_readToken 64 = .ok (.goto 4, 3) := by decide +kernel
theorem d_Mpg_readToken_67 : decode b_Mpg_readToken 67 = .ok (.iconst 1, 1) := by decide +kernel
theorem d_Mpg_readToken_68 : decode b_Mpg_readToken 68 = .ok (.iload 4, 2) := by decide +kernel
theorem d_Mpg_readToken_70 : decode b_Mpg_readToken 70 = .ok (.invokevirtual 325, 3) := by decide +kernel
theorem d_Mpg_readToken_73 : decode b_Mpg_readToken 73 = .ok (.iload_n 3, 1) := by decide +kernel
theorem d_Mpg_readToken_74 : decode b_Mpg_readToken 74 = .ok (.bipush 24, 2) := by decide +kernel
theorem d_Mpg_readToken_76 : decode b_Mpg_readToken 76 = .ok (.if_icmp .gt 7, 3) := by decide +kernel
theorem d_Mpg_readToken_79 : decode b_Mpg_readToken 79 = .ok (.iconst 1, 1) := by decide +kernel
theorem d_Mpg_readToken_80 : decode b_Mpg_readToken 80 = .ok (.goto 4, 3) := by decide +kernel
theorem d_Mpg_readToken_83 : decode b_Mpg_readToken 83 = .ok (.iconst 0, 1) := by decide +kernel
theorem d_Mpg_readToken_84 : decode b_Mpg_readToken 84 = .ok (.ireturn, 1) := by decide +kernel
theorem d_Mpg_readToken_85 : decode b_Mpg_readToken 85 = .ok (.iload_n 2, 1) := by decide +kernel
theorem d_Mpg_readToken_86 : decode b_Mpg_readToken 86 = .ok (.invokestatic 296, 3) := by decide +kernel
theorem d_Mpg_readToken_89 : decode b_Mpg_readToken 89 = .ok (.ifCond .eq 9, 3) := by decide +kernel
theorem d_Mpg_readToken_92 : decode b_Mpg_readToken 92 = .ok (.aload_n 0, 1) := by decide +kernel
theorem d_Mpg_readToken_93 : decode b_Mpg_readToken 93 = .ok (.iload_n 1, 1) := by decide +kernel
theorem d_Mpg_readToken_94 : decode b_Mpg_readToken 94 = .ok (.invokevirtual 329, 3) := by decide +kernel
theorem d_Mpg_readToken_97 : decode b_Mpg_readToken 97 = .ok (.ireturn, 1) := by decide +kernel
theorem d_Mpg_readToken_98 : decode b_Mpg_readToken 98 = .ok (.iload_n 2, 1) := by decide +kernel
theorem d_Mpg_readToken_99 : decode b_Mpg_readToken 99 = .ok (.bipush 39, 2) := by decide +kernel
theorem d_Mpg_readToken_101 : decode b_Mpg_readToken 101 = .ok (.if_icmp .ne 76, 3) := by decide +kernel
theorem d_Mpg_readToken_104 : decode b_Mpg_readToken 104 = .ok (.aload_n 0, 1) := by decide +kernel
theorem d_Mpg_readToken_105 : decode b_Mpg_readToken 105 = .ok (.iload_n 1, 1) := by decide +kernel
theorem d_Mpg_readToken_106 : decode b_Mpg_readToken 106 = .ok (.iconst 1, 1) := by decide +kernel
theorem d_Mpg_readToken_107 : decode b_Mpg_readToken 107 = .ok (.iadd, 1) := by decide +kernel
theorem d_Mpg_readToken_108 : decode b_Mpg_readToken 108 = .ok (.bipush 39, 2) := by decide +kernel
theorem d_Mpg_readToken_110 : decode b_Mpg_readToken 110 = .ok (.invokevirtual 332, 3) := by decide +kernel
theorem d_Mpg_readToken_113 : decode b_Mpg_readToken 113 = .ok (.istore 4, 2) := by decide +kernel
theorem d_Mpg_readToken_115 : decode b_Mpg_readToken 115 = .ok (.iload 4, 2) := by decide +kernel
theorem d_Mpg_readToken_117 : decode b_Mpg_readToken 117 = .ok (.ifCond .ge 7, 3) := by decide +kernel
theorem d_Mpg_readToken_120 : decode b_Mpg_readToken 120 = .ok (.iconst 0, 1) := by decide +kernel
theorem d_Mpg_readToken_121 : decode b_Mpg_readToken 121 = .ok (.goto 16, 3) := by decide +kernel
theorem d_Mpg_readToken_124 : decode b_Mpg_readToken 124 = .ok (.iload 4, 2) := by decide +kernel
theorem d_Mpg_readToken_126 : decode b_Mpg_readToken 126 = .ok (.sipush 1000, 3) := by decide +kernel
theorem d_Mpg_readToken_129 : decode b_Mpg_readToken 129 = .ok (.if_icmp .ge 7, 3) := by decide +kernel
theorem d_Mpg_readToken_132 : decode b_Mpg_readToken 132 = .ok (.iconst 1, 1) := by decide +kernel
theorem d_Mpg_readToken_133 : decode b_Mpg_readToken 133 = .ok (.goto 4, 3) := by decide +kernel
theorem d_Mpg_readToken_136 : decode b_Mpg_readToken 136 = .ok (.iconst 2, 1) := by decide +kernel
theorem d_Mpg_readToken_137 : decode b_Mpg_readToken 137 = .ok (.istore_n 3, 1) := by decide +kernel
theorem d_Mpg_readToken_138 : decode b_Mpg_readToken 138 = .ok (.aload_n 0, 1) := by decide +kernel
theorem d_Mpg_readToken_139 : decode b_Mpg_readToken 139 = .ok (.iload_n 1, 1) := by decide +kernel
theorem d_Mpg_readToken_140 : decode b_Mpg_readToken 140 = .ok (.iload_n 3, 1) := by decide +kernel
theorem d_Mpg_readToken_141 : decode b_Mpg_readToken 141 = .ok (.iconst 2, 1) := by decide +kernel
theorem d_Mpg_readToken_142 : decode b_Mpg_readToken 142 = .ok (.iadd, 1) := by decide +kernel
theorem d_Mpg_readToken_143 : decode b_Mpg_readToken 143 = .ok (.iconst 3, 1) := by decide +kernel
theorem d_Mpg_readToken_144 : decode b_Mpg_readToken 144 = .ok (.iload 4, 2) := by decide +kernel
theorem d_Mpg_readToken_146 : decode b_Mpg_readToken 146 = .ok (.sipush 1000, 3) := by decide +kernel
theorem d_Mpg_readToken_149 : decode b_Mpg_readToken 149 = .ok (.irem, 1) := by decide +kernel
theorem d_Mpg_readToken_150 : decode b_Mpg_readToken 150 = .ok (.invokevirtual 325, 3) := by decide +kernel
theorem d_Mpg_readToken_153 : decode b_Mpg_readToken 153 = .ok (.iload_n 3, 1) := by decide +kernel
theorem d_Mpg_readToken_154 : decode b_Mpg_readToken 154 = .ok (.ifCond .le 21, 3) := by decide +kernel
theorem d_Mpg_readToken_157 : decode b_Mpg_readToken 157 = .ok (.aload_n 0, 1) := by decide +kernel
theorem d_Mpg_readToken_158 : decode b_Mpg_readToken 158 = .ok (.iload_n 1, 1) := by decide +kernel
theorem d_Mpg_readToken_159 : decode b_Mpg_readToken 159 = .ok (.iconst 1, 1) := by decide +kernel
theorem d_Mpg_readToken_160 : decode b_Mpg_readToken 160 = .ok (.iadd, 1) := by decide +kernel
theorem d_Mpg_readToken_161 : decode b_Mpg_readToken 161 = .ok (.iload_n 3, 1) := by decide +kernel
theorem d_Mpg_readToken_162 : decode b_Mpg_readToken 162 = .ok (.iadd, 1) := by decide +kernel
theorem d_Mpg_readToken_163 : decode b_Mpg_readToken 163 = .ok (.invokevirtual 300, 3) := by decide +kernel
theorem d_Mpg_readToken_166 : decode b_Mpg_readToken 166 = .ok (.bipush 39, 2) := by decide +kernel
theorem d_Mpg_readToken_168 : decode b_Mpg_readToken 168 = .ok (.if_icmp .ne 7, 3) := by decide +kernel
theorem d_Mpg_readToken_171 : decode b_Mpg_readToken 171 = .ok (.iconst 1, 1) := by decide +kernel
theorem d_Mpg_readToken_172 : decode b_Mpg_readToken 172 = .ok (.goto 4, 3) := by decide +kernel
theorem d_Mpg_readToken_175 : decode b_Mpg_readToken 175 = .ok (.iconst 0, 1) := by decide +kernel
theorem d_Mpg_readToken_176 : decode b_Mpg_readToken 176 = .ok (.ireturn, 1) := by decide +kernel
theorem d_Mpg_readToken_177 : decode b_Mpg_readToken 177 = .ok (.iload_n 2, 1) := by decide +kernel
theorem d_Mpg_readToken_178 : decode b_Mpg_readToken 178 = .ok (.bipush 34, 2) := by decide +kernel
theorem d_Mpg_readToken_180 : decode b_Mpg_readToken 180 = .ok (.if_icmp .ne 9, 3) := by decide +kernel
theorem d_Mpg_readToken_183 : decode b_Mpg_readToken 183 = .ok (.aload_n 0, 1) := by decide +kernel
theorem d_Mpg_readToken_184 : decode b_Mpg_readToken 184 = .ok (.iload_n 1, 1) := by decide +kernel
theorem d_Mpg_readToken_185 : decode b_Mpg_readToken 185 = .ok (.invokevirtual 335, 3) := by decide +kernel
theorem d_Mpg_readToken_188 : decode b_Mpg_readToken 188 = .ok (.ireturn, 1) := by decide +kernel
theorem d_Mpg_readToken_189 : decode b_Mpg_readToken 189 = .ok (.iload_n 2, 1) := by decide +kernel
theorem d_Mpg_readToken_190 : decode b_Mpg_readToken 190 = .ok (.bipush 47, 2) := by decide +kernel
theorem d_Mpg_readToken_192 : decode b_Mpg_readToken 192 = .ok (.if_icmp .ne 17, 3) := by decide +kernel
theorem d_Mpg_readToken_195 : decode b_Mpg_readToken 195 = .ok (.aload_n 0, 1) := by decide +kernel
theorem d_Mpg_readToken_196 : decode b_Mpg_readToken 196 = .ok (.iload_n 1, 1) := by decide +kernel
theorem d_Mpg_readToken_197 : decode b_Mpg_readToken 197 = .ok (.iconst 1, 1) := by decide +kernel
theorem d_Mpg_readToken_198 : decode b_Mpg_readToken 198 = .ok (.iadd, 1) := by decide +kernel
theorem d_Mpg_readToken_199 : decode b_Mpg_readToken 199 = .ok (.invokevirtual 300, 3) := by decide +kernel
theorem d_Mpg_readToken_202 : decode b_Mpg_readToken 202 = .ok (.bipush 42, 2) := by decide +kernel
theorem d_Mpg_readToken_204 : decode b_Mpg_readToken 204 = .ok (.if_icmp .ne 5, 3) := by decide +kernel
theorem d_Mpg_readToken_207 : decode b_Mpg_readToken 207 = .ok (.iconst 0, 1) := by decide +kernel
theorem d_Mpg_readToken_208 : decode b_Mpg_readToken 208 = .ok (.ireturn, 1) := by decide +kernel
theorem d_Mpg_readToken_209 : decode b_Mpg_readToken 209 = .ok (.iconst 0, 1) := by decide +kernel
theorem d_Mpg_readToken_210 : decode b_Mpg_readToken 210 = .ok (.istore 4, 2) := by decide +kernel
theorem d_Mpg_readToken_212 : decode b_Mpg_readToken 212 = .ok (.iload 4, 2) := by decide +kernel
theorem d_Mpg_readToken_214 : decode b_Mpg_readToken 214 = .ok (.aload_n 0, 1) := by decide +kernel
theorem d_Mpg_readToken_215 : decode b_Mpg_readToken 215 = .ok (.getfield 133, 3) := by decide +kernel
theorem d_Mpg_readToken_218 : decode b_Mpg_readToken 218 = .ok (.arraylength, 1) := by decide +kernel
theorem d_Mpg_readToken_219 : decode b_Mpg_readToken 219 = .ok (.if_icmp .ge 44, 3) := by decide +kernel
theorem d_Mpg_readToken_222 : decode b_Mpg_readToken 222 = .ok (.aload_n 0, 1) := by decide +kernel
theorem d_Mpg_readToken_223 : decode b_Mpg_readToken 223 = .ok (.iload_n 1, 1) := by decide +kernel
theorem d_Mpg_readToken_224 : decode b_Mpg_readToken 224 = .ok (.aload_n 0, 1) := by decide +kernel
theorem d_Mpg_readToken_225 : decode b_Mpg_readToken 225 = .ok (.getfield 133, 3) := by decide +kernel
theorem d_Mpg_readToken_228 : decode b_Mpg_readToken 228 = .ok (.iload 4, 2) := by decide +kernel
theorem d_Mpg_readToken_230 : decode b_Mpg_readToken 230 = .ok (.aaload, 1) := by decide +kernel
theorem d_Mpg_readToken_231 : decode b_Mpg_readToken 231 = .ok (.invokevirtual 314, 3) := by decide +kernel
theorem d_Mpg_readToken_234 : decode b_Mpg_readToken 234 = .ok (.ifCond .eq 23, 3) := by decide +kernel
theorem d_Mpg_readToken_237 : decode b_Mpg_readToken 237 = .ok (.aload_n 0, 1) := by decide +kernel
theorem d_Mpg_readToken_238 : decode b_Mpg_readToken 238 = .ok (.iload_n 1, 1) := by decide +kernel
theorem d_Mpg_readToken_239 : decode b_Mpg_readToken 239 = .ok (.aload_n 0, 1) := by decide +kernel
theorem d_Mpg_readToken_240 : decode b_Mpg_readToken 240 = .ok (.getfield 133, 3) := by decide +kernel
theorem d_Mpg_readToken_243 : decode b_Mpg_readToken 243 = .ok (.iload 4, 2) := by decide +kernel
theorem d_Mpg_readToken_245 : decode b_Mpg_readToken 245 = .ok (.aaload, 1) := by decide +kernel
theorem d_Mpg_readToken_246 : decode b_Mpg_readToken 246 = .ok (.invokevirtual 307, 3) := by decide +kernel
theorem d_Mpg_readToken_249 : decode b_Mpg_readToken 249 = .ok (.iconst 5, 1) := by decide +kernel
theorem d_Mpg_readToken_250 : decode b_Mpg_readToken 250 = .ok (.iload 4, 2) := by decide +kernel
theorem d_Mpg_readToken_252 : decode b_Mpg_readToken 252 = .ok (.invokevirtual 325, 3) := by decide +kernel
theorem d_Mpg_readToken_255 : decode b_Mpg_readToken 255 = .ok (.iconst 1, 1) := by decide +kernel
theorem d_Mpg_readToken_256 : decode b_Mpg_readToken 256 = .ok (.ireturn, 1) := by decide +kernel
theorem d_Mpg_readToken_257 : decode b_Mpg_readToken 257 = .ok (.iinc 4 1, 3) := by decide +kernel
theorem d_Mpg_readToken_260 : decode b_Mpg_readToken 260 = .ok (.goto (-48), 3) := by decide +kernel
theorem d_Mpg_readToken_263 : decode b_Mpg_readToken 263 = .ok (.iconst 0, 1) := by decide +kernel
theorem d_Mpg_readToken_264 : decode b_Mpg_readToken 264 = .ok (.ireturn, 1) := by decide +kernel
theorem q_Mpg_readToken : px_y y_Mpg_readToken 1 := by unfold px_y; decide +kernel
set_option maxHeartbeats 4000000 in
set_option maxRecDepth 100000 in
theorem c_mp_readToken (l : Launch) (D : va_G) (cs : Nat → ClassId) (h : Nat) (r : Nat → Nat) (g : Nat → Nat → Option Nat) (pf : Nat → Int32) (na : Nat → Nat → Int32) (ma : Nat → Nat → Int32) (wa : Nat → Nat → Int32) (cf : Nat → Int32) (ca : Nat → Nat → Int32) (ef : Nat → Int32) (ea : Nat → Nat → Int32) (xf : Nat → Int32) (xa : Nat → Nat → Int32) (tf : Nat → Int32) (ta : Nat → Nat → Int32) (p0 : Int32)  (g0 : 0 ≤ (tf 5).toInt) (g1 : (tf 5).toInt ≤ 2048) (g2 : 0 ≤ p0.toInt) (g3 : p0.toInt < (tf 5).toInt) (g4 : 0 ≤ (tf 6).toInt) (g5 : (tf 6).toInt ≤ p0.toInt) (htp : TkP (tf 5).toInt ta (tf 6).toInt p0.toInt) : MetI l y_Mpg_readToken b_Mpg_readToken 5 (.boolean) D cs 6 230 (0) (0) [.ref h, .int p0] [wdP cs h r g tf ta pf na ma wa cf ca ef ea xf xa] (oX (fun A U H => (oP A g U H)) [wdP cs h r g tf ta pf na ma wa cf ca ef ea xf xa]) (fun v ps => ∃ (tf' : Nat → Int32) (ta' : Nat → Nat → Int32), (ps = [wdP cs h r g tf' ta' pf na ma wa cf ca ef ea xf xa]) ∧ (v = 0 ∨ v = 1) ∧ ((tf' 5).toInt = (tf 5).toInt) ∧ ((tf 6).toInt ≤ (tf' 6).toInt) ∧ ((tf' 6).toInt ≤ (tf 6).toInt + 1) ∧ (v.toInt = 1 → (tf' 6).toInt = (tf 6).toInt + 1) ∧ (RdK (tf 5).toInt ta' (tf 6) v p0)) := by
  refine px_enter (by decide) (Nat.le_of_ble_eq_true rfl) ?_
  intro p e s m below meth c A ls hAe S hr hlk hnm hA hT hX hw hl
  have hl : lv_has ls 5 [(0, .ref h), (1, .int p0)] := hl
  have lp0 := Int32.le_toInt p0
  have up0 := Int32.toInt_lt p0
  have cst0 : (0 : Int32).toInt = 0 := rfl
  have cst1 : (1 : Int32).toInt = 1 := rfl
  have cst2 : (2 : Int32).toInt = 2 := rfl
  have cst3 : (3 : Int32).toInt = 3 := rfl
  have cst5 : (5 : Int32).toInt = 5 := rfl
  have cst24 : (24 : Int32).toInt = 24 := rfl
  have cst34 : (34 : Int32).toInt = 34 := rfl
  have cst39 : (39 : Int32).toInt = 39 := rfl
  have cst42 : (42 : Int32).toInt = 42 := rfl
  have cst47 : (47 : Int32).toInt = 47 := rfl
  have cst1000 : (1000 : Int32).toInt = 1000 := rfl
  have hX : (fun A U H => (oP A g U H)) A s s.heap := by rw [hAe]; exact hX
  have hP := hX
  have hZ := hP.1
  have hF0 := hP.2.1
  have J212 : ∀ (n_212 : Nat)  (x212_4 : Int32) (H : Heap) (locs : List Loc) (ls : Array Slot), (0 ≤ x212_4.toInt) → (x212_4.toInt ≤ 43) → 44 - x212_4.toInt < (n_212 : Int) → pw D A s.heap H locs [wdP cs h r g tf ta pf na ma wa cf ca ef ea xf xa] → lv_has ls 5 [(0, .ref h), (1, .int p0), (4, .int x212_4)] → W p l e { frames := 6, cells := 0, slots := 0, locals := 230 } s m [.ref h, .int p0].toArray below meth c H locs 0 0 (MQ below (va_Qi (fun v ps => ∃ (tf' : Nat → Int32) (ta' : Nat → Nat → Int32), (ps = [wdP cs h r g tf' ta' pf na ma wa cf ca ef ea xf xa]) ∧ (v = 0 ∨ v = 1) ∧ ((tf' 5).toInt = (tf 5).toInt) ∧ ((tf 6).toInt ≤ (tf' 6).toInt) ∧ ((tf' 6).toInt ≤ (tf 6).toInt + 1) ∧ (v.toInt = 1 → (tf' 6).toInt = (tf 6).toInt + 1) ∧ (RdK (tf 5).toInt ta' (tf 6) v p0)) (pc_B D (va_A ([wdP cs h r g tf ta pf na ma wa cf ca ef ea xf xa] : List va_W).flatten s.heap.size)) (va_A ([wdP cs h r g tf ta pf na ma wa cf ca ef ea xf xa] : List va_W).flatten s.heap.size)) [.ref h, .int p0].toArray s 0 0 A) (F0 m 212 ls []) := by
    intro  n_212
    induction n_212 with
    | zero =>
      intro x212_4 H locs ls k212_0 k212_1 hm hw hl
      have lx212_4 := Int32.le_toInt x212_4
      have ux212_4 := Int32.toInt_lt x212_4
      exact absurd hm (by first | with_reducible rfl | with_reducible assumption | omega)
    | succ n_212 ih212 =>
      intro x212_4 H locs ls k212_0 k212_1 hm hw hl
      have lx212_4 := Int32.le_toInt x212_4
      have ux212_4 := Int32.toInt_lt x212_4
      refine lv_iload S.x S.b d_Mpg_readToken_212 (lv_at hl 2 rfl) ?_
      refine lv_aload_n S.x S.b d_Mpg_readToken_214 rfl (lv_at hl 0 rfl) ?_
      refine px_get S k_Mpg hT hw 0 0 1 (v := .ref (r 1)) rfl rfl rfl (by decide) m9_224 d_Mpg_readToken_215 ?_
      refine px_len S hT hw 0 2 11 rfl rfl rfl (v := 43) rfl d_Mpg_readToken_218 ?_
      refine lv_icmp_ge (tgt := 263) S.x S.b d_Mpg_readToken_219 (by decide) (fun c1 => ?_) (fun c1 => ?_)
      · have nc1 : (43 : Int) ≤ x212_4.toInt := (i_le (x := 43) (y := x212_4)).mp c1
        refine lv_iconst (v := 0) S.x S.b d_Mpg_readToken_263 (by decide) ?_
        first | exact px_iret (v := 0) S hr rfl hlk hAe hw (Nat.le_of_ble_eq_true rfl) (Nat.le_of_ble_eq_true rfl) (⟨tf, ta, rfl, (show (0 : Int32) = 0 ∨ (0 : Int32) = 1 from by first | exact Or.inl rfl | exact Or.inr rfl | exact z_or (by first | with_reducible rfl | with_reducible assumption | omega)), (show (tf 5).toInt = (tf 5).toInt from rfl), (show (tf 6).toInt ≤ (tf 6).toInt from oz_1cb5f934a5), (show (tf 6).toInt ≤ (tf 6).toInt + 1 from oz_ae0d7c4baf), (show (0 : Int) = 1 → (tf 6).toInt = (tf 6).toInt + 1 from by first | with_reducible rfl | with_reducible assumption | omega), (show RdK (tf 5).toInt ta (tf 6) (0 : Int32) p0 from (by first | exact rdk_n htp (by assumption) (by first | with_reducible rfl | with_reducible assumption | omega) (by first | with_reducible rfl | with_reducible assumption | omega) | exact rdk_0 htp (by first | with_reducible rfl | with_reducible assumption | omega)))⟩) d_Mpg_readToken_264 | exact px_iret (v := 0) S hr rfl hlk hAe hw (Nat.le_of_ble_eq_true rfl) (Nat.le_of_ble_eq_true rfl) (⟨tf, ta, rfl, (show (0 : Int32) = 0 ∨ (0 : Int32) = 1 from by first | exact Or.inl rfl | exact Or.inr rfl | exact z_or (by first | with_reducible rfl | with_reducible assumption | omega)), (show (tf 5).toInt = (tf 5).toInt from rfl), (show (tf 6).toInt ≤ (tf 6).toInt from by first | exact oz_1cb5f934a5 | omega), (show (tf 6).toInt ≤ (tf 6).toInt + 1 from by first | exact oz_ae0d7c4baf | omega), (show (0 : Int) = 1 → (tf 6).toInt = (tf 6).toInt + 1 from by first | with_reducible rfl | with_reducible assumption | omega), (show RdK (tf 5).toInt ta (tf 6) (0 : Int32) p0 from (by first | exact rdk_n htp (by assumption) (by first | with_reducible rfl | with_reducible assumption | omega) (by first | with_reducible rfl | with_reducible assumption | omega) | exact rdk_0 htp (by first | with_reducible rfl | with_reducible assumption | omega)))⟩) d_Mpg_readToken_264
      · have nc1 : ¬ (43 : Int) ≤ x212_4.toInt := mt (i_le (x := 43) (y := x212_4)).mpr c1
        refine lv_aload_n S.x S.b d_Mpg_readToken_222 rfl (lv_at hl 0 rfl) ?_
        refine lv_iload_n S.x S.b d_Mpg_readToken_223 rfl (lv_at hl 1 rfl) ?_
        refine lv_aload_n S.x S.b d_Mpg_readToken_224 rfl (lv_at hl 0 rfl) ?_
        refine px_get S k_Mpg hT hw 0 0 1 (v := .ref (r 1)) rfl rfl rfl (by decide) m9_224 d_Mpg_readToken_225 ?_
        refine lv_iload S.x S.b d_Mpg_readToken_228 (lv_at hl 2 rfl) ?_
        first | have hclsk2 := cl_nat (x := x212_4) (k212_0) | have hclsk2 := cl_nat (x := x212_4) (by first | exact k212_0 | omega)
        obtain ⟨sk2, hgsk2, st3, sb4, hSsk2⟩ := oP_1 hP (i := x212_4.toNatClampNeg) (by first | with_reducible rfl | with_reducible assumption | omega)
        have hmsk2 := len_1 (i := x212_4.toNatClampNeg) (by first | with_reducible rfl | with_reducible assumption | omega)
        refine px_aaldS S hT hw 0 2 11 (n := 43) (f := (g 1)) rfl rfl rfl (x := x212_4) (vp_in_iff.mpr (by first | exact oz_05f97a0004 hclsk2 nc1 | (constructor <;> omega))) hgsk2 d_Mpg_readToken_230 ?_
        first | refine px_calli (pr := []) (px_runV (As := [.int p0, .ref sk2]) (rest := []) S (c_mp_standsS l D cs sk2 (mlen x212_4.toNatClampNeg) h r g tf ta pf na ma wa cf ca ef ea xf xa p0  (show 0 ≤ (tf 5).toInt from g0) (show (tf 5).toInt ≤ 2048 from g1) (show 0 ≤ p0.toInt from g2) (show p0.toInt ≤ 4000 from (oz_78b121ec6f g3 g1)) (show (mlen x212_4.toNatClampNeg) ≤ 100 from by first | with_reducible rfl | with_reducible assumption | omega) _) hT (pr := []) (pcs := [wdP cs h r g tf ta pf na ma wa cf ca ef ea xf xa]) hw (oX_call (P := (fun A U H => (oP A g U H) ∧ (StS A sk2 (mlen x212_4.toNatClampNeg) U H))) (pr := []) (oG_and oG_P oG_Q) hw hA ⟨hP, ⟨_, _, hSsk2⟩⟩) (px_recv hT hw 0 0 rfl rfl rfl) m11_161 m11_158 m11_160 ms_8_2 m1_21 q_Mpg_stands ⟨Nat.le_of_ble_eq_true rfl, Nat.le_of_ble_eq_true rfl⟩ hl.1 rfl (Nat.le_of_ble_eq_true rfl) d_Mpg_readToken_231 ⟨Nat.le_of_ble_eq_true rfl, Nat.le_of_ble_eq_true rfl⟩) hw hA (fun v6 p5 H locs hp5 hw => ?_) | refine px_calli (pr := []) (px_runV (As := [.int p0, .ref sk2]) (rest := []) S (c_mp_standsS l D cs sk2 (mlen x212_4.toNatClampNeg) h r g tf ta pf na ma wa cf ca ef ea xf xa p0  (show 0 ≤ (tf 5).toInt from by first | exact g0 | omega) (show (tf 5).toInt ≤ 2048 from by first | exact g1 | omega) (show 0 ≤ p0.toInt from by first | exact g2 | omega) (show p0.toInt ≤ 4000 from by first | exact oz_78b121ec6f g3 g1 | omega) (show (mlen x212_4.toNatClampNeg) ≤ 100 from by first | with_reducible rfl | with_reducible assumption | omega) _) hT (pr := []) (pcs := [wdP cs h r g tf ta pf na ma wa cf ca ef ea xf xa]) hw (oX_call (P := (fun A U H => (oP A g U H) ∧ (StS A sk2 (mlen x212_4.toNatClampNeg) U H))) (pr := []) (oG_and oG_P oG_Q) hw hA ⟨hP, ⟨_, _, hSsk2⟩⟩) (px_recv hT hw 0 0 rfl rfl rfl) m11_161 m11_158 m11_160 ms_8_2 m1_21 q_Mpg_stands ⟨Nat.le_of_ble_eq_true rfl, Nat.le_of_ble_eq_true rfl⟩ hl.1 rfl (Nat.le_of_ble_eq_true rfl) d_Mpg_readToken_231 ⟨Nat.le_of_ble_eq_true rfl, Nat.le_of_ble_eq_true rfl⟩) hw hA (fun v6 p5 H locs hp5 hw => ?_)
        obtain ⟨rfl, e7, e8⟩ := hp5
        have e7 := z_rng e7
        have e8 : v6.toInt = 1 → p0.toInt + ((mlen x212_4.toNatClampNeg) : Int) ≤ (tf 5).toInt ∨ ((mlen x212_4.toNatClampNeg) : Int) = 0 := e8
        have lv6 := Int32.le_toInt v6
        have uv6 := Int32.toInt_lt v6
        refine lv_if_eq (tgt := 257) S.x S.b d_Mpg_readToken_234 (by decide) (fun c9 => ?_) (fun c9 => ?_)
        · have nc9 : v6.toInt = (0 : Int) := (i_eq (x := v6) (y := 0)).mp c9
          obtain ⟨z10, ez10⟩ : ∃ y : Int32, y = x212_4 + 1 := ⟨_, rfl⟩
          have tz10 : z10.toInt = (x212_4.toInt + 1 + 2147483648) % 4294967296 - 2147483648 := by rw [ez10]; exact i_add x212_4 1
          have lz10 := Int32.le_toInt z10
          have uz10 := Int32.toInt_lt z10
          try replace tz10 : z10.toInt = x212_4.toInt + 1 := by omega
          refine lv_iinc (v := z10) (lv' := [(4, .int z10), (0, .ref h), (1, .int p0)]) S.x S.b d_Mpg_readToken_257 hl (k := 2) rfl (by rw [ez10]; rfl) (by decide) rfl (fun ls hl => ?_)
          refine lv_goto (tgt := 212) S.x S.b d_Mpg_readToken_260 (by decide) ?_
          first | exact ih212 z10 _ _ ls (show 0 ≤ z10.toInt from (oz_9fa9825dcd tz10 hclsk2)) (show z10.toInt ≤ 43 from (oz_9c66ac5e29 tz10 nc1)) (show 44 - z10.toInt < (n_212 : Int) from (oz_d8e5b66e53 hm tz10)) hw (lv_sub hl [1, 2, 0] rfl) | exact ih212 z10 _ _ ls (show 0 ≤ z10.toInt from by first | exact oz_9fa9825dcd tz10 hclsk2 | omega) (show z10.toInt ≤ 43 from by first | exact oz_9c66ac5e29 tz10 nc1 | omega) (show 44 - z10.toInt < (n_212 : Int) from by first | exact oz_d8e5b66e53 hm tz10 | omega) hw (lv_sub hl [1, 2, 0] rfl)
        · have nc9 : ¬ v6.toInt = (0 : Int) := mt (i_eq (x := v6) (y := 0)).mpr c9
          refine lv_aload_n S.x S.b d_Mpg_readToken_237 rfl (lv_at hl 0 rfl) ?_
          refine lv_iload_n S.x S.b d_Mpg_readToken_238 rfl (lv_at hl 1 rfl) ?_
          refine lv_aload_n S.x S.b d_Mpg_readToken_239 rfl (lv_at hl 0 rfl) ?_
          refine px_get S k_Mpg hT hw 0 0 1 (v := .ref (r 1)) rfl rfl rfl (by decide) m9_224 d_Mpg_readToken_240 ?_
          refine lv_iload S.x S.b d_Mpg_readToken_243 (lv_at hl 2 rfl) ?_
          first | have hclsk11 := cl_nat (x := x212_4) (k212_0) | have hclsk11 := cl_nat (x := x212_4) (by first | exact k212_0 | omega)
          obtain ⟨sk11, hgsk11, st12, sb13, hSsk11⟩ := oP_1 hP (i := x212_4.toNatClampNeg) (by first | with_reducible rfl | with_reducible assumption | omega)
          have hmsk11 := len_1 (i := x212_4.toNatClampNeg) (by first | with_reducible rfl | with_reducible assumption | omega)
          refine px_aaldS S hT hw 0 2 11 (n := 43) (f := (g 1)) rfl rfl rfl (x := x212_4) (vp_in_iff.mpr (by first | exact oz_05f97a0004 hclsk2 nc1 | (constructor <;> omega))) hgsk11 d_Mpg_readToken_245 ?_
          refine px_calli (pr := [wdP cs h r g tf ta pf na ma wa cf ca ef ea xf xa]) (px_runV (As := []) (rest := [.int p0, .ref h]) S (c_String_length l D cs sk11 st12 (mlen x212_4.toNatClampNeg) sb13   (show (mlen x212_4.toNatClampNeg) ≤ 1000000 from by first | with_reducible rfl | with_reducible assumption | omega) _) hT (pr := [wdP cs h r g tf ta pf na ma wa cf ca ef ea xf xa]) (pcs := []) hw (oX_call (P := (fun A U H => (oZ A U H) ∧ (oS A sk11 st12 (mlen x212_4.toNatClampNeg) sb13 U H))) (pr := [wdP cs h r g tf ta pf na ma wa cf ca ef ea xf xa]) (oG_and oG_Z oG_S) hw hA ⟨hZ, hSsk11⟩) (oS_recv hw hSsk11) m1_58 m11_157 m1_56 m1_57 m1_3 q_String_length ⟨Nat.le_of_ble_eq_true rfl, Nat.le_of_ble_eq_true rfl⟩ hl.1 rfl (Nat.le_of_ble_eq_true rfl) d_Mpg_readToken_246 ⟨Nat.le_of_ble_eq_true rfl, Nat.le_of_ble_eq_true rfl⟩) hw hA (fun v15 p14 H locs hp14 hw => ?_)
          obtain ⟨rfl, e16⟩ := hp14
          have e16 : v15.toInt = ((mlen x212_4.toNatClampNeg) : Int) := e16
          have lv15 := Int32.le_toInt v15
          have uv15 := Int32.toInt_lt v15
          refine lv_iconst (v := 5) S.x S.b d_Mpg_readToken_249 (by decide) ?_
          refine lv_iload S.x S.b d_Mpg_readToken_250 (lv_at hl 2 rfl) ?_
          first | refine px_callv (pr := []) (px_runV (As := [.int p0, .int v15, .int 5, .int x212_4]) (rest := []) S (c_mp_token l D cs h r g pf na ma wa cf ca ef ea xf xa tf ta p0 v15 5 x212_4  (show 0 ≤ (tf 6).toInt from g4) (show (tf 6).toInt ≤ 2059 from (oz_9dfb4af2f5 g5 g3 g1)) _) hT (pr := []) (pcs := [wdP cs h r g tf ta pf na ma wa cf ca ef ea xf xa]) hw px_X.tt (px_recv hT hw 0 0 rfl rfl rfl) m11_166 m11_163 m11_165 ms_8_3 m1_21 q_Mpg_token ⟨Nat.le_of_ble_eq_true rfl, Nat.le_of_ble_eq_true rfl⟩ hl.1 rfl (Nat.le_of_ble_eq_true rfl) d_Mpg_readToken_252 ⟨Nat.le_of_ble_eq_true rfl, Nat.le_of_ble_eq_true rfl⟩) hw hA (fun p21 H locs hp21 hw => ?_) | refine px_callv (pr := []) (px_runV (As := [.int p0, .int v15, .int 5, .int x212_4]) (rest := []) S (c_mp_token l D cs h r g pf na ma wa cf ca ef ea xf xa tf ta p0 v15 5 x212_4  (show 0 ≤ (tf 6).toInt from by first | exact g4 | omega) (show (tf 6).toInt ≤ 2059 from by first | exact oz_9dfb4af2f5 g5 g3 g1 | omega) _) hT (pr := []) (pcs := [wdP cs h r g tf ta pf na ma wa cf ca ef ea xf xa]) hw px_X.tt (px_recv hT hw 0 0 rfl rfl rfl) m11_166 m11_163 m11_165 ms_8_3 m1_21 q_Mpg_token ⟨Nat.le_of_ble_eq_true rfl, Nat.le_of_ble_eq_true rfl⟩ hl.1 rfl (Nat.le_of_ble_eq_true rfl) d_Mpg_readToken_252 ⟨Nat.le_of_ble_eq_true rfl, Nat.le_of_ble_eq_true rfl⟩) hw hA (fun p21 H locs hp21 hw => ?_)
          obtain ⟨tf19, ta20, rfl, e23, e24, e25⟩ := hp21
          have e23 : (tf19 6).toInt = (tf 6).toInt + 1 := e23
          have e24 : (tf19 5).toInt = (tf 5).toInt := e24
          have e25 : TkU ta ta20 (tf 6) p0 v15 (5 : Int32) x212_4 := e25
          refine lv_iconst (v := 1) S.x S.b d_Mpg_readToken_255 (by decide) ?_
          first | exact px_iret (v := 1) S hr rfl hlk hAe hw (Nat.le_of_ble_eq_true rfl) (Nat.le_of_ble_eq_true rfl) (⟨tf19, ta20, rfl, (show (1 : Int32) = 0 ∨ (1 : Int32) = 1 from by first | exact Or.inl rfl | exact Or.inr rfl | exact z_or (by first | with_reducible rfl | with_reducible assumption | omega)), (show (tf19 5).toInt = (tf 5).toInt from e24), (show (tf 6).toInt ≤ (tf19 6).toInt from (oz_7db54039c4 e23)), (show (tf19 6).toInt ≤ (tf 6).toInt + 1 from (oz_6ad8cf7f07 e23)), (show (1 : Int) = 1 → (tf19 6).toInt = (tf 6).toInt + 1 from by first | with_reducible rfl | with_reducible assumption | omega), (show RdK (tf 5).toInt ta20 (tf 6) (1 : Int32) p0 from (rdk_y htp (by assumption) (by first | with_reducible rfl | with_reducible assumption | omega) ⟨⟨by first | with_reducible rfl | with_reducible assumption | omega, by first | with_reducible rfl | with_reducible assumption | omega⟩, ⟨by first | with_reducible rfl | with_reducible assumption | omega, by first | with_reducible rfl | with_reducible assumption | omega, by first | with_reducible rfl | with_reducible assumption | omega⟩, fun h => ⟨by first | with_reducible rfl | with_reducible assumption | omega, by first | with_reducible rfl | with_reducible assumption | omega, by first | with_reducible rfl | with_reducible assumption | omega⟩, fun h => ⟨by first | with_reducible rfl | with_reducible assumption | omega, by first | with_reducible rfl | with_reducible assumption | omega, by first | with_reducible rfl | with_reducible assumption | omega⟩, fun h => ⟨by first | with_reducible rfl | with_reducible assumption | omega, by first | with_reducible rfl | with_reducible assumption | omega, by first | with_reducible rfl | with_reducible assumption | omega⟩⟩))⟩) d_Mpg_readToken_256 | exact px_iret (v := 1) S hr rfl hlk hAe hw (Nat.le_of_ble_eq_true rfl) (Nat.le_of_ble_eq_true rfl) (⟨tf19, ta20, rfl, (show (1 : Int32) = 0 ∨ (1 : Int32) = 1 from by first | exact Or.inl rfl | exact Or.inr rfl | exact z_or (by first | with_reducible rfl | with_reducible assumption | omega)), (show (tf19 5).toInt = (tf 5).toInt from by first | exact e24 | omega), (show (tf 6).toInt ≤ (tf19 6).toInt from by first | exact oz_7db54039c4 e23 | omega), (show (tf19 6).toInt ≤ (tf 6).toInt + 1 from by first | exact oz_6ad8cf7f07 e23 | omega), (show (1 : Int) = 1 → (tf19 6).toInt = (tf 6).toInt + 1 from by first | with_reducible rfl | with_reducible assumption | omega), (show RdK (tf 5).toInt ta20 (tf 6) (1 : Int32) p0 from (rdk_y htp (by assumption) (by first | with_reducible rfl | with_reducible assumption | omega) ⟨⟨by first | with_reducible rfl | with_reducible assumption | omega, by first | with_reducible rfl | with_reducible assumption | omega⟩, ⟨by first | with_reducible rfl | with_reducible assumption | omega, by first | with_reducible rfl | with_reducible assumption | omega, by first | with_reducible rfl | with_reducible assumption | omega⟩, fun h => ⟨by first | with_reducible rfl | with_reducible assumption | omega, by first | with_reducible rfl | with_reducible assumption | omega, by first | with_reducible rfl | with_reducible assumption | omega⟩, fun h => ⟨by first | with_reducible rfl | with_reducible assumption | omega, by first | with_reducible rfl | with_reducible assumption | omega, by first | with_reducible rfl | with_reducible assumption | omega⟩, fun h => ⟨by first | with_reducible rfl | with_reducible assumption | omega, by first | with_reducible rfl | with_reducible assumption | omega, by first | with_reducible rfl | with_reducible assumption | omega⟩⟩))⟩) d_Mpg_readToken_256
  have J47 : ∀  (x47_3 : Int32) (H : Heap) (locs : List Loc) (ls : Array Slot), (1 ≤ x47_3.toInt) → (p0.toInt + x47_3.toInt ≤ (tf 5).toInt) → pw D A s.heap H locs [wdP cs h r g tf ta pf na ma wa cf ca ef ea xf xa] → lv_has ls 5 [(0, .ref h), (1, .int p0), (3, .int x47_3)] → W p l e { frames := 6, cells := 0, slots := 0, locals := 230 } s m [.ref h, .int p0].toArray below meth c H locs 0 0 (MQ below (va_Qi (fun v ps => ∃ (tf' : Nat → Int32) (ta' : Nat → Nat → Int32), (ps = [wdP cs h r g tf' ta' pf na ma wa cf ca ef ea xf xa]) ∧ (v = 0 ∨ v = 1) ∧ ((tf' 5).toInt = (tf 5).toInt) ∧ ((tf 6).toInt ≤ (tf' 6).toInt) ∧ ((tf' 6).toInt ≤ (tf 6).toInt + 1) ∧ (v.toInt = 1 → (tf' 6).toInt = (tf 6).toInt + 1) ∧ (RdK (tf 5).toInt ta' (tf 6) v p0)) (pc_B D (va_A ([wdP cs h r g tf ta pf na ma wa cf ca ef ea xf xa] : List va_W).flatten s.heap.size)) (va_A ([wdP cs h r g tf ta pf na ma wa cf ca ef ea xf xa] : List va_W).flatten s.heap.size)) [.ref h, .int p0].toArray s 0 0 A) (F0 m 47 ls []) := by
    intro x47_3 H locs ls k47_0 k47_1 hw hl
    have lx47_3 := Int32.le_toInt x47_3
    have ux47_3 := Int32.toInt_lt x47_3
    refine lv_aload_n S.x S.b d_Mpg_readToken_47 rfl (lv_at hl 0 rfl) ?_
    refine lv_iload_n S.x S.b d_Mpg_readToken_48 rfl (lv_at hl 1 rfl) ?_
    refine lv_iload_n S.x S.b d_Mpg_readToken_49 rfl (lv_at hl 2 rfl) ?_
    first | refine px_calli (pr := []) (px_runV (As := [.int p0, .int x47_3]) (rest := []) S (c_mp_keyword l D cs h r g tf ta pf na ma wa cf ca ef ea xf xa p0 x47_3  (show 0 ≤ (tf 5).toInt from g0) (show (tf 5).toInt ≤ 2048 from g1) (show 0 ≤ p0.toInt from g2) (show p0.toInt ≤ 4000 from (oz_78b121ec6f g3 g1)) _) hT (pr := []) (pcs := [wdP cs h r g tf ta pf na ma wa cf ca ef ea xf xa]) hw (oX_call (P := (fun A U H => (oP A g U H))) (pr := []) oG_P hw hA hP) (px_recv hT hw 0 0 rfl rfl rfl) m11_156 m11_153 m11_155 ms_8_1 m1_21 q_Mpg_keyword ⟨Nat.le_of_ble_eq_true rfl, Nat.le_of_ble_eq_true rfl⟩ hl.1 rfl (Nat.le_of_ble_eq_true rfl) d_Mpg_readToken_50 ⟨Nat.le_of_ble_eq_true rfl, Nat.le_of_ble_eq_true rfl⟩) hw hA (fun v27 p26 H locs hp26 hw => ?_) | refine px_calli (pr := []) (px_runV (As := [.int p0, .int x47_3]) (rest := []) S (c_mp_keyword l D cs h r g tf ta pf na ma wa cf ca ef ea xf xa p0 x47_3  (show 0 ≤ (tf 5).toInt from by first | exact g0 | omega) (show (tf 5).toInt ≤ 2048 from by first | exact g1 | omega) (show 0 ≤ p0.toInt from by first | exact g2 | omega) (show p0.toInt ≤ 4000 from by first | exact oz_78b121ec6f g3 g1 | omega) _) hT (pr := []) (pcs := [wdP cs h r g tf ta pf na ma wa cf ca ef ea xf xa]) hw (oX_call (P := (fun A U H => (oP A g U H))) (pr := []) oG_P hw hA hP) (px_recv hT hw 0 0 rfl rfl rfl) m11_156 m11_153 m11_155 ms_8_1 m1_21 q_Mpg_keyword ⟨Nat.le_of_ble_eq_true rfl, Nat.le_of_ble_eq_true rfl⟩ hl.1 rfl (Nat.le_of_ble_eq_true rfl) d_Mpg_readToken_50 ⟨Nat.le_of_ble_eq_true rfl, Nat.le_of_ble_eq_true rfl⟩) hw hA (fun v27 p26 H locs hp26 hw => ?_)
    obtain ⟨rfl, e28, e29, e30⟩ := hp26
    have e28 : -1 ≤ v27.toInt := e28
    have e29 : v27.toInt ≤ 14 := e29
    have e30 : 0 ≤ v27.toInt → x47_3.toInt = (klen v27.toNatClampNeg : Int) := e30
    have lv27 := Int32.le_toInt v27
    have uv27 := Int32.toInt_lt v27
    refine lv_istore (lv' := [(4, .int v27), (0, .ref h), (1, .int p0), (3, .int x47_3)]) S.x S.b d_Mpg_readToken_53 hl (by decide) rfl (fun ls hl => ?_)
    refine lv_aload_n S.x S.b d_Mpg_readToken_55 rfl (lv_at hl 1 rfl) ?_
    refine lv_iload_n S.x S.b d_Mpg_readToken_56 rfl (lv_at hl 2 rfl) ?_
    refine lv_iload_n S.x S.b d_Mpg_readToken_57 rfl (lv_at hl 3 rfl) ?_
    refine lv_iload S.x S.b d_Mpg_readToken_58 (lv_at hl 0 rfl) ?_
    refine lv_if_lt (tgt := 67) S.x S.b d_Mpg_readToken_60 (by decide) (fun c31 => ?_) (fun c31 => ?_)
    · have nc31 : v27.toInt < (0 : Int) := (i_lt (x := v27) (y := 0)).mp c31
      refine lv_iconst (v := 1) S.x S.b d_Mpg_readToken_67 (by decide) ?_
      refine lv_iload S.x S.b d_Mpg_readToken_68 (lv_at hl 0 rfl) ?_
      first | refine px_callv (pr := []) (px_runV (As := [.int p0, .int x47_3, .int 1, .int v27]) (rest := []) S (c_mp_token l D cs h r g pf na ma wa cf ca ef ea xf xa tf ta p0 x47_3 1 v27  (show 0 ≤ (tf 6).toInt from g4) (show (tf 6).toInt ≤ 2059 from (oz_9dfb4af2f5 g5 g3 g1)) _) hT (pr := []) (pcs := [wdP cs h r g tf ta pf na ma wa cf ca ef ea xf xa]) hw px_X.tt (px_recv hT hw 0 0 rfl rfl rfl) m11_166 m11_163 m11_165 ms_8_3 m1_21 q_Mpg_token ⟨Nat.le_of_ble_eq_true rfl, Nat.le_of_ble_eq_true rfl⟩ hl.1 rfl (Nat.le_of_ble_eq_true rfl) d_Mpg_readToken_70 ⟨Nat.le_of_ble_eq_true rfl, Nat.le_of_ble_eq_true rfl⟩) hw hA (fun p36 H locs hp36 hw => ?_) | refine px_callv (pr := []) (px_runV (As := [.int p0, .int x47_3, .int 1, .int v27]) (rest := []) S (c_mp_token l D cs h r g pf na ma wa cf ca ef ea xf xa tf ta p0 x47_3 1 v27  (show 0 ≤ (tf 6).toInt from by first | exact g4 | omega) (show (tf 6).toInt ≤ 2059 from by first | exact oz_9dfb4af2f5 g5 g3 g1 | omega) _) hT (pr := []) (pcs := [wdP cs h r g tf ta pf na ma wa cf ca ef ea xf xa]) hw px_X.tt (px_recv hT hw 0 0 rfl rfl rfl) m11_166 m11_163 m11_165 ms_8_3 m1_21 q_Mpg_token ⟨Nat.le_of_ble_eq_true rfl, Nat.le_of_ble_eq_true rfl⟩ hl.1 rfl (Nat.le_of_ble_eq_true rfl) d_Mpg_readToken_70 ⟨Nat.le_of_ble_eq_true rfl, Nat.le_of_ble_eq_true rfl⟩) hw hA (fun p36 H locs hp36 hw => ?_)
      obtain ⟨tf34, ta35, rfl, e38, e39, e40⟩ := hp36
      have e38 : (tf34 6).toInt = (tf 6).toInt + 1 := e38
      have e39 : (tf34 5).toInt = (tf 5).toInt := e39
      have e40 : TkU ta ta35 (tf 6) p0 x47_3 (1 : Int32) v27 := e40
      refine lv_iload_n S.x S.b d_Mpg_readToken_73 rfl (lv_at hl 3 rfl) ?_
      refine lv_bipush (v := 24) S.x S.b d_Mpg_readToken_74 (by decide) ?_
      refine lv_icmp_gt (tgt := 83) S.x S.b d_Mpg_readToken_76 (by decide) (fun c41 => ?_) (fun c41 => ?_)
      · have nc41 : (24 : Int) < x47_3.toInt := (i_lt (x := 24) (y := x47_3)).mp c41
        refine lv_iconst (v := 0) S.x S.b d_Mpg_readToken_83 (by decide) ?_
        first | exact px_iret (v := 0) S hr rfl hlk hAe hw (Nat.le_of_ble_eq_true rfl) (Nat.le_of_ble_eq_true rfl) (⟨tf34, ta35, rfl, (show (0 : Int32) = 0 ∨ (0 : Int32) = 1 from by first | exact Or.inl rfl | exact Or.inr rfl | exact z_or (by first | with_reducible rfl | with_reducible assumption | omega)), (show (tf34 5).toInt = (tf 5).toInt from e39), (show (tf 6).toInt ≤ (tf34 6).toInt from (oz_7db54039c4 e38)), (show (tf34 6).toInt ≤ (tf 6).toInt + 1 from (oz_6ad8cf7f07 e38)), (show (0 : Int) = 1 → (tf34 6).toInt = (tf 6).toInt + 1 from by first | with_reducible rfl | with_reducible assumption | omega), (show RdK (tf 5).toInt ta35 (tf 6) (0 : Int32) p0 from (by first | exact rdk_n htp (by assumption) (by first | with_reducible rfl | with_reducible assumption | omega) (by first | with_reducible rfl | with_reducible assumption | omega) | exact rdk_0 htp (by first | with_reducible rfl | with_reducible assumption | omega)))⟩) d_Mpg_readToken_84 | exact px_iret (v := 0) S hr rfl hlk hAe hw (Nat.le_of_ble_eq_true rfl) (Nat.le_of_ble_eq_true rfl) (⟨tf34, ta35, rfl, (show (0 : Int32) = 0 ∨ (0 : Int32) = 1 from by first | exact Or.inl rfl | exact Or.inr rfl | exact z_or (by first | with_reducible rfl | with_reducible assumption | omega)), (show (tf34 5).toInt = (tf 5).toInt from by first | exact e39 | omega), (show (tf 6).toInt ≤ (tf34 6).toInt from by first | exact oz_7db54039c4 e38 | omega), (show (tf34 6).toInt ≤ (tf 6).toInt + 1 from by first | exact oz_6ad8cf7f07 e38 | omega), (show (0 : Int) = 1 → (tf34 6).toInt = (tf 6).toInt + 1 from by first | with_reducible rfl | with_reducible assumption | omega), (show RdK (tf 5).toInt ta35 (tf 6) (0 : Int32) p0 from (by first | exact rdk_n htp (by assumption) (by first | with_reducible rfl | with_reducible assumption | omega) (by first | with_reducible rfl | with_reducible assumption | omega) | exact rdk_0 htp (by first | with_reducible rfl | with_reducible assumption | omega)))⟩) d_Mpg_readToken_84
      · have nc41 : ¬ (24 : Int) < x47_3.toInt := mt (i_lt (x := 24) (y := x47_3)).mpr c41
        refine lv_iconst (v := 1) S.x S.b d_Mpg_readToken_79 (by decide) ?_
        refine lv_goto (tgt := 84) S.x S.b d_Mpg_readToken_80 (by decide) ?_
        first | exact px_iret (v := 1) S hr rfl hlk hAe hw (Nat.le_of_ble_eq_true rfl) (Nat.le_of_ble_eq_true rfl) (⟨tf34, ta35, rfl, (show (1 : Int32) = 0 ∨ (1 : Int32) = 1 from by first | exact Or.inl rfl | exact Or.inr rfl | exact z_or (by first | with_reducible rfl | with_reducible assumption | omega)), (show (tf34 5).toInt = (tf 5).toInt from e39), (show (tf 6).toInt ≤ (tf34 6).toInt from (oz_7db54039c4 e38)), (show (tf34 6).toInt ≤ (tf 6).toInt + 1 from (oz_6ad8cf7f07 e38)), (show (1 : Int) = 1 → (tf34 6).toInt = (tf 6).toInt + 1 from by first | with_reducible rfl | with_reducible assumption | omega), (show RdK (tf 5).toInt ta35 (tf 6) (1 : Int32) p0 from (rdk_y htp (by assumption) (by first | with_reducible rfl | with_reducible assumption | omega) ⟨⟨by first | with_reducible rfl | with_reducible assumption | omega, by first | with_reducible rfl | with_reducible assumption | omega⟩, ⟨by first | with_reducible rfl | with_reducible assumption | omega, by first | with_reducible rfl | with_reducible assumption | omega, by first | with_reducible rfl | with_reducible assumption | omega⟩, fun h => ⟨by first | with_reducible rfl | with_reducible assumption | omega, by first | with_reducible rfl | with_reducible assumption | omega, by first | with_reducible rfl | with_reducible assumption | omega⟩, fun h => ⟨by first | with_reducible rfl | with_reducible assumption | omega, by first | with_reducible rfl | with_reducible assumption | omega, by first | with_reducible rfl | with_reducible assumption | omega⟩, fun h => ⟨by first | with_reducible rfl | with_reducible assumption | omega, by first | with_reducible rfl | with_reducible assumption | omega, by first | with_reducible rfl | with_reducible assumption | omega⟩⟩))⟩) d_Mpg_readToken_84 | exact px_iret (v := 1) S hr rfl hlk hAe hw (Nat.le_of_ble_eq_true rfl) (Nat.le_of_ble_eq_true rfl) (⟨tf34, ta35, rfl, (show (1 : Int32) = 0 ∨ (1 : Int32) = 1 from by first | exact Or.inl rfl | exact Or.inr rfl | exact z_or (by first | with_reducible rfl | with_reducible assumption | omega)), (show (tf34 5).toInt = (tf 5).toInt from by first | exact e39 | omega), (show (tf 6).toInt ≤ (tf34 6).toInt from by first | exact oz_7db54039c4 e38 | omega), (show (tf34 6).toInt ≤ (tf 6).toInt + 1 from by first | exact oz_6ad8cf7f07 e38 | omega), (show (1 : Int) = 1 → (tf34 6).toInt = (tf 6).toInt + 1 from by first | with_reducible rfl | with_reducible assumption | omega), (show RdK (tf 5).toInt ta35 (tf 6) (1 : Int32) p0 from (rdk_y htp (by assumption) (by first | with_reducible rfl | with_reducible assumption | omega) ⟨⟨by first | with_reducible rfl | with_reducible assumption | omega, by first | with_reducible rfl | with_reducible assumption | omega⟩, ⟨by first | with_reducible rfl | with_reducible assumption | omega, by first | with_reducible rfl | with_reducible assumption | omega, by first | with_reducible rfl | with_reducible assumption | omega⟩, fun h => ⟨by first | with_reducible rfl | with_reducible assumption | omega, by first | with_reducible rfl | with_reducible assumption | omega, by first | with_reducible rfl | with_reducible assumption | omega⟩, fun h => ⟨by first | with_reducible rfl | with_reducible assumption | omega, by first | with_reducible rfl | with_reducible assumption | omega, by first | with_reducible rfl | with_reducible assumption | omega⟩, fun h => ⟨by first | with_reducible rfl | with_reducible assumption | omega, by first | with_reducible rfl | with_reducible assumption | omega, by first | with_reducible rfl | with_reducible assumption | omega⟩⟩))⟩) d_Mpg_readToken_84
    · have nc31 : ¬ v27.toInt < (0 : Int) := mt (i_lt (x := v27) (y := 0)).mpr c31
      refine lv_iconst (v := 2) S.x S.b d_Mpg_readToken_63 (by decide) ?_
      refine lv_goto (tgt := 68) S.x S.b d_Mpg_readToken_64 (by decide) ?_
      refine lv_iload S.x S.b d_Mpg_readToken_68 (lv_at hl 0 rfl) ?_
      first | refine px_callv (pr := []) (px_runV (As := [.int p0, .int x47_3, .int 2, .int v27]) (rest := []) S (c_mp_token l D cs h r g pf na ma wa cf ca ef ea xf xa tf ta p0 x47_3 2 v27  (show 0 ≤ (tf 6).toInt from g4) (show (tf 6).toInt ≤ 2059 from (oz_9dfb4af2f5 g5 g3 g1)) _) hT (pr := []) (pcs := [wdP cs h r g tf ta pf na ma wa cf ca ef ea xf xa]) hw px_X.tt (px_recv hT hw 0 0 rfl rfl rfl) m11_166 m11_163 m11_165 ms_8_3 m1_21 q_Mpg_token ⟨Nat.le_of_ble_eq_true rfl, Nat.le_of_ble_eq_true rfl⟩ hl.1 rfl (Nat.le_of_ble_eq_true rfl) d_Mpg_readToken_70 ⟨Nat.le_of_ble_eq_true rfl, Nat.le_of_ble_eq_true rfl⟩) hw hA (fun p46 H locs hp46 hw => ?_) | refine px_callv (pr := []) (px_runV (As := [.int p0, .int x47_3, .int 2, .int v27]) (rest := []) S (c_mp_token l D cs h r g pf na ma wa cf ca ef ea xf xa tf ta p0 x47_3 2 v27  (show 0 ≤ (tf 6).toInt from by first | exact g4 | omega) (show (tf 6).toInt ≤ 2059 from by first | exact oz_9dfb4af2f5 g5 g3 g1 | omega) _) hT (pr := []) (pcs := [wdP cs h r g tf ta pf na ma wa cf ca ef ea xf xa]) hw px_X.tt (px_recv hT hw 0 0 rfl rfl rfl) m11_166 m11_163 m11_165 ms_8_3 m1_21 q_Mpg_token ⟨Nat.le_of_ble_eq_true rfl, Nat.le_of_ble_eq_true rfl⟩ hl.1 rfl (Nat.le_of_ble_eq_true rfl) d_Mpg_readToken_70 ⟨Nat.le_of_ble_eq_true rfl, Nat.le_of_ble_eq_true rfl⟩) hw hA (fun p46 H locs hp46 hw => ?_)
      obtain ⟨tf44, ta45, rfl, e48, e49, e50⟩ := hp46
      have e48 : (tf44 6).toInt = (tf 6).toInt + 1 := e48
      have e49 : (tf44 5).toInt = (tf 5).toInt := e49
      have e50 : TkU ta ta45 (tf 6) p0 x47_3 (2 : Int32) v27 := e50
      refine lv_iload_n S.x S.b d_Mpg_readToken_73 rfl (lv_at hl 3 rfl) ?_
      refine lv_bipush (v := 24) S.x S.b d_Mpg_readToken_74 (by decide) ?_
      refine lv_icmp_gt (tgt := 83) S.x S.b d_Mpg_readToken_76 (by decide) (fun c51 => ?_) (fun c51 => ?_)
      · have nc51 : (24 : Int) < x47_3.toInt := (i_lt (x := 24) (y := x47_3)).mp c51
        refine lv_iconst (v := 0) S.x S.b d_Mpg_readToken_83 (by decide) ?_
        first | exact px_iret (v := 0) S hr rfl hlk hAe hw (Nat.le_of_ble_eq_true rfl) (Nat.le_of_ble_eq_true rfl) (⟨tf44, ta45, rfl, (show (0 : Int32) = 0 ∨ (0 : Int32) = 1 from by first | exact Or.inl rfl | exact Or.inr rfl | exact z_or (by first | with_reducible rfl | with_reducible assumption | omega)), (show (tf44 5).toInt = (tf 5).toInt from e49), (show (tf 6).toInt ≤ (tf44 6).toInt from (oz_7db54039c4 e48)), (show (tf44 6).toInt ≤ (tf 6).toInt + 1 from (oz_6ad8cf7f07 e48)), (show (0 : Int) = 1 → (tf44 6).toInt = (tf 6).toInt + 1 from by first | with_reducible rfl | with_reducible assumption | omega), (show RdK (tf 5).toInt ta45 (tf 6) (0 : Int32) p0 from (by first | exact rdk_n htp (by assumption) (by first | with_reducible rfl | with_reducible assumption | omega) (by first | with_reducible rfl | with_reducible assumption | omega) | exact rdk_0 htp (by first | with_reducible rfl | with_reducible assumption | omega)))⟩) d_Mpg_readToken_84 | exact px_iret (v := 0) S hr rfl hlk hAe hw (Nat.le_of_ble_eq_true rfl) (Nat.le_of_ble_eq_true rfl) (⟨tf44, ta45, rfl, (show (0 : Int32) = 0 ∨ (0 : Int32) = 1 from by first | exact Or.inl rfl | exact Or.inr rfl | exact z_or (by first | with_reducible rfl | with_reducible assumption | omega)), (show (tf44 5).toInt = (tf 5).toInt from by first | exact e49 | omega), (show (tf 6).toInt ≤ (tf44 6).toInt from by first | exact oz_7db54039c4 e48 | omega), (show (tf44 6).toInt ≤ (tf 6).toInt + 1 from by first | exact oz_6ad8cf7f07 e48 | omega), (show (0 : Int) = 1 → (tf44 6).toInt = (tf 6).toInt + 1 from by first | with_reducible rfl | with_reducible assumption | omega), (show RdK (tf 5).toInt ta45 (tf 6) (0 : Int32) p0 from (by first | exact rdk_n htp (by assumption) (by first | with_reducible rfl | with_reducible assumption | omega) (by first | with_reducible rfl | with_reducible assumption | omega) | exact rdk_0 htp (by first | with_reducible rfl | with_reducible assumption | omega)))⟩) d_Mpg_readToken_84
      · have nc51 : ¬ (24 : Int) < x47_3.toInt := mt (i_lt (x := 24) (y := x47_3)).mpr c51
        refine lv_iconst (v := 1) S.x S.b d_Mpg_readToken_79 (by decide) ?_
        refine lv_goto (tgt := 84) S.x S.b d_Mpg_readToken_80 (by decide) ?_
        first | exact px_iret (v := 1) S hr rfl hlk hAe hw (Nat.le_of_ble_eq_true rfl) (Nat.le_of_ble_eq_true rfl) (⟨tf44, ta45, rfl, (show (1 : Int32) = 0 ∨ (1 : Int32) = 1 from by first | exact Or.inl rfl | exact Or.inr rfl | exact z_or (by first | with_reducible rfl | with_reducible assumption | omega)), (show (tf44 5).toInt = (tf 5).toInt from e49), (show (tf 6).toInt ≤ (tf44 6).toInt from (oz_7db54039c4 e48)), (show (tf44 6).toInt ≤ (tf 6).toInt + 1 from (oz_6ad8cf7f07 e48)), (show (1 : Int) = 1 → (tf44 6).toInt = (tf 6).toInt + 1 from by first | with_reducible rfl | with_reducible assumption | omega), (show RdK (tf 5).toInt ta45 (tf 6) (1 : Int32) p0 from (rdk_y htp (by assumption) (by first | with_reducible rfl | with_reducible assumption | omega) ⟨⟨by first | with_reducible rfl | with_reducible assumption | omega, by first | with_reducible rfl | with_reducible assumption | omega⟩, ⟨by first | with_reducible rfl | with_reducible assumption | omega, by first | with_reducible rfl | with_reducible assumption | omega, by first | with_reducible rfl | with_reducible assumption | omega⟩, fun h => ⟨by first | with_reducible rfl | with_reducible assumption | omega, by first | with_reducible rfl | with_reducible assumption | omega, by first | with_reducible rfl | with_reducible assumption | omega⟩, fun h => ⟨by first | with_reducible rfl | with_reducible assumption | omega, by first | with_reducible rfl | with_reducible assumption | omega, by first | with_reducible rfl | with_reducible assumption | omega⟩, fun h => ⟨by first | with_reducible rfl | with_reducible assumption | omega, by first | with_reducible rfl | with_reducible assumption | omega, by first | with_reducible rfl | with_reducible assumption | omega⟩⟩))⟩) d_Mpg_readToken_84 | exact px_iret (v := 1) S hr rfl hlk hAe hw (Nat.le_of_ble_eq_true rfl) (Nat.le_of_ble_eq_true rfl) (⟨tf44, ta45, rfl, (show (1 : Int32) = 0 ∨ (1 : Int32) = 1 from by first | exact Or.inl rfl | exact Or.inr rfl | exact z_or (by first | with_reducible rfl | with_reducible assumption | omega)), (show (tf44 5).toInt = (tf 5).toInt from by first | exact e49 | omega), (show (tf 6).toInt ≤ (tf44 6).toInt from by first | exact oz_7db54039c4 e48 | omega), (show (tf44 6).toInt ≤ (tf 6).toInt + 1 from by first | exact oz_6ad8cf7f07 e48 | omega), (show (1 : Int) = 1 → (tf44 6).toInt = (tf 6).toInt + 1 from by first | with_reducible rfl | with_reducible assumption | omega), (show RdK (tf 5).toInt ta45 (tf 6) (1 : Int32) p0 from (rdk_y htp (by assumption) (by first | with_reducible rfl | with_reducible assumption | omega) ⟨⟨by first | with_reducible rfl | with_reducible assumption | omega, by first | with_reducible rfl | with_reducible assumption | omega⟩, ⟨by first | with_reducible rfl | with_reducible assumption | omega, by first | with_reducible rfl | with_reducible assumption | omega, by first | with_reducible rfl | with_reducible assumption | omega⟩, fun h => ⟨by first | with_reducible rfl | with_reducible assumption | omega, by first | with_reducible rfl | with_reducible assumption | omega, by first | with_reducible rfl | with_reducible assumption | omega⟩, fun h => ⟨by first | with_reducible rfl | with_reducible assumption | omega, by first | with_reducible rfl | with_reducible assumption | omega, by first | with_reducible rfl | with_reducible assumption | omega⟩, fun h => ⟨by first | with_reducible rfl | with_reducible assumption | omega, by first | with_reducible rfl | with_reducible assumption | omega, by first | with_reducible rfl | with_reducible assumption | omega⟩⟩))⟩) d_Mpg_readToken_84
  have J15 : ∀ (n_15 : Nat)  (x15_2 x15_3 : Int32) (H : Heap) (locs : List Loc) (ls : Array Slot), (0 ≤ x15_3.toInt) → (p0.toInt + x15_3.toInt ≤ (tf 5).toInt) → (LtA ta (tf 5).toInt p0.toInt) → (tf 5).toInt + 2 - p0.toInt - x15_3.toInt < (n_15 : Int) → pw D A s.heap H locs [wdP cs h r g tf ta pf na ma wa cf ca ef ea xf xa] → lv_has ls 5 [(0, .ref h), (1, .int p0), (2, .int x15_2), (3, .int x15_3)] → W p l e { frames := 6, cells := 0, slots := 0, locals := 230 } s m [.ref h, .int p0].toArray below meth c H locs 0 0 (MQ below (va_Qi (fun v ps => ∃ (tf' : Nat → Int32) (ta' : Nat → Nat → Int32), (ps = [wdP cs h r g tf' ta' pf na ma wa cf ca ef ea xf xa]) ∧ (v = 0 ∨ v = 1) ∧ ((tf' 5).toInt = (tf 5).toInt) ∧ ((tf 6).toInt ≤ (tf' 6).toInt) ∧ ((tf' 6).toInt ≤ (tf 6).toInt + 1) ∧ (v.toInt = 1 → (tf' 6).toInt = (tf 6).toInt + 1) ∧ (RdK (tf 5).toInt ta' (tf 6) v p0)) (pc_B D (va_A ([wdP cs h r g tf ta pf na ma wa cf ca ef ea xf xa] : List va_W).flatten s.heap.size)) (va_A ([wdP cs h r g tf ta pf na ma wa cf ca ef ea xf xa] : List va_W).flatten s.heap.size)) [.ref h, .int p0].toArray s 0 0 A) (F0 m 15 ls []) := by
    intro  n_15
    induction n_15 with
    | zero =>
      intro x15_2 x15_3 H locs ls k15_0 k15_1 k15_2 hm hw hl
      have lx15_2 := Int32.le_toInt x15_2
      have ux15_2 := Int32.toInt_lt x15_2
      have lx15_3 := Int32.le_toInt x15_3
      have ux15_3 := Int32.toInt_lt x15_3
      have hlt := k15_2
      exact absurd hm (by first | with_reducible rfl | with_reducible assumption | omega)
    | succ n_15 ih15 =>
      intro x15_2 x15_3 H locs ls k15_0 k15_1 k15_2 hm hw hl
      have lx15_2 := Int32.le_toInt x15_2
      have ux15_2 := Int32.toInt_lt x15_2
      have lx15_3 := Int32.le_toInt x15_3
      have ux15_3 := Int32.toInt_lt x15_3
      have hlt := k15_2
      refine lv_aload_n S.x S.b d_Mpg_readToken_15 rfl (lv_at hl 0 rfl) ?_
      refine lv_iload_n S.x S.b d_Mpg_readToken_16 rfl (lv_at hl 1 rfl) ?_
      refine lv_iload_n S.x S.b d_Mpg_readToken_17 rfl (lv_at hl 3 rfl) ?_
      refine lv_iadd S.x S.b d_Mpg_readToken_18 ?_
      refine lv_topi (fun z52 ez52 => ?_)
      have tz52 : z52.toInt = (p0.toInt + x15_3.toInt + 2147483648) % 4294967296 - 2147483648 := by rw [ez52]; exact i_add p0 x15_3
      have lz52 := Int32.le_toInt z52
      have uz52 := Int32.toInt_lt z52
      try replace tz52 : z52.toInt = p0.toInt + x15_3.toInt := by omega
      first | refine px_calli (pr := []) (px_runV (As := [.int z52]) (rest := []) S (c_mp_byteAt l D cs h r g tf ta pf na ma wa cf ca ef ea xf xa z52  (show 0 ≤ (tf 5).toInt from g0) (show (tf 5).toInt ≤ 2048 from g1) (show 0 ≤ z52.toInt from (oz_58f944d8b2 tz52 g2 k15_0)) _) hT (pr := []) (pcs := [wdP cs h r g tf ta pf na ma wa cf ca ef ea xf xa]) hw px_X.tt (px_recv hT hw 0 0 rfl rfl rfl) m11_142 m11_139 m11_141 ms_7_15 m1_21 q_Mpg_byteAt ⟨Nat.le_of_ble_eq_true rfl, Nat.le_of_ble_eq_true rfl⟩ hl.1 rfl (Nat.le_of_ble_eq_true rfl) d_Mpg_readToken_19 ⟨Nat.le_of_ble_eq_true rfl, Nat.le_of_ble_eq_true rfl⟩) hw hA (fun v54 p53 H locs hp53 hw => ?_) | refine px_calli (pr := []) (px_runV (As := [.int z52]) (rest := []) S (c_mp_byteAt l D cs h r g tf ta pf na ma wa cf ca ef ea xf xa z52  (show 0 ≤ (tf 5).toInt from by first | exact g0 | omega) (show (tf 5).toInt ≤ 2048 from by first | exact g1 | omega) (show 0 ≤ z52.toInt from by first | exact oz_58f944d8b2 tz52 g2 k15_0 | omega) _) hT (pr := []) (pcs := [wdP cs h r g tf ta pf na ma wa cf ca ef ea xf xa]) hw px_X.tt (px_recv hT hw 0 0 rfl rfl rfl) m11_142 m11_139 m11_141 ms_7_15 m1_21 q_Mpg_byteAt ⟨Nat.le_of_ble_eq_true rfl, Nat.le_of_ble_eq_true rfl⟩ hl.1 rfl (Nat.le_of_ble_eq_true rfl) d_Mpg_readToken_19 ⟨Nat.le_of_ble_eq_true rfl, Nat.le_of_ble_eq_true rfl⟩) hw hA (fun v54 p53 H locs hp53 hw => ?_)
      obtain ⟨rfl, e55, e56⟩ := hp53
      have e55 : z52.toInt < (tf 5).toInt ∨ v54.toInt = -1 := e55
      have e56 : BtV ta (tf 5).toInt z52.toInt v54.toInt := e56
      have lv54 := Int32.le_toInt v54
      have uv54 := Int32.toInt_lt v54
      refine px_calli (pr := [wdP cs h r g tf ta pf na ma wa cf ca ef ea xf xa]) (px_runS (As := [.int v54]) (rest := []) S (c_mp_isLetter l D cs  v54   _) hT (pr := [wdP cs h r g tf ta pf na ma wa cf ca ef ea xf xa]) (pcs := []) hw px_X.tt m11_149 m11_147 m11_148 m1_21 q_Mpg_isLetter ⟨Nat.le_of_ble_eq_true rfl, Nat.le_of_ble_eq_true rfl⟩ hl.1 rfl (Nat.le_of_ble_eq_true rfl) d_Mpg_readToken_22 ⟨Nat.le_of_ble_eq_true rfl, Nat.le_of_ble_eq_true rfl⟩) hw hA (fun v58 p57 H locs hp57 hw => ?_)
      obtain ⟨rfl, e59, e60, e61⟩ := hp57
      have e59 := z_rng e59
      have e60 : v58.toInt = 1 → 65 ≤ v54.toInt := e60
      have e61 : LtV v54.toInt v58.toInt := e61
      have lv58 := Int32.le_toInt v58
      have uv58 := Int32.toInt_lt v58
      have hpos22 : v58.toInt = 0 → z52.toInt = p0.toInt + x15_3.toInt → ¬ x15_3.toInt = 0 := fun q1 q2 => lt_pos hlt (show BtV ta (tf 5).toInt z52.toInt v54.toInt by assumption) (show LtV v54.toInt v58.toInt by assumption) q1 q2
      refine lv_if_ne (tgt := 41) S.x S.b d_Mpg_readToken_25 (by decide) (fun c62 => ?_) (fun c62 => ?_)
      · have nc62 : ¬ v58.toInt = (0 : Int) := mt (i_eq (x := v58) (y := 0)).mpr c62
        obtain ⟨z63, ez63⟩ : ∃ y : Int32, y = x15_3 + 1 := ⟨_, rfl⟩
        have tz63 : z63.toInt = (x15_3.toInt + 1 + 2147483648) % 4294967296 - 2147483648 := by rw [ez63]; exact i_add x15_3 1
        have lz63 := Int32.le_toInt z63
        have uz63 := Int32.toInt_lt z63
        try replace tz63 : z63.toInt = x15_3.toInt + 1 := by omega
        refine lv_iinc (v := z63) (lv' := [(3, .int z63), (0, .ref h), (1, .int p0), (2, .int x15_2)]) S.x S.b d_Mpg_readToken_41 hl (k := 3) rfl (by rw [ez63]; rfl) (by decide) rfl (fun ls hl => ?_)
        refine lv_goto (tgt := 15) S.x S.b d_Mpg_readToken_44 (by decide) ?_
        first | exact ih15 x15_2 z63 _ _ ls (show 0 ≤ z63.toInt from (oz_ae613611c0 tz63 k15_0)) (show p0.toInt + z63.toInt ≤ (tf 5).toInt from by first | with_reducible rfl | with_reducible assumption | omega) (show LtA ta (tf 5).toInt p0.toInt from (by first | assumption | exact lt_is (by assumption) (by assumption) (by first | with_reducible rfl | with_reducible assumption | omega))) (show (tf 5).toInt + 2 - p0.toInt - z63.toInt < (n_15 : Int) from (oz_1c04ad23e8 hm tz63)) hw (lv_sub hl [1, 2, 3, 0] rfl) | exact ih15 x15_2 z63 _ _ ls (show 0 ≤ z63.toInt from by first | exact oz_ae613611c0 tz63 k15_0 | omega) (show p0.toInt + z63.toInt ≤ (tf 5).toInt from by first | with_reducible rfl | with_reducible assumption | omega) (show LtA ta (tf 5).toInt p0.toInt from (by first | assumption | exact lt_is (by assumption) (by assumption) (by first | with_reducible rfl | with_reducible assumption | omega))) (show (tf 5).toInt + 2 - p0.toInt - z63.toInt < (n_15 : Int) from by first | exact oz_1c04ad23e8 hm tz63 | omega) hw (lv_sub hl [1, 2, 3, 0] rfl)
      · have nc62 : v58.toInt = (0 : Int) := (i_eq (x := v58) (y := 0)).mp c62
        refine lv_aload_n S.x S.b d_Mpg_readToken_28 rfl (lv_at hl 0 rfl) ?_
        refine lv_iload_n S.x S.b d_Mpg_readToken_29 rfl (lv_at hl 1 rfl) ?_
        refine lv_iload_n S.x S.b d_Mpg_readToken_30 rfl (lv_at hl 3 rfl) ?_
        refine lv_iadd S.x S.b d_Mpg_readToken_31 ?_
        refine lv_topi (fun z64 ez64 => ?_)
        have tz64 : z64.toInt = (p0.toInt + x15_3.toInt + 2147483648) % 4294967296 - 2147483648 := by rw [ez64]; exact i_add p0 x15_3
        have lz64 := Int32.le_toInt z64
        have uz64 := Int32.toInt_lt z64
        try replace tz64 : z64.toInt = p0.toInt + x15_3.toInt := by omega
        first | refine px_calli (pr := []) (px_runV (As := [.int z64]) (rest := []) S (c_mp_byteAt l D cs h r g tf ta pf na ma wa cf ca ef ea xf xa z64  (show 0 ≤ (tf 5).toInt from g0) (show (tf 5).toInt ≤ 2048 from g1) (show 0 ≤ z64.toInt from (oz_58f944d8b2 tz64 g2 k15_0)) _) hT (pr := []) (pcs := [wdP cs h r g tf ta pf na ma wa cf ca ef ea xf xa]) hw px_X.tt (px_recv hT hw 0 0 rfl rfl rfl) m11_142 m11_139 m11_141 ms_7_15 m1_21 q_Mpg_byteAt ⟨Nat.le_of_ble_eq_true rfl, Nat.le_of_ble_eq_true rfl⟩ hl.1 rfl (Nat.le_of_ble_eq_true rfl) d_Mpg_readToken_32 ⟨Nat.le_of_ble_eq_true rfl, Nat.le_of_ble_eq_true rfl⟩) hw hA (fun v66 p65 H locs hp65 hw => ?_) | refine px_calli (pr := []) (px_runV (As := [.int z64]) (rest := []) S (c_mp_byteAt l D cs h r g tf ta pf na ma wa cf ca ef ea xf xa z64  (show 0 ≤ (tf 5).toInt from by first | exact g0 | omega) (show (tf 5).toInt ≤ 2048 from by first | exact g1 | omega) (show 0 ≤ z64.toInt from by first | exact oz_58f944d8b2 tz64 g2 k15_0 | omega) _) hT (pr := []) (pcs := [wdP cs h r g tf ta pf na ma wa cf ca ef ea xf xa]) hw px_X.tt (px_recv hT hw 0 0 rfl rfl rfl) m11_142 m11_139 m11_141 ms_7_15 m1_21 q_Mpg_byteAt ⟨Nat.le_of_ble_eq_true rfl, Nat.le_of_ble_eq_true rfl⟩ hl.1 rfl (Nat.le_of_ble_eq_true rfl) d_Mpg_readToken_32 ⟨Nat.le_of_ble_eq_true rfl, Nat.le_of_ble_eq_true rfl⟩) hw hA (fun v66 p65 H locs hp65 hw => ?_)
        obtain ⟨rfl, e67, e68⟩ := hp65
        have e67 : z64.toInt < (tf 5).toInt ∨ v66.toInt = -1 := e67
        have e68 : BtV ta (tf 5).toInt z64.toInt v66.toInt := e68
        have lv66 := Int32.le_toInt v66
        have uv66 := Int32.toInt_lt v66
        refine px_calli (pr := [wdP cs h r g tf ta pf na ma wa cf ca ef ea xf xa]) (px_runS (As := [.int v66]) (rest := []) S (c_mp_isDigit l D cs  v66   _) hT (pr := [wdP cs h r g tf ta pf na ma wa cf ca ef ea xf xa]) (pcs := []) hw px_X.tt m11_152 m11_150 m11_151 m1_21 q_Mpg_isDigit ⟨Nat.le_of_ble_eq_true rfl, Nat.le_of_ble_eq_true rfl⟩ hl.1 rfl (Nat.le_of_ble_eq_true rfl) d_Mpg_readToken_35 ⟨Nat.le_of_ble_eq_true rfl, Nat.le_of_ble_eq_true rfl⟩) hw hA (fun v70 p69 H locs hp69 hw => ?_)
        obtain ⟨rfl, e71, e72, e73⟩ := hp69
        have e71 := z_rng e71
        have e72 : v70.toInt = 1 → 48 ≤ v66.toInt ∧ v66.toInt ≤ 57 := e72
        have e73 : DgV v66.toInt v70.toInt := e73
        have lv70 := Int32.le_toInt v70
        have uv70 := Int32.toInt_lt v70
        refine lv_if_eq (tgt := 47) S.x S.b d_Mpg_readToken_38 (by decide) (fun c74 => ?_) (fun c74 => ?_)
        · have nc74 : v70.toInt = (0 : Int) := (i_eq (x := v70) (y := 0)).mp c74
          first | exact J47 x15_3 _ _ ls (show 1 ≤ x15_3.toInt from by first | with_reducible rfl | with_reducible assumption | omega) (show p0.toInt + x15_3.toInt ≤ (tf 5).toInt from k15_1) hw (lv_sub hl [0, 1, 3] rfl) | exact J47 x15_3 _ _ ls (show 1 ≤ x15_3.toInt from by first | with_reducible rfl | with_reducible assumption | omega) (show p0.toInt + x15_3.toInt ≤ (tf 5).toInt from by first | exact k15_1 | omega) hw (lv_sub hl [0, 1, 3] rfl)
        · have nc74 : ¬ v70.toInt = (0 : Int) := mt (i_eq (x := v70) (y := 0)).mpr c74
          obtain ⟨z75, ez75⟩ : ∃ y : Int32, y = x15_3 + 1 := ⟨_, rfl⟩
          have tz75 : z75.toInt = (x15_3.toInt + 1 + 2147483648) % 4294967296 - 2147483648 := by rw [ez75]; exact i_add x15_3 1
          have lz75 := Int32.le_toInt z75
          have uz75 := Int32.toInt_lt z75
          try replace tz75 : z75.toInt = x15_3.toInt + 1 := by omega
          refine lv_iinc (v := z75) (lv' := [(3, .int z75), (0, .ref h), (1, .int p0), (2, .int x15_2)]) S.x S.b d_Mpg_readToken_41 hl (k := 3) rfl (by rw [ez75]; rfl) (by decide) rfl (fun ls hl => ?_)
          refine lv_goto (tgt := 15) S.x S.b d_Mpg_readToken_44 (by decide) ?_
          first | exact ih15 x15_2 z75 _ _ ls (show 0 ≤ z75.toInt from (oz_ae613611c0 tz75 k15_0)) (show p0.toInt + z75.toInt ≤ (tf 5).toInt from by first | with_reducible rfl | with_reducible assumption | omega) (show LtA ta (tf 5).toInt p0.toInt from (by first | assumption | exact lt_is (by assumption) (by assumption) (by first | with_reducible rfl | with_reducible assumption | omega))) (show (tf 5).toInt + 2 - p0.toInt - z75.toInt < (n_15 : Int) from (oz_1c04ad23e8 hm tz75)) hw (lv_sub hl [1, 2, 3, 0] rfl) | exact ih15 x15_2 z75 _ _ ls (show 0 ≤ z75.toInt from by first | exact oz_ae613611c0 tz75 k15_0 | omega) (show p0.toInt + z75.toInt ≤ (tf 5).toInt from by first | with_reducible rfl | with_reducible assumption | omega) (show LtA ta (tf 5).toInt p0.toInt from (by first | assumption | exact lt_is (by assumption) (by assumption) (by first | with_reducible rfl | with_reducible assumption | omega))) (show (tf 5).toInt + 2 - p0.toInt - z75.toInt < (n_15 : Int) from by first | exact oz_1c04ad23e8 hm tz75 | omega) hw (lv_sub hl [1, 2, 3, 0] rfl)
  refine lv_aload_n S.x S.b d_Mpg_readToken_0 rfl (lv_at hl 0 rfl) ?_
  refine lv_iload_n S.x S.b d_Mpg_readToken_1 rfl (lv_at hl 1 rfl) ?_
  first | refine px_calli (pr := []) (px_runV (As := [.int p0]) (rest := []) S (c_mp_byteAt l D cs h r g tf ta pf na ma wa cf ca ef ea xf xa p0  (show 0 ≤ (tf 5).toInt from g0) (show (tf 5).toInt ≤ 2048 from g1) (show 0 ≤ p0.toInt from g2) _) hT (pr := []) (pcs := [wdP cs h r g tf ta pf na ma wa cf ca ef ea xf xa]) hw px_X.tt (px_recv hT hw 0 0 rfl rfl rfl) m11_142 m11_139 m11_141 ms_7_15 m1_21 q_Mpg_byteAt ⟨Nat.le_of_ble_eq_true rfl, Nat.le_of_ble_eq_true rfl⟩ hl.1 rfl (Nat.le_of_ble_eq_true rfl) d_Mpg_readToken_2 ⟨Nat.le_of_ble_eq_true rfl, Nat.le_of_ble_eq_true rfl⟩) hw hA (fun v77 p76 H locs hp76 hw => ?_) | refine px_calli (pr := []) (px_runV (As := [.int p0]) (rest := []) S (c_mp_byteAt l D cs h r g tf ta pf na ma wa cf ca ef ea xf xa p0  (show 0 ≤ (tf 5).toInt from by first | exact g0 | omega) (show (tf 5).toInt ≤ 2048 from by first | exact g1 | omega) (show 0 ≤ p0.toInt from by first | exact g2 | omega) _) hT (pr := []) (pcs := [wdP cs h r g tf ta pf na ma wa cf ca ef ea xf xa]) hw px_X.tt (px_recv hT hw 0 0 rfl rfl rfl) m11_142 m11_139 m11_141 ms_7_15 m1_21 q_Mpg_byteAt ⟨Nat.le_of_ble_eq_true rfl, Nat.le_of_ble_eq_true rfl⟩ hl.1 rfl (Nat.le_of_ble_eq_true rfl) d_Mpg_readToken_2 ⟨Nat.le_of_ble_eq_true rfl, Nat.le_of_ble_eq_true rfl⟩) hw hA (fun v77 p76 H locs hp76 hw => ?_)
  obtain ⟨rfl, e78, e79⟩ := hp76
  have e78 : p0.toInt < (tf 5).toInt ∨ v77.toInt = -1 := e78
  have e79 : BtV ta (tf 5).toInt p0.toInt v77.toInt := e79
  have lv77 := Int32.le_toInt v77
  have uv77 := Int32.toInt_lt v77
  refine lv_istore_n (lv' := [(2, .int v77), (0, .ref h), (1, .int p0)]) S.x S.b d_Mpg_readToken_5 rfl hl (by decide) rfl (fun ls hl => ?_)
  refine lv_iconst (v := 0) S.x S.b d_Mpg_readToken_6 (by decide) ?_
  refine lv_istore_n (lv' := [(3, .int 0), (2, .int v77), (0, .ref h), (1, .int p0)]) S.x S.b d_Mpg_readToken_7 rfl hl (by decide) rfl (fun ls hl => ?_)
  refine lv_iload_n S.x S.b d_Mpg_readToken_8 rfl (lv_at hl 1 rfl) ?_
  refine px_calli (pr := [wdP cs h r g tf ta pf na ma wa cf ca ef ea xf xa]) (px_runS (As := [.int v77]) (rest := []) S (c_mp_isLetter l D cs  v77   _) hT (pr := [wdP cs h r g tf ta pf na ma wa cf ca ef ea xf xa]) (pcs := []) hw px_X.tt m11_149 m11_147 m11_148 m1_21 q_Mpg_isLetter ⟨Nat.le_of_ble_eq_true rfl, Nat.le_of_ble_eq_true rfl⟩ hl.1 rfl (Nat.le_of_ble_eq_true rfl) d_Mpg_readToken_9 ⟨Nat.le_of_ble_eq_true rfl, Nat.le_of_ble_eq_true rfl⟩) hw hA (fun v81 p80 H locs hp80 hw => ?_)
  obtain ⟨rfl, e82, e83, e84⟩ := hp80
  have e82 := z_rng e82
  have e83 : v81.toInt = 1 → 65 ≤ v77.toInt := e83
  have e84 : LtV v77.toInt v81.toInt := e84
  have lv81 := Int32.le_toInt v81
  have uv81 := Int32.toInt_lt v81
  refine lv_if_eq (tgt := 85) S.x S.b d_Mpg_readToken_12 (by decide) (fun c85 => ?_) (fun c85 => ?_)
  · have nc85 : v81.toInt = (0 : Int) := (i_eq (x := v81) (y := 0)).mp c85
    refine lv_iload_n S.x S.b d_Mpg_readToken_85 rfl (lv_at hl 1 rfl) ?_
    refine px_calli (pr := [wdP cs h r g tf ta pf na ma wa cf ca ef ea xf xa]) (px_runS (As := [.int v77]) (rest := []) S (c_mp_isDigit l D cs  v77   _) hT (pr := [wdP cs h r g tf ta pf na ma wa cf ca ef ea xf xa]) (pcs := []) hw px_X.tt m11_152 m11_150 m11_151 m1_21 q_Mpg_isDigit ⟨Nat.le_of_ble_eq_true rfl, Nat.le_of_ble_eq_true rfl⟩ hl.1 rfl (Nat.le_of_ble_eq_true rfl) d_Mpg_readToken_86 ⟨Nat.le_of_ble_eq_true rfl, Nat.le_of_ble_eq_true rfl⟩) hw hA (fun v87 p86 H locs hp86 hw => ?_)
    obtain ⟨rfl, e88, e89, e90⟩ := hp86
    have e88 := z_rng e88
    have e89 : v87.toInt = 1 → 48 ≤ v77.toInt ∧ v77.toInt ≤ 57 := e89
    have e90 : DgV v77.toInt v87.toInt := e90
    have lv87 := Int32.le_toInt v87
    have uv87 := Int32.toInt_lt v87
    refine lv_if_eq (tgt := 98) S.x S.b d_Mpg_readToken_89 (by decide) (fun c91 => ?_) (fun c91 => ?_)
    · have nc91 : v87.toInt = (0 : Int) := (i_eq (x := v87) (y := 0)).mp c91
      refine lv_iload_n S.x S.b d_Mpg_readToken_98 rfl (lv_at hl 1 rfl) ?_
      refine lv_bipush (v := 39) S.x S.b d_Mpg_readToken_99 (by decide) ?_
      refine lv_icmp_ne (tgt := 177) S.x S.b d_Mpg_readToken_101 (by decide) (fun c92 => ?_) (fun c92 => ?_)
      · have nc92 : ¬ v77.toInt = (39 : Int) := mt (i_eq (x := v77) (y := 39)).mpr c92
        refine lv_iload_n S.x S.b d_Mpg_readToken_177 rfl (lv_at hl 1 rfl) ?_
        refine lv_bipush (v := 34) S.x S.b d_Mpg_readToken_178 (by decide) ?_
        refine lv_icmp_ne (tgt := 189) S.x S.b d_Mpg_readToken_180 (by decide) (fun c93 => ?_) (fun c93 => ?_)
        · have nc93 : ¬ v77.toInt = (34 : Int) := mt (i_eq (x := v77) (y := 34)).mpr c93
          refine lv_iload_n S.x S.b d_Mpg_readToken_189 rfl (lv_at hl 1 rfl) ?_
          refine lv_bipush (v := 47) S.x S.b d_Mpg_readToken_190 (by decide) ?_
          refine lv_icmp_ne (tgt := 209) S.x S.b d_Mpg_readToken_192 (by decide) (fun c94 => ?_) (fun c94 => ?_)
          · have nc94 : ¬ v77.toInt = (47 : Int) := mt (i_eq (x := v77) (y := 47)).mpr c94
            refine lv_iconst (v := 0) S.x S.b d_Mpg_readToken_209 (by decide) ?_
            refine lv_istore (lv' := [(4, .int 0), (3, .int 0), (2, .int v77), (0, .ref h), (1, .int p0)]) S.x S.b d_Mpg_readToken_210 hl (by decide) rfl (fun ls hl => ?_)
            first | exact J212 ((44 - (0 : Int)).toNat + 1) (0 : Int32) _ _ ls (show 0 ≤ (0 : Int) from by first | decide | omega) (show (0 : Int) ≤ 43 from by first | decide | omega) (show 44 - (0 : Int) < ((((44 - (0 : Int)).toNat + 1 : Nat) : Int) : Int) from oz_natlt) hw (lv_sub hl [3, 4, 0] rfl) | exact J212 ((44 - (0 : Int)).toNat + 1) (0 : Int32) _ _ ls (show 0 ≤ (0 : Int) from by first | decide | omega) (show (0 : Int) ≤ 43 from by first | decide | omega) (show 44 - (0 : Int) < ((((44 - (0 : Int)).toNat + 1 : Nat) : Int) : Int) from by first | exact oz_natlt | omega) hw (lv_sub hl [3, 4, 0] rfl)
          · have nc94 : v77.toInt = (47 : Int) := (i_eq (x := v77) (y := 47)).mp c94
            refine lv_aload_n S.x S.b d_Mpg_readToken_195 rfl (lv_at hl 2 rfl) ?_
            refine lv_iload_n S.x S.b d_Mpg_readToken_196 rfl (lv_at hl 3 rfl) ?_
            refine lv_iconst (v := 1) S.x S.b d_Mpg_readToken_197 (by decide) ?_
            refine lv_iadd S.x S.b d_Mpg_readToken_198 ?_
            refine lv_topi (fun z95 ez95 => ?_)
            have tz95 : z95.toInt = (p0.toInt + (1 : Int) + 2147483648) % 4294967296 - 2147483648 := by rw [ez95]; exact i_add p0 1
            have lz95 := Int32.le_toInt z95
            have uz95 := Int32.toInt_lt z95
            try replace tz95 : z95.toInt = p0.toInt + (1 : Int) := by omega
            first | refine px_calli (pr := []) (px_runV (As := [.int z95]) (rest := []) S (c_mp_byteAt l D cs h r g tf ta pf na ma wa cf ca ef ea xf xa z95  (show 0 ≤ (tf 5).toInt from g0) (show (tf 5).toInt ≤ 2048 from g1) (show 0 ≤ z95.toInt from (oz_b3b25f0e49 tz95 g2)) _) hT (pr := []) (pcs := [wdP cs h r g tf ta pf na ma wa cf ca ef ea xf xa]) hw px_X.tt (px_recv hT hw 0 0 rfl rfl rfl) m11_142 m11_139 m11_141 ms_7_15 m1_21 q_Mpg_byteAt ⟨Nat.le_of_ble_eq_true rfl, Nat.le_of_ble_eq_true rfl⟩ hl.1 rfl (Nat.le_of_ble_eq_true rfl) d_Mpg_readToken_199 ⟨Nat.le_of_ble_eq_true rfl, Nat.le_of_ble_eq_true rfl⟩) hw hA (fun v97 p96 H locs hp96 hw => ?_) | refine px_calli (pr := []) (px_runV (As := [.int z95]) (rest := []) S (c_mp_byteAt l D cs h r g tf ta pf na ma wa cf ca ef ea xf xa z95  (show 0 ≤ (tf 5).toInt from by first | exact g0 | omega) (show (tf 5).toInt ≤ 2048 from by first | exact g1 | omega) (show 0 ≤ z95.toInt from by first | exact oz_b3b25f0e49 tz95 g2 | omega) _) hT (pr := []) (pcs := [wdP cs h r g tf ta pf na ma wa cf ca ef ea xf xa]) hw px_X.tt (px_recv hT hw 0 0 rfl rfl rfl) m11_142 m11_139 m11_141 ms_7_15 m1_21 q_Mpg_byteAt ⟨Nat.le_of_ble_eq_true rfl, Nat.le_of_ble_eq_true rfl⟩ hl.1 rfl (Nat.le_of_ble_eq_true rfl) d_Mpg_readToken_199 ⟨Nat.le_of_ble_eq_true rfl, Nat.le_of_ble_eq_true rfl⟩) hw hA (fun v97 p96 H locs hp96 hw => ?_)
            obtain ⟨rfl, e98, e99⟩ := hp96
            have e98 : z95.toInt < (tf 5).toInt ∨ v97.toInt = -1 := e98
            have e99 : BtV ta (tf 5).toInt z95.toInt v97.toInt := e99
            have lv97 := Int32.le_toInt v97
            have uv97 := Int32.toInt_lt v97
            refine lv_bipush (v := 42) S.x S.b d_Mpg_readToken_202 (by decide) ?_
            refine lv_icmp_ne (tgt := 209) S.x S.b d_Mpg_readToken_204 (by decide) (fun c100 => ?_) (fun c100 => ?_)
            · have nc100 : ¬ v97.toInt = (42 : Int) := mt (i_eq (x := v97) (y := 42)).mpr c100
              refine lv_iconst (v := 0) S.x S.b d_Mpg_readToken_209 (by decide) ?_
              refine lv_istore (lv' := [(4, .int 0), (3, .int 0), (2, .int v77), (0, .ref h), (1, .int p0)]) S.x S.b d_Mpg_readToken_210 hl (by decide) rfl (fun ls hl => ?_)
              first | exact J212 ((44 - (0 : Int)).toNat + 1) (0 : Int32) _ _ ls (show 0 ≤ (0 : Int) from by first | decide | omega) (show (0 : Int) ≤ 43 from by first | decide | omega) (show 44 - (0 : Int) < ((((44 - (0 : Int)).toNat + 1 : Nat) : Int) : Int) from oz_natlt) hw (lv_sub hl [3, 4, 0] rfl) | exact J212 ((44 - (0 : Int)).toNat + 1) (0 : Int32) _ _ ls (show 0 ≤ (0 : Int) from by first | decide | omega) (show (0 : Int) ≤ 43 from by first | decide | omega) (show 44 - (0 : Int) < ((((44 - (0 : Int)).toNat + 1 : Nat) : Int) : Int) from by first | exact oz_natlt | omega) hw (lv_sub hl [3, 4, 0] rfl)
            · have nc100 : v97.toInt = (42 : Int) := (i_eq (x := v97) (y := 42)).mp c100
              refine lv_iconst (v := 0) S.x S.b d_Mpg_readToken_207 (by decide) ?_
              first | exact px_iret (v := 0) S hr rfl hlk hAe hw (Nat.le_of_ble_eq_true rfl) (Nat.le_of_ble_eq_true rfl) (⟨tf, ta, rfl, (show (0 : Int32) = 0 ∨ (0 : Int32) = 1 from by first | exact Or.inl rfl | exact Or.inr rfl | exact z_or (by first | with_reducible rfl | with_reducible assumption | omega)), (show (tf 5).toInt = (tf 5).toInt from rfl), (show (tf 6).toInt ≤ (tf 6).toInt from oz_1cb5f934a5), (show (tf 6).toInt ≤ (tf 6).toInt + 1 from oz_ae0d7c4baf), (show (0 : Int) = 1 → (tf 6).toInt = (tf 6).toInt + 1 from by first | with_reducible rfl | with_reducible assumption | omega), (show RdK (tf 5).toInt ta (tf 6) (0 : Int32) p0 from (by first | exact rdk_n htp (by assumption) (by first | with_reducible rfl | with_reducible assumption | omega) (by first | with_reducible rfl | with_reducible assumption | omega) | exact rdk_0 htp (by first | with_reducible rfl | with_reducible assumption | omega)))⟩) d_Mpg_readToken_208 | exact px_iret (v := 0) S hr rfl hlk hAe hw (Nat.le_of_ble_eq_true rfl) (Nat.le_of_ble_eq_true rfl) (⟨tf, ta, rfl, (show (0 : Int32) = 0 ∨ (0 : Int32) = 1 from by first | exact Or.inl rfl | exact Or.inr rfl | exact z_or (by first | with_reducible rfl | with_reducible assumption | omega)), (show (tf 5).toInt = (tf 5).toInt from rfl), (show (tf 6).toInt ≤ (tf 6).toInt from by first | exact oz_1cb5f934a5 | omega), (show (tf 6).toInt ≤ (tf 6).toInt + 1 from by first | exact oz_ae0d7c4baf | omega), (show (0 : Int) = 1 → (tf 6).toInt = (tf 6).toInt + 1 from by first | with_reducible rfl | with_reducible assumption | omega), (show RdK (tf 5).toInt ta (tf 6) (0 : Int32) p0 from (by first | exact rdk_n htp (by assumption) (by first | with_reducible rfl | with_reducible assumption | omega) (by first | with_reducible rfl | with_reducible assumption | omega) | exact rdk_0 htp (by first | with_reducible rfl | with_reducible assumption | omega)))⟩) d_Mpg_readToken_208
        · have nc93 : v77.toInt = (34 : Int) := (i_eq (x := v77) (y := 34)).mp c93
          refine lv_aload_n S.x S.b d_Mpg_readToken_183 rfl (lv_at hl 2 rfl) ?_
          refine lv_iload_n S.x S.b d_Mpg_readToken_184 rfl (lv_at hl 3 rfl) ?_
          first | refine px_calli (pr := []) (px_runV (As := [.int p0]) (rest := []) S (c_mp_readString l D cs h r g pf na ma wa cf ca ef ea xf xa tf ta p0  (show 0 ≤ (tf 5).toInt from g0) (show (tf 5).toInt ≤ 2048 from g1) (show 0 ≤ p0.toInt from g2) (show p0.toInt < (tf 5).toInt from g3) (show 0 ≤ (tf 6).toInt from g4) (show (tf 6).toInt ≤ p0.toInt from g5) (by first | assumption | exact htp) _) hT (pr := []) (pcs := [wdP cs h r g tf ta pf na ma wa cf ca ef ea xf xa]) hw px_X.tt (px_recv hT hw 0 0 rfl rfl rfl) m11_184 m11_181 m11_183 ms_8_6 m1_21 q_Mpg_readString ⟨Nat.le_of_ble_eq_true rfl, Nat.le_of_ble_eq_true rfl⟩ hl.1 rfl (Nat.le_of_ble_eq_true rfl) d_Mpg_readToken_185 ⟨Nat.le_of_ble_eq_true rfl, Nat.le_of_ble_eq_true rfl⟩) hw hA (fun v106 p105 H locs hp105 hw => ?_) | refine px_calli (pr := []) (px_runV (As := [.int p0]) (rest := []) S (c_mp_readString l D cs h r g pf na ma wa cf ca ef ea xf xa tf ta p0  (show 0 ≤ (tf 5).toInt from by first | exact g0 | omega) (show (tf 5).toInt ≤ 2048 from by first | exact g1 | omega) (show 0 ≤ p0.toInt from by first | exact g2 | omega) (show p0.toInt < (tf 5).toInt from by first | exact g3 | omega) (show 0 ≤ (tf 6).toInt from by first | exact g4 | omega) (show (tf 6).toInt ≤ p0.toInt from by first | exact g5 | omega) (by first | assumption | exact htp) _) hT (pr := []) (pcs := [wdP cs h r g tf ta pf na ma wa cf ca ef ea xf xa]) hw px_X.tt (px_recv hT hw 0 0 rfl rfl rfl) m11_184 m11_181 m11_183 ms_8_6 m1_21 q_Mpg_readString ⟨Nat.le_of_ble_eq_true rfl, Nat.le_of_ble_eq_true rfl⟩ hl.1 rfl (Nat.le_of_ble_eq_true rfl) d_Mpg_readToken_185 ⟨Nat.le_of_ble_eq_true rfl, Nat.le_of_ble_eq_true rfl⟩) hw hA (fun v106 p105 H locs hp105 hw => ?_)
          obtain ⟨tf103, ta104, rfl, e107, e108, e109, e110, e111, e112⟩ := hp105
          have e107 := z_rng e107
          have e108 : (tf103 5).toInt = (tf 5).toInt := e108
          have e109 : (tf 6).toInt ≤ (tf103 6).toInt := e109
          have e110 : (tf103 6).toInt ≤ (tf 6).toInt + 1 := e110
          have e111 : v106.toInt = 1 → (tf103 6).toInt = (tf 6).toInt + 1 := e111
          have e112 : RdK (tf 5).toInt ta104 (tf 6) v106 p0 := e112
          have lv106 := Int32.le_toInt v106
          have uv106 := Int32.toInt_lt v106
          first | exact px_iret (v := v106) S hr (z_nar (by first | with_reducible rfl | with_reducible assumption | omega)) hlk hAe hw (Nat.le_of_ble_eq_true rfl) (Nat.le_of_ble_eq_true rfl) (⟨tf103, ta104, rfl, (show v106 = 0 ∨ v106 = 1 from by first | exact Or.inl rfl | exact Or.inr rfl | exact z_or (by first | with_reducible rfl | with_reducible assumption | omega)), (show (tf103 5).toInt = (tf 5).toInt from e108), (show (tf 6).toInt ≤ (tf103 6).toInt from e109), (show (tf103 6).toInt ≤ (tf 6).toInt + 1 from e110), (show v106.toInt = 1 → (tf103 6).toInt = (tf 6).toInt + 1 from e111), (show RdK (tf 5).toInt ta104 (tf 6) v106 p0 from (by assumption))⟩) d_Mpg_readToken_188 | exact px_iret (v := v106) S hr (z_nar (by first | with_reducible rfl | with_reducible assumption | omega)) hlk hAe hw (Nat.le_of_ble_eq_true rfl) (Nat.le_of_ble_eq_true rfl) (⟨tf103, ta104, rfl, (show v106 = 0 ∨ v106 = 1 from by first | exact Or.inl rfl | exact Or.inr rfl | exact z_or (by first | with_reducible rfl | with_reducible assumption | omega)), (show (tf103 5).toInt = (tf 5).toInt from by first | exact e108 | omega), (show (tf 6).toInt ≤ (tf103 6).toInt from by first | exact e109 | omega), (show (tf103 6).toInt ≤ (tf 6).toInt + 1 from by first | exact e110 | omega), (show v106.toInt = 1 → (tf103 6).toInt = (tf 6).toInt + 1 from by first | exact e111 | omega), (show RdK (tf 5).toInt ta104 (tf 6) v106 p0 from (by assumption))⟩) d_Mpg_readToken_188
      · have nc92 : v77.toInt = (39 : Int) := (i_eq (x := v77) (y := 39)).mp c92
        refine lv_aload_n S.x S.b d_Mpg_readToken_104 rfl (lv_at hl 2 rfl) ?_
        refine lv_iload_n S.x S.b d_Mpg_readToken_105 rfl (lv_at hl 3 rfl) ?_
        refine lv_iconst (v := 1) S.x S.b d_Mpg_readToken_106 (by decide) ?_
        refine lv_iadd S.x S.b d_Mpg_readToken_107 ?_
        refine lv_topi (fun z113 ez113 => ?_)
        have tz113 : z113.toInt = (p0.toInt + (1 : Int) + 2147483648) % 4294967296 - 2147483648 := by rw [ez113]; exact i_add p0 1
        have lz113 := Int32.le_toInt z113
        have uz113 := Int32.toInt_lt z113
        try replace tz113 : z113.toInt = p0.toInt + (1 : Int) := by omega
        refine lv_bipush (v := 39) S.x S.b d_Mpg_readToken_108 (by decide) ?_
        first | refine px_calli (pr := []) (px_runV (As := [.int z113, .int 39]) (rest := []) S (c_mp_character l D cs h r g tf ta pf na ma wa cf ca ef ea xf xa z113 39  (show 0 ≤ (tf 5).toInt from g0) (show (tf 5).toInt ≤ 2048 from g1) (show 0 ≤ z113.toInt from (oz_b3b25f0e49 tz113 g2)) (show z113.toInt ≤ 100000 from (oz_f878e4a551 tz113 g3 g1)) (show 0 ≤ (39 : Int) from by first | decide | omega) (show (39 : Int) ≤ 100 from by first | decide | omega) _) hT (pr := []) (pcs := [wdP cs h r g tf ta pf na ma wa cf ca ef ea xf xa]) hw px_X.tt (px_recv hT hw 0 0 rfl rfl rfl) m11_180 m11_177 m11_179 ms_8_5 m1_21 q_Mpg_character ⟨Nat.le_of_ble_eq_true rfl, Nat.le_of_ble_eq_true rfl⟩ hl.1 rfl (Nat.le_of_ble_eq_true rfl) d_Mpg_readToken_110 ⟨Nat.le_of_ble_eq_true rfl, Nat.le_of_ble_eq_true rfl⟩) hw hA (fun v115 p114 H locs hp114 hw => ?_) | refine px_calli (pr := []) (px_runV (As := [.int z113, .int 39]) (rest := []) S (c_mp_character l D cs h r g tf ta pf na ma wa cf ca ef ea xf xa z113 39  (show 0 ≤ (tf 5).toInt from by first | exact g0 | omega) (show (tf 5).toInt ≤ 2048 from by first | exact g1 | omega) (show 0 ≤ z113.toInt from by first | exact oz_b3b25f0e49 tz113 g2 | omega) (show z113.toInt ≤ 100000 from by first | exact oz_f878e4a551 tz113 g3 g1 | omega) (show 0 ≤ (39 : Int) from by first | decide | omega) (show (39 : Int) ≤ 100 from by first | decide | omega) _) hT (pr := []) (pcs := [wdP cs h r g tf ta pf na ma wa cf ca ef ea xf xa]) hw px_X.tt (px_recv hT hw 0 0 rfl rfl rfl) m11_180 m11_177 m11_179 ms_8_5 m1_21 q_Mpg_character ⟨Nat.le_of_ble_eq_true rfl, Nat.le_of_ble_eq_true rfl⟩ hl.1 rfl (Nat.le_of_ble_eq_true rfl) d_Mpg_readToken_110 ⟨Nat.le_of_ble_eq_true rfl, Nat.le_of_ble_eq_true rfl⟩) hw hA (fun v115 p114 H locs hp114 hw => ?_)
        obtain ⟨rfl, e116, e117, e118, e119⟩ := hp114
        have e116 : -1 ≤ v115.toInt := e116
        have e117 : v115.toInt ≤ 1126 := e117
        have e118 : 0 ≤ v115.toInt → z113.toInt < (tf 5).toInt := e118
        have e119 : 1000 ≤ v115.toInt → z113.toInt + 1 < (tf 5).toInt := e119
        have lv115 := Int32.le_toInt v115
        have uv115 := Int32.toInt_lt v115
        refine lv_istore (lv' := [(4, .int v115), (3, .int 0), (2, .int v77), (0, .ref h), (1, .int p0)]) S.x S.b d_Mpg_readToken_113 hl (by decide) rfl (fun ls hl => ?_)
        refine lv_iload S.x S.b d_Mpg_readToken_115 (lv_at hl 0 rfl) ?_
        refine lv_if_ge (tgt := 124) S.x S.b d_Mpg_readToken_117 (by decide) (fun c120 => ?_) (fun c120 => ?_)
        · have nc120 : (0 : Int) ≤ v115.toInt := (i_le (x := 0) (y := v115)).mp c120
          refine lv_iload S.x S.b d_Mpg_readToken_124 (lv_at hl 0 rfl) ?_
          refine lv_sipush (v := 1000) S.x S.b d_Mpg_readToken_126 (by decide) ?_
          refine lv_icmp_ge (tgt := 136) S.x S.b d_Mpg_readToken_129 (by decide) (fun c121 => ?_) (fun c121 => ?_)
          · have nc121 : (1000 : Int) ≤ v115.toInt := (i_le (x := 1000) (y := v115)).mp c121
            refine lv_iconst (v := 2) S.x S.b d_Mpg_readToken_136 (by decide) ?_
            refine lv_istore_n (lv' := [(3, .int 2), (4, .int v115), (2, .int v77), (0, .ref h), (1, .int p0)]) S.x S.b d_Mpg_readToken_137 rfl hl (by decide) rfl (fun ls hl => ?_)
            refine lv_aload_n S.x S.b d_Mpg_readToken_138 rfl (lv_at hl 3 rfl) ?_
            refine lv_iload_n S.x S.b d_Mpg_readToken_139 rfl (lv_at hl 4 rfl) ?_
            refine lv_iload_n S.x S.b d_Mpg_readToken_140 rfl (lv_at hl 0 rfl) ?_
            refine lv_iconst (v := 2) S.x S.b d_Mpg_readToken_141 (by decide) ?_
            refine lv_iadd S.x S.b d_Mpg_readToken_142 ?_
            refine lv_topi (fun z122 ez122 => ?_)
            have tz122 : z122.toInt = ((2 : Int) + (2 : Int) + 2147483648) % 4294967296 - 2147483648 := by rw [ez122]; exact i_add 2 2
            have lz122 := Int32.le_toInt z122
            have uz122 := Int32.toInt_lt z122
            try replace tz122 : z122.toInt = (2 : Int) + (2 : Int) := by omega
            refine lv_iconst (v := 3) S.x S.b d_Mpg_readToken_143 (by decide) ?_
            refine lv_iload S.x S.b d_Mpg_readToken_144 (lv_at hl 1 rfl) ?_
            refine lv_sipush (v := 1000) S.x S.b d_Mpg_readToken_146 (by decide) ?_
            refine lv_irem S.x S.b d_Mpg_readToken_149 (fun hz0 => by have hz1 := i_eq.mp hz0; omega) ?_
            refine lv_topi (fun z123 ez123 => ?_)
            have lz123 := Int32.le_toInt z123
            have uz123 := Int32.toInt_lt z123
            first | refine px_callv (pr := []) (px_runV (As := [.int p0, .int z122, .int 3, .int z123]) (rest := []) S (c_mp_token l D cs h r g pf na ma wa cf ca ef ea xf xa tf ta p0 z122 3 z123  (show 0 ≤ (tf 6).toInt from g4) (show (tf 6).toInt ≤ 2059 from (oz_9dfb4af2f5 g5 g3 g1)) _) hT (pr := []) (pcs := [wdP cs h r g tf ta pf na ma wa cf ca ef ea xf xa]) hw px_X.tt (px_recv hT hw 0 0 rfl rfl rfl) m11_166 m11_163 m11_165 ms_8_3 m1_21 q_Mpg_token ⟨Nat.le_of_ble_eq_true rfl, Nat.le_of_ble_eq_true rfl⟩ hl.1 rfl (Nat.le_of_ble_eq_true rfl) d_Mpg_readToken_150 ⟨Nat.le_of_ble_eq_true rfl, Nat.le_of_ble_eq_true rfl⟩) hw hA (fun p128 H locs hp128 hw => ?_) | refine px_callv (pr := []) (px_runV (As := [.int p0, .int z122, .int 3, .int z123]) (rest := []) S (c_mp_token l D cs h r g pf na ma wa cf ca ef ea xf xa tf ta p0 z122 3 z123  (show 0 ≤ (tf 6).toInt from by first | exact g4 | omega) (show (tf 6).toInt ≤ 2059 from by first | exact oz_9dfb4af2f5 g5 g3 g1 | omega) _) hT (pr := []) (pcs := [wdP cs h r g tf ta pf na ma wa cf ca ef ea xf xa]) hw px_X.tt (px_recv hT hw 0 0 rfl rfl rfl) m11_166 m11_163 m11_165 ms_8_3 m1_21 q_Mpg_token ⟨Nat.le_of_ble_eq_true rfl, Nat.le_of_ble_eq_true rfl⟩ hl.1 rfl (Nat.le_of_ble_eq_true rfl) d_Mpg_readToken_150 ⟨Nat.le_of_ble_eq_true rfl, Nat.le_of_ble_eq_true rfl⟩) hw hA (fun p128 H locs hp128 hw => ?_)
            obtain ⟨tf126, ta127, rfl, e130, e131, e132⟩ := hp128
            have e130 : (tf126 6).toInt = (tf 6).toInt + 1 := e130
            have e131 : (tf126 5).toInt = (tf 5).toInt := e131
            have e132 : TkU ta ta127 (tf 6) p0 z122 (3 : Int32) z123 := e132
            refine lv_iload_n S.x S.b d_Mpg_readToken_153 rfl (lv_at hl 0 rfl) ?_
            refine lv_if_le (tgt := 175) S.x S.b d_Mpg_readToken_154 (by decide) (fun c133 => ?_) (fun c133 => ?_)
            · exact absurd c133 (by decide)
            ·
              refine lv_aload_n S.x S.b d_Mpg_readToken_157 rfl (lv_at hl 3 rfl) ?_
              refine lv_iload_n S.x S.b d_Mpg_readToken_158 rfl (lv_at hl 4 rfl) ?_
              refine lv_iconst (v := 1) S.x S.b d_Mpg_readToken_159 (by decide) ?_
              refine lv_iadd S.x S.b d_Mpg_readToken_160 ?_
              refine lv_topi (fun z134 ez134 => ?_)
              have tz134 : z134.toInt = (p0.toInt + (1 : Int) + 2147483648) % 4294967296 - 2147483648 := by rw [ez134]; exact i_add p0 1
              have lz134 := Int32.le_toInt z134
              have uz134 := Int32.toInt_lt z134
              try replace tz134 : z134.toInt = p0.toInt + (1 : Int) := by omega
              refine lv_iload_n S.x S.b d_Mpg_readToken_161 rfl (lv_at hl 0 rfl) ?_
              refine lv_iadd S.x S.b d_Mpg_readToken_162 ?_
              refine lv_topi (fun z135 ez135 => ?_)
              have tz135 : z135.toInt = (z134.toInt + (2 : Int) + 2147483648) % 4294967296 - 2147483648 := by rw [ez135]; exact i_add z134 2
              have lz135 := Int32.le_toInt z135
              have uz135 := Int32.toInt_lt z135
              try replace tz135 : z135.toInt = z134.toInt + (2 : Int) := by omega
              first | refine px_calli (pr := []) (px_runV (As := [.int z135]) (rest := []) S (c_mp_byteAt l D cs h r g tf126 ta127 pf na ma wa cf ca ef ea xf xa z135  (show 0 ≤ (tf126 5).toInt from (oz_f3ebed1ad0 e131 g0)) (show (tf126 5).toInt ≤ 2048 from (oz_508e595d19 e131 g1)) (show 0 ≤ z135.toInt from (oz_676ddfcb1b tz135 tz134 g2)) _) hT (pr := []) (pcs := [wdP cs h r g tf126 ta127 pf na ma wa cf ca ef ea xf xa]) hw px_X.tt (px_recv hT hw 0 0 rfl rfl rfl) m11_142 m11_139 m11_141 ms_7_15 m1_21 q_Mpg_byteAt ⟨Nat.le_of_ble_eq_true rfl, Nat.le_of_ble_eq_true rfl⟩ hl.1 rfl (Nat.le_of_ble_eq_true rfl) d_Mpg_readToken_163 ⟨Nat.le_of_ble_eq_true rfl, Nat.le_of_ble_eq_true rfl⟩) hw hA (fun v137 p136 H locs hp136 hw => ?_) | refine px_calli (pr := []) (px_runV (As := [.int z135]) (rest := []) S (c_mp_byteAt l D cs h r g tf126 ta127 pf na ma wa cf ca ef ea xf xa z135  (show 0 ≤ (tf126 5).toInt from by first | exact oz_f3ebed1ad0 e131 g0 | omega) (show (tf126 5).toInt ≤ 2048 from by first | exact oz_508e595d19 e131 g1 | omega) (show 0 ≤ z135.toInt from by first | exact oz_676ddfcb1b tz135 tz134 g2 | omega) _) hT (pr := []) (pcs := [wdP cs h r g tf126 ta127 pf na ma wa cf ca ef ea xf xa]) hw px_X.tt (px_recv hT hw 0 0 rfl rfl rfl) m11_142 m11_139 m11_141 ms_7_15 m1_21 q_Mpg_byteAt ⟨Nat.le_of_ble_eq_true rfl, Nat.le_of_ble_eq_true rfl⟩ hl.1 rfl (Nat.le_of_ble_eq_true rfl) d_Mpg_readToken_163 ⟨Nat.le_of_ble_eq_true rfl, Nat.le_of_ble_eq_true rfl⟩) hw hA (fun v137 p136 H locs hp136 hw => ?_)
              obtain ⟨rfl, e138, e139⟩ := hp136
              have e138 : z135.toInt < (tf126 5).toInt ∨ v137.toInt = -1 := e138
              have e139 : BtV ta127 (tf126 5).toInt z135.toInt v137.toInt := e139
              have lv137 := Int32.le_toInt v137
              have uv137 := Int32.toInt_lt v137
              refine lv_bipush (v := 39) S.x S.b d_Mpg_readToken_166 (by decide) ?_
              refine lv_icmp_ne (tgt := 175) S.x S.b d_Mpg_readToken_168 (by decide) (fun c140 => ?_) (fun c140 => ?_)
              · have nc140 : ¬ v137.toInt = (39 : Int) := mt (i_eq (x := v137) (y := 39)).mpr c140
                refine lv_iconst (v := 0) S.x S.b d_Mpg_readToken_175 (by decide) ?_
                first | exact px_iret (v := 0) S hr rfl hlk hAe hw (Nat.le_of_ble_eq_true rfl) (Nat.le_of_ble_eq_true rfl) (⟨tf126, ta127, rfl, (show (0 : Int32) = 0 ∨ (0 : Int32) = 1 from by first | exact Or.inl rfl | exact Or.inr rfl | exact z_or (by first | with_reducible rfl | with_reducible assumption | omega)), (show (tf126 5).toInt = (tf 5).toInt from e131), (show (tf 6).toInt ≤ (tf126 6).toInt from (oz_7db54039c4 e130)), (show (tf126 6).toInt ≤ (tf 6).toInt + 1 from (oz_6ad8cf7f07 e130)), (show (0 : Int) = 1 → (tf126 6).toInt = (tf 6).toInt + 1 from by first | with_reducible rfl | with_reducible assumption | omega), (show RdK (tf 5).toInt ta127 (tf 6) (0 : Int32) p0 from (by first | exact rdk_n htp (by assumption) (by first | with_reducible rfl | with_reducible assumption | omega) (by first | with_reducible rfl | with_reducible assumption | omega) | exact rdk_0 htp (by first | with_reducible rfl | with_reducible assumption | omega)))⟩) d_Mpg_readToken_176 | exact px_iret (v := 0) S hr rfl hlk hAe hw (Nat.le_of_ble_eq_true rfl) (Nat.le_of_ble_eq_true rfl) (⟨tf126, ta127, rfl, (show (0 : Int32) = 0 ∨ (0 : Int32) = 1 from by first | exact Or.inl rfl | exact Or.inr rfl | exact z_or (by first | with_reducible rfl | with_reducible assumption | omega)), (show (tf126 5).toInt = (tf 5).toInt from by first | exact e131 | omega), (show (tf 6).toInt ≤ (tf126 6).toInt from by first | exact oz_7db54039c4 e130 | omega), (show (tf126 6).toInt ≤ (tf 6).toInt + 1 from by first | exact oz_6ad8cf7f07 e130 | omega), (show (0 : Int) = 1 → (tf126 6).toInt = (tf 6).toInt + 1 from by first | with_reducible rfl | with_reducible assumption | omega), (show RdK (tf 5).toInt ta127 (tf 6) (0 : Int32) p0 from (by first | exact rdk_n htp (by assumption) (by first | with_reducible rfl | with_reducible assumption | omega) (by first | with_reducible rfl | with_reducible assumption | omega) | exact rdk_0 htp (by first | with_reducible rfl | with_reducible assumption | omega)))⟩) d_Mpg_readToken_176
              · have nc140 : v137.toInt = (39 : Int) := (i_eq (x := v137) (y := 39)).mp c140
                refine lv_iconst (v := 1) S.x S.b d_Mpg_readToken_171 (by decide) ?_
                refine lv_goto (tgt := 176) S.x S.b d_Mpg_readToken_172 (by decide) ?_
                first | exact px_iret (v := 1) S hr rfl hlk hAe hw (Nat.le_of_ble_eq_true rfl) (Nat.le_of_ble_eq_true rfl) (⟨tf126, ta127, rfl, (show (1 : Int32) = 0 ∨ (1 : Int32) = 1 from by first | exact Or.inl rfl | exact Or.inr rfl | exact z_or (by first | with_reducible rfl | with_reducible assumption | omega)), (show (tf126 5).toInt = (tf 5).toInt from e131), (show (tf 6).toInt ≤ (tf126 6).toInt from (oz_7db54039c4 e130)), (show (tf126 6).toInt ≤ (tf 6).toInt + 1 from (oz_6ad8cf7f07 e130)), (show (1 : Int) = 1 → (tf126 6).toInt = (tf 6).toInt + 1 from by first | with_reducible rfl | with_reducible assumption | omega), (show RdK (tf 5).toInt ta127 (tf 6) (1 : Int32) p0 from (rdk_y htp (by assumption) (by first | with_reducible rfl | with_reducible assumption | omega) ⟨⟨by first | with_reducible rfl | with_reducible assumption | omega, by first | with_reducible rfl | with_reducible assumption | omega⟩, ⟨by first | with_reducible rfl | with_reducible assumption | omega, by first | with_reducible rfl | with_reducible assumption | omega, by first | with_reducible rfl | with_reducible assumption | omega⟩, fun h => ⟨by first | with_reducible rfl | with_reducible assumption | omega, by first | with_reducible rfl | with_reducible assumption | omega, by first | with_reducible rfl | with_reducible assumption | omega⟩, fun h => ⟨by first | with_reducible rfl | with_reducible assumption | omega, by first | with_reducible rfl | with_reducible assumption | omega, by first | with_reducible rfl | with_reducible assumption | omega⟩, fun h => ⟨by first | with_reducible rfl | with_reducible assumption | omega, by first | with_reducible rfl | with_reducible assumption | omega, by first | with_reducible rfl | with_reducible assumption | omega⟩⟩))⟩) d_Mpg_readToken_176 | exact px_iret (v := 1) S hr rfl hlk hAe hw (Nat.le_of_ble_eq_true rfl) (Nat.le_of_ble_eq_true rfl) (⟨tf126, ta127, rfl, (show (1 : Int32) = 0 ∨ (1 : Int32) = 1 from by first | exact Or.inl rfl | exact Or.inr rfl | exact z_or (by first | with_reducible rfl | with_reducible assumption | omega)), (show (tf126 5).toInt = (tf 5).toInt from by first | exact e131 | omega), (show (tf 6).toInt ≤ (tf126 6).toInt from by first | exact oz_7db54039c4 e130 | omega), (show (tf126 6).toInt ≤ (tf 6).toInt + 1 from by first | exact oz_6ad8cf7f07 e130 | omega), (show (1 : Int) = 1 → (tf126 6).toInt = (tf 6).toInt + 1 from by first | with_reducible rfl | with_reducible assumption | omega), (show RdK (tf 5).toInt ta127 (tf 6) (1 : Int32) p0 from (rdk_y htp (by assumption) (by first | with_reducible rfl | with_reducible assumption | omega) ⟨⟨by first | with_reducible rfl | with_reducible assumption | omega, by first | with_reducible rfl | with_reducible assumption | omega⟩, ⟨by first | with_reducible rfl | with_reducible assumption | omega, by first | with_reducible rfl | with_reducible assumption | omega, by first | with_reducible rfl | with_reducible assumption | omega⟩, fun h => ⟨by first | with_reducible rfl | with_reducible assumption | omega, by first | with_reducible rfl | with_reducible assumption | omega, by first | with_reducible rfl | with_reducible assumption | omega⟩, fun h => ⟨by first | with_reducible rfl | with_reducible assumption | omega, by first | with_reducible rfl | with_reducible assumption | omega, by first | with_reducible rfl | with_reducible assumption | omega⟩, fun h => ⟨by first | with_reducible rfl | with_reducible assumption | omega, by first | with_reducible rfl | with_reducible assumption | omega, by first | with_reducible rfl | with_reducible assumption | omega⟩⟩))⟩) d_Mpg_readToken_176
          · have nc121 : ¬ (1000 : Int) ≤ v115.toInt := mt (i_le (x := 1000) (y := v115)).mpr c121
            refine lv_iconst (v := 1) S.x S.b d_Mpg_readToken_132 (by decide) ?_
            refine lv_goto (tgt := 137) S.x S.b d_Mpg_readToken_133 (by decide) ?_
            refine lv_istore_n (lv' := [(3, .int 1), (4, .int v115), (2, .int v77), (0, .ref h), (1, .int p0)]) S.x S.b d_Mpg_readToken_137 rfl hl (by decide) rfl (fun ls hl => ?_)
            refine lv_aload_n S.x S.b d_Mpg_readToken_138 rfl (lv_at hl 3 rfl) ?_
            refine lv_iload_n S.x S.b d_Mpg_readToken_139 rfl (lv_at hl 4 rfl) ?_
            refine lv_iload_n S.x S.b d_Mpg_readToken_140 rfl (lv_at hl 0 rfl) ?_
            refine lv_iconst (v := 2) S.x S.b d_Mpg_readToken_141 (by decide) ?_
            refine lv_iadd S.x S.b d_Mpg_readToken_142 ?_
            refine lv_topi (fun z141 ez141 => ?_)
            have tz141 : z141.toInt = ((1 : Int) + (2 : Int) + 2147483648) % 4294967296 - 2147483648 := by rw [ez141]; exact i_add 1 2
            have lz141 := Int32.le_toInt z141
            have uz141 := Int32.toInt_lt z141
            try replace tz141 : z141.toInt = (1 : Int) + (2 : Int) := by omega
            refine lv_iconst (v := 3) S.x S.b d_Mpg_readToken_143 (by decide) ?_
            refine lv_iload S.x S.b d_Mpg_readToken_144 (lv_at hl 1 rfl) ?_
            refine lv_sipush (v := 1000) S.x S.b d_Mpg_readToken_146 (by decide) ?_
            refine lv_irem S.x S.b d_Mpg_readToken_149 (fun hz0 => by have hz1 := i_eq.mp hz0; omega) ?_
            refine lv_topi (fun z142 ez142 => ?_)
            have lz142 := Int32.le_toInt z142
            have uz142 := Int32.toInt_lt z142
            first | refine px_callv (pr := []) (px_runV (As := [.int p0, .int z141, .int 3, .int z142]) (rest := []) S (c_mp_token l D cs h r g pf na ma wa cf ca ef ea xf xa tf ta p0 z141 3 z142  (show 0 ≤ (tf 6).toInt from g4) (show (tf 6).toInt ≤ 2059 from (oz_9dfb4af2f5 g5 g3 g1)) _) hT (pr := []) (pcs := [wdP cs h r g tf ta pf na ma wa cf ca ef ea xf xa]) hw px_X.tt (px_recv hT hw 0 0 rfl rfl rfl) m11_166 m11_163 m11_165 ms_8_3 m1_21 q_Mpg_token ⟨Nat.le_of_ble_eq_true rfl, Nat.le_of_ble_eq_true rfl⟩ hl.1 rfl (Nat.le_of_ble_eq_true rfl) d_Mpg_readToken_150 ⟨Nat.le_of_ble_eq_true rfl, Nat.le_of_ble_eq_true rfl⟩) hw hA (fun p147 H locs hp147 hw => ?_) | refine px_callv (pr := []) (px_runV (As := [.int p0, .int z141, .int 3, .int z142]) (rest := []) S (c_mp_token l D cs h r g pf na ma wa cf ca ef ea xf xa tf ta p0 z141 3 z142  (show 0 ≤ (tf 6).toInt from by first | exact g4 | omega) (show (tf 6).toInt ≤ 2059 from by first | exact oz_9dfb4af2f5 g5 g3 g1 | omega) _) hT (pr := []) (pcs := [wdP cs h r g tf ta pf na ma wa cf ca ef ea xf xa]) hw px_X.tt (px_recv hT hw 0 0 rfl rfl rfl) m11_166 m11_163 m11_165 ms_8_3 m1_21 q_Mpg_token ⟨Nat.le_of_ble_eq_true rfl, Nat.le_of_ble_eq_true rfl⟩ hl.1 rfl (Nat.le_of_ble_eq_true rfl) d_Mpg_readToken_150 ⟨Nat.le_of_ble_eq_true rfl, Nat.le_of_ble_eq_true rfl⟩) hw hA (fun p147 H locs hp147 hw => ?_)
            obtain ⟨tf145, ta146, rfl, e149, e150, e151⟩ := hp147
            have e149 : (tf145 6).toInt = (tf 6).toInt + 1 := e149
            have e150 : (tf145 5).toInt = (tf 5).toInt := e150
            have e151 : TkU ta ta146 (tf 6) p0 z141 (3 : Int32) z142 := e151
            refine lv_iload_n S.x S.b d_Mpg_readToken_153 rfl (lv_at hl 0 rfl) ?_
            refine lv_if_le (tgt := 175) S.x S.b d_Mpg_readToken_154 (by decide) (fun c152 => ?_) (fun c152 => ?_)
            · exact absurd c152 (by decide)
            ·
              refine lv_aload_n S.x S.b d_Mpg_readToken_157 rfl (lv_at hl 3 rfl) ?_
              refine lv_iload_n S.x S.b d_Mpg_readToken_158 rfl (lv_at hl 4 rfl) ?_
              refine lv_iconst (v := 1) S.x S.b d_Mpg_readToken_159 (by decide) ?_
              refine lv_iadd S.x S.b d_Mpg_readToken_160 ?_
              refine lv_topi (fun z153 ez153 => ?_)
              have tz153 : z153.toInt = (p0.toInt + (1 : Int) + 2147483648) % 4294967296 - 2147483648 := by rw [ez153]; exact i_add p0 1
              have lz153 := Int32.le_toInt z153
              have uz153 := Int32.toInt_lt z153
              try replace tz153 : z153.toInt = p0.toInt + (1 : Int) := by omega
              refine lv_iload_n S.x S.b d_Mpg_readToken_161 rfl (lv_at hl 0 rfl) ?_
              refine lv_iadd S.x S.b d_Mpg_readToken_162 ?_
              refine lv_topi (fun z154 ez154 => ?_)
              have tz154 : z154.toInt = (z153.toInt + (1 : Int) + 2147483648) % 4294967296 - 2147483648 := by rw [ez154]; exact i_add z153 1
              have lz154 := Int32.le_toInt z154
              have uz154 := Int32.toInt_lt z154
              try replace tz154 : z154.toInt = z153.toInt + (1 : Int) := by omega
              first | refine px_calli (pr := []) (px_runV (As := [.int z154]) (rest := []) S (c_mp_byteAt l D cs h r g tf145 ta146 pf na ma wa cf ca ef ea xf xa z154  (show 0 ≤ (tf145 5).toInt from (oz_f3ebed1ad0 e150 g0)) (show (tf145 5).toInt ≤ 2048 from (oz_508e595d19 e150 g1)) (show 0 ≤ z154.toInt from (oz_2b89fb80b9 tz154 tz153 g2)) _) hT (pr := []) (pcs := [wdP cs h r g tf145 ta146 pf na ma wa cf ca ef ea xf xa]) hw px_X.tt (px_recv hT hw 0 0 rfl rfl rfl) m11_142 m11_139 m11_141 ms_7_15 m1_21 q_Mpg_byteAt ⟨Nat.le_of_ble_eq_true rfl, Nat.le_of_ble_eq_true rfl⟩ hl.1 rfl (Nat.le_of_ble_eq_true rfl) d_Mpg_readToken_163 ⟨Nat.le_of_ble_eq_true rfl, Nat.le_of_ble_eq_true rfl⟩) hw hA (fun v156 p155 H locs hp155 hw => ?_) | refine px_calli (pr := []) (px_runV (As := [.int z154]) (rest := []) S (c_mp_byteAt l D cs h r g tf145 ta146 pf na ma wa cf ca ef ea xf xa z154  (show 0 ≤ (tf145 5).toInt from by first | exact oz_f3ebed1ad0 e150 g0 | omega) (show (tf145 5).toInt ≤ 2048 from by first | exact oz_508e595d19 e150 g1 | omega) (show 0 ≤ z154.toInt from by first | exact oz_2b89fb80b9 tz154 tz153 g2 | omega) _) hT (pr := []) (pcs := [wdP cs h r g tf145 ta146 pf na ma wa cf ca ef ea xf xa]) hw px_X.tt (px_recv hT hw 0 0 rfl rfl rfl) m11_142 m11_139 m11_141 ms_7_15 m1_21 q_Mpg_byteAt ⟨Nat.le_of_ble_eq_true rfl, Nat.le_of_ble_eq_true rfl⟩ hl.1 rfl (Nat.le_of_ble_eq_true rfl) d_Mpg_readToken_163 ⟨Nat.le_of_ble_eq_true rfl, Nat.le_of_ble_eq_true rfl⟩) hw hA (fun v156 p155 H locs hp155 hw => ?_)
              obtain ⟨rfl, e157, e158⟩ := hp155
              have e157 : z154.toInt < (tf145 5).toInt ∨ v156.toInt = -1 := e157
              have e158 : BtV ta146 (tf145 5).toInt z154.toInt v156.toInt := e158
              have lv156 := Int32.le_toInt v156
              have uv156 := Int32.toInt_lt v156
              refine lv_bipush (v := 39) S.x S.b d_Mpg_readToken_166 (by decide) ?_
              refine lv_icmp_ne (tgt := 175) S.x S.b d_Mpg_readToken_168 (by decide) (fun c159 => ?_) (fun c159 => ?_)
              · have nc159 : ¬ v156.toInt = (39 : Int) := mt (i_eq (x := v156) (y := 39)).mpr c159
                refine lv_iconst (v := 0) S.x S.b d_Mpg_readToken_175 (by decide) ?_
                first | exact px_iret (v := 0) S hr rfl hlk hAe hw (Nat.le_of_ble_eq_true rfl) (Nat.le_of_ble_eq_true rfl) (⟨tf145, ta146, rfl, (show (0 : Int32) = 0 ∨ (0 : Int32) = 1 from by first | exact Or.inl rfl | exact Or.inr rfl | exact z_or (by first | with_reducible rfl | with_reducible assumption | omega)), (show (tf145 5).toInt = (tf 5).toInt from e150), (show (tf 6).toInt ≤ (tf145 6).toInt from (oz_7db54039c4 e149)), (show (tf145 6).toInt ≤ (tf 6).toInt + 1 from (oz_6ad8cf7f07 e149)), (show (0 : Int) = 1 → (tf145 6).toInt = (tf 6).toInt + 1 from by first | with_reducible rfl | with_reducible assumption | omega), (show RdK (tf 5).toInt ta146 (tf 6) (0 : Int32) p0 from (by first | exact rdk_n htp (by assumption) (by first | with_reducible rfl | with_reducible assumption | omega) (by first | with_reducible rfl | with_reducible assumption | omega) | exact rdk_0 htp (by first | with_reducible rfl | with_reducible assumption | omega)))⟩) d_Mpg_readToken_176 | exact px_iret (v := 0) S hr rfl hlk hAe hw (Nat.le_of_ble_eq_true rfl) (Nat.le_of_ble_eq_true rfl) (⟨tf145, ta146, rfl, (show (0 : Int32) = 0 ∨ (0 : Int32) = 1 from by first | exact Or.inl rfl | exact Or.inr rfl | exact z_or (by first | with_reducible rfl | with_reducible assumption | omega)), (show (tf145 5).toInt = (tf 5).toInt from by first | exact e150 | omega), (show (tf 6).toInt ≤ (tf145 6).toInt from by first | exact oz_7db54039c4 e149 | omega), (show (tf145 6).toInt ≤ (tf 6).toInt + 1 from by first | exact oz_6ad8cf7f07 e149 | omega), (show (0 : Int) = 1 → (tf145 6).toInt = (tf 6).toInt + 1 from by first | with_reducible rfl | with_reducible assumption | omega), (show RdK (tf 5).toInt ta146 (tf 6) (0 : Int32) p0 from (by first | exact rdk_n htp (by assumption) (by first | with_reducible rfl | with_reducible assumption | omega) (by first | with_reducible rfl | with_reducible assumption | omega) | exact rdk_0 htp (by first | with_reducible rfl | with_reducible assumption | omega)))⟩) d_Mpg_readToken_176
              · have nc159 : v156.toInt = (39 : Int) := (i_eq (x := v156) (y := 39)).mp c159
                refine lv_iconst (v := 1) S.x S.b d_Mpg_readToken_171 (by decide) ?_
                refine lv_goto (tgt := 176) S.x S.b d_Mpg_readToken_172 (by decide) ?_
                first | exact px_iret (v := 1) S hr rfl hlk hAe hw (Nat.le_of_ble_eq_true rfl) (Nat.le_of_ble_eq_true rfl) (⟨tf145, ta146, rfl, (show (1 : Int32) = 0 ∨ (1 : Int32) = 1 from by first | exact Or.inl rfl | exact Or.inr rfl | exact z_or (by first | with_reducible rfl | with_reducible assumption | omega)), (show (tf145 5).toInt = (tf 5).toInt from e150), (show (tf 6).toInt ≤ (tf145 6).toInt from (oz_7db54039c4 e149)), (show (tf145 6).toInt ≤ (tf 6).toInt + 1 from (oz_6ad8cf7f07 e149)), (show (1 : Int) = 1 → (tf145 6).toInt = (tf 6).toInt + 1 from by first | with_reducible rfl | with_reducible assumption | omega), (show RdK (tf 5).toInt ta146 (tf 6) (1 : Int32) p0 from (rdk_y htp (by assumption) (by first | with_reducible rfl | with_reducible assumption | omega) ⟨⟨by first | with_reducible rfl | with_reducible assumption | omega, by first | with_reducible rfl | with_reducible assumption | omega⟩, ⟨by first | with_reducible rfl | with_reducible assumption | omega, by first | with_reducible rfl | with_reducible assumption | omega, by first | with_reducible rfl | with_reducible assumption | omega⟩, fun h => ⟨by first | with_reducible rfl | with_reducible assumption | omega, by first | with_reducible rfl | with_reducible assumption | omega, by first | with_reducible rfl | with_reducible assumption | omega⟩, fun h => ⟨by first | with_reducible rfl | with_reducible assumption | omega, by first | with_reducible rfl | with_reducible assumption | omega, by first | with_reducible rfl | with_reducible assumption | omega⟩, fun h => ⟨by first | with_reducible rfl | with_reducible assumption | omega, by first | with_reducible rfl | with_reducible assumption | omega, by first | with_reducible rfl | with_reducible assumption | omega⟩⟩))⟩) d_Mpg_readToken_176 | exact px_iret (v := 1) S hr rfl hlk hAe hw (Nat.le_of_ble_eq_true rfl) (Nat.le_of_ble_eq_true rfl) (⟨tf145, ta146, rfl, (show (1 : Int32) = 0 ∨ (1 : Int32) = 1 from by first | exact Or.inl rfl | exact Or.inr rfl | exact z_or (by first | with_reducible rfl | with_reducible assumption | omega)), (show (tf145 5).toInt = (tf 5).toInt from by first | exact e150 | omega), (show (tf 6).toInt ≤ (tf145 6).toInt from by first | exact oz_7db54039c4 e149 | omega), (show (tf145 6).toInt ≤ (tf 6).toInt + 1 from by first | exact oz_6ad8cf7f07 e149 | omega), (show (1 : Int) = 1 → (tf145 6).toInt = (tf 6).toInt + 1 from by first | with_reducible rfl | with_reducible assumption | omega), (show RdK (tf 5).toInt ta146 (tf 6) (1 : Int32) p0 from (rdk_y htp (by assumption) (by first | with_reducible rfl | with_reducible assumption | omega) ⟨⟨by first | with_reducible rfl | with_reducible assumption | omega, by first | with_reducible rfl | with_reducible assumption | omega⟩, ⟨by first | with_reducible rfl | with_reducible assumption | omega, by first | with_reducible rfl | with_reducible assumption | omega, by first | with_reducible rfl | with_reducible assumption | omega⟩, fun h => ⟨by first | with_reducible rfl | with_reducible assumption | omega, by first | with_reducible rfl | with_reducible assumption | omega, by first | with_reducible rfl | with_reducible assumption | omega⟩, fun h => ⟨by first | with_reducible rfl | with_reducible assumption | omega, by first | with_reducible rfl | with_reducible assumption | omega, by first | with_reducible rfl | with_reducible assumption | omega⟩, fun h => ⟨by first | with_reducible rfl | with_reducible assumption | omega, by first | with_reducible rfl | with_reducible assumption | omega, by first | with_reducible rfl | with_reducible assumption | omega⟩⟩))⟩) d_Mpg_readToken_176
        · have nc120 : ¬ (0 : Int) ≤ v115.toInt := mt (i_le (x := 0) (y := v115)).mpr c120
          refine lv_iconst (v := 0) S.x S.b d_Mpg_readToken_120 (by decide) ?_
          refine lv_goto (tgt := 137) S.x S.b d_Mpg_readToken_121 (by decide) ?_
          refine lv_istore_n (lv' := [(3, .int 0), (4, .int v115), (2, .int v77), (0, .ref h), (1, .int p0)]) S.x S.b d_Mpg_readToken_137 rfl hl (by decide) rfl (fun ls hl => ?_)
          refine lv_aload_n S.x S.b d_Mpg_readToken_138 rfl (lv_at hl 3 rfl) ?_
          refine lv_iload_n S.x S.b d_Mpg_readToken_139 rfl (lv_at hl 4 rfl) ?_
          refine lv_iload_n S.x S.b d_Mpg_readToken_140 rfl (lv_at hl 0 rfl) ?_
          refine lv_iconst (v := 2) S.x S.b d_Mpg_readToken_141 (by decide) ?_
          refine lv_iadd S.x S.b d_Mpg_readToken_142 ?_
          refine lv_topi (fun z160 ez160 => ?_)
          have tz160 : z160.toInt = ((0 : Int) + (2 : Int) + 2147483648) % 4294967296 - 2147483648 := by rw [ez160]; exact i_add 0 2
          have lz160 := Int32.le_toInt z160
          have uz160 := Int32.toInt_lt z160
          try replace tz160 : z160.toInt = (0 : Int) + (2 : Int) := by omega
          refine lv_iconst (v := 3) S.x S.b d_Mpg_readToken_143 (by decide) ?_
          refine lv_iload S.x S.b d_Mpg_readToken_144 (lv_at hl 1 rfl) ?_
          refine lv_sipush (v := 1000) S.x S.b d_Mpg_readToken_146 (by decide) ?_
          refine lv_irem S.x S.b d_Mpg_readToken_149 (fun hz0 => by have hz1 := i_eq.mp hz0; omega) ?_
          refine lv_topi (fun z161 ez161 => ?_)
          have lz161 := Int32.le_toInt z161
          have uz161 := Int32.toInt_lt z161
          first | refine px_callv (pr := []) (px_runV (As := [.int p0, .int z160, .int 3, .int z161]) (rest := []) S (c_mp_token l D cs h r g pf na ma wa cf ca ef ea xf xa tf ta p0 z160 3 z161  (show 0 ≤ (tf 6).toInt from g4) (show (tf 6).toInt ≤ 2059 from (oz_9dfb4af2f5 g5 g3 g1)) _) hT (pr := []) (pcs := [wdP cs h r g tf ta pf na ma wa cf ca ef ea xf xa]) hw px_X.tt (px_recv hT hw 0 0 rfl rfl rfl) m11_166 m11_163 m11_165 ms_8_3 m1_21 q_Mpg_token ⟨Nat.le_of_ble_eq_true rfl, Nat.le_of_ble_eq_true rfl⟩ hl.1 rfl (Nat.le_of_ble_eq_true rfl) d_Mpg_readToken_150 ⟨Nat.le_of_ble_eq_true rfl, Nat.le_of_ble_eq_true rfl⟩) hw hA (fun p166 H locs hp166 hw => ?_) | refine px_callv (pr := []) (px_runV (As := [.int p0, .int z160, .int 3, .int z161]) (rest := []) S (c_mp_token l D cs h r g pf na ma wa cf ca ef ea xf xa tf ta p0 z160 3 z161  (show 0 ≤ (tf 6).toInt from by first | exact g4 | omega) (show (tf 6).toInt ≤ 2059 from by first | exact oz_9dfb4af2f5 g5 g3 g1 | omega) _) hT (pr := []) (pcs := [wdP cs h r g tf ta pf na ma wa cf ca ef ea xf xa]) hw px_X.tt (px_recv hT hw 0 0 rfl rfl rfl) m11_166 m11_163 m11_165 ms_8_3 m1_21 q_Mpg_token ⟨Nat.le_of_ble_eq_true rfl, Nat.le_of_ble_eq_true rfl⟩ hl.1 rfl (Nat.le_of_ble_eq_true rfl) d_Mpg_readToken_150 ⟨Nat.le_of_ble_eq_true rfl, Nat.le_of_ble_eq_true rfl⟩) hw hA (fun p166 H locs hp166 hw => ?_)
          obtain ⟨tf164, ta165, rfl, e168, e169, e170⟩ := hp166
          have e168 : (tf164 6).toInt = (tf 6).toInt + 1 := e168
          have e169 : (tf164 5).toInt = (tf 5).toInt := e169
          have e170 : TkU ta ta165 (tf 6) p0 z160 (3 : Int32) z161 := e170
          refine lv_iload_n S.x S.b d_Mpg_readToken_153 rfl (lv_at hl 0 rfl) ?_
          refine lv_if_le (tgt := 175) S.x S.b d_Mpg_readToken_154 (by decide) (fun c171 => ?_) (fun c171 => ?_)
          ·
            refine lv_iconst (v := 0) S.x S.b d_Mpg_readToken_175 (by decide) ?_
            first | exact px_iret (v := 0) S hr rfl hlk hAe hw (Nat.le_of_ble_eq_true rfl) (Nat.le_of_ble_eq_true rfl) (⟨tf164, ta165, rfl, (show (0 : Int32) = 0 ∨ (0 : Int32) = 1 from by first | exact Or.inl rfl | exact Or.inr rfl | exact z_or (by first | with_reducible rfl | with_reducible assumption | omega)), (show (tf164 5).toInt = (tf 5).toInt from e169), (show (tf 6).toInt ≤ (tf164 6).toInt from (oz_7db54039c4 e168)), (show (tf164 6).toInt ≤ (tf 6).toInt + 1 from (oz_6ad8cf7f07 e168)), (show (0 : Int) = 1 → (tf164 6).toInt = (tf 6).toInt + 1 from by first | with_reducible rfl | with_reducible assumption | omega), (show RdK (tf 5).toInt ta165 (tf 6) (0 : Int32) p0 from (by first | exact rdk_n htp (by assumption) (by first | with_reducible rfl | with_reducible assumption | omega) (by first | with_reducible rfl | with_reducible assumption | omega) | exact rdk_0 htp (by first | with_reducible rfl | with_reducible assumption | omega)))⟩) d_Mpg_readToken_176 | exact px_iret (v := 0) S hr rfl hlk hAe hw (Nat.le_of_ble_eq_true rfl) (Nat.le_of_ble_eq_true rfl) (⟨tf164, ta165, rfl, (show (0 : Int32) = 0 ∨ (0 : Int32) = 1 from by first | exact Or.inl rfl | exact Or.inr rfl | exact z_or (by first | with_reducible rfl | with_reducible assumption | omega)), (show (tf164 5).toInt = (tf 5).toInt from by first | exact e169 | omega), (show (tf 6).toInt ≤ (tf164 6).toInt from by first | exact oz_7db54039c4 e168 | omega), (show (tf164 6).toInt ≤ (tf 6).toInt + 1 from by first | exact oz_6ad8cf7f07 e168 | omega), (show (0 : Int) = 1 → (tf164 6).toInt = (tf 6).toInt + 1 from by first | with_reducible rfl | with_reducible assumption | omega), (show RdK (tf 5).toInt ta165 (tf 6) (0 : Int32) p0 from (by first | exact rdk_n htp (by assumption) (by first | with_reducible rfl | with_reducible assumption | omega) (by first | with_reducible rfl | with_reducible assumption | omega) | exact rdk_0 htp (by first | with_reducible rfl | with_reducible assumption | omega)))⟩) d_Mpg_readToken_176
          · exact absurd c171 (by decide)
    · have nc91 : ¬ v87.toInt = (0 : Int) := mt (i_eq (x := v87) (y := 0)).mpr c91
      refine lv_aload_n S.x S.b d_Mpg_readToken_92 rfl (lv_at hl 2 rfl) ?_
      refine lv_iload_n S.x S.b d_Mpg_readToken_93 rfl (lv_at hl 3 rfl) ?_
      first | refine px_calli (pr := []) (px_runV (As := [.int p0]) (rest := []) S (c_mp_readNumber l D cs h r g pf na ma wa cf ca ef ea xf xa tf ta p0  (show 0 ≤ (tf 5).toInt from g0) (show (tf 5).toInt ≤ 2048 from g1) (show 0 ≤ p0.toInt from g2) (show p0.toInt < (tf 5).toInt from g3) (show 0 ≤ (tf 6).toInt from g4) (show (tf 6).toInt ≤ p0.toInt from g5) (by first | assumption | exact htp) (dg_is (by assumption) (by assumption) (by first | with_reducible rfl | with_reducible assumption | omega)) _) hT (pr := []) (pcs := [wdP cs h r g tf ta pf na ma wa cf ca ef ea xf xa]) hw px_X.tt (px_recv hT hw 0 0 rfl rfl rfl) m11_170 m11_167 m11_169 ms_8_4 m1_21 q_Mpg_readNumber ⟨Nat.le_of_ble_eq_true rfl, Nat.le_of_ble_eq_true rfl⟩ hl.1 rfl (Nat.le_of_ble_eq_true rfl) d_Mpg_readToken_94 ⟨Nat.le_of_ble_eq_true rfl, Nat.le_of_ble_eq_true rfl⟩) hw hA (fun v177 p176 H locs hp176 hw => ?_) | refine px_calli (pr := []) (px_runV (As := [.int p0]) (rest := []) S (c_mp_readNumber l D cs h r g pf na ma wa cf ca ef ea xf xa tf ta p0  (show 0 ≤ (tf 5).toInt from by first | exact g0 | omega) (show (tf 5).toInt ≤ 2048 from by first | exact g1 | omega) (show 0 ≤ p0.toInt from by first | exact g2 | omega) (show p0.toInt < (tf 5).toInt from by first | exact g3 | omega) (show 0 ≤ (tf 6).toInt from by first | exact g4 | omega) (show (tf 6).toInt ≤ p0.toInt from by first | exact g5 | omega) (by first | assumption | exact htp) (dg_is (by assumption) (by assumption) (by first | with_reducible rfl | with_reducible assumption | omega)) _) hT (pr := []) (pcs := [wdP cs h r g tf ta pf na ma wa cf ca ef ea xf xa]) hw px_X.tt (px_recv hT hw 0 0 rfl rfl rfl) m11_170 m11_167 m11_169 ms_8_4 m1_21 q_Mpg_readNumber ⟨Nat.le_of_ble_eq_true rfl, Nat.le_of_ble_eq_true rfl⟩ hl.1 rfl (Nat.le_of_ble_eq_true rfl) d_Mpg_readToken_94 ⟨Nat.le_of_ble_eq_true rfl, Nat.le_of_ble_eq_true rfl⟩) hw hA (fun v177 p176 H locs hp176 hw => ?_)
      obtain ⟨tf174, ta175, rfl, e178, e179, e180, e181, e182, e183⟩ := hp176
      have e178 := z_rng e178
      have e179 : (tf174 5).toInt = (tf 5).toInt := e179
      have e180 : (tf 6).toInt ≤ (tf174 6).toInt := e180
      have e181 : (tf174 6).toInt ≤ (tf 6).toInt + 1 := e181
      have e182 : v177.toInt = 1 → (tf174 6).toInt = (tf 6).toInt + 1 := e182
      have e183 : RdK (tf 5).toInt ta175 (tf 6) v177 p0 := e183
      have lv177 := Int32.le_toInt v177
      have uv177 := Int32.toInt_lt v177
      first | exact px_iret (v := v177) S hr (z_nar (by first | with_reducible rfl | with_reducible assumption | omega)) hlk hAe hw (Nat.le_of_ble_eq_true rfl) (Nat.le_of_ble_eq_true rfl) (⟨tf174, ta175, rfl, (show v177 = 0 ∨ v177 = 1 from by first | exact Or.inl rfl | exact Or.inr rfl | exact z_or (by first | with_reducible rfl | with_reducible assumption | omega)), (show (tf174 5).toInt = (tf 5).toInt from e179), (show (tf 6).toInt ≤ (tf174 6).toInt from e180), (show (tf174 6).toInt ≤ (tf 6).toInt + 1 from e181), (show v177.toInt = 1 → (tf174 6).toInt = (tf 6).toInt + 1 from e182), (show RdK (tf 5).toInt ta175 (tf 6) v177 p0 from (by assumption))⟩) d_Mpg_readToken_97 | exact px_iret (v := v177) S hr (z_nar (by first | with_reducible rfl | with_reducible assumption | omega)) hlk hAe hw (Nat.le_of_ble_eq_true rfl) (Nat.le_of_ble_eq_true rfl) (⟨tf174, ta175, rfl, (show v177 = 0 ∨ v177 = 1 from by first | exact Or.inl rfl | exact Or.inr rfl | exact z_or (by first | with_reducible rfl | with_reducible assumption | omega)), (show (tf174 5).toInt = (tf 5).toInt from by first | exact e179 | omega), (show (tf 6).toInt ≤ (tf174 6).toInt from by first | exact e180 | omega), (show (tf174 6).toInt ≤ (tf 6).toInt + 1 from by first | exact e181 | omega), (show v177.toInt = 1 → (tf174 6).toInt = (tf 6).toInt + 1 from by first | exact e182 | omega), (show RdK (tf 5).toInt ta175 (tf 6) v177 p0 from (by assumption))⟩) d_Mpg_readToken_97
  · have nc85 : ¬ v81.toInt = (0 : Int) := mt (i_eq (x := v81) (y := 0)).mpr c85
    first | exact J15 (((tf 5).toInt + 2 - p0.toInt - (0 : Int)).toNat + 1) v77 (0 : Int32) _ _ ls (show 0 ≤ (0 : Int) from by first | decide | omega) (show p0.toInt + (0 : Int) ≤ (tf 5).toInt from (oz_5aceba244f g3)) (show LtA ta (tf 5).toInt p0.toInt from (by first | assumption | exact lt_is (by assumption) (by assumption) (by first | with_reducible rfl | with_reducible assumption | omega))) (show (tf 5).toInt + 2 - p0.toInt - (0 : Int) < (((((tf 5).toInt + 2 - p0.toInt - (0 : Int)).toNat + 1 : Nat) : Int) : Int) from oz_natlt) hw (lv_sub hl [2, 3, 1, 0] rfl) | exact J15 (((tf 5).toInt + 2 - p0.toInt - (0 : Int)).toNat + 1) v77 (0 : Int32) _ _ ls (show 0 ≤ (0 : Int) from by first | decide | omega) (show p0.toInt + (0 : Int) ≤ (tf 5).toInt from by first | exact oz_5aceba244f g3 | omega) (show LtA ta (tf 5).toInt p0.toInt from (by first | assumption | exact lt_is (by assumption) (by assumption) (by first | with_reducible rfl | with_reducible assumption | omega))) (show (tf 5).toInt + 2 - p0.toInt - (0 : Int) < (((((tf 5).toInt + 2 - p0.toInt - (0 : Int)).toNat + 1 : Nat) : Int) : Int) from by first | exact oz_natlt | omega) hw (lv_sub hl [2, 3, 1, 0] rfl)
abbrev b_Mpg_readTokens : ByteArray := prog_16_method_14_code
def y_Mpg_readTokens : MethodName := ⟨"HomeSystemModel$Program", "readTokens", "()V"⟩
theorem d_Mpg_readTokens_0 : decode b_Mpg_readTokens 0 = .ok (.aload_n 0, 1) := by decide +kernel
theorem d_Mpg_readTokens_1 : decode b_Mpg_readTokens 1 = .ok (.iconst 0, 1) := by decide +kernel
theorem d_Mpg_readTokens_2 : decode b_Mpg_readTokens 2 = .ok (.putfield 304, 3) := by decide +kernel
theorem d_Mpg_readTokens_5 : decode b_Mpg_readTokens 5 = .ok (.aload_n 0, 1) := by decide +kernel
theorem d_Mpg_readTokens_6 : decode b_Mpg_readTokens 6 = .ok (.iconst 0, 1) := by decide +kernel
theorem d_Mpg_readTokens_7 : decode b_Mpg_readTokens 7 = .ok (.invokevirtual 347, 3) := by decide +kernel
theorem d_Mpg_readTokens_10 : decode b_Mpg_readTokens 10 = .ok (.istore_n 1, 1) := by decide +kernel
theorem d_Mpg_readTokens_11 : decode b_Mpg_readTokens 11 = .ok (.iconst 1, 1) := by decide +kernel
theorem d_Mpg_readTokens_12 : decode b_Mpg_readTokens 12 = .ok (.istore_n 2, 1) := by decide +kernel
theorem d_Mpg_readTokens_13 : decode b_Mpg_readTokens 13 = .ok (.iload_n 2, 1) := by decide +kernel
theorem d_Mpg_readTokens_14 : decode b_Mpg_readTokens 14 = .ok (.ifCond .eq 64, 3) := by decide +kernel
theorem d_Mpg_readTokens_17 : decode b_Mpg_readTokens 17 = .ok (.iload_n 1, 1) := by decide +kernel
theorem d_Mpg_readTokens_18 : decode b_Mpg_readTokens 18 = .ok (.aload_n 0, 1) := by decide +kernel
theorem d_Mpg_readTokens_19 : decode b_Mpg_readTokens 19 = .ok (.getfield 292, 3) := by decide +kernel
theorem d_Mpg_readTokens_22 : decode b_Mpg_readTokens 22 = .ok (.if_icmp .ge 56, 3) := by decide +kernel
theorem d_Mpg_readTokens_25 : decode b_Mpg_readTokens 25 = .ok (.aload_n 0, 1) := by decide +kernel
theorem d_Mpg_readTokens_26 : decode b_Mpg_readTokens 26 = .ok (.getfield 304, 3) := by decide +kernel
theorem d_Mpg_readTokens_29 : decode b_Mpg_readTokens 29 = .ok (.istore_n 3, 1) := by decide +kernel
theorem d_Mpg_readTokens_30 : decode b_Mpg_readTokens 30 = .ok (.aload_n 0, 1) := by decide +kernel
theorem d_Mpg_readTokens_31 : decode b_Mpg_readTokens 31 = .ok (.iload_n 1, 1) := by decide +kernel
theorem d_Mpg_readTokens_32 : decode b_Mpg_readTokens 32 = .ok (.invokevirtual 350, 3) := by decide +kernel
theorem d_Mpg_readTokens_35 : decode b_Mpg_readTokens 35 = .ok (.istore_n 2, 1) := by decide +kernel
theorem d_Mpg_readTokens_36 : decode b_Mpg_readTokens 36 = .ok (.iload_n 2, 1) := by decide +kernel
theorem d_Mpg_readTokens_37 : decode b_Mpg_readTokens 37 = .ok (.ifCond .ne 20, 3) := by decide +kernel
theorem d_Mpg_readTokens_40 : decode b_Mpg_readTokens 40 = .ok (.aload_n 0, 1) := by decide +kernel
theorem d_Mpg_readTokens_41 : decode b_Mpg_readTokens 41 = .ok (.iload_n 3, 1) := by decide +kernel
theorem d_Mpg_readTokens_42 : decode b_Mpg_readTokens 42 = .ok (.putfield 304, 3) := by decide +kernel
theorem d_Mpg_readTokens_45 : decode b_Mpg_readTokens 45 = .ok (.aload_n 0, 1) := by decide +kernel
theorem d_Mpg_readTokens_46 : decode b_Mpg_readTokens 46 = .ok (.iload_n 1, 1) := by decide +kernel
theorem d_Mpg_readTokens_47 : decode b_Mpg_readTokens 47 = .ok (.iconst 0, 1) := by decide +kernel
theorem d_Mpg_readTokens_48 : decode b_Mpg_readTokens 48 = .ok (.bipush 6, 2) := by decide +kernel
theorem d_Mpg_readTokens_50 : decode b_Mpg_readTokens 50 = .ok (.iconst (-1), 1) := by decide +kernel
theorem d_Mpg_readTokens_51 : decode b_Mpg_readTokens 51 = .ok (.invokevirtual 325, 3) := by decide +kernel
theorem d_Mpg_readTokens_54 : decode b_Mpg_readTokens 54 = .ok (.goto 21, 3) := by decide +kernel
theorem d_Mpg_readTokens_57 : decode b_Mpg_readTokens 57 = .ok (.aload_n 0, 1) := by decide +kernel
theorem d_Mpg_readTokens_58 : decode b_Mpg_readTokens 58 = .ok (.aload_n 0, 1) := by decide +kernel
theorem d_Mpg_readTokens_59 : decode b_Mpg_readTokens 59 = .ok (.getfield 194, 3) := by decide +kernel
theorem d_Mpg_readTokens_62 : decode b_Mpg_readTokens 62 = .ok (.iload_n 3, 1) := by decide +kernel
theorem d_Mpg_readTokens_63 : decode b_Mpg_readTokens 63 = .ok (.iaload, 1) := by decide +kernel
theorem d_Mpg_readTokens_64 : decode b_Mpg_readTokens 64 = .ok (.aload_n 0, 1) := by decide +kernel
theorem d_Mpg_readTokens_65 : decode b_Mpg_readTokens 65 = .ok (.getfield 198, 3) := by decide +kernel
theorem d_Mpg_readTokens_68 : decode b_Mpg_readTokens 68 = .ok (.iload_n 3, 1) := by decide +kernel
theorem d_Mpg_readTokens_69 : decode b_Mpg_readTokens 69 = .ok (.iaload, 1) := by decide +kernel
theorem d_Mpg_readTokens_70 : decode b_Mpg_readTokens 70 = .ok (.iadd, 1) := by decide +kernel
theorem d_Mpg_readTokens_71 : decode b_Mpg_readTokens 71 = .ok (.invokevirtual 347, 3) := by decide +kernel
theorem d_Mpg_readTokens_74 : decode b_Mpg_readTokens 74 = .ok (.istore_n 1, 1) := by decide +kernel
theorem d_Mpg_readTokens_75 : decode b_Mpg_readTokens 75 = .ok (.goto (-62), 3) := by decide +kernel
theorem d_Mpg_readTokens_78 : decode b_Mpg_readTokens 78 = .ok (.iload_n 2, 1) := by decide +kernel
theorem d_Mpg_readTokens_79 : decode b_Mpg_readTokens 79 = .ok (.ifCond .eq 15, 3) := by decide +kernel
theorem d_Mpg_readTokens_82 : decode b_Mpg_readTokens 82 = .ok (.aload_n 0, 1) := by decide +kernel
theorem d_Mpg_readTokens_83 : decode b_Mpg_readTokens 83 = .ok (.aload_n 0, 1) := by decide +kernel
theorem d_Mpg_readTokens_84 : decode b_Mpg_readTokens 84 = .ok (.getfield 292, 3) := by decide +kernel
theorem d_Mpg_readTokens_87 : decode b_Mpg_readTokens 87 = .ok (.iconst 0, 1) := by decide +kernel
theorem d_Mpg_readTokens_88 : decode b_Mpg_readTokens 88 = .ok (.bipush 7, 2) := by decide +kernel
theorem d_Mpg_readTokens_90 : decode b_Mpg_readTokens 90 = .ok (.iconst (-1), 1) := by decide +kernel
theorem d_Mpg_readTokens_91 : decode b_Mpg_readTokens 91 = .ok (.invokevirtual 325, 3) := by decide +kernel
theorem d_Mpg_readTokens_94 : decode b_Mpg_readTokens 94 = .ok (.return_, 1) := by decide +kernel
theorem q_Mpg_readTokens : px_y y_Mpg_readTokens 0 := by unfold px_y; decide +kernel
set_option maxHeartbeats 4000000 in
set_option maxRecDepth 100000 in
theorem c_mp_readTokens (l : Launch) (D : va_G) (cs : Nat → ClassId) (h : Nat) (r : Nat → Nat) (g : Nat → Nat → Option Nat) (pf : Nat → Int32) (na : Nat → Nat → Int32) (ma : Nat → Nat → Int32) (wa : Nat → Nat → Int32) (cf : Nat → Int32) (ca : Nat → Nat → Int32) (ef : Nat → Int32) (ea : Nat → Nat → Int32) (xf : Nat → Int32) (xa : Nat → Nat → Int32) (tf : Nat → Int32) (ta : Nat → Nat → Int32)  (g0 : 0 ≤ (tf 5).toInt) (g1 : (tf 5).toInt ≤ 2048) : MetV l y_Mpg_readTokens b_Mpg_readTokens 4 D cs 7 280 (0) (0) [.ref h] [wdP cs h r g tf ta pf na ma wa cf ca ef ea xf xa] (oX (fun A U H => (oP A g U H)) [wdP cs h r g tf ta pf na ma wa cf ca ef ea xf xa]) (fun ps => ∃ (tf' : Nat → Int32) (ta' : Nat → Nat → Int32), (ps = [wdP cs h r g tf' ta' pf na ma wa cf ca ef ea xf xa]) ∧ ((tf' 5).toInt = (tf 5).toInt) ∧ (TkI tf' ta')) := by
  refine px_enter (by decide) (Nat.le_of_ble_eq_true rfl) ?_
  intro p e s m below meth c A ls hAe S hr hlk hnm hA hT hX hw hl
  have hl : lv_has ls 4 [(0, .ref h)] := hl
  have cstm1 : ((-1) : Int32).toInt = (-1) := rfl
  have cst0 : (0 : Int32).toInt = 0 := rfl
  have cst1 : (1 : Int32).toInt = 1 := rfl
  have cst6 : (6 : Int32).toInt = 6 := rfl
  have cst7 : (7 : Int32).toInt = 7 := rfl
  have hX : (fun A U H => (oP A g U H)) A s s.heap := by rw [hAe]; exact hX
  have hP := hX
  have hZ := hP.1
  have hF0 := hP.2.1
  have J13 : ∀ (n_13 : Nat) (tf_13 : Nat → Int32) (ta_13 : Nat → Nat → Int32) (x13_1 x13_2 : Int32) (H : Heap) (locs : List Loc) (ls : Array Slot), ((tf_13 5).toInt = (tf 5).toInt) → (0 ≤ x13_1.toInt) → (x13_1.toInt ≤ (tf 5).toInt) → (0 ≤ x13_2.toInt) → (x13_2.toInt ≤ 1) → (0 ≤ (tf_13 6).toInt) → ((tf_13 6).toInt ≤ 2049) → (RdL tf_13 ta_13 x13_1 x13_2) → 2*((tf 5).toInt-x13_1.toInt)+x13_2.toInt < (n_13 : Int) → pw D A s.heap H locs [wdP cs h r g tf_13 ta_13 pf na ma wa cf ca ef ea xf xa] → lv_has ls 4 [(0, .ref h), (1, .int x13_1), (2, .int x13_2)] → W p l e { frames := 7, cells := 0, slots := 0, locals := 280 } s m [.ref h].toArray below meth c H locs 0 0 (MQ below (va_Qv (fun ps => ∃ (tf' : Nat → Int32) (ta' : Nat → Nat → Int32), (ps = [wdP cs h r g tf' ta' pf na ma wa cf ca ef ea xf xa]) ∧ ((tf' 5).toInt = (tf 5).toInt) ∧ (TkI tf' ta')) (pc_B D (va_A ([wdP cs h r g tf ta pf na ma wa cf ca ef ea xf xa] : List va_W).flatten s.heap.size)) (va_A ([wdP cs h r g tf ta pf na ma wa cf ca ef ea xf xa] : List va_W).flatten s.heap.size)) [.ref h].toArray s 0 0 A) (F0 m 13 ls []) := by
    intro  n_13
    induction n_13 with
    | zero =>
      intro tf_13 ta_13 x13_1 x13_2 H locs ls k13_0 k13_1 k13_2 k13_3 k13_4 k13_5 k13_6 k13_7 hm hw hl
      have lx13_1 := Int32.le_toInt x13_1
      have ux13_1 := Int32.toInt_lt x13_1
      have lx13_2 := Int32.le_toInt x13_2
      have ux13_2 := Int32.toInt_lt x13_2
      have hrd := k13_7
      exact absurd hm (by first | with_reducible rfl | with_reducible assumption | omega)
    | succ n_13 ih13 =>
      intro tf_13 ta_13 x13_1 x13_2 H locs ls k13_0 k13_1 k13_2 k13_3 k13_4 k13_5 k13_6 k13_7 hm hw hl
      have lx13_1 := Int32.le_toInt x13_1
      have ux13_1 := Int32.toInt_lt x13_1
      have lx13_2 := Int32.le_toInt x13_2
      have ux13_2 := Int32.toInt_lt x13_2
      have hrd := k13_7
      refine lv_iload_n S.x S.b d_Mpg_readTokens_13 rfl (lv_at hl 2 rfl) ?_
      refine lv_if_eq (tgt := 78) S.x S.b d_Mpg_readTokens_14 (by decide) (fun c1 => ?_) (fun c1 => ?_)
      · have nc1 : x13_2.toInt = (0 : Int) := (i_eq (x := x13_2) (y := 0)).mp c1
        refine lv_iload_n S.x S.b d_Mpg_readTokens_78 rfl (lv_at hl 2 rfl) ?_
        refine lv_if_eq (tgt := 94) S.x S.b d_Mpg_readTokens_79 (by decide) (fun c2 => ?_) (fun c2 => ?_)
        · have nc2 : x13_2.toInt = (0 : Int) := (i_eq (x := x13_2) (y := 0)).mp c2
          first | exact px_vret S hr hlk hAe hw (Nat.le_of_ble_eq_true rfl) (Nat.le_of_ble_eq_true rfl) (⟨tf_13, ta_13, rfl, (show (tf_13 5).toInt = (tf 5).toInt from k13_0), (show TkI tf_13 ta_13 from (by first | exact hrd.2 (by first | with_reducible rfl | with_reducible assumption | omega) | exact tki_end hrd (by first | with_reducible rfl | with_reducible assumption | omega) (by assumption) (by first | with_reducible rfl | with_reducible assumption | omega) (by first | with_reducible rfl | with_reducible assumption | omega) (by first | with_reducible rfl | with_reducible assumption | omega) (by first | with_reducible rfl | with_reducible assumption | omega) (by first | with_reducible rfl | with_reducible assumption | omega) (by first | with_reducible rfl | with_reducible assumption | omega) (by first | with_reducible rfl | with_reducible assumption | omega) (by first | with_reducible rfl | with_reducible assumption | omega) (by first | with_reducible rfl | with_reducible assumption | omega)))⟩) d_Mpg_readTokens_94 | exact px_vret S hr hlk hAe hw (Nat.le_of_ble_eq_true rfl) (Nat.le_of_ble_eq_true rfl) (⟨tf_13, ta_13, rfl, (show (tf_13 5).toInt = (tf 5).toInt from by first | exact k13_0 | omega), (show TkI tf_13 ta_13 from (by first | exact hrd.2 (by first | with_reducible rfl | with_reducible assumption | omega) | exact tki_end hrd (by first | with_reducible rfl | with_reducible assumption | omega) (by assumption) (by first | with_reducible rfl | with_reducible assumption | omega) (by first | with_reducible rfl | with_reducible assumption | omega) (by first | with_reducible rfl | with_reducible assumption | omega) (by first | with_reducible rfl | with_reducible assumption | omega) (by first | with_reducible rfl | with_reducible assumption | omega) (by first | with_reducible rfl | with_reducible assumption | omega) (by first | with_reducible rfl | with_reducible assumption | omega) (by first | with_reducible rfl | with_reducible assumption | omega) (by first | with_reducible rfl | with_reducible assumption | omega)))⟩) d_Mpg_readTokens_94
        · have nc2 : ¬ x13_2.toInt = (0 : Int) := mt (i_eq (x := x13_2) (y := 0)).mpr c2
          refine lv_aload_n S.x S.b d_Mpg_readTokens_82 rfl (lv_at hl 0 rfl) ?_
          refine lv_aload_n S.x S.b d_Mpg_readTokens_83 rfl (lv_at hl 0 rfl) ?_
          refine px_get S k_Mpg hT hw 0 0 5 (v := .int (tf_13 5)) rfl rfl rfl (by decide) m9_229 d_Mpg_readTokens_84 ?_
          refine lv_iconst (v := 0) S.x S.b d_Mpg_readTokens_87 (by decide) ?_
          refine lv_bipush (v := 7) S.x S.b d_Mpg_readTokens_88 (by decide) ?_
          refine lv_iconst (v := (-1)) S.x S.b d_Mpg_readTokens_90 (by decide) ?_
          first | refine px_callv (pr := []) (px_runV (As := [.int (tf_13 5), .int 0, .int 7, .int (-1)]) (rest := []) S (c_mp_token l D cs h r g pf na ma wa cf ca ef ea xf xa tf_13 ta_13 (tf_13 5) 0 7 (-1)  (show 0 ≤ (tf_13 6).toInt from k13_5) (show (tf_13 6).toInt ≤ 2059 from (oz_e00ec8391b k13_6)) _) hT (pr := []) (pcs := [wdP cs h r g tf_13 ta_13 pf na ma wa cf ca ef ea xf xa]) hw px_X.tt (px_recv hT hw 0 0 rfl rfl rfl) m11_166 m11_163 m11_165 ms_8_3 m1_21 q_Mpg_token ⟨Nat.le_of_ble_eq_true rfl, Nat.le_of_ble_eq_true rfl⟩ hl.1 rfl (Nat.le_of_ble_eq_true rfl) d_Mpg_readTokens_91 ⟨Nat.le_of_ble_eq_true rfl, Nat.le_of_ble_eq_true rfl⟩) hw hA (fun p7 H locs hp7 hw => ?_) | refine px_callv (pr := []) (px_runV (As := [.int (tf_13 5), .int 0, .int 7, .int (-1)]) (rest := []) S (c_mp_token l D cs h r g pf na ma wa cf ca ef ea xf xa tf_13 ta_13 (tf_13 5) 0 7 (-1)  (show 0 ≤ (tf_13 6).toInt from by first | exact k13_5 | omega) (show (tf_13 6).toInt ≤ 2059 from by first | exact oz_e00ec8391b k13_6 | omega) _) hT (pr := []) (pcs := [wdP cs h r g tf_13 ta_13 pf na ma wa cf ca ef ea xf xa]) hw px_X.tt (px_recv hT hw 0 0 rfl rfl rfl) m11_166 m11_163 m11_165 ms_8_3 m1_21 q_Mpg_token ⟨Nat.le_of_ble_eq_true rfl, Nat.le_of_ble_eq_true rfl⟩ hl.1 rfl (Nat.le_of_ble_eq_true rfl) d_Mpg_readTokens_91 ⟨Nat.le_of_ble_eq_true rfl, Nat.le_of_ble_eq_true rfl⟩) hw hA (fun p7 H locs hp7 hw => ?_)
          obtain ⟨tf5, ta6, rfl, e9, e10, e11⟩ := hp7
          have e9 : (tf5 6).toInt = (tf_13 6).toInt + 1 := e9
          have e10 : (tf5 5).toInt = (tf_13 5).toInt := e10
          have e11 : TkU ta_13 ta6 (tf_13 6) (tf_13 5) (0 : Int32) (7 : Int32) (-1 : Int32) := e11
          first | exact px_vret S hr hlk hAe hw (Nat.le_of_ble_eq_true rfl) (Nat.le_of_ble_eq_true rfl) (⟨tf5, ta6, rfl, (show (tf5 5).toInt = (tf 5).toInt from (oz_1687f4cc65 k13_0 e10)), (show TkI tf5 ta6 from (by first | exact hrd.2 (by first | with_reducible rfl | with_reducible assumption | omega) | exact tki_end hrd (by first | with_reducible rfl | with_reducible assumption | omega) (by assumption) (by first | with_reducible rfl | with_reducible assumption | omega) (by first | with_reducible rfl | with_reducible assumption | omega) (by first | with_reducible rfl | with_reducible assumption | omega) (by first | with_reducible rfl | with_reducible assumption | omega) (by first | with_reducible rfl | with_reducible assumption | omega) (by first | with_reducible rfl | with_reducible assumption | omega) (by first | with_reducible rfl | with_reducible assumption | omega) (by first | with_reducible rfl | with_reducible assumption | omega) (by first | with_reducible rfl | with_reducible assumption | omega)))⟩) d_Mpg_readTokens_94 | exact px_vret S hr hlk hAe hw (Nat.le_of_ble_eq_true rfl) (Nat.le_of_ble_eq_true rfl) (⟨tf5, ta6, rfl, (show (tf5 5).toInt = (tf 5).toInt from by first | exact oz_1687f4cc65 k13_0 e10 | omega), (show TkI tf5 ta6 from (by first | exact hrd.2 (by first | with_reducible rfl | with_reducible assumption | omega) | exact tki_end hrd (by first | with_reducible rfl | with_reducible assumption | omega) (by assumption) (by first | with_reducible rfl | with_reducible assumption | omega) (by first | with_reducible rfl | with_reducible assumption | omega) (by first | with_reducible rfl | with_reducible assumption | omega) (by first | with_reducible rfl | with_reducible assumption | omega) (by first | with_reducible rfl | with_reducible assumption | omega) (by first | with_reducible rfl | with_reducible assumption | omega) (by first | with_reducible rfl | with_reducible assumption | omega) (by first | with_reducible rfl | with_reducible assumption | omega) (by first | with_reducible rfl | with_reducible assumption | omega)))⟩) d_Mpg_readTokens_94
      · have nc1 : ¬ x13_2.toInt = (0 : Int) := mt (i_eq (x := x13_2) (y := 0)).mpr c1
        refine lv_iload_n S.x S.b d_Mpg_readTokens_17 rfl (lv_at hl 1 rfl) ?_
        refine lv_aload_n S.x S.b d_Mpg_readTokens_18 rfl (lv_at hl 0 rfl) ?_
        refine px_get S k_Mpg hT hw 0 0 5 (v := .int (tf_13 5)) rfl rfl rfl (by decide) m9_229 d_Mpg_readTokens_19 ?_
        refine lv_icmp_ge (tgt := 78) S.x S.b d_Mpg_readTokens_22 (by decide) (fun c12 => ?_) (fun c12 => ?_)
        · have nc12 : (tf_13 5).toInt ≤ x13_1.toInt := (i_le (x := (tf_13 5)) (y := x13_1)).mp c12
          refine lv_iload_n S.x S.b d_Mpg_readTokens_78 rfl (lv_at hl 2 rfl) ?_
          refine lv_if_eq (tgt := 94) S.x S.b d_Mpg_readTokens_79 (by decide) (fun c13 => ?_) (fun c13 => ?_)
          · have nc13 : x13_2.toInt = (0 : Int) := (i_eq (x := x13_2) (y := 0)).mp c13
            first | exact px_vret S hr hlk hAe hw (Nat.le_of_ble_eq_true rfl) (Nat.le_of_ble_eq_true rfl) (⟨tf_13, ta_13, rfl, (show (tf_13 5).toInt = (tf 5).toInt from k13_0), (show TkI tf_13 ta_13 from (by first | exact hrd.2 (by first | with_reducible rfl | with_reducible assumption | omega) | exact tki_end hrd (by first | with_reducible rfl | with_reducible assumption | omega) (by assumption) (by first | with_reducible rfl | with_reducible assumption | omega) (by first | with_reducible rfl | with_reducible assumption | omega) (by first | with_reducible rfl | with_reducible assumption | omega) (by first | with_reducible rfl | with_reducible assumption | omega) (by first | with_reducible rfl | with_reducible assumption | omega) (by first | with_reducible rfl | with_reducible assumption | omega) (by first | with_reducible rfl | with_reducible assumption | omega) (by first | with_reducible rfl | with_reducible assumption | omega) (by first | with_reducible rfl | with_reducible assumption | omega)))⟩) d_Mpg_readTokens_94 | exact px_vret S hr hlk hAe hw (Nat.le_of_ble_eq_true rfl) (Nat.le_of_ble_eq_true rfl) (⟨tf_13, ta_13, rfl, (show (tf_13 5).toInt = (tf 5).toInt from by first | exact k13_0 | omega), (show TkI tf_13 ta_13 from (by first | exact hrd.2 (by first | with_reducible rfl | with_reducible assumption | omega) | exact tki_end hrd (by first | with_reducible rfl | with_reducible assumption | omega) (by assumption) (by first | with_reducible rfl | with_reducible assumption | omega) (by first | with_reducible rfl | with_reducible assumption | omega) (by first | with_reducible rfl | with_reducible assumption | omega) (by first | with_reducible rfl | with_reducible assumption | omega) (by first | with_reducible rfl | with_reducible assumption | omega) (by first | with_reducible rfl | with_reducible assumption | omega) (by first | with_reducible rfl | with_reducible assumption | omega) (by first | with_reducible rfl | with_reducible assumption | omega) (by first | with_reducible rfl | with_reducible assumption | omega)))⟩) d_Mpg_readTokens_94
          · have nc13 : ¬ x13_2.toInt = (0 : Int) := mt (i_eq (x := x13_2) (y := 0)).mpr c13
            refine lv_aload_n S.x S.b d_Mpg_readTokens_82 rfl (lv_at hl 0 rfl) ?_
            refine lv_aload_n S.x S.b d_Mpg_readTokens_83 rfl (lv_at hl 0 rfl) ?_
            refine px_get S k_Mpg hT hw 0 0 5 (v := .int (tf_13 5)) rfl rfl rfl (by decide) m9_229 d_Mpg_readTokens_84 ?_
            refine lv_iconst (v := 0) S.x S.b d_Mpg_readTokens_87 (by decide) ?_
            refine lv_bipush (v := 7) S.x S.b d_Mpg_readTokens_88 (by decide) ?_
            refine lv_iconst (v := (-1)) S.x S.b d_Mpg_readTokens_90 (by decide) ?_
            first | refine px_callv (pr := []) (px_runV (As := [.int (tf_13 5), .int 0, .int 7, .int (-1)]) (rest := []) S (c_mp_token l D cs h r g pf na ma wa cf ca ef ea xf xa tf_13 ta_13 (tf_13 5) 0 7 (-1)  (show 0 ≤ (tf_13 6).toInt from k13_5) (show (tf_13 6).toInt ≤ 2059 from (oz_e00ec8391b k13_6)) _) hT (pr := []) (pcs := [wdP cs h r g tf_13 ta_13 pf na ma wa cf ca ef ea xf xa]) hw px_X.tt (px_recv hT hw 0 0 rfl rfl rfl) m11_166 m11_163 m11_165 ms_8_3 m1_21 q_Mpg_token ⟨Nat.le_of_ble_eq_true rfl, Nat.le_of_ble_eq_true rfl⟩ hl.1 rfl (Nat.le_of_ble_eq_true rfl) d_Mpg_readTokens_91 ⟨Nat.le_of_ble_eq_true rfl, Nat.le_of_ble_eq_true rfl⟩) hw hA (fun p18 H locs hp18 hw => ?_) | refine px_callv (pr := []) (px_runV (As := [.int (tf_13 5), .int 0, .int 7, .int (-1)]) (rest := []) S (c_mp_token l D cs h r g pf na ma wa cf ca ef ea xf xa tf_13 ta_13 (tf_13 5) 0 7 (-1)  (show 0 ≤ (tf_13 6).toInt from by first | exact k13_5 | omega) (show (tf_13 6).toInt ≤ 2059 from by first | exact oz_e00ec8391b k13_6 | omega) _) hT (pr := []) (pcs := [wdP cs h r g tf_13 ta_13 pf na ma wa cf ca ef ea xf xa]) hw px_X.tt (px_recv hT hw 0 0 rfl rfl rfl) m11_166 m11_163 m11_165 ms_8_3 m1_21 q_Mpg_token ⟨Nat.le_of_ble_eq_true rfl, Nat.le_of_ble_eq_true rfl⟩ hl.1 rfl (Nat.le_of_ble_eq_true rfl) d_Mpg_readTokens_91 ⟨Nat.le_of_ble_eq_true rfl, Nat.le_of_ble_eq_true rfl⟩) hw hA (fun p18 H locs hp18 hw => ?_)
            obtain ⟨tf16, ta17, rfl, e20, e21, e22⟩ := hp18
            have e20 : (tf16 6).toInt = (tf_13 6).toInt + 1 := e20
            have e21 : (tf16 5).toInt = (tf_13 5).toInt := e21
            have e22 : TkU ta_13 ta17 (tf_13 6) (tf_13 5) (0 : Int32) (7 : Int32) (-1 : Int32) := e22
            first | exact px_vret S hr hlk hAe hw (Nat.le_of_ble_eq_true rfl) (Nat.le_of_ble_eq_true rfl) (⟨tf16, ta17, rfl, (show (tf16 5).toInt = (tf 5).toInt from (oz_1687f4cc65 k13_0 e21)), (show TkI tf16 ta17 from (by first | exact hrd.2 (by first | with_reducible rfl | with_reducible assumption | omega) | exact tki_end hrd (by first | with_reducible rfl | with_reducible assumption | omega) (by assumption) (by first | with_reducible rfl | with_reducible assumption | omega) (by first | with_reducible rfl | with_reducible assumption | omega) (by first | with_reducible rfl | with_reducible assumption | omega) (by first | with_reducible rfl | with_reducible assumption | omega) (by first | with_reducible rfl | with_reducible assumption | omega) (by first | with_reducible rfl | with_reducible assumption | omega) (by first | with_reducible rfl | with_reducible assumption | omega) (by first | with_reducible rfl | with_reducible assumption | omega) (by first | with_reducible rfl | with_reducible assumption | omega)))⟩) d_Mpg_readTokens_94 | exact px_vret S hr hlk hAe hw (Nat.le_of_ble_eq_true rfl) (Nat.le_of_ble_eq_true rfl) (⟨tf16, ta17, rfl, (show (tf16 5).toInt = (tf 5).toInt from by first | exact oz_1687f4cc65 k13_0 e21 | omega), (show TkI tf16 ta17 from (by first | exact hrd.2 (by first | with_reducible rfl | with_reducible assumption | omega) | exact tki_end hrd (by first | with_reducible rfl | with_reducible assumption | omega) (by assumption) (by first | with_reducible rfl | with_reducible assumption | omega) (by first | with_reducible rfl | with_reducible assumption | omega) (by first | with_reducible rfl | with_reducible assumption | omega) (by first | with_reducible rfl | with_reducible assumption | omega) (by first | with_reducible rfl | with_reducible assumption | omega) (by first | with_reducible rfl | with_reducible assumption | omega) (by first | with_reducible rfl | with_reducible assumption | omega) (by first | with_reducible rfl | with_reducible assumption | omega) (by first | with_reducible rfl | with_reducible assumption | omega)))⟩) d_Mpg_readTokens_94
        · have nc12 : ¬ (tf_13 5).toInt ≤ x13_1.toInt := mt (i_le (x := (tf_13 5)) (y := x13_1)).mpr c12
          refine lv_aload_n S.x S.b d_Mpg_readTokens_25 rfl (lv_at hl 0 rfl) ?_
          refine px_get S k_Mpg hT hw 0 0 6 (v := .int (tf_13 6)) rfl rfl rfl (by decide) m9_230 d_Mpg_readTokens_26 ?_
          have htp := (hrd.1 (by first | with_reducible rfl | with_reducible assumption | omega)).1; have htp2 := (hrd.1 (by first | with_reducible rfl | with_reducible assumption | omega)).2
          refine lv_istore_n (lv' := [(3, .int (tf_13 6)), (0, .ref h), (1, .int x13_1), (2, .int x13_2)]) S.x S.b d_Mpg_readTokens_29 rfl hl (by decide) rfl (fun ls hl => ?_)
          refine lv_aload_n S.x S.b d_Mpg_readTokens_30 rfl (lv_at hl 1 rfl) ?_
          refine lv_iload_n S.x S.b d_Mpg_readTokens_31 rfl (lv_at hl 2 rfl) ?_
          first | refine px_calli (pr := []) (px_runV (As := [.int x13_1]) (rest := []) S (c_mp_readToken l D cs h r g pf na ma wa cf ca ef ea xf xa tf_13 ta_13 x13_1  (show 0 ≤ (tf_13 5).toInt from (oz_8c8b3d3770 nc12 k13_1)) (show (tf_13 5).toInt ≤ 2048 from (oz_508e595d19 k13_0 g1)) (show 0 ≤ x13_1.toInt from k13_1) (show x13_1.toInt < (tf_13 5).toInt from (oz_e1f61422c9 nc12)) (show 0 ≤ (tf_13 6).toInt from k13_5) (show (tf_13 6).toInt ≤ x13_1.toInt from by first | with_reducible rfl | with_reducible assumption | omega) (by first | assumption | exact htp) _) hT (pr := []) (pcs := [wdP cs h r g tf_13 ta_13 pf na ma wa cf ca ef ea xf xa]) hw (oX_call (P := (fun A U H => (oP A g U H))) (pr := []) oG_P hw hA hP) (px_recv hT hw 0 0 rfl rfl rfl) m11_146 m11_143 m11_145 ms_8_0 m1_21 q_Mpg_readToken ⟨Nat.le_of_ble_eq_true rfl, Nat.le_of_ble_eq_true rfl⟩ hl.1 rfl (Nat.le_of_ble_eq_true rfl) d_Mpg_readTokens_32 ⟨Nat.le_of_ble_eq_true rfl, Nat.le_of_ble_eq_true rfl⟩) hw hA (fun v28 p27 H locs hp27 hw => ?_) | refine px_calli (pr := []) (px_runV (As := [.int x13_1]) (rest := []) S (c_mp_readToken l D cs h r g pf na ma wa cf ca ef ea xf xa tf_13 ta_13 x13_1  (show 0 ≤ (tf_13 5).toInt from by first | exact oz_8c8b3d3770 nc12 k13_1 | omega) (show (tf_13 5).toInt ≤ 2048 from by first | exact oz_508e595d19 k13_0 g1 | omega) (show 0 ≤ x13_1.toInt from by first | exact k13_1 | omega) (show x13_1.toInt < (tf_13 5).toInt from by first | exact oz_e1f61422c9 nc12 | omega) (show 0 ≤ (tf_13 6).toInt from by first | exact k13_5 | omega) (show (tf_13 6).toInt ≤ x13_1.toInt from by first | with_reducible rfl | with_reducible assumption | omega) (by first | assumption | exact htp) _) hT (pr := []) (pcs := [wdP cs h r g tf_13 ta_13 pf na ma wa cf ca ef ea xf xa]) hw (oX_call (P := (fun A U H => (oP A g U H))) (pr := []) oG_P hw hA hP) (px_recv hT hw 0 0 rfl rfl rfl) m11_146 m11_143 m11_145 ms_8_0 m1_21 q_Mpg_readToken ⟨Nat.le_of_ble_eq_true rfl, Nat.le_of_ble_eq_true rfl⟩ hl.1 rfl (Nat.le_of_ble_eq_true rfl) d_Mpg_readTokens_32 ⟨Nat.le_of_ble_eq_true rfl, Nat.le_of_ble_eq_true rfl⟩) hw hA (fun v28 p27 H locs hp27 hw => ?_)
          obtain ⟨tf25, ta26, rfl, e29, e30, e31, e32, e33, e34⟩ := hp27
          have e29 := z_rng e29
          have e30 : (tf25 5).toInt = (tf_13 5).toInt := e30
          have e31 : (tf_13 6).toInt ≤ (tf25 6).toInt := e31
          have e32 : (tf25 6).toInt ≤ (tf_13 6).toInt + 1 := e32
          have e33 : v28.toInt = 1 → (tf25 6).toInt = (tf_13 6).toInt + 1 := e33
          have e34 : RdK (tf_13 5).toInt ta26 (tf_13 6) v28 x13_1 := e34
          have lv28 := Int32.le_toInt v28
          have uv28 := Int32.toInt_lt v28
          refine lv_istore_n (lv' := [(2, .int v28), (3, .int (tf_13 6)), (0, .ref h), (1, .int x13_1)]) S.x S.b d_Mpg_readTokens_35 rfl hl (by decide) rfl (fun ls hl => ?_)
          refine lv_iload_n S.x S.b d_Mpg_readTokens_36 rfl (lv_at hl 0 rfl) ?_
          refine lv_if_ne (tgt := 57) S.x S.b d_Mpg_readTokens_37 (by decide) (fun c35 => ?_) (fun c35 => ?_)
          · have nc35 : ¬ v28.toInt = (0 : Int) := mt (i_eq (x := v28) (y := 0)).mpr c35
            refine lv_aload_n S.x S.b d_Mpg_readTokens_57 rfl (lv_at hl 2 rfl) ?_
            refine lv_aload_n S.x S.b d_Mpg_readTokens_58 rfl (lv_at hl 2 rfl) ?_
            refine px_get S k_Mpg hT hw 0 0 7 (v := .ref (r 7)) rfl rfl rfl (by decide) m9_231 d_Mpg_readTokens_59 ?_
            refine lv_iload_n S.x S.b d_Mpg_readTokens_62 rfl (lv_at hl 1 rfl) ?_
            refine px_iald S hT hw 0 6 (n := 2060) (f := (ta26 7)) rfl gp_7 (x := (tf_13 6)) (vp_in_iff.mpr (by first | exact oz_99c0df1a02 k13_5 k13_6 | (constructor <;> omega))) d_Mpg_readTokens_63 ?_
            refine lv_topi (fun z36 ez36 => ?_)
            have lz36 := Int32.le_toInt z36
            have uz36 := Int32.toInt_lt z36
            refine lv_aload_n S.x S.b d_Mpg_readTokens_64 rfl (lv_at hl 2 rfl) ?_
            refine px_get S k_Mpg hT hw 0 0 8 (v := .ref (r 8)) rfl rfl rfl (by decide) m9_232 d_Mpg_readTokens_65 ?_
            refine lv_iload_n S.x S.b d_Mpg_readTokens_68 rfl (lv_at hl 1 rfl) ?_
            refine px_iald S hT hw 0 7 (n := 2060) (f := (ta26 8)) rfl gp_8 (x := (tf_13 6)) (vp_in_iff.mpr (by first | exact oz_99c0df1a02 k13_5 k13_6 | (constructor <;> omega))) d_Mpg_readTokens_69 ?_
            refine lv_topi (fun z37 ez37 => ?_)
            have lz37 := Int32.le_toInt z37
            have uz37 := Int32.toInt_lt z37
            obtain ⟨hq1, hq2, hq3, hq4, hq5⟩ := (show RdK _ _ _ v28 _ by assumption).1 (by first | with_reducible rfl | with_reducible assumption | omega); rw [← ez36, ← ez37] at hq1 hq2 hq3; rw [← ez36] at hq4; rw [← ez37] at hq5
            refine lv_iadd S.x S.b d_Mpg_readTokens_70 ?_
            refine lv_topi (fun z38 ez38 => ?_)
            have tz38 : z38.toInt = (z36.toInt + z37.toInt + 2147483648) % 4294967296 - 2147483648 := by rw [ez38]; exact i_add z36 z37
            have lz38 := Int32.le_toInt z38
            have uz38 := Int32.toInt_lt z38
            try replace tz38 : z38.toInt = z36.toInt + z37.toInt := by omega
            first | refine px_calli (pr := []) (px_runV (As := [.int z38]) (rest := []) S (c_mp_skip l D cs h r g tf25 ta26 pf na ma wa cf ca ef ea xf xa z38  (show 0 ≤ (tf25 5).toInt from (oz_7d1a3665d9 e30 nc12 k13_1)) (show (tf25 5).toInt ≤ 2048 from (oz_bef6f68ae5 e30 k13_0 g1)) (show 0 ≤ z38.toInt from by first | with_reducible rfl | with_reducible assumption | omega) (show z38.toInt ≤ (tf25 5).toInt from by first | with_reducible rfl | with_reducible assumption | omega) _) hT (pr := []) (pcs := [wdP cs h r g tf25 ta26 pf na ma wa cf ca ef ea xf xa]) hw px_X.tt (px_recv hT hw 0 0 rfl rfl rfl) m11_138 m11_135 m11_137 ms_7_14 m1_21 q_Mpg_skip ⟨Nat.le_of_ble_eq_true rfl, Nat.le_of_ble_eq_true rfl⟩ hl.1 rfl (Nat.le_of_ble_eq_true rfl) d_Mpg_readTokens_71 ⟨Nat.le_of_ble_eq_true rfl, Nat.le_of_ble_eq_true rfl⟩) hw hA (fun v40 p39 H locs hp39 hw => ?_) | refine px_calli (pr := []) (px_runV (As := [.int z38]) (rest := []) S (c_mp_skip l D cs h r g tf25 ta26 pf na ma wa cf ca ef ea xf xa z38  (show 0 ≤ (tf25 5).toInt from by first | exact oz_7d1a3665d9 e30 nc12 k13_1 | omega) (show (tf25 5).toInt ≤ 2048 from by first | exact oz_bef6f68ae5 e30 k13_0 g1 | omega) (show 0 ≤ z38.toInt from by first | with_reducible rfl | with_reducible assumption | omega) (show z38.toInt ≤ (tf25 5).toInt from by first | with_reducible rfl | with_reducible assumption | omega) _) hT (pr := []) (pcs := [wdP cs h r g tf25 ta26 pf na ma wa cf ca ef ea xf xa]) hw px_X.tt (px_recv hT hw 0 0 rfl rfl rfl) m11_138 m11_135 m11_137 ms_7_14 m1_21 q_Mpg_skip ⟨Nat.le_of_ble_eq_true rfl, Nat.le_of_ble_eq_true rfl⟩ hl.1 rfl (Nat.le_of_ble_eq_true rfl) d_Mpg_readTokens_71 ⟨Nat.le_of_ble_eq_true rfl, Nat.le_of_ble_eq_true rfl⟩) hw hA (fun v40 p39 H locs hp39 hw => ?_)
            obtain ⟨rfl, e41, e42⟩ := hp39
            have e41 : z38.toInt ≤ v40.toInt := e41
            have e42 : v40.toInt ≤ (tf25 5).toInt := e42
            have lv40 := Int32.le_toInt v40
            have uv40 := Int32.toInt_lt v40
            refine lv_istore_n (lv' := [(1, .int v40), (2, .int v28), (3, .int (tf_13 6)), (0, .ref h)]) S.x S.b d_Mpg_readTokens_74 rfl hl (by decide) rfl (fun ls hl => ?_)
            refine lv_goto (tgt := 13) S.x S.b d_Mpg_readTokens_75 (by decide) ?_
            first | exact ih13 tf25 ta26 v40 v28 _ _ ls (show (tf25 5).toInt = (tf 5).toInt from (oz_1687f4cc65 k13_0 e30)) (show 0 ≤ v40.toInt from by first | with_reducible rfl | with_reducible assumption | omega) (show v40.toInt ≤ (tf 5).toInt from (oz_fcc6387d7b k13_0 e42 e30)) (show 0 ≤ v28.toInt from e29.1) (show v28.toInt ≤ 1 from e29.2) (show 0 ≤ (tf25 6).toInt from (oz_16d7fa9f32 e31 k13_5)) (show (tf25 6).toInt ≤ 2049 from by first | with_reducible rfl | with_reducible assumption | omega) (show RdL tf25 ta26 v40 v28 from (by first | exact rdl_1 (L := (tf 5).toInt) (c := 0) (e := 0) tkp_0 (by first | rfl | omega) (by first | rfl | omega) (by first | with_reducible rfl | with_reducible assumption | omega) (by first | with_reducible rfl | with_reducible assumption | omega) (by first | with_reducible rfl | with_reducible assumption | omega) | exact rdl_1 hq1 (by first | with_reducible rfl | with_reducible assumption | omega) (by first | with_reducible rfl | with_reducible assumption | omega) (by first | with_reducible rfl | with_reducible assumption | omega) (by first | with_reducible rfl | with_reducible assumption | omega) (by first | with_reducible rfl | with_reducible assumption | omega) | exact rdl_bad (by assumption) (by assumption) (by first | with_reducible rfl | with_reducible assumption | omega) (by first | with_reducible rfl | with_reducible assumption | omega) (by first | with_reducible rfl | with_reducible assumption | omega) (by first | with_reducible rfl | with_reducible assumption | omega) (by first | with_reducible rfl | with_reducible assumption | omega) (by first | with_reducible rfl | with_reducible assumption | omega) (by first | with_reducible rfl | with_reducible assumption | omega) (by first | with_reducible rfl | with_reducible assumption | omega) (by first | with_reducible rfl | with_reducible assumption | omega))) (show 2*((tf 5).toInt-v40.toInt)+v28.toInt < (n_13 : Int) from by first | with_reducible rfl | with_reducible assumption | omega) hw (lv_sub hl [3, 0, 1] rfl) | exact ih13 tf25 ta26 v40 v28 _ _ ls (show (tf25 5).toInt = (tf 5).toInt from by first | exact oz_1687f4cc65 k13_0 e30 | omega) (show 0 ≤ v40.toInt from by first | with_reducible rfl | with_reducible assumption | omega) (show v40.toInt ≤ (tf 5).toInt from by first | exact oz_fcc6387d7b k13_0 e42 e30 | omega) (show 0 ≤ v28.toInt from by first | exact e29.1 | omega) (show v28.toInt ≤ 1 from by first | exact e29.2 | omega) (show 0 ≤ (tf25 6).toInt from by first | exact oz_16d7fa9f32 e31 k13_5 | omega) (show (tf25 6).toInt ≤ 2049 from by first | with_reducible rfl | with_reducible assumption | omega) (show RdL tf25 ta26 v40 v28 from (by first | exact rdl_1 (L := (tf 5).toInt) (c := 0) (e := 0) tkp_0 (by first | rfl | omega) (by first | rfl | omega) (by first | with_reducible rfl | with_reducible assumption | omega) (by first | with_reducible rfl | with_reducible assumption | omega) (by first | with_reducible rfl | with_reducible assumption | omega) | exact rdl_1 hq1 (by first | with_reducible rfl | with_reducible assumption | omega) (by first | with_reducible rfl | with_reducible assumption | omega) (by first | with_reducible rfl | with_reducible assumption | omega) (by first | with_reducible rfl | with_reducible assumption | omega) (by first | with_reducible rfl | with_reducible assumption | omega) | exact rdl_bad (by assumption) (by assumption) (by first | with_reducible rfl | with_reducible assumption | omega) (by first | with_reducible rfl | with_reducible assumption | omega) (by first | with_reducible rfl | with_reducible assumption | omega) (by first | with_reducible rfl | with_reducible assumption | omega) (by first | with_reducible rfl | with_reducible assumption | omega) (by first | with_reducible rfl | with_reducible assumption | omega) (by first | with_reducible rfl | with_reducible assumption | omega) (by first | with_reducible rfl | with_reducible assumption | omega) (by first | with_reducible rfl | with_reducible assumption | omega))) (show 2*((tf 5).toInt-v40.toInt)+v28.toInt < (n_13 : Int) from by first | with_reducible rfl | with_reducible assumption | omega) hw (lv_sub hl [3, 0, 1] rfl)
          · have nc35 : v28.toInt = (0 : Int) := (i_eq (x := v28) (y := 0)).mp c35
            refine lv_aload_n S.x S.b d_Mpg_readTokens_40 rfl (lv_at hl 2 rfl) ?_
            refine lv_iload_n S.x S.b d_Mpg_readTokens_41 rfl (lv_at hl 1 rfl) ?_
            refine px_put S k_Mpg hT hw 0 0 6 rfl rfl (by decide) m9_230 rfl rfl rfl (Nat.le_of_ble_eq_true rfl) d_Mpg_readTokens_42 (w' := wdP cs h r g (upd tf25 6 (tf_13 6)) ta26 pf na ma wa cf ca ef ea xf xa) (ps' := [wdP cs h r g (upd tf25 6 (tf_13 6)) ta26 pf na ma wa cf ca ef ea xf xa]) rfl rfl (fun H locs hw => ?_)
            refine lv_aload_n S.x S.b d_Mpg_readTokens_45 rfl (lv_at hl 2 rfl) ?_
            refine lv_iload_n S.x S.b d_Mpg_readTokens_46 rfl (lv_at hl 3 rfl) ?_
            refine lv_iconst (v := 0) S.x S.b d_Mpg_readTokens_47 (by decide) ?_
            refine lv_bipush (v := 6) S.x S.b d_Mpg_readTokens_48 (by decide) ?_
            refine lv_iconst (v := (-1)) S.x S.b d_Mpg_readTokens_50 (by decide) ?_
            first | refine px_callv (pr := []) (px_runV (As := [.int x13_1, .int 0, .int 6, .int (-1)]) (rest := []) S (c_mp_token l D cs h r g pf na ma wa cf ca ef ea xf xa (upd tf25 6 (tf_13 6)) ta26 x13_1 0 6 (-1)  (show 0 ≤ (tf_13 6).toInt from k13_5) (show (tf_13 6).toInt ≤ 2059 from (oz_e00ec8391b k13_6)) _) hT (pr := []) (pcs := [wdP cs h r g (upd tf25 6 (tf_13 6)) ta26 pf na ma wa cf ca ef ea xf xa]) hw px_X.tt (px_recv hT hw 0 0 rfl rfl rfl) m11_166 m11_163 m11_165 ms_8_3 m1_21 q_Mpg_token ⟨Nat.le_of_ble_eq_true rfl, Nat.le_of_ble_eq_true rfl⟩ hl.1 rfl (Nat.le_of_ble_eq_true rfl) d_Mpg_readTokens_51 ⟨Nat.le_of_ble_eq_true rfl, Nat.le_of_ble_eq_true rfl⟩) hw hA (fun p47 H locs hp47 hw => ?_) | refine px_callv (pr := []) (px_runV (As := [.int x13_1, .int 0, .int 6, .int (-1)]) (rest := []) S (c_mp_token l D cs h r g pf na ma wa cf ca ef ea xf xa (upd tf25 6 (tf_13 6)) ta26 x13_1 0 6 (-1)  (show 0 ≤ (tf_13 6).toInt from by first | exact k13_5 | omega) (show (tf_13 6).toInt ≤ 2059 from by first | exact oz_e00ec8391b k13_6 | omega) _) hT (pr := []) (pcs := [wdP cs h r g (upd tf25 6 (tf_13 6)) ta26 pf na ma wa cf ca ef ea xf xa]) hw px_X.tt (px_recv hT hw 0 0 rfl rfl rfl) m11_166 m11_163 m11_165 ms_8_3 m1_21 q_Mpg_token ⟨Nat.le_of_ble_eq_true rfl, Nat.le_of_ble_eq_true rfl⟩ hl.1 rfl (Nat.le_of_ble_eq_true rfl) d_Mpg_readTokens_51 ⟨Nat.le_of_ble_eq_true rfl, Nat.le_of_ble_eq_true rfl⟩) hw hA (fun p47 H locs hp47 hw => ?_)
            obtain ⟨tf45, ta46, rfl, e49, e50, e51⟩ := hp47
            have e49 : (tf45 6).toInt = (tf_13 6).toInt + 1 := e49
            have e50 : (tf45 5).toInt = (tf25 5).toInt := e50
            have e51 : TkU ta26 ta46 (tf_13 6) x13_1 (0 : Int32) (6 : Int32) (-1 : Int32) := e51
            refine lv_goto (tgt := 75) S.x S.b d_Mpg_readTokens_54 (by decide) ?_
            refine lv_goto (tgt := 13) S.x S.b d_Mpg_readTokens_75 (by decide) ?_
            first | exact ih13 tf45 ta46 x13_1 v28 _ _ ls (show (tf45 5).toInt = (tf 5).toInt from (oz_e13fc83238 k13_0 e50 e30)) (show 0 ≤ x13_1.toInt from k13_1) (show x13_1.toInt ≤ (tf 5).toInt from k13_2) (show 0 ≤ v28.toInt from e29.1) (show v28.toInt ≤ 1 from e29.2) (show 0 ≤ (tf45 6).toInt from (oz_ae613611c0 e49 k13_5)) (show (tf45 6).toInt ≤ 2049 from by first | with_reducible rfl | with_reducible assumption | omega) (show RdL tf45 ta46 x13_1 v28 from (by first | exact rdl_1 (L := (tf 5).toInt) (c := 0) (e := 0) tkp_0 (by first | rfl | omega) (by first | rfl | omega) (by first | with_reducible rfl | with_reducible assumption | omega) (by first | with_reducible rfl | with_reducible assumption | omega) (by first | with_reducible rfl | with_reducible assumption | omega) | exact rdl_1 hq1 (by first | with_reducible rfl | with_reducible assumption | omega) (by first | with_reducible rfl | with_reducible assumption | omega) (by first | with_reducible rfl | with_reducible assumption | omega) (by first | with_reducible rfl | with_reducible assumption | omega) (by first | with_reducible rfl | with_reducible assumption | omega) | exact rdl_bad (by assumption) (by assumption) (by first | with_reducible rfl | with_reducible assumption | omega) (by first | with_reducible rfl | with_reducible assumption | omega) (by first | with_reducible rfl | with_reducible assumption | omega) (by first | with_reducible rfl | with_reducible assumption | omega) (by first | with_reducible rfl | with_reducible assumption | omega) (by first | with_reducible rfl | with_reducible assumption | omega) (by first | with_reducible rfl | with_reducible assumption | omega) (by first | with_reducible rfl | with_reducible assumption | omega) (by first | with_reducible rfl | with_reducible assumption | omega))) (show 2*((tf 5).toInt-x13_1.toInt)+v28.toInt < (n_13 : Int) from (oz_5e052c77ae hm nc35 k13_3 nc1)) hw (lv_sub hl [2, 3, 0] rfl) | exact ih13 tf45 ta46 x13_1 v28 _ _ ls (show (tf45 5).toInt = (tf 5).toInt from by first | exact oz_e13fc83238 k13_0 e50 e30 | omega) (show 0 ≤ x13_1.toInt from by first | exact k13_1 | omega) (show x13_1.toInt ≤ (tf 5).toInt from by first | exact k13_2 | omega) (show 0 ≤ v28.toInt from by first | exact e29.1 | omega) (show v28.toInt ≤ 1 from by first | exact e29.2 | omega) (show 0 ≤ (tf45 6).toInt from by first | exact oz_ae613611c0 e49 k13_5 | omega) (show (tf45 6).toInt ≤ 2049 from by first | with_reducible rfl | with_reducible assumption | omega) (show RdL tf45 ta46 x13_1 v28 from (by first | exact rdl_1 (L := (tf 5).toInt) (c := 0) (e := 0) tkp_0 (by first | rfl | omega) (by first | rfl | omega) (by first | with_reducible rfl | with_reducible assumption | omega) (by first | with_reducible rfl | with_reducible assumption | omega) (by first | with_reducible rfl | with_reducible assumption | omega) | exact rdl_1 hq1 (by first | with_reducible rfl | with_reducible assumption | omega) (by first | with_reducible rfl | with_reducible assumption | omega) (by first | with_reducible rfl | with_reducible assumption | omega) (by first | with_reducible rfl | with_reducible assumption | omega) (by first | with_reducible rfl | with_reducible assumption | omega) | exact rdl_bad (by assumption) (by assumption) (by first | with_reducible rfl | with_reducible assumption | omega) (by first | with_reducible rfl | with_reducible assumption | omega) (by first | with_reducible rfl | with_reducible assumption | omega) (by first | with_reducible rfl | with_reducible assumption | omega) (by first | with_reducible rfl | with_reducible assumption | omega) (by first | with_reducible rfl | with_reducible assumption | omega) (by first | with_reducible rfl | with_reducible assumption | omega) (by first | with_reducible rfl | with_reducible assumption | omega) (by first | with_reducible rfl | with_reducible assumption | omega))) (show 2*((tf 5).toInt-x13_1.toInt)+v28.toInt < (n_13 : Int) from by first | exact oz_5e052c77ae hm nc35 k13_3 nc1 | omega) hw (lv_sub hl [2, 3, 0] rfl)
  refine lv_aload_n S.x S.b d_Mpg_readTokens_0 rfl (lv_at hl 0 rfl) ?_
  refine lv_iconst (v := 0) S.x S.b d_Mpg_readTokens_1 (by decide) ?_
  refine px_put S k_Mpg hT hw 0 0 6 rfl rfl (by decide) m9_230 rfl rfl rfl (Nat.le_of_ble_eq_true rfl) d_Mpg_readTokens_2 (w' := wdP cs h r g (upd tf 6 0) ta pf na ma wa cf ca ef ea xf xa) (ps' := [wdP cs h r g (upd tf 6 0) ta pf na ma wa cf ca ef ea xf xa]) rfl rfl (fun H locs hw => ?_)
  refine lv_aload_n S.x S.b d_Mpg_readTokens_5 rfl (lv_at hl 0 rfl) ?_
  refine lv_iconst (v := 0) S.x S.b d_Mpg_readTokens_6 (by decide) ?_
  first | refine px_calli (pr := []) (px_runV (As := [.int 0]) (rest := []) S (c_mp_skip l D cs h r g (upd tf 6 0) ta pf na ma wa cf ca ef ea xf xa 0  (show 0 ≤ (tf 5).toInt from g0) (show (tf 5).toInt ≤ 2048 from g1) (show 0 ≤ (0 : Int) from by first | decide | omega) (show (0 : Int) ≤ (tf 5).toInt from (oz_50c21e157e g0)) _) hT (pr := []) (pcs := [wdP cs h r g (upd tf 6 0) ta pf na ma wa cf ca ef ea xf xa]) hw px_X.tt (px_recv hT hw 0 0 rfl rfl rfl) m11_138 m11_135 m11_137 ms_7_14 m1_21 q_Mpg_skip ⟨Nat.le_of_ble_eq_true rfl, Nat.le_of_ble_eq_true rfl⟩ hl.1 rfl (Nat.le_of_ble_eq_true rfl) d_Mpg_readTokens_7 ⟨Nat.le_of_ble_eq_true rfl, Nat.le_of_ble_eq_true rfl⟩) hw hA (fun v53 p52 H locs hp52 hw => ?_) | refine px_calli (pr := []) (px_runV (As := [.int 0]) (rest := []) S (c_mp_skip l D cs h r g (upd tf 6 0) ta pf na ma wa cf ca ef ea xf xa 0  (show 0 ≤ (tf 5).toInt from by first | exact g0 | omega) (show (tf 5).toInt ≤ 2048 from by first | exact g1 | omega) (show 0 ≤ (0 : Int) from by first | decide | omega) (show (0 : Int) ≤ (tf 5).toInt from by first | exact oz_50c21e157e g0 | omega) _) hT (pr := []) (pcs := [wdP cs h r g (upd tf 6 0) ta pf na ma wa cf ca ef ea xf xa]) hw px_X.tt (px_recv hT hw 0 0 rfl rfl rfl) m11_138 m11_135 m11_137 ms_7_14 m1_21 q_Mpg_skip ⟨Nat.le_of_ble_eq_true rfl, Nat.le_of_ble_eq_true rfl⟩ hl.1 rfl (Nat.le_of_ble_eq_true rfl) d_Mpg_readTokens_7 ⟨Nat.le_of_ble_eq_true rfl, Nat.le_of_ble_eq_true rfl⟩) hw hA (fun v53 p52 H locs hp52 hw => ?_)
  obtain ⟨rfl, e54, e55⟩ := hp52
  have e54 : (0 : Int) ≤ v53.toInt := e54
  have e55 : v53.toInt ≤ (tf 5).toInt := e55
  have lv53 := Int32.le_toInt v53
  have uv53 := Int32.toInt_lt v53
  refine lv_istore_n (lv' := [(1, .int v53), (0, .ref h)]) S.x S.b d_Mpg_readTokens_10 rfl hl (by decide) rfl (fun ls hl => ?_)
  refine lv_iconst (v := 1) S.x S.b d_Mpg_readTokens_11 (by decide) ?_
  refine lv_istore_n (lv' := [(2, .int 1), (1, .int v53), (0, .ref h)]) S.x S.b d_Mpg_readTokens_12 rfl hl (by decide) rfl (fun ls hl => ?_)
  first | exact J13 ((2*((tf 5).toInt-v53.toInt)+(1 : Int)).toNat + 1) (upd tf 6 0) ta v53 (1 : Int32) _ _ ls (show (tf 5).toInt = (tf 5).toInt from rfl) (show 0 ≤ v53.toInt from (oz_0ffba53c78 e54)) (show v53.toInt ≤ (tf 5).toInt from e55) (show 0 ≤ (1 : Int) from by first | decide | omega) (show (1 : Int) ≤ 1 from by first | decide | omega) (show 0 ≤ (0 : Int) from by first | decide | omega) (show (0 : Int) ≤ 2049 from by first | decide | omega) (show RdL (upd tf 6 0) ta v53 1 from (rdl_1 (L := (tf 5).toInt) (c := 0) (e := 0) tkp_0 rfl rfl (by first | with_reducible rfl | with_reducible assumption | omega) (show (0 : Int) ≤ v53.toInt from e54) (by decide))) (show 2*((tf 5).toInt-v53.toInt)+(1 : Int) < ((((2*((tf 5).toInt-v53.toInt)+(1 : Int)).toNat + 1 : Nat) : Int) : Int) from oz_natlt) hw (lv_sub hl [2, 1, 0] rfl) | exact J13 ((2*((tf 5).toInt-v53.toInt)+(1 : Int)).toNat + 1) (upd tf 6 0) ta v53 (1 : Int32) _ _ ls (show (tf 5).toInt = (tf 5).toInt from rfl) (show 0 ≤ v53.toInt from by first | exact oz_0ffba53c78 e54 | omega) (show v53.toInt ≤ (tf 5).toInt from by first | exact e55 | omega) (show 0 ≤ (1 : Int) from by first | decide | omega) (show (1 : Int) ≤ 1 from by first | decide | omega) (show 0 ≤ (0 : Int) from by first | decide | omega) (show (0 : Int) ≤ 2049 from by first | decide | omega) (show RdL (upd tf 6 0) ta v53 1 from (rdl_1 (L := (tf 5).toInt) (c := 0) (e := 0) tkp_0 rfl rfl (by first | with_reducible rfl | with_reducible assumption | omega) (show (0 : Int) ≤ v53.toInt from by first | exact e54 | omega) (by decide))) (show 2*((tf 5).toInt-v53.toInt)+(1 : Int) < ((((2*((tf 5).toInt-v53.toInt)+(1 : Int)).toNat + 1 : Nat) : Int) : Int) from by first | exact oz_natlt | omega) hw (lv_sub hl [2, 1, 0] rfl)
