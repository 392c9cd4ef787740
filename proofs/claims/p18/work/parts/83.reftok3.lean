theorem oz_05f97a0004 {a0 : Int} {n1 : Nat} (h0 : (n1 : Int) = a0) (h1 : ¬ (43 : Int) ≤ a0) : 0 ≤ a0 ∧ a0 < ((43 : Nat) : Int) := by omega
theorem oz_78b121ec6f {a0 a1 : Int} (h0 : a0 < a1) (h1 : a1 ≤ 2048) : a0 ≤ 4000 := by omega
theorem oz_9fa9825dcd {a0 a1 : Int} {n2 : Nat} (h0 : a0 = a1 + 1) (h1 : (n2 : Int) = a1) : 0 ≤ a0 := by omega
theorem oz_9c66ac5e29 {a0 a1 : Int} (h0 : a0 = a1 + 1) (h1 : ¬ (43 : Int) ≤ a1) : a0 ≤ 43 := by omega
theorem oz_d8e5b66e53 {a0 a2 : Int} {n1 : Nat} (h0 : 44 - a2 < ((n1 + 1 : Nat) : Int)) (h1 : a0 = a2 + 1) : 44 - a0 < (n1 : Int) := by omega
theorem oz_1c04ad23e8 {a0 a1 a2 a4 : Int} {n3 : Nat} (h0 : a0 + 2 - a1 - a4 < ((n3 + 1 : Nat) : Int)) (h1 : a2 = a4 + 1) : a0 + 2 - a1 - a2 < (n3 : Int) := by omega
theorem oz_05a38b089a  : (0 : Int) ≤ 43 := by omega
theorem oz_1129936c84  : 0 ≤ (39 : Int) := by omega
theorem oz_676ddfcb1b {a0 a1 a2 : Int} (h0 : a0 = a1 + (2 : Int)) (h1 : a1 = a2 + (1 : Int)) (h2 : 0 ≤ a2) : 0 ≤ a0 := by omega
theorem oz_2b89fb80b9 {a0 a1 a2 : Int} (h0 : a0 = a1 + (1 : Int)) (h1 : a1 = a2 + (1 : Int)) (h2 : 0 ≤ a2) : 0 ≤ a0 := by omega
theorem oz_5aceba244f {a0 a1 : Int} (h0 : a0 < a1) : a0 + (0 : Int) ≤ a1 := by omega
theorem oz_e00ec8391b {a0 : Int} (h0 : a0 ≤ 2049) : a0 ≤ 2059 := by omega
theorem oz_e1f61422c9 {a0 a1 : Int} (h0 : ¬ a1 ≤ a0) : a0 < a1 := by omega
theorem oz_99c0df1a02 {a0 : Int} (h0 : 0 ≤ a0) (h1 : a0 ≤ 2049) : 0 ≤ a0 ∧ a0 < ((2060 : Nat) : Int) := by omega
theorem oz_7d1a3665d9 {a0 a1 a2 : Int} (h0 : a0 = a1) (h1 : ¬ a1 ≤ a2) (h2 : 0 ≤ a2) : 0 ≤ a0 := by omega
theorem oz_bef6f68ae5 {a0 a1 a2 : Int} (h0 : a0 = a1) (h1 : a1 = a2) (h2 : a2 ≤ 2048) : a0 ≤ 2048 := by omega
theorem oz_fcc6387d7b {a0 a1 a2 a3 : Int} (h0 : a2 = a1) (h1 : a0 ≤ a3) (h2 : a3 = a2) : a0 ≤ a1 := by omega
theorem oz_5e052c77ae {a0 a1 a2 a4 : Int} {n3 : Nat} (h0 : 2*(a0-a1)+a4 < ((n3 + 1 : Nat) : Int)) (h1 : a2 = (0 : Int)) (h2 : 0 ≤ a4) (h3 : ¬ a4 = (0 : Int)) : 2*(a0-a1)+a2 < (n3 : Int) := by omega
theorem oz_0ffba53c78 {a0 : Int} (h0 : (0 : Int) ≤ a0) : 0 ≤ a0 := by omega
theorem m9_224 : Cond.fieldLink "HomeSystemModel$Program" 133 "HomeSystemModel$Program" "marks" "[Ljava/lang/String;" ∈ AL := AL_9 (List.mem_of_getElem? (i := 224) rfl) rfl
theorem m11_153 : Cond.methodLink "HomeSystemModel$Program" 321 ⟨"HomeSystemModel$Program", "keyword", "(II)I"⟩ ∈ AL := AL_11 (List.mem_of_getElem? (i := 153) rfl) rfl
theorem m11_156 : Cond.code ⟨"HomeSystemModel$Program", "keyword", "(II)I"⟩ prog_16_method_10_code 4 (Option.some FieldType.int) ∈ AL := AL_11 (List.mem_of_getElem? (i := 156) rfl) rfl
theorem ms_8_1 : Cond.selects "HomeSystemModel$Program" ⟨"HomeSystemModel$Program", "keyword", "(II)I"⟩ ⟨"HomeSystemModel$Program", "keyword", "(II)I"⟩ ∈ AL := AL_p (q := (⟨"HomeSystemModel$Program", "keyword", "(II)I"⟩, 69)) (by unfold lw_privs; exact List.mem_append_right _ (List.mem_append_right _ (List.mem_append_right _ (List.mem_append_right _ (List.mem_append_right _ (List.mem_append_right _ (List.mem_append_right _ (List.mem_append_left _ (List.mem_of_getElem? (i := 1) rfl)))))))))
theorem m11_155 : Cond.instanceMethod ⟨"HomeSystemModel$Program", "keyword", "(II)I"⟩ ∈ AL := AL_11 (List.mem_of_getElem? (i := 155) rfl) rfl
theorem m11_147 : Cond.methodLink "HomeSystemModel$Program" 318 ⟨"HomeSystemModel$Program", "isLetter", "(I)Z"⟩ ∈ AL := AL_11 (List.mem_of_getElem? (i := 147) rfl) rfl
theorem m11_149 : Cond.code ⟨"HomeSystemModel$Program", "isLetter", "(I)Z"⟩ prog_16_method_4_code 1 (Option.some FieldType.boolean) ∈ AL := AL_11 (List.mem_of_getElem? (i := 149) rfl) rfl
theorem m11_148 : Cond.static ⟨"HomeSystemModel$Program", "isLetter", "(I)Z"⟩ ∈ AL := AL_11 (List.mem_of_getElem? (i := 148) rfl) rfl
theorem m11_181 : Cond.methodLink "HomeSystemModel$Program" 335 ⟨"HomeSystemModel$Program", "readString", "(I)Z"⟩ ∈ AL := AL_11 (List.mem_of_getElem? (i := 181) rfl) rfl
theorem m11_184 : Cond.code ⟨"HomeSystemModel$Program", "readString", "(I)Z"⟩ prog_16_method_13_code 5 (Option.some FieldType.boolean) ∈ AL := AL_11 (List.mem_of_getElem? (i := 184) rfl) rfl
theorem ms_8_6 : Cond.selects "HomeSystemModel$Program" ⟨"HomeSystemModel$Program", "readString", "(I)Z"⟩ ⟨"HomeSystemModel$Program", "readString", "(I)Z"⟩ ∈ AL := AL_p (q := (⟨"HomeSystemModel$Program", "readString", "(I)Z"⟩, 69)) (by unfold lw_privs; exact List.mem_append_right _ (List.mem_append_right _ (List.mem_append_right _ (List.mem_append_right _ (List.mem_append_right _ (List.mem_append_right _ (List.mem_append_right _ (List.mem_append_left _ (List.mem_of_getElem? (i := 6) rfl)))))))))
theorem m11_183 : Cond.instanceMethod ⟨"HomeSystemModel$Program", "readString", "(I)Z"⟩ ∈ AL := AL_11 (List.mem_of_getElem? (i := 183) rfl) rfl
theorem m11_167 : Cond.methodLink "HomeSystemModel$Program" 329 ⟨"HomeSystemModel$Program", "readNumber", "(I)Z"⟩ ∈ AL := AL_11 (List.mem_of_getElem? (i := 167) rfl) rfl
theorem m11_170 : Cond.code ⟨"HomeSystemModel$Program", "readNumber", "(I)Z"⟩ prog_16_method_12_code 7 (Option.some FieldType.boolean) ∈ AL := AL_11 (List.mem_of_getElem? (i := 170) rfl) rfl
theorem ms_8_4 : Cond.selects "HomeSystemModel$Program" ⟨"HomeSystemModel$Program", "readNumber", "(I)Z"⟩ ⟨"HomeSystemModel$Program", "readNumber", "(I)Z"⟩ ∈ AL := AL_p (q := (⟨"HomeSystemModel$Program", "readNumber", "(I)Z"⟩, 69)) (by unfold lw_privs; exact List.mem_append_right _ (List.mem_append_right _ (List.mem_append_right _ (List.mem_append_right _ (List.mem_append_right _ (List.mem_append_right _ (List.mem_append_right _ (List.mem_append_left _ (List.mem_of_getElem? (i := 4) rfl)))))))))
theorem m11_169 : Cond.instanceMethod ⟨"HomeSystemModel$Program", "readNumber", "(I)Z"⟩ ∈ AL := AL_11 (List.mem_of_getElem? (i := 169) rfl) rfl
theorem m11_143 : Cond.methodLink "HomeSystemModel$Program" 350 ⟨"HomeSystemModel$Program", "readToken", "(I)Z"⟩ ∈ AL := AL_11 (List.mem_of_getElem? (i := 143) rfl) rfl
theorem m11_146 : Cond.code ⟨"HomeSystemModel$Program", "readToken", "(I)Z"⟩ prog_16_method_11_code 5 (Option.some FieldType.boolean) ∈ AL := AL_11 (List.mem_of_getElem? (i := 146) rfl) rfl
theorem ms_8_0 : Cond.selects "HomeSystemModel$Program" ⟨"HomeSystemModel$Program", "readToken", "(I)Z"⟩ ⟨"HomeSystemModel$Program", "readToken", "(I)Z"⟩ ∈ AL := AL_p (q := (⟨"HomeSystemModel$Program", "readToken", "(I)Z"⟩, 69)) (by unfold lw_privs; exact List.mem_append_right _ (List.mem_append_right _ (List.mem_append_right _ (List.mem_append_right _ (List.mem_append_right _ (List.mem_append_right _ (List.mem_append_right _ (List.mem_append_left _ (List.mem_of_getElem? (i := 0) rfl)))))))))
theorem m11_145 : Cond.instanceMethod ⟨"HomeSystemModel$Program", "readToken", "(I)Z"⟩ ∈ AL := AL_11 (List.mem_of_getElem? (i := 145) rfl) rfl
theorem m11_135 : Cond.methodLink "HomeSystemModel$Program" 347 ⟨"HomeSystemModel$Program", "skip", "(I)I"⟩ ∈ AL := AL_11 (List.mem_of_getElem? (i := 135) rfl) rfl
theorem m11_138 : Cond.code ⟨"HomeSystemModel$Program", "skip", "(I)I"⟩ prog_16_method_6_code 6 (Option.some FieldType.int) ∈ AL := AL_11 (List.mem_of_getElem? (i := 138) rfl) rfl
theorem ms_7_14 : Cond.selects "HomeSystemModel$Program" ⟨"HomeSystemModel$Program", "skip", "(I)I"⟩ ⟨"HomeSystemModel$Program", "skip", "(I)I"⟩ ∈ AL := AL_p (q := (⟨"HomeSystemModel$Program", "skip", "(I)I"⟩, 69)) (by unfold lw_privs; exact List.mem_append_right _ (List.mem_append_right _ (List.mem_append_right _ (List.mem_append_right _ (List.mem_append_right _ (List.mem_append_right _ (List.mem_append_left _ (List.mem_of_getElem? (i := 14) rfl))))))))
theorem m11_137 : Cond.instanceMethod ⟨"HomeSystemModel$Program", "skip", "(I)I"⟩ ∈ AL := AL_11 (List.mem_of_getElem? (i := 137) rfl) rfl
abbrev b_Mpg_readToken : ByteArray := prog_16_method_11_code
def y_Mpg_readToken : MethodName := ⟨"HomeSystemModel$Program", "readToken", "(I)Z"⟩
theorem d_Mpg_readToken_0 : decode b_Mpg_readToken 0 = .ok (.aload_n 0, 1) := by decide +kernel
theorem d_Mpg_readToken_1 : decode b_Mpg_readToken 1 = .ok (.iload_n 1, 1) := by decide +kernel
theorem d_Mpg_readToken_2 : decode b_Mpg_readToken 2 = .ok (.invokevirtual 300, 3) := by decide +kernel
theorem d_Mpg_readToken_5 : decode b_Mpg_readToken 5 = .ok (.istore_n 2, 1) := by decide +kernel
theorem d_Mpg_readToken_6 : decode b_Mpg_readToken 6 = .ok (.iconst 0, 1) := by decide +kernel
theorem d_Mpg_readToken_7 : decode b_Mpg_readToken 7 = .ok (.istore_n 3, 1) := by decide +kernel
theorem d_Mpg_readToken_8 : decode b_Mpg_readToken 8 = .ok (.iload_n 2, 1) := by decide +kernel
theorem d_Mpg_readToken_9 : decode b_Mpg_readToken 9 = .ok (.invokestatic 318, 3) := by decide +kernel
theorem d_Mpg_readToken_12 : decode b_Mpg_readToken 12 = .ok (.ifCond .eq 73, 3) := by decide +kernel
theorem d_Mpg_readToken_15 : decode b_Mpg_readToken 15 = .ok (.aload_n 0, 1) := by decide +kernel
theorem d_Mpg_readToken_16 : decode b_Mpg_readToken 16 = .ok (.iload_n 1, 1) := by decide +kernel
theorem d_Mpg_readToken_17 : decode b_Mpg_readToken 17 = .ok (.iload_n 3, 1) := by decide +kernel
theorem d_Mpg_readToken_18 : decode b_Mpg_readToken 18 = .ok (.iadd, 1) := by decide +kernel
theorem d_Mpg_readToken_19 : decode b_Mpg_readToken 19 = .ok (.invokevirtual 300, 3) := by decide +kernel
theorem d_Mpg_readToken_22 : decode b_Mpg_readToken 22 = .ok (.invokestatic 318, 3) := by decide +kernel
theorem d_Mpg_readToken_25 : decode b_Mpg_readToken 25 = .ok (.ifCond .ne 16, 3) := by decide +kernel
theorem d_Mpg_readToken_28 : decode b_Mpg_readToken 28 = .ok (.aload_n 0, 1) := by decide +kernel
theorem d_Mpg_readToken_29 : decode b_Mpg_readToken 29 = .ok (.iload_n 1, 1) := by decide +kernel
theorem d_Mpg_readToken_30 : decode b_Mpg_readToken 30 = .ok (.iload_n 3, 1) := by decide +kernel
theorem d_Mpg_readToken_31 : decode b_Mpg_readToken 31 = .ok (.iadd, 1) := by decide +kernel
theorem d_Mpg_readToken_32 : decode b_Mpg_readToken 32 = .ok (.invokevirtual 300, 3) := by decide +kernel
theorem d_Mpg_readToken_35 : decode b_Mpg_readToken 35 = .ok (.invokestatic 296, 3) := by decide +kernel
theorem d_Mpg_readToken_38 : decode b_Mpg_readToken 38 = .ok (.ifCond .eq 9, 3) := by decide +kernel
theorem d_Mpg_readToken_41 : decode b_Mpg_readToken 41 = .ok (.iinc 3 1, 3) := by decide +kernel
theorem d_Mpg_readToken_44 : decode b_Mpg_readToken 44 = .ok (.goto (-29), 3) := by decide +kernel
theorem d_Mpg_readToken_47 : decode b_Mpg_readToken 47 = .ok (.aload_n 0, 1) := by decide +kernel
theorem d_Mpg_readToken_48 : decode b_Mpg_readToken 48 = .ok (.iload_n 1, 1) := by decide +kernel
theorem d_Mpg_readToken_49 : decode b_Mpg_readToken 49 = .ok (.iload_n 3, 1) := by decide +kernel
theorem d_Mpg_readToken_50 : decode b_Mpg_readToken 50 = .ok (.invokevirtual 321, 3) := by decide +kernel
theorem d_Mpg_readToken_53 : decode b_Mpg_readToken 53 = .ok (.istore 4, 2) := by decide +kernel
theorem d_Mpg_readToken_55 : decode b_Mpg_readToken 55 = .ok (.aload_n 0, 1) := by decide +kernel
theorem d_Mpg_readToken_56 : decode b_Mpg_readToken 56 = .ok (.iload_n 1, 1) := by decide +kernel
theorem d_Mpg_readToken_57 : decode b_Mpg_readToken 57 = .ok (.iload_n 3, 1) := by decide +kernel
theorem d_Mpg_readToken_58 : decode b_Mpg_readToken 58 = .ok (.iload 4, 2) := by decide +kernel
theorem d_Mpg_readToken_60 : decode b_Mpg_readToken 60 = .ok (.ifCond .lt 7, 3) := by decide +kernel
theorem d_Mpg_readToken_63 : decode b_Mpg_readToken 63 = .ok (.iconst 2, 1) := by decide +kernel
theorem d_Mpg_readToken_64 : decode b_Mpg_readToken 64 = .ok (.goto 4, 3) := by decide +kernel
theorem d_Mpg_readToken_67 : decode b_Mpg_readToken 67 = .ok (.iconst 1, 1) := by decide +kernel
theorem d_Mpg_readToken_68 : decode b_Mpg_readToken 68 = .ok (.iload 4, 2) := by decide +kernel
theorem d_Mpg_readToken_70 : decode b_Mpg_readToken 70 = .ok (.invokevirtual 325, 3) := by decide +kernel
theorem d_Mpg_readToken_73 : decode b_Mpg_readToken 73 = .ok (.iload_n 3, 1) := by decide +kernel
theorem d_Mpg_readToken_74 : decode b_Mpg_readToken 74 = .ok (.bipush 24, 2) := by decide +kernel
theorem d_Mpg_readToken_76 : decode b_Mpg_readToken 76 = .ok (.if_icmp .gt 7, 3) := by decide +kernel
theorem d_Mpg_readToken_79 : decode b_Mpg_readToken 79 = .ok (.iconst 1, 1) := by decide +kernel
theorem d_Mpg_readToken_80 : decode b_Mpg_readToken 80 = .ok (.goto 4, 3) := by decide +kernel
theorem d_Mpg_readToken_83 : decode b_Mpg_readToken 83 = .ok (.iconst 0, 1) := by decide +kernel
theorem d_Mpg_readToken_84 : decode b_Mpg_readToken 84 = .ok (.ireturn, 1) := by decide +kernel
theorem d_Mpg_readToken_85 : decode b_Mpg_readToken 85 = .ok (.iload_n 2, 1) := by decide +kernel
theorem d_Mpg_readToken_86 : decode b_Mpg_readToken 86 = .ok (.invokestatic 296, 3) := by decide +kernel
theorem d_Mpg_readToken_89 : decode b_Mpg_readToken 89 = .ok (.ifCond .eq 9, 3) := by decide +kernel
theorem d_Mpg_readToken_92 : decode b_Mpg_readToken 92 = .ok (.aload_n 0, 1) := by decide +kernel
theorem d_Mpg_readToken_93 : decode b_Mpg_readToken 93 = .ok (.iload_n 1, 1) := by decide +kernel
theorem d_Mpg_readToken_94 : decode b_Mpg_readToken 94 = .ok (.invokevirtual 329, 3) := by decide +kernel
theorem d_Mpg_readToken_97 : decode b_Mpg_readToken 97 = .ok (.ireturn, 1) := by decide +kernel
theorem d_Mpg_readToken_98 : decode b_Mpg_readToken 98 = .ok (.iload_n 2, 1) := by decide +kernel
theorem d_Mpg_readToken_99 : decode b_Mpg_readToken 99 = .ok (.bipush 39, 2) := by decide +kernel
theorem d_Mpg_readToken_101 : decode b_Mpg_readToken 101 = .ok (.if_icmp .ne 76, 3) := by decide +kernel
theorem d_Mpg_readToken_104 : decode b_Mpg_readToken 104 = .ok (.aload_n 0, 1) := by decide +kernel
theorem d_Mpg_readToken_105 : decode b_Mpg_readToken 105 = .ok (.iload_n 1, 1) := by decide +kernel
theorem d_Mpg_readToken_106 : decode b_Mpg_readToken 106 = .ok (.iconst 1, 1) := by decide +kernel
theorem d_Mpg_readToken_107 : decode b_Mpg_readToken 107 = .ok (.iadd, 1) := by decide +kernel
theorem d_Mpg_readToken_108 : decode b_Mpg_readToken 108 = .ok (.bipush 39, 2) := by decide +kernel
theorem d_Mpg_readToken_110 : decode b_Mpg_readToken 110 = .ok (.invokevirtual 332, 3) := by decide +kernel
theorem d_Mpg_readToken_113 : decode b_Mpg_readToken 113 = .ok (.istore 4, 2) := by decide +kernel
theorem d_Mpg_readToken_115 : decode b_Mpg_readToken 115 = .ok (.iload 4, 2) := by decide +kernel
theorem d_Mpg_readToken_117 : decode b_Mpg_readToken 117 = .ok (.ifCond .ge 7, 3) := by decide +kernel
theorem d_Mpg_readToken_120 : decode b_Mpg_readToken 120 = .ok (.iconst 0, 1) := by decide +kernel
theorem d_Mpg_readToken_121 : decode b_Mpg_readToken 121 = .ok (.goto 16, 3) := by decide +kernel
theorem d_Mpg_readToken_124 : decode b_Mpg_readToken 124 = .ok (.iload 4, 2) := by decide +kernel
theorem d_Mpg_readToken_126 : decode b_Mpg_readToken 126 = .ok (.sipush 1000, 3) := by decide +kernel
theorem d_Mpg_readToken_129 : decode b_Mpg_readToken 129 = .ok (.if_icmp .ge 7, 3) := by decide +kernel
theorem d_Mpg_readToken_132 : decode b_Mpg_readToken 132 = .ok (.iconst 1, 1) := by decide +kernel
theorem d_Mpg_readToken_133 : decode b_Mpg_readToken 133 = .ok (.goto 4, 3) := by decide +kernel
theorem d_Mpg_readToken_136 : decode b_Mpg_readToken 136 = .ok (.iconst 2, 1) := by decide +kernel
theorem d_Mpg_readToken_137 : decode b_Mpg_readToken 137 = .ok (.istore_n 3, 1) := by decide +kernel
theorem d_Mpg_readToken_138 : decode b_Mpg_readToken 138 = .ok (.aload_n 0, 1) := by decide +kernel
theorem d_Mpg_readToken_139 : decode b_Mpg_readToken 139 = .ok (.iload_n 1, 1) := by decide +kernel
theorem d_Mpg_readToken_140 : decode b_Mpg_readToken 140 = .ok (.iload_n 3, 1) := by decide +kernel
theorem d_Mpg_readToken_141 : decode b_Mpg_readToken 141 = .ok (.iconst 2, 1) := by decide +kernel
theorem d_Mpg_readToken_142 : decode b_Mpg_readToken 142 = .ok (.iadd, 1) := by decide +kernel
theorem d_Mpg_readToken_143 : decode b_Mpg_readToken 143 = .ok (.iconst 3, 1) := by decide +kernel
theorem d_Mpg_readToken_144 : decode b_Mpg_readToken 144 = .ok (.iload 4, 2) := by decide +kernel
theorem d_Mpg_readToken_146 : decode b_Mpg_readToken 146 = .ok (.sipush 1000, 3) := by decide +kernel
theorem d_Mpg_readToken_149 : decode b_Mpg_readToken 149 = .ok (.irem, 1) := by decide +kernel
theorem d_Mpg_readToken_150 : decode b_Mpg_readToken 150 = .ok (.invokevirtual 325, 3) := by decide +kernel
theorem d_Mpg_readToken_153 : decode b_Mpg_readToken 153 = .ok (.iload_n 3, 1) := by decide +kernel
theorem d_Mpg_readToken_154 : decode b_Mpg_readToken 154 = .ok (.ifCond .le 21, 3) := by decide +kernel
theorem d_Mpg_readToken_157 : decode b_Mpg_readToken 157 = .ok (.aload_n 0, 1) := by decide +kernel
theorem d_Mpg_readToken_158 : decode b_Mpg_readToken 158 = .ok (.iload_n 1, 1) := by decide +kernel
theorem d_Mpg_readToken_159 : decode b_Mpg_readToken 159 = .ok (.iconst 1, 1) := by decide +kernel
theorem d_Mpg_readToken_160 : decode b_Mpg_readToken 160 = .ok (.iadd, 1) := by decide +kernel
theorem d_Mpg_readToken_161 : decode b_Mpg_readToken 161 = .ok (.iload_n 3, 1) := by decide +kernel
theorem d_Mpg_readToken_162 : decode b_Mpg_readToken 162 = .ok (.iadd, 1) := by decide +kernel
theorem d_Mpg_readToken_163 : decode b_Mpg_readToken 163 = .ok (.invokevirtual 300, 3) := by decide +kernel
theorem d_Mpg_readToken_166 : decode b_Mpg_readToken 166 = .ok (.bipush 39, 2) := by decide +kernel
theorem d_Mpg_readToken_168 : decode b_Mpg_readToken 168 = .ok (.if_icmp .ne 7, 3) := by decide +kernel
theorem d_Mpg_readToken_171 : decode b_Mpg_readToken 171 = .ok (.iconst 1, 1) := by decide +kernel
theorem d_Mpg_readToken_172 : decode b_Mpg_readToken 172 = .ok (.goto 4, 3) := by decide +kernel
theorem d_Mpg_readToken_175 : decode b_Mpg_readToken 175 = .ok (.iconst 0, 1) := by decide +kernel
theorem d_Mpg_readToken_176 : decode b_Mpg_readToken 176 = .ok (.ireturn, 1) := by decide +kernel
theorem d_Mpg_readToken_177 : decode b_Mpg_readToken 177 = .ok (.iload_n 2, 1) := by decide +kernel
theorem d_Mpg_readToken_178 : decode b_Mpg_readToken 178 = .ok (.bipush 34, 2) := by decide +kernel
theorem d_Mpg_readToken_180 : decode b_Mpg_readToken 180 = .ok (.if_icmp .ne 9, 3) := by decide +kernel
theorem d_Mpg_readToken_183 : decode b_Mpg_readToken 183 = .ok (.aload_n 0, 1) := by decide +kernel
theorem d_Mpg_readToken_184 : decode b_Mpg_readToken 184 = .ok (.iload_n 1, 1) := by decide +kernel
theorem d_Mpg_readToken_185 : decode b_Mpg_readToken 185 = .ok (.invokevirtual 335, 3) := by decide +kernel
theorem d_Mpg_readToken_188 : decode b_Mpg_readToken 188 = .ok (.ireturn, 1) := by decide +kernel
theorem d_Mpg_readToken_189 : decode b_Mpg_readToken 189 = .ok (.iload_n 2, 1) := by decide +kernel
theorem d_Mpg_readToken_190 : decode b_Mpg_readToken 190 = .ok (.bipush 47, 2) := by decide +kernel
theorem d_Mpg_readToken_192 : decode b_Mpg_readToken 192 = .ok (.if_icmp .ne 17, 3) := by decide +kernel
theorem d_Mpg_readToken_195 : decode b_Mpg_readToken 195 = .ok (.aload_n 0, 1) := by decide +kernel
theorem d_Mpg_readToken_196 : decode b_Mpg_readToken 196 = .ok (.iload_n 1, 1) := by decide +kernel
theorem d_Mpg_readToken_197 : decode b_Mpg_readToken 197 = .ok (.iconst 1, 1) := by decide +kernel
theorem d_Mpg_readToken_198 : decode b_Mpg_readToken 198 = .ok (.iadd, 1) := by decide +kernel
theorem d_Mpg_readToken_199 : decode b_Mpg_readToken 199 = .ok (.invokevirtual 300, 3) := by decide +kernel
theorem d_Mpg_readToken_202 : decode b_Mpg_readToken 202 = .ok (.bipush 42, 2) := by decide +kernel
theorem d_Mpg_readToken_204 : decode b_Mpg_readToken 204 = .ok (.if_icmp .ne 5, 3) := by decide +kernel
theorem d_Mpg_readToken_207 : decode b_Mpg_readToken 207 = .ok (.iconst 0, 1) := by decide +kernel
theorem d_Mpg_readToken_208 : decode b_Mpg_readToken 208 = .ok (.ireturn, 1) := by decide +kernel
theorem d_Mpg_readToken_209 : decode b_Mpg_readToken 209 = .ok (.iconst 0, 1) := by decide +kernel
theorem d_Mpg_readToken_210 : decode b_Mpg_readToken 210 = .ok (.istore 4, 2) := by decide +kernel
theorem d_Mpg_readToken_212 : decode b_Mpg_readToken 212 = .ok (.iload 4, 2) := by decide +kernel
theorem d_Mpg_readToken_214 : decode b_Mpg_readToken 214 = .ok (.aload_n 0, 1) := by decide +kernel
theorem d_Mpg_readToken_215 : decode b_Mpg_readToken 215 = .ok (.getfield 133, 3) := by decide +kernel
theorem d_Mpg_readToken_218 : decode b_Mpg_readToken 218 = .ok (.arraylength, 1) := by decide +kernel
theorem d_Mpg_readToken_219 : decode b_Mpg_readToken 219 = .ok (.if_icmp .ge 44, 3) := by decide +kernel
theorem d_Mpg_readToken_222 : decode b_Mpg_readToken 222 = .ok (.aload_n 0, 1) := by decide +kernel
theorem d_Mpg_readToken_223 : decode b_Mpg_readToken 223 = .ok (.iload_n 1, 1) := by decide +kernel
theorem d_Mpg_readToken_224 : decode b_Mpg_readToken 224 = .ok (.aload_n 0, 1) := by decide +kernel
theorem d_Mpg_readToken_225 : decode b_Mpg_readToken 225 = .ok (.getfield 133, 3) := by decide +kernel
theorem d_Mpg_readToken_228 : decode b_Mpg_readToken 228 = .ok (.iload 4, 2) := by decide +kernel
theorem d_Mpg_readToken_230 : decode b_Mpg_readToken 230 = .ok (.aaload, 1) := by decide +kernel
theorem d_Mpg_readToken_231 : decode b_Mpg_readToken 231 = .ok (.invokevirtual 314, 3) := by decide +kernel
theorem d_Mpg_readToken_234 : decode b_Mpg_readToken 234 = .ok (.ifCond .eq 23, 3) := by decide +kernel
theorem d_Mpg_readToken_237 : decode b_Mpg_readToken 237 = .ok (.aload_n 0, 1) := by decide +kernel
theorem d_Mpg_readToken_238 : decode b_Mpg_readToken 238 = .ok (.iload_n 1, 1) := by decide +kernel
theorem d_Mpg_readToken_239 : decode b_Mpg_readToken 239 = .ok (.aload_n 0, 1) := by decide +kernel
theorem d_Mpg_readToken_240 : decode b_Mpg_readToken 240 = .ok (.getfield 133, 3) := by decide +kernel
theorem d_Mpg_readToken_243 : decode b_Mpg_readToken 243 = .ok (.iload 4, 2) := by decide +kernel
theorem d_Mpg_readToken_245 : decode b_Mpg_readToken 245 = .ok (.aaload, 1) := by decide +kernel
theorem d_Mpg_readToken_246 : decode b_Mpg_readToken 246 = .ok (.invokevirtual 307, 3) := by decide +kernel
theorem d_Mpg_readToken_249 : decode b_Mpg_readToken 249 = .ok (.iconst 5, 1) := by decide +kernel
theorem d_Mpg_readToken_250 : decode b_Mpg_readToken 250 = .ok (.iload 4, 2) := by decide +kernel
theorem d_Mpg_readToken_252 : decode b_Mpg_readToken 252 = .ok (.invokevirtual 325, 3) := by decide +kernel
theorem d_Mpg_readToken_255 : decode b_Mpg_readToken 255 = .ok (.iconst 1, 1) := by decide +kernel
theorem d_Mpg_readToken_256 : decode b_Mpg_readToken 256 = .ok (.ireturn, 1) := by decide +kernel
theorem d_Mpg_readToken_257 : decode b_Mpg_readToken 257 = .ok (.iinc 4 1, 3) := by decide +kernel
theorem d_Mpg_readToken_260 : decode b_Mpg_readToken 260 = .ok (.goto (-48), 3) := by decide +kernel
theorem d_Mpg_readToken_263 : decode b_Mpg_readToken 263 = .ok (.iconst 0, 1) := by decide +kernel
theorem d_Mpg_readToken_264 : decode b_Mpg_readToken 264 = .ok (.ireturn, 1) := by decide +kernel
theorem q_Mpg_readToken : px_y y_Mpg_readToken 1 := by unfold px_y; decide +kernel
set_option maxHeartbeats 4000000 in
set_option maxRecDepth 100000 in
theorem c_mp_readToken (l : Launch) (D : va_G) (cs : Nat → ClassId) (h : Nat) (r : Nat → Nat) (g : Nat → Nat → Option Nat) (pf : Nat → Int32) (na : Nat → Nat → Int32) (ma : Nat → Nat → Int32) (wa : Nat → Nat → Int32) (cf : Nat → Int32) (ca : Nat → Nat → Int32) (ef : Nat → Int32) (ea : Nat → Nat → Int32) (xf : Nat → Int32) (xa : Nat → Nat → Int32) (tf : Nat → Int32) (ta : Nat → Nat → Int32) (p0 : Int32)  (g0 : 0 ≤ (tf 5).toInt) (g1 : (tf 5).toInt ≤ 2048) (g2 : 0 ≤ p0.toInt) (g3 : p0.toInt < (tf 5).toInt) (g4 : 0 ≤ (tf 6).toInt) (g5 : (tf 6).toInt ≤ p0.toInt) (htp : TkP (tf 5).toInt ta (tf 6).toInt p0.toInt) : MetI l y_Mpg_readToken b_Mpg_readToken 5 (.boolean) D cs 6 230 (0) (0) [.ref h, .int p0] [wdP cs h r g tf ta pf na ma wa cf ca ef ea xf xa] (oX (fun A U H => (oP A g U H)) [wdP cs h r g tf ta pf na ma wa cf ca ef ea xf xa]) (fun v ps => ∃ (tf' : Nat → Int32) (ta' : Nat → Nat → Int32), (ps = [wdP cs h r g tf' ta' pf na ma wa cf ca ef ea xf xa]) ∧ (v = 0 ∨ v = 1) ∧ ((tf' 5).toInt = (tf 5).toInt) ∧ ((tf 6).toInt ≤ (tf' 6).toInt) ∧ ((tf' 6).toInt ≤ (tf 6).toInt + 1) ∧ (v.toInt = 1 → (tf' 6).toInt = (tf 6).toInt + 1) ∧ (RdK (tf 5).toInt ta' (tf 6) v p0) ∧ (R_mp_readToken p0 tf ta tf' ta' v)) := by
  refine px_enter (by decide) (Nat.le_of_ble_eq_true rfl) ?_
  intro p e s m below meth c A ls hAe S hr hlk hnm hA hT hX hw hl
  have hl : lv_has ls 5 [(0, .ref h), (1, .int p0)] := hl
  have lp0 := Int32.le_toInt p0
  have up0 := Int32.toInt_lt p0
  have cst0 : (0 : Int32).toInt = 0 := rfl
  have cst1 : (1 : Int32).toInt = 1 := rfl
  have cst2 : (2 : Int32).toInt = 2 := rfl
  have cst3 : (3 : Int32).toInt = 3 := rfl
  have cst5 : (5 : Int32).toInt = 5 := rfl
  have cst24 : (24 : Int32).toInt = 24 := rfl
  have cst34 : (34 : Int32).toInt = 34 := rfl
  have cst39 : (39 : Int32).toInt = 39 := rfl
  have cst42 : (42 : Int32).toInt = 42 := rfl
  have cst47 : (47 : Int32).toInt = 47 := rfl
  have cst1000 : (1000 : Int32).toInt = 1000 := rfl
  have hX : (fun A U H => (oP A g U H)) A s s.heap := by rw [hAe]; exact hX
  have hP := hX
  have hZ := hP.1
  have hF0 := hP.2.1
  have J212 : ∀ (n_212 : Nat)  (x212_4 : Int32) (H : Heap) (locs : List Loc) (ls : Array Slot), (0 ≤ x212_4.toInt) → (x212_4.toInt ≤ 43) → (K_mp_readToken_212 p0 tf ta tf ta x212_4) → 44 - x212_4.toInt < (n_212 : Int) → pw D A s.heap H locs [wdP cs h r g tf ta pf na ma wa cf ca ef ea xf xa] → lv_has ls 5 [(0, .ref h), (1, .int p0), (4, .int x212_4)] → W p l e { frames := 6, cells := 0, slots := 0, locals := 230 } s m [.ref h, .int p0].toArray below meth c H locs 0 0 (MQ below (va_Qi (fun v ps => ∃ (tf' : Nat → Int32) (ta' : Nat → Nat → Int32), (ps = [wdP cs h r g tf' ta' pf na ma wa cf ca ef ea xf xa]) ∧ (v = 0 ∨ v = 1) ∧ ((tf' 5).toInt = (tf 5).toInt) ∧ ((tf 6).toInt ≤ (tf' 6).toInt) ∧ ((tf' 6).toInt ≤ (tf 6).toInt + 1) ∧ (v.toInt = 1 → (tf' 6).toInt = (tf 6).toInt + 1) ∧ (RdK (tf 5).toInt ta' (tf 6) v p0) ∧ (R_mp_readToken p0 tf ta tf' ta' v)) (pc_B D (va_A ([wdP cs h r g tf ta pf na ma wa cf ca ef ea xf xa] : List va_W).flatten s.heap.size)) (va_A ([wdP cs h r g tf ta pf na ma wa cf ca ef ea xf xa] : List va_W).flatten s.heap.size)) [.ref h, .int p0].toArray s 0 0 A) (F0 m 212 ls []) := by
    intro  n_212
    induction n_212 with
    | zero =>
      intro x212_4 H locs ls k212_0 k212_1 k212_2 hm hw hl
      have lx212_4 := Int32.le_toInt x212_4
      have ux212_4 := Int32.toInt_lt x212_4
      exact absurd hm (by omega)
    | succ n_212 ih212 =>
      intro x212_4 H locs ls k212_0 k212_1 k212_2 hm hw hl
      have lx212_4 := Int32.le_toInt x212_4
      have ux212_4 := Int32.toInt_lt x212_4
      refine lv_iload S.x S.b d_Mpg_readToken_212 (lv_at hl 2 rfl) ?_
      refine lv_aload_n S.x S.b d_Mpg_readToken_214 rfl (lv_at hl 0 rfl) ?_
      refine gP_1 S hT hw 0 rfl m9_224 d_Mpg_readToken_215 ?_
      refine px_len S hT hw 0 2 11 rfl rfl rfl (v := 43) rfl d_Mpg_readToken_218 ?_
      refine lv_icmp_ge (tgt := 263) S.x S.b d_Mpg_readToken_219 (by decide) (fun c1 => ?_) (fun c1 => ?_)
      · have nc1 : (43 : Int) ≤ x212_4.toInt := (i_le (x := 43) (y := x212_4)).mp c1
        refine lv_iconst (v := 0) S.x S.b d_Mpg_readToken_263 (by decide) ?_
        first | exact px_iret (v := 0) S hr rfl hlk hAe hw (Nat.le_of_ble_eq_true rfl) (Nat.le_of_ble_eq_true rfl) (⟨tf, ta, rfl, (show (0 : Int32) = 0 ∨ (0 : Int32) = 1 from by first | exact Or.inl rfl | exact Or.inr rfl | exact z_or (by omega)), (show (tf 5).toInt = (tf 5).toInt from rfl), (show (tf 6).toInt ≤ (tf 6).toInt from oz_1cb5f934a5), (show (tf 6).toInt ≤ (tf 6).toInt + 1 from oz_ae0d7c4baf), (show (0 : Int) = 1 → (tf 6).toInt = (tf 6).toInt + 1 from by omega), (show RdK (tf 5).toInt ta (tf 6) (0 : Int32) p0 from (by first | exact rdk_n htp (by assumption) (by omega) (by omega) | exact rdk_0 htp (by omega))), (show R_mp_readToken p0 tf ta tf ta (0 : Int32) from (k212_2 _ _ _ 1 (Or.inr (Or.inr (Or.inr (Or.inl ⟨rfl, x212_4, rfl, rfl, rfl, rfl, rfl, Or.inl ⟨nc1, rfl, rfl, rfl⟩⟩))))))⟩) d_Mpg_readToken_264 | (exact px_iret (v := 0) S hr rfl hlk hAe hw (Nat.le_of_ble_eq_true rfl) (Nat.le_of_ble_eq_true rfl) (⟨tf, ta, rfl, (show (0 : Int32) = 0 ∨ (0 : Int32) = 1 from by first | exact Or.inl rfl | exact Or.inr rfl | exact z_or (by omega)), (show (tf 5).toInt = (tf 5).toInt from rfl), (show (tf 6).toInt ≤ (tf 6).toInt from by first | exact oz_1cb5f934a5 | omega), (show (tf 6).toInt ≤ (tf 6).toInt + 1 from by first | exact oz_ae0d7c4baf | omega), (show (0 : Int) = 1 → (tf 6).toInt = (tf 6).toInt + 1 from by omega), (show RdK (tf 5).toInt ta (tf 6) (0 : Int32) p0 from (by first | exact rdk_n htp (by assumption) (by omega) (by omega) | exact rdk_0 htp (by omega))), (show R_mp_readToken p0 tf ta tf ta (0 : Int32) from (k212_2 _ _ _ 1 (Or.inr (Or.inr (Or.inr (Or.inl ⟨rfl, x212_4, rfl, rfl, rfl, rfl, rfl, Or.inl ⟨nc1, rfl, rfl, rfl⟩⟩))))))⟩) d_Mpg_readToken_264)
      · have nc1 : ¬ (43 : Int) ≤ x212_4.toInt := mt (i_le (x := 43) (y := x212_4)).mpr c1
        refine lv_aload_n S.x S.b d_Mpg_readToken_222 rfl (lv_at hl 0 rfl) ?_
        refine lv_iload_n S.x S.b d_Mpg_readToken_223 rfl (lv_at hl 1 rfl) ?_
        refine lv_aload_n S.x S.b d_Mpg_readToken_224 rfl (lv_at hl 0 rfl) ?_
        refine gP_1 S hT hw 0 rfl m9_224 d_Mpg_readToken_225 ?_
        refine lv_iload S.x S.b d_Mpg_readToken_228 (lv_at hl 2 rfl) ?_
        first | have hclsk3 := cl_nat (x := x212_4) (k212_0) | (have hclsk3 := cl_nat (x := x212_4) (by first | exact k212_0 | omega))
        obtain ⟨sk3, hgsk3, st4, hSsk3⟩ := oP_1B hP (i := x212_4.toNatClampNeg) (by omega)
        have hmsk3 := len_1 (i := x212_4.toNatClampNeg) (by omega)
        refine px_aaldS S hT hw 0 2 11 (n := 43) (f := (g 1)) rfl rfl rfl (x := x212_4) (vp_in_iff.mpr (by first | exact oz_05f97a0004 hclsk3 nc1 | (constructor <;> omega))) hgsk3 d_Mpg_readToken_230 ?_
        first | refine px_calli (pr := []) (px_runV (As := [.int p0, .ref sk3]) (rest := []) S (c_mp_standsS l D cs sk3 (mlen x212_4.toNatClampNeg) (mby x212_4.toNatClampNeg) h r g tf ta pf na ma wa cf ca ef ea xf xa p0  (show 0 ≤ (tf 5).toInt from g0) (show (tf 5).toInt ≤ 2048 from g1) (show 0 ≤ p0.toInt from g2) (show p0.toInt ≤ 4000 from (oz_78b121ec6f g3 g1)) (show (mlen x212_4.toNatClampNeg) ≤ 100 from by omega) _) hT (pr := []) (pcs := [wdP cs h r g tf ta pf na ma wa cf ca ef ea xf xa]) hw (oX_call (P := (fun A U H => (oP A g U H) ∧ (StLt A sk3 (mlen x212_4.toNatClampNeg) (mby x212_4.toNatClampNeg) U H))) (pr := []) (oG_and oG_P oG_QB) hw hA ⟨hP, ⟨_, hSsk3⟩⟩) (px_recv hT hw 0 0 rfl rfl rfl) m11_161 m11_158 m11_160 ms_8_2 m1_21 q_Mpg_stands ⟨Nat.le_of_ble_eq_true rfl, Nat.le_of_ble_eq_true rfl⟩ hl.1 rfl (Nat.le_of_ble_eq_true rfl) d_Mpg_readToken_231 ⟨Nat.le_of_ble_eq_true rfl, Nat.le_of_ble_eq_true rfl⟩) hw hA (fun v7 p6 H locs hp6 hw => ?_) | (refine px_calli (pr := []) (px_runV (As := [.int p0, .ref sk3]) (rest := []) S (c_mp_standsS l D cs sk3 (mlen x212_4.toNatClampNeg) (mby x212_4.toNatClampNeg) h r g tf ta pf na ma wa cf ca ef ea xf xa p0  (show 0 ≤ (tf 5).toInt from by first | exact g0 | omega) (show (tf 5).toInt ≤ 2048 from by first | exact g1 | omega) (show 0 ≤ p0.toInt from by first | exact g2 | omega) (show p0.toInt ≤ 4000 from by first | exact oz_78b121ec6f g3 g1 | omega) (show (mlen x212_4.toNatClampNeg) ≤ 100 from by omega) _) hT (pr := []) (pcs := [wdP cs h r g tf ta pf na ma wa cf ca ef ea xf xa]) hw (oX_call (P := (fun A U H => (oP A g U H) ∧ (StLt A sk3 (mlen x212_4.toNatClampNeg) (mby x212_4.toNatClampNeg) U H))) (pr := []) (oG_and oG_P oG_QB) hw hA ⟨hP, ⟨_, hSsk3⟩⟩) (px_recv hT hw 0 0 rfl rfl rfl) m11_161 m11_158 m11_160 ms_8_2 m1_21 q_Mpg_stands ⟨Nat.le_of_ble_eq_true rfl, Nat.le_of_ble_eq_true rfl⟩ hl.1 rfl (Nat.le_of_ble_eq_true rfl) d_Mpg_readToken_231 ⟨Nat.le_of_ble_eq_true rfl, Nat.le_of_ble_eq_true rfl⟩) hw hA (fun v7 p6 H locs hp6 hw => ?_))
        obtain ⟨rfl, e8, e9, e10⟩ := hp6
        have e8 := z_rng e8
        have e9 : v7.toInt = 1 → p0.toInt + ((mlen x212_4.toNatClampNeg) : Int) ≤ (tf 5).toInt ∨ ((mlen x212_4.toNatClampNeg) : Int) = 0 := e9
        have e10 : R_mp_standsS (mlen x212_4.toNatClampNeg) (mby x212_4.toNatClampNeg) tf ta p0 v7 := e10
        have lv7 := Int32.le_toInt v7
        have uv7 := Int32.toInt_lt v7
        refine lv_if_eq (tgt := 257) S.x S.b d_Mpg_readToken_234 (by decide) (fun c11 => ?_) (fun c11 => ?_)
        · have nc11 : v7.toInt = (0 : Int) := (i_eq (x := v7) (y := 0)).mp c11
          obtain ⟨z13, ez13⟩ : ∃ y : Int32, y = x212_4 + 1 := ⟨_, rfl⟩
          have tz13 : z13.toInt = (x212_4.toInt + 1 + 2147483648) % 4294967296 - 2147483648 := by rw [ez13]; exact i_add x212_4 1
          have lz13 := Int32.le_toInt z13
          have uz13 := Int32.toInt_lt z13
          try replace tz13 : z13.toInt = x212_4.toInt + 1 := by omega
          refine lv_iinc (v := z13) (lv' := [(4, .int z13), (0, .ref h), (1, .int p0)]) S.x S.b d_Mpg_readToken_257 hl (k := 2) rfl (by rw [ez13]; rfl) (by decide) rfl (fun ls hl => ?_)
          refine lv_goto (tgt := 212) S.x S.b d_Mpg_readToken_260 (by decide) ?_
          first | exact ih212 z13 _ _ ls (show 0 ≤ z13.toInt from (oz_9fa9825dcd tz13 hclsk3)) (show z13.toInt ≤ 43 from (oz_9c66ac5e29 tz13 nc1)) (show K_mp_readToken_212 p0 tf ta tf ta z13 from (fun y_f0 y_f1 y_v k hE => k212_2 y_f0 y_f1 y_v (k + 1) (Or.inr (Or.inr (Or.inr (Or.inl ⟨rfl, x212_4, rfl, rfl, rfl, rfl, rfl, Or.inr ⟨nc1, v7, e10, Or.inl ⟨nc11, z13, ez13, hE⟩⟩⟩)))))) (show 44 - z13.toInt < (n_212 : Int) from (oz_d8e5b66e53 hm tz13)) hw (lv_sub hl [1, 2, 0] rfl) | (exact ih212 z13 _ _ ls (show 0 ≤ z13.toInt from by first | exact oz_9fa9825dcd tz13 hclsk3 | omega) (show z13.toInt ≤ 43 from by first | exact oz_9c66ac5e29 tz13 nc1 | omega) (show K_mp_readToken_212 p0 tf ta tf ta z13 from (fun y_f0 y_f1 y_v k hE => k212_2 y_f0 y_f1 y_v (k + 1) (Or.inr (Or.inr (Or.inr (Or.inl ⟨rfl, x212_4, rfl, rfl, rfl, rfl, rfl, Or.inr ⟨nc1, v7, e10, Or.inl ⟨nc11, z13, ez13, hE⟩⟩⟩)))))) (show 44 - z13.toInt < (n_212 : Int) from by first | exact oz_d8e5b66e53 hm tz13 | omega) hw (lv_sub hl [1, 2, 0] rfl))
        · have nc11 : ¬ v7.toInt = (0 : Int) := mt (i_eq (x := v7) (y := 0)).mpr c11
          refine lv_aload_n S.x S.b d_Mpg_readToken_237 rfl (lv_at hl 0 rfl) ?_
          refine lv_iload_n S.x S.b d_Mpg_readToken_238 rfl (lv_at hl 1 rfl) ?_
          refine lv_aload_n S.x S.b d_Mpg_readToken_239 rfl (lv_at hl 0 rfl) ?_
          refine gP_1 S hT hw 0 rfl m9_224 d_Mpg_readToken_240 ?_
          refine lv_iload S.x S.b d_Mpg_readToken_243 (lv_at hl 2 rfl) ?_
          first | have hclsk14 := cl_nat (x := x212_4) (k212_0) | (have hclsk14 := cl_nat (x := x212_4) (by first | exact k212_0 | omega))
          obtain ⟨sk14, hgsk14, st15, hSsk14⟩ := oP_1B hP (i := x212_4.toNatClampNeg) (by omega)
          have hmsk14 := len_1 (i := x212_4.toNatClampNeg) (by omega)
          refine px_aaldS S hT hw 0 2 11 (n := 43) (f := (g 1)) rfl rfl rfl (x := x212_4) (vp_in_iff.mpr (by first | exact oz_05f97a0004 hclsk3 nc1 | (constructor <;> omega))) hgsk14 d_Mpg_readToken_245 ?_
          refine px_calli (pr := [wdP cs h r g tf ta pf na ma wa cf ca ef ea xf xa]) (px_runV (As := []) (rest := [.int p0, .ref h]) S (c_String_length l D cs sk14 st15 (mlen x212_4.toNatClampNeg) (mby x212_4.toNatClampNeg)   (show (mlen x212_4.toNatClampNeg) ≤ 1000000 from by omega) _) hT (pr := [wdP cs h r g tf ta pf na ma wa cf ca ef ea xf xa]) (pcs := []) hw (oX_call (P := (fun A U H => (oZ A U H) ∧ (oS A sk14 st15 (mlen x212_4.toNatClampNeg) (mby x212_4.toNatClampNeg) U H))) (pr := [wdP cs h r g tf ta pf na ma wa cf ca ef ea xf xa]) (oG_and oG_Z oG_S) hw hA ⟨hZ, hSsk14⟩) (oS_recv hw hSsk14) m1_58 m11_157 m1_56 m1_57 m1_3 q_String_length ⟨Nat.le_of_ble_eq_true rfl, Nat.le_of_ble_eq_true rfl⟩ hl.1 rfl (Nat.le_of_ble_eq_true rfl) d_Mpg_readToken_246 ⟨Nat.le_of_ble_eq_true rfl, Nat.le_of_ble_eq_true rfl⟩) hw hA (fun v18 p17 H locs hp17 hw => ?_)
          obtain ⟨rfl, e19, e20⟩ := hp17
          have e19 : v18.toInt = ((mlen x212_4.toNatClampNeg) : Int) := e19
          have e20 : R_String_length (mlen x212_4.toNatClampNeg) v18 := e20
          have lv18 := Int32.le_toInt v18
          have uv18 := Int32.toInt_lt v18
          refine lv_iconst (v := 5) S.x S.b d_Mpg_readToken_249 (by decide) ?_
          refine lv_iload S.x S.b d_Mpg_readToken_250 (lv_at hl 2 rfl) ?_
          first | refine px_callv (pr := []) (px_runV (As := [.int p0, .int v18, .int 5, .int x212_4]) (rest := []) S (c_mp_token l D cs h r g pf na ma wa cf ca ef ea xf xa tf ta p0 v18 5 x212_4  (show 0 ≤ (tf 6).toInt from g4) (show (tf 6).toInt ≤ 2059 from (oz_9dfb4af2f5 g5 g3 g1)) _) hT (pr := []) (pcs := [wdP cs h r g tf ta pf na ma wa cf ca ef ea xf xa]) hw px_X.tt (px_recv hT hw 0 0 rfl rfl rfl) m11_166 m11_163 m11_165 ms_8_3 m1_21 q_Mpg_token ⟨Nat.le_of_ble_eq_true rfl, Nat.le_of_ble_eq_true rfl⟩ hl.1 rfl (Nat.le_of_ble_eq_true rfl) d_Mpg_readToken_252 ⟨Nat.le_of_ble_eq_true rfl, Nat.le_of_ble_eq_true rfl⟩) hw hA (fun p25 H locs hp25 hw => ?_) | (refine px_callv (pr := []) (px_runV (As := [.int p0, .int v18, .int 5, .int x212_4]) (rest := []) S (c_mp_token l D cs h r g pf na ma wa cf ca ef ea xf xa tf ta p0 v18 5 x212_4  (show 0 ≤ (tf 6).toInt from by first | exact g4 | omega) (show (tf 6).toInt ≤ 2059 from by first | exact oz_9dfb4af2f5 g5 g3 g1 | omega) _) hT (pr := []) (pcs := [wdP cs h r g tf ta pf na ma wa cf ca ef ea xf xa]) hw px_X.tt (px_recv hT hw 0 0 rfl rfl rfl) m11_166 m11_163 m11_165 ms_8_3 m1_21 q_Mpg_token ⟨Nat.le_of_ble_eq_true rfl, Nat.le_of_ble_eq_true rfl⟩ hl.1 rfl (Nat.le_of_ble_eq_true rfl) d_Mpg_readToken_252 ⟨Nat.le_of_ble_eq_true rfl, Nat.le_of_ble_eq_true rfl⟩) hw hA (fun p25 H locs hp25 hw => ?_))
          obtain ⟨tf23, ta24, rfl, e27, e28, e29, e30⟩ := hp25
          have e27 : (tf23 6).toInt = (tf 6).toInt + 1 := e27
          have e28 : (tf23 5).toInt = (tf 5).toInt := e28
          have e29 : TkU ta ta24 (tf 6) p0 v18 (5 : Int32) x212_4 := e29
          have e30 : R_mp_token p0 v18 (5 : Int32) x212_4 tf ta tf23 ta24 := e30
          refine lv_iconst (v := 1) S.x S.b d_Mpg_readToken_255 (by decide) ?_
          first | exact px_iret (v := 1) S hr rfl hlk hAe hw (Nat.le_of_ble_eq_true rfl) (Nat.le_of_ble_eq_true rfl) (⟨tf23, ta24, rfl, (show (1 : Int32) = 0 ∨ (1 : Int32) = 1 from by first | exact Or.inl rfl | exact Or.inr rfl | exact z_or (by omega)), (show (tf23 5).toInt = (tf 5).toInt from e28), (show (tf 6).toInt ≤ (tf23 6).toInt from (oz_7db54039c4 e27)), (show (tf23 6).toInt ≤ (tf 6).toInt + 1 from (oz_6ad8cf7f07 e27)), (show (1 : Int) = 1 → (tf23 6).toInt = (tf 6).toInt + 1 from by omega), (show RdK (tf 5).toInt ta24 (tf 6) (1 : Int32) p0 from (rdk_y htp (by assumption) (by omega) ⟨⟨by omega, by omega⟩, ⟨by omega, by omega, by omega⟩, fun h => ⟨by omega, by omega, by omega⟩, fun h => ⟨by omega, by omega, by omega⟩, fun h => ⟨by omega, by omega, by omega⟩⟩)), (show R_mp_readToken p0 tf ta tf23 ta24 (1 : Int32) from (k212_2 _ _ _ 1 (Or.inr (Or.inr (Or.inr (Or.inl ⟨rfl, x212_4, rfl, rfl, rfl, rfl, rfl, Or.inr ⟨nc1, v7, e10, Or.inr ⟨nc11, v18, e20, tf23, ta24, e30, rfl, rfl, rfl⟩⟩⟩))))))⟩) d_Mpg_readToken_256 | (exact px_iret (v := 1) S hr rfl hlk hAe hw (Nat.le_of_ble_eq_true rfl) (Nat.le_of_ble_eq_true rfl) (⟨tf23, ta24, rfl, (show (1 : Int32) = 0 ∨ (1 : Int32) = 1 from by first | exact Or.inl rfl | exact Or.inr rfl | exact z_or (by omega)), (show (tf23 5).toInt = (tf 5).toInt from by first | exact e28 | omega), (show (tf 6).toInt ≤ (tf23 6).toInt from by first | exact oz_7db54039c4 e27 | omega), (show (tf23 6).toInt ≤ (tf 6).toInt + 1 from by first | exact oz_6ad8cf7f07 e27 | omega), (show (1 : Int) = 1 → (tf23 6).toInt = (tf 6).toInt + 1 from by omega), (show RdK (tf 5).toInt ta24 (tf 6) (1 : Int32) p0 from (rdk_y htp (by assumption) (by omega) ⟨⟨by omega, by omega⟩, ⟨by omega, by omega, by omega⟩, fun h => ⟨by omega, by omega, by omega⟩, fun h => ⟨by omega, by omega, by omega⟩, fun h => ⟨by omega, by omega, by omega⟩⟩)), (show R_mp_readToken p0 tf ta tf23 ta24 (1 : Int32) from (k212_2 _ _ _ 1 (Or.inr (Or.inr (Or.inr (Or.inl ⟨rfl, x212_4, rfl, rfl, rfl, rfl, rfl, Or.inr ⟨nc1, v7, e10, Or.inr ⟨nc11, v18, e20, tf23, ta24, e30, rfl, rfl, rfl⟩⟩⟩))))))⟩) d_Mpg_readToken_256)
  have J47 : ∀  (x47_3 : Int32) (H : Heap) (locs : List Loc) (ls : Array Slot), (1 ≤ x47_3.toInt) → (p0.toInt + x47_3.toInt ≤ (tf 5).toInt) → (K_mp_readToken_47 p0 tf ta tf ta x47_3) → pw D A s.heap H locs [wdP cs h r g tf ta pf na ma wa cf ca ef ea xf xa] → lv_has ls 5 [(0, .ref h), (1, .int p0), (3, .int x47_3)] → W p l e { frames := 6, cells := 0, slots := 0, locals := 230 } s m [.ref h, .int p0].toArray below meth c H locs 0 0 (MQ below (va_Qi (fun v ps => ∃ (tf' : Nat → Int32) (ta' : Nat → Nat → Int32), (ps = [wdP cs h r g tf' ta' pf na ma wa cf ca ef ea xf xa]) ∧ (v = 0 ∨ v = 1) ∧ ((tf' 5).toInt = (tf 5).toInt) ∧ ((tf 6).toInt ≤ (tf' 6).toInt) ∧ ((tf' 6).toInt ≤ (tf 6).toInt + 1) ∧ (v.toInt = 1 → (tf' 6).toInt = (tf 6).toInt + 1) ∧ (RdK (tf 5).toInt ta' (tf 6) v p0) ∧ (R_mp_readToken p0 tf ta tf' ta' v)) (pc_B D (va_A ([wdP cs h r g tf ta pf na ma wa cf ca ef ea xf xa] : List va_W).flatten s.heap.size)) (va_A ([wdP cs h r g tf ta pf na ma wa cf ca ef ea xf xa] : List va_W).flatten s.heap.size)) [.ref h, .int p0].toArray s 0 0 A) (F0 m 47 ls []) := by
    intro x47_3 H locs ls k47_0 k47_1 k47_2 hw hl
    have lx47_3 := Int32.le_toInt x47_3
    have ux47_3 := Int32.toInt_lt x47_3
    refine lv_aload_n S.x S.b d_Mpg_readToken_47 rfl (lv_at hl 0 rfl) ?_
    refine lv_iload_n S.x S.b d_Mpg_readToken_48 rfl (lv_at hl 1 rfl) ?_
    refine lv_iload_n S.x S.b d_Mpg_readToken_49 rfl (lv_at hl 2 rfl) ?_
    first | refine px_calli (pr := []) (px_runV (As := [.int p0, .int x47_3]) (rest := []) S (c_mp_keyword l D cs h r g tf ta pf na ma wa cf ca ef ea xf xa p0 x47_3  (show 0 ≤ (tf 5).toInt from g0) (show (tf 5).toInt ≤ 2048 from g1) (show 0 ≤ p0.toInt from g2) (show p0.toInt ≤ 4000 from (oz_78b121ec6f g3 g1)) _) hT (pr := []) (pcs := [wdP cs h r g tf ta pf na ma wa cf ca ef ea xf xa]) hw (oX_call (P := (fun A U H => (oP A g U H))) (pr := []) oG_P hw hA hP) (px_recv hT hw 0 0 rfl rfl rfl) m11_156 m11_153 m11_155 ms_8_1 m1_21 q_Mpg_keyword ⟨Nat.le_of_ble_eq_true rfl, Nat.le_of_ble_eq_true rfl⟩ hl.1 rfl (Nat.le_of_ble_eq_true rfl) d_Mpg_readToken_50 ⟨Nat.le_of_ble_eq_true rfl, Nat.le_of_ble_eq_true rfl⟩) hw hA (fun v32 p31 H locs hp31 hw => ?_) | (refine px_calli (pr := []) (px_runV (As := [.int p0, .int x47_3]) (rest := []) S (c_mp_keyword l D cs h r g tf ta pf na ma wa cf ca ef ea xf xa p0 x47_3  (show 0 ≤ (tf 5).toInt from by first | exact g0 | omega) (show (tf 5).toInt ≤ 2048 from by first | exact g1 | omega) (show 0 ≤ p0.toInt from by first | exact g2 | omega) (show p0.toInt ≤ 4000 from by first | exact oz_78b121ec6f g3 g1 | omega) _) hT (pr := []) (pcs := [wdP cs h r g tf ta pf na ma wa cf ca ef ea xf xa]) hw (oX_call (P := (fun A U H => (oP A g U H))) (pr := []) oG_P hw hA hP) (px_recv hT hw 0 0 rfl rfl rfl) m11_156 m11_153 m11_155 ms_8_1 m1_21 q_Mpg_keyword ⟨Nat.le_of_ble_eq_true rfl, Nat.le_of_ble_eq_true rfl⟩ hl.1 rfl (Nat.le_of_ble_eq_true rfl) d_Mpg_readToken_50 ⟨Nat.le_of_ble_eq_true rfl, Nat.le_of_ble_eq_true rfl⟩) hw hA (fun v32 p31 H locs hp31 hw => ?_))
    obtain ⟨rfl, e33, e34, e35, e36⟩ := hp31
    have e33 : -1 ≤ v32.toInt := e33
    have e34 : v32.toInt ≤ 14 := e34
    have e35 : 0 ≤ v32.toInt → x47_3.toInt = (klen v32.toNatClampNeg : Int) := e35
    have e36 : R_mp_keyword tf ta p0 x47_3 v32 := e36
    have lv32 := Int32.le_toInt v32
    have uv32 := Int32.toInt_lt v32
    refine lv_istore (lv' := [(4, .int v32), (0, .ref h), (1, .int p0), (3, .int x47_3)]) S.x S.b d_Mpg_readToken_53 hl (by decide) rfl (fun ls hl => ?_)
    refine lv_aload_n S.x S.b d_Mpg_readToken_55 rfl (lv_at hl 1 rfl) ?_
    refine lv_iload_n S.x S.b d_Mpg_readToken_56 rfl (lv_at hl 2 rfl) ?_
    refine lv_iload_n S.x S.b d_Mpg_readToken_57 rfl (lv_at hl 3 rfl) ?_
    refine lv_iload S.x S.b d_Mpg_readToken_58 (lv_at hl 0 rfl) ?_
    refine lv_if_lt (tgt := 67) S.x S.b d_Mpg_readToken_60 (by decide) (fun c37 => ?_) (fun c37 => ?_)
    · have nc37 : v32.toInt < (0 : Int) := (i_lt (x := v32) (y := 0)).mp c37
      refine lv_iconst (v := 1) S.x S.b d_Mpg_readToken_67 (by decide) ?_
      refine lv_iload S.x S.b d_Mpg_readToken_68 (lv_at hl 0 rfl) ?_
      first | refine px_callv (pr := []) (px_runV (As := [.int p0, .int x47_3, .int 1, .int v32]) (rest := []) S (c_mp_token l D cs h r g pf na ma wa cf ca ef ea xf xa tf ta p0 x47_3 1 v32  (show 0 ≤ (tf 6).toInt from g4) (show (tf 6).toInt ≤ 2059 from (oz_9dfb4af2f5 g5 g3 g1)) _) hT (pr := []) (pcs := [wdP cs h r g tf ta pf na ma wa cf ca ef ea xf xa]) hw px_X.tt (px_recv hT hw 0 0 rfl rfl rfl) m11_166 m11_163 m11_165 ms_8_3 m1_21 q_Mpg_token ⟨Nat.le_of_ble_eq_true rfl, Nat.le_of_ble_eq_true rfl⟩ hl.1 rfl (Nat.le_of_ble_eq_true rfl) d_Mpg_readToken_70 ⟨Nat.le_of_ble_eq_true rfl, Nat.le_of_ble_eq_true rfl⟩) hw hA (fun p43 H locs hp43 hw => ?_) | (refine px_callv (pr := []) (px_runV (As := [.int p0, .int x47_3, .int 1, .int v32]) (rest := []) S (c_mp_token l D cs h r g pf na ma wa cf ca ef ea xf xa tf ta p0 x47_3 1 v32  (show 0 ≤ (tf 6).toInt from by first | exact g4 | omega) (show (tf 6).toInt ≤ 2059 from by first | exact oz_9dfb4af2f5 g5 g3 g1 | omega) _) hT (pr := []) (pcs := [wdP cs h r g tf ta pf na ma wa cf ca ef ea xf xa]) hw px_X.tt (px_recv hT hw 0 0 rfl rfl rfl) m11_166 m11_163 m11_165 ms_8_3 m1_21 q_Mpg_token ⟨Nat.le_of_ble_eq_true rfl, Nat.le_of_ble_eq_true rfl⟩ hl.1 rfl (Nat.le_of_ble_eq_true rfl) d_Mpg_readToken_70 ⟨Nat.le_of_ble_eq_true rfl, Nat.le_of_ble_eq_true rfl⟩) hw hA (fun p43 H locs hp43 hw => ?_))
      obtain ⟨tf41, ta42, rfl, e45, e46, e47, e48⟩ := hp43
      have e45 : (tf41 6).toInt = (tf 6).toInt + 1 := e45
      have e46 : (tf41 5).toInt = (tf 5).toInt := e46
      have e47 : TkU ta ta42 (tf 6) p0 x47_3 (1 : Int32) v32 := e47
      have e48 : R_mp_token p0 x47_3 (1 : Int32) v32 tf ta tf41 ta42 := e48
      refine lv_iload_n S.x S.b d_Mpg_readToken_73 rfl (lv_at hl 3 rfl) ?_
      refine lv_bipush (v := 24) S.x S.b d_Mpg_readToken_74 (by decide) ?_
      refine lv_icmp_gt (tgt := 83) S.x S.b d_Mpg_readToken_76 (by decide) (fun c49 => ?_) (fun c49 => ?_)
      · have nc49 : (24 : Int) < x47_3.toInt := (i_lt (x := 24) (y := x47_3)).mp c49
        refine lv_iconst (v := 0) S.x S.b d_Mpg_readToken_83 (by decide) ?_
        first | exact px_iret (v := 0) S hr rfl hlk hAe hw (Nat.le_of_ble_eq_true rfl) (Nat.le_of_ble_eq_true rfl) (⟨tf41, ta42, rfl, (show (0 : Int32) = 0 ∨ (0 : Int32) = 1 from by first | exact Or.inl rfl | exact Or.inr rfl | exact z_or (by omega)), (show (tf41 5).toInt = (tf 5).toInt from e46), (show (tf 6).toInt ≤ (tf41 6).toInt from (oz_7db54039c4 e45)), (show (tf41 6).toInt ≤ (tf 6).toInt + 1 from (oz_6ad8cf7f07 e45)), (show (0 : Int) = 1 → (tf41 6).toInt = (tf 6).toInt + 1 from by omega), (show RdK (tf 5).toInt ta42 (tf 6) (0 : Int32) p0 from (by first | exact rdk_n htp (by assumption) (by omega) (by omega) | exact rdk_0 htp (by omega))), (show R_mp_readToken p0 tf ta tf41 ta42 (0 : Int32) from (k47_2 _ _ _ 1 (Or.inr (Or.inr (Or.inl ⟨rfl, x47_3, rfl, rfl, rfl, rfl, rfl, v32, e36, Or.inl ⟨nc37, tf41, ta42, e48, Or.inl ⟨nc49, rfl, rfl, rfl⟩⟩⟩)))))⟩) d_Mpg_readToken_84 | (exact px_iret (v := 0) S hr rfl hlk hAe hw (Nat.le_of_ble_eq_true rfl) (Nat.le_of_ble_eq_true rfl) (⟨tf41, ta42, rfl, (show (0 : Int32) = 0 ∨ (0 : Int32) = 1 from by first | exact Or.inl rfl | exact Or.inr rfl | exact z_or (by omega)), (show (tf41 5).toInt = (tf 5).toInt from by first | exact e46 | omega), (show (tf 6).toInt ≤ (tf41 6).toInt from by first | exact oz_7db54039c4 e45 | omega), (show (tf41 6).toInt ≤ (tf 6).toInt + 1 from by first | exact oz_6ad8cf7f07 e45 | omega), (show (0 : Int) = 1 → (tf41 6).toInt = (tf 6).toInt + 1 from by omega), (show RdK (tf 5).toInt ta42 (tf 6) (0 : Int32) p0 from (by first | exact rdk_n htp (by assumption) (by omega) (by omega) | exact rdk_0 htp (by omega))), (show R_mp_readToken p0 tf ta tf41 ta42 (0 : Int32) from (k47_2 _ _ _ 1 (Or.inr (Or.inr (Or.inl ⟨rfl, x47_3, rfl, rfl, rfl, rfl, rfl, v32, e36, Or.inl ⟨nc37, tf41, ta42, e48, Or.inl ⟨nc49, rfl, rfl, rfl⟩⟩⟩)))))⟩) d_Mpg_readToken_84)
      · have nc49 : ¬ (24 : Int) < x47_3.toInt := mt (i_lt (x := 24) (y := x47_3)).mpr c49
        refine lv_iconst (v := 1) S.x S.b d_Mpg_readToken_79 (by decide) ?_
        refine lv_goto (tgt := 84) S.x S.b d_Mpg_readToken_80 (by decide) ?_
        first | exact px_iret (v := 1) S hr rfl hlk hAe hw (Nat.le_of_ble_eq_true rfl) (Nat.le_of_ble_eq_true rfl) (⟨tf41, ta42, rfl, (show (1 : Int32) = 0 ∨ (1 : Int32) = 1 from by first | exact Or.inl rfl | exact Or.inr rfl | exact z_or (by omega)), (show (tf41 5).toInt = (tf 5).toInt from e46), (show (tf 6).toInt ≤ (tf41 6).toInt from (oz_7db54039c4 e45)), (show (tf41 6).toInt ≤ (tf 6).toInt + 1 from (oz_6ad8cf7f07 e45)), (show (1 : Int) = 1 → (tf41 6).toInt = (tf 6).toInt + 1 from by omega), (show RdK (tf 5).toInt ta42 (tf 6) (1 : Int32) p0 from (rdk_y htp (by assumption) (by omega) ⟨⟨by omega, by omega⟩, ⟨by omega, by omega, by omega⟩, fun h => ⟨by omega, by omega, by omega⟩, fun h => ⟨by omega, by omega, by omega⟩, fun h => ⟨by omega, by omega, by omega⟩⟩)), (show R_mp_readToken p0 tf ta tf41 ta42 (1 : Int32) from (k47_2 _ _ _ 1 (Or.inr (Or.inr (Or.inl ⟨rfl, x47_3, rfl, rfl, rfl, rfl, rfl, v32, e36, Or.inl ⟨nc37, tf41, ta42, e48, Or.inr ⟨nc49, rfl, rfl, rfl⟩⟩⟩)))))⟩) d_Mpg_readToken_84 | (exact px_iret (v := 1) S hr rfl hlk hAe hw (Nat.le_of_ble_eq_true rfl) (Nat.le_of_ble_eq_true rfl) (⟨tf41, ta42, rfl, (show (1 : Int32) = 0 ∨ (1 : Int32) = 1 from by first | exact Or.inl rfl | exact Or.inr rfl | exact z_or (by omega)), (show (tf41 5).toInt = (tf 5).toInt from by first | exact e46 | omega), (show (tf 6).toInt ≤ (tf41 6).toInt from by first | exact oz_7db54039c4 e45 | omega), (show (tf41 6).toInt ≤ (tf 6).toInt + 1 from by first | exact oz_6ad8cf7f07 e45 | omega), (show (1 : Int) = 1 → (tf41 6).toInt = (tf 6).toInt + 1 from by omega), (show RdK (tf 5).toInt ta42 (tf 6) (1 : Int32) p0 from (rdk_y htp (by assumption) (by omega) ⟨⟨by omega, by omega⟩, ⟨by omega, by omega, by omega⟩, fun h => ⟨by omega, by omega, by omega⟩, fun h => ⟨by omega, by omega, by omega⟩, fun h => ⟨by omega, by omega, by omega⟩⟩)), (show R_mp_readToken p0 tf ta tf41 ta42 (1 : Int32) from (k47_2 _ _ _ 1 (Or.inr (Or.inr (Or.inl ⟨rfl, x47_3, rfl, rfl, rfl, rfl, rfl, v32, e36, Or.inl ⟨nc37, tf41, ta42, e48, Or.inr ⟨nc49, rfl, rfl, rfl⟩⟩⟩)))))⟩) d_Mpg_readToken_84)
    · have nc37 : ¬ v32.toInt < (0 : Int) := mt (i_lt (x := v32) (y := 0)).mpr c37
      refine lv_iconst (v := 2) S.x S.b d_Mpg_readToken_63 (by decide) ?_
      refine lv_goto (tgt := 68) S.x S.b d_Mpg_readToken_64 (by decide) ?_
      refine lv_iload S.x S.b d_Mpg_readToken_68 (lv_at hl 0 rfl) ?_
      first | refine px_callv (pr := []) (px_runV (As := [.int p0, .int x47_3, .int 2, .int v32]) (rest := []) S (c_mp_token l D cs h r g pf na ma wa cf ca ef ea xf xa tf ta p0 x47_3 2 v32  (show 0 ≤ (tf 6).toInt from g4) (show (tf 6).toInt ≤ 2059 from (oz_9dfb4af2f5 g5 g3 g1)) _) hT (pr := []) (pcs := [wdP cs h r g tf ta pf na ma wa cf ca ef ea xf xa]) hw px_X.tt (px_recv hT hw 0 0 rfl rfl rfl) m11_166 m11_163 m11_165 ms_8_3 m1_21 q_Mpg_token ⟨Nat.le_of_ble_eq_true rfl, Nat.le_of_ble_eq_true rfl⟩ hl.1 rfl (Nat.le_of_ble_eq_true rfl) d_Mpg_readToken_70 ⟨Nat.le_of_ble_eq_true rfl, Nat.le_of_ble_eq_true rfl⟩) hw hA (fun p55 H locs hp55 hw => ?_) | (refine px_callv (pr := []) (px_runV (As := [.int p0, .int x47_3, .int 2, .int v32]) (rest := []) S (c_mp_token l D cs h r g pf na ma wa cf ca ef ea xf xa tf ta p0 x47_3 2 v32  (show 0 ≤ (tf 6).toInt from by first | exact g4 | omega) (show (tf 6).toInt ≤ 2059 from by first | exact oz_9dfb4af2f5 g5 g3 g1 | omega) _) hT (pr := []) (pcs := [wdP cs h r g tf ta pf na ma wa cf ca ef ea xf xa]) hw px_X.tt (px_recv hT hw 0 0 rfl rfl rfl) m11_166 m11_163 m11_165 ms_8_3 m1_21 q_Mpg_token ⟨Nat.le_of_ble_eq_true rfl, Nat.le_of_ble_eq_true rfl⟩ hl.1 rfl (Nat.le_of_ble_eq_true rfl) d_Mpg_readToken_70 ⟨Nat.le_of_ble_eq_true rfl, Nat.le_of_ble_eq_true rfl⟩) hw hA (fun p55 H locs hp55 hw => ?_))
      obtain ⟨tf53, ta54, rfl, e57, e58, e59, e60⟩ := hp55
      have e57 : (tf53 6).toInt = (tf 6).toInt + 1 := e57
      have e58 : (tf53 5).toInt = (tf 5).toInt := e58
      have e59 : TkU ta ta54 (tf 6) p0 x47_3 (2 : Int32) v32 := e59
      have e60 : R_mp_token p0 x47_3 (2 : Int32) v32 tf ta tf53 ta54 := e60
      refine lv_iload_n S.x S.b d_Mpg_readToken_73 rfl (lv_at hl 3 rfl) ?_
      refine lv_bipush (v := 24) S.x S.b d_Mpg_readToken_74 (by decide) ?_
      refine lv_icmp_gt (tgt := 83) S.x S.b d_Mpg_readToken_76 (by decide) (fun c61 => ?_) (fun c61 => ?_)
      · have nc61 : (24 : Int) < x47_3.toInt := (i_lt (x := 24) (y := x47_3)).mp c61
        refine lv_iconst (v := 0) S.x S.b d_Mpg_readToken_83 (by decide) ?_
        first | exact px_iret (v := 0) S hr rfl hlk hAe hw (Nat.le_of_ble_eq_true rfl) (Nat.le_of_ble_eq_true rfl) (⟨tf53, ta54, rfl, (show (0 : Int32) = 0 ∨ (0 : Int32) = 1 from by first | exact Or.inl rfl | exact Or.inr rfl | exact z_or (by omega)), (show (tf53 5).toInt = (tf 5).toInt from e58), (show (tf 6).toInt ≤ (tf53 6).toInt from (oz_7db54039c4 e57)), (show (tf53 6).toInt ≤ (tf 6).toInt + 1 from (oz_6ad8cf7f07 e57)), (show (0 : Int) = 1 → (tf53 6).toInt = (tf 6).toInt + 1 from by omega), (show RdK (tf 5).toInt ta54 (tf 6) (0 : Int32) p0 from (by first | exact rdk_n htp (by assumption) (by omega) (by omega) | exact rdk_0 htp (by omega))), (show R_mp_readToken p0 tf ta tf53 ta54 (0 : Int32) from (k47_2 _ _ _ 1 (Or.inr (Or.inr (Or.inl ⟨rfl, x47_3, rfl, rfl, rfl, rfl, rfl, v32, e36, Or.inr ⟨nc37, tf53, ta54, e60, Or.inl ⟨nc61, rfl, rfl, rfl⟩⟩⟩)))))⟩) d_Mpg_readToken_84 | (exact px_iret (v := 0) S hr rfl hlk hAe hw (Nat.le_of_ble_eq_true rfl) (Nat.le_of_ble_eq_true rfl) (⟨tf53, ta54, rfl, (show (0 : Int32) = 0 ∨ (0 : Int32) = 1 from by first | exact Or.inl rfl | exact Or.inr rfl | exact z_or (by omega)), (show (tf53 5).toInt = (tf 5).toInt from by first | exact e58 | omega), (show (tf 6).toInt ≤ (tf53 6).toInt from by first | exact oz_7db54039c4 e57 | omega), (show (tf53 6).toInt ≤ (tf 6).toInt + 1 from by first | exact oz_6ad8cf7f07 e57 | omega), (show (0 : Int) = 1 → (tf53 6).toInt = (tf 6).toInt + 1 from by omega), (show RdK (tf 5).toInt ta54 (tf 6) (0 : Int32) p0 from (by first | exact rdk_n htp (by assumption) (by omega) (by omega) | exact rdk_0 htp (by omega))), (show R_mp_readToken p0 tf ta tf53 ta54 (0 : Int32) from (k47_2 _ _ _ 1 (Or.inr (Or.inr (Or.inl ⟨rfl, x47_3, rfl, rfl, rfl, rfl, rfl, v32, e36, Or.inr ⟨nc37, tf53, ta54, e60, Or.inl ⟨nc61, rfl, rfl, rfl⟩⟩⟩)))))⟩) d_Mpg_readToken_84)
      · have nc61 : ¬ (24 : Int) < x47_3.toInt := mt (i_lt (x := 24) (y := x47_3)).mpr c61
        refine lv_iconst (v := 1) S.x S.b d_Mpg_readToken_79 (by decide) ?_
        refine lv_goto (tgt := 84) S.x S.b d_Mpg_readToken_80 (by decide) ?_
        first | exact px_iret (v := 1) S hr rfl hlk hAe hw (Nat.le_of_ble_eq_true rfl) (Nat.le_of_ble_eq_true rfl) (⟨tf53, ta54, rfl, (show (1 : Int32) = 0 ∨ (1 : Int32) = 1 from by first | exact Or.inl rfl | exact Or.inr rfl | exact z_or (by omega)), (show (tf53 5).toInt = (tf 5).toInt from e58), (show (tf 6).toInt ≤ (tf53 6).toInt from (oz_7db54039c4 e57)), (show (tf53 6).toInt ≤ (tf 6).toInt + 1 from (oz_6ad8cf7f07 e57)), (show (1 : Int) = 1 → (tf53 6).toInt = (tf 6).toInt + 1 from by omega), (show RdK (tf 5).toInt ta54 (tf 6) (1 : Int32) p0 from (rdk_y htp (by assumption) (by omega) ⟨⟨by omega, by omega⟩, ⟨by omega, by omega, by omega⟩, fun h => ⟨by omega, by omega, by omega⟩, fun h => ⟨by omega, by omega, by omega⟩, fun h => ⟨by omega, by omega, by omega⟩⟩)), (show R_mp_readToken p0 tf ta tf53 ta54 (1 : Int32) from (k47_2 _ _ _ 1 (Or.inr (Or.inr (Or.inl ⟨rfl, x47_3, rfl, rfl, rfl, rfl, rfl, v32, e36, Or.inr ⟨nc37, tf53, ta54, e60, Or.inr ⟨nc61, rfl, rfl, rfl⟩⟩⟩)))))⟩) d_Mpg_readToken_84 | (exact px_iret (v := 1) S hr rfl hlk hAe hw (Nat.le_of_ble_eq_true rfl) (Nat.le_of_ble_eq_true rfl) (⟨tf53, ta54, rfl, (show (1 : Int32) = 0 ∨ (1 : Int32) = 1 from by first | exact Or.inl rfl | exact Or.inr rfl | exact z_or (by omega)), (show (tf53 5).toInt = (tf 5).toInt from by first | exact e58 | omega), (show (tf 6).toInt ≤ (tf53 6).toInt from by first | exact oz_7db54039c4 e57 | omega), (show (tf53 6).toInt ≤ (tf 6).toInt + 1 from by first | exact oz_6ad8cf7f07 e57 | omega), (show (1 : Int) = 1 → (tf53 6).toInt = (tf 6).toInt + 1 from by omega), (show RdK (tf 5).toInt ta54 (tf 6) (1 : Int32) p0 from (rdk_y htp (by assumption) (by omega) ⟨⟨by omega, by omega⟩, ⟨by omega, by omega, by omega⟩, fun h => ⟨by omega, by omega, by omega⟩, fun h => ⟨by omega, by omega, by omega⟩, fun h => ⟨by omega, by omega, by omega⟩⟩)), (show R_mp_readToken p0 tf ta tf53 ta54 (1 : Int32) from (k47_2 _ _ _ 1 (Or.inr (Or.inr (Or.inl ⟨rfl, x47_3, rfl, rfl, rfl, rfl, rfl, v32, e36, Or.inr ⟨nc37, tf53, ta54, e60, Or.inr ⟨nc61, rfl, rfl, rfl⟩⟩⟩)))))⟩) d_Mpg_readToken_84)
  have J15 : ∀ (n_15 : Nat)  (x15_2 x15_3 : Int32) (H : Heap) (locs : List Loc) (ls : Array Slot), (0 ≤ x15_3.toInt) → (p0.toInt + x15_3.toInt ≤ (tf 5).toInt) → (LtA ta (tf 5).toInt p0.toInt) → (K_mp_readToken_15 p0 tf ta tf ta x15_2 x15_3) → (tf 5).toInt + 2 - p0.toInt - x15_3.toInt < (n_15 : Int) → pw D A s.heap H locs [wdP cs h r g tf ta pf na ma wa cf ca ef ea xf xa] → lv_has ls 5 [(0, .ref h), (1, .int p0), (2, .int x15_2), (3, .int x15_3)] → W p l e { frames := 6, cells := 0, slots := 0, locals := 230 } s m [.ref h, .int p0].toArray below meth c H locs 0 0 (MQ below (va_Qi (fun v ps => ∃ (tf' : Nat → Int32) (ta' : Nat → Nat → Int32), (ps = [wdP cs h r g tf' ta' pf na ma wa cf ca ef ea xf xa]) ∧ (v = 0 ∨ v = 1) ∧ ((tf' 5).toInt = (tf 5).toInt) ∧ ((tf 6).toInt ≤ (tf' 6).toInt) ∧ ((tf' 6).toInt ≤ (tf 6).toInt + 1) ∧ (v.toInt = 1 → (tf' 6).toInt = (tf 6).toInt + 1) ∧ (RdK (tf 5).toInt ta' (tf 6) v p0) ∧ (R_mp_readToken p0 tf ta tf' ta' v)) (pc_B D (va_A ([wdP cs h r g tf ta pf na ma wa cf ca ef ea xf xa] : List va_W).flatten s.heap.size)) (va_A ([wdP cs h r g tf ta pf na ma wa cf ca ef ea xf xa] : List va_W).flatten s.heap.size)) [.ref h, .int p0].toArray s 0 0 A) (F0 m 15 ls []) := by
    intro  n_15
    induction n_15 with
    | zero =>
      intro x15_2 x15_3 H locs ls k15_0 k15_1 k15_2 k15_3 hm hw hl
      have lx15_2 := Int32.le_toInt x15_2
      have ux15_2 := Int32.toInt_lt x15_2
      have lx15_3 := Int32.le_toInt x15_3
      have ux15_3 := Int32.toInt_lt x15_3
      have hlt := k15_2
      exact absurd hm (by omega)
    | succ n_15 ih15 =>
      intro x15_2 x15_3 H locs ls k15_0 k15_1 k15_2 k15_3 hm hw hl
      have lx15_2 := Int32.le_toInt x15_2
      have ux15_2 := Int32.toInt_lt x15_2
      have lx15_3 := Int32.le_toInt x15_3
      have ux15_3 := Int32.toInt_lt x15_3
      have hlt := k15_2
      refine lv_aload_n S.x S.b d_Mpg_readToken_15 rfl (lv_at hl 0 rfl) ?_
      refine lv_iload_n S.x S.b d_Mpg_readToken_16 rfl (lv_at hl 1 rfl) ?_
      refine lv_iload_n S.x S.b d_Mpg_readToken_17 rfl (lv_at hl 3 rfl) ?_
      refine lv_iadd S.x S.b d_Mpg_readToken_18 ?_
      refine lv_topi (fun z63 ez63 => ?_)
      have tz63 : z63.toInt = (p0.toInt + x15_3.toInt + 2147483648) % 4294967296 - 2147483648 := by rw [ez63]; exact i_add p0 x15_3
      have lz63 := Int32.le_toInt z63
      have uz63 := Int32.toInt_lt z63
      try replace tz63 : z63.toInt = p0.toInt + x15_3.toInt := by omega
      first | refine px_calli (pr := []) (px_runV (As := [.int z63]) (rest := []) S (c_mp_byteAt l D cs h r g tf ta pf na ma wa cf ca ef ea xf xa z63  (show 0 ≤ (tf 5).toInt from g0) (show (tf 5).toInt ≤ 2048 from g1) (show 0 ≤ z63.toInt from (oz_58f944d8b2 tz63 g2 k15_0)) _) hT (pr := []) (pcs := [wdP cs h r g tf ta pf na ma wa cf ca ef ea xf xa]) hw px_X.tt (px_recv hT hw 0 0 rfl rfl rfl) m11_142 m11_139 m11_141 ms_7_15 m1_21 q_Mpg_byteAt ⟨Nat.le_of_ble_eq_true rfl, Nat.le_of_ble_eq_true rfl⟩ hl.1 rfl (Nat.le_of_ble_eq_true rfl) d_Mpg_readToken_19 ⟨Nat.le_of_ble_eq_true rfl, Nat.le_of_ble_eq_true rfl⟩) hw hA (fun v65 p64 H locs hp64 hw => ?_) | (refine px_calli (pr := []) (px_runV (As := [.int z63]) (rest := []) S (c_mp_byteAt l D cs h r g tf ta pf na ma wa cf ca ef ea xf xa z63  (show 0 ≤ (tf 5).toInt from by first | exact g0 | omega) (show (tf 5).toInt ≤ 2048 from by first | exact g1 | omega) (show 0 ≤ z63.toInt from by first | exact oz_58f944d8b2 tz63 g2 k15_0 | omega) _) hT (pr := []) (pcs := [wdP cs h r g tf ta pf na ma wa cf ca ef ea xf xa]) hw px_X.tt (px_recv hT hw 0 0 rfl rfl rfl) m11_142 m11_139 m11_141 ms_7_15 m1_21 q_Mpg_byteAt ⟨Nat.le_of_ble_eq_true rfl, Nat.le_of_ble_eq_true rfl⟩ hl.1 rfl (Nat.le_of_ble_eq_true rfl) d_Mpg_readToken_19 ⟨Nat.le_of_ble_eq_true rfl, Nat.le_of_ble_eq_true rfl⟩) hw hA (fun v65 p64 H locs hp64 hw => ?_))
      obtain ⟨rfl, e66, e67, e68⟩ := hp64
      have e66 : z63.toInt < (tf 5).toInt ∨ v65.toInt = -1 := e66
      have e67 : BtV ta (tf 5).toInt z63.toInt v65.toInt := e67
      have e68 : R_mp_byteAt tf ta z63 v65 := e68
      have lv65 := Int32.le_toInt v65
      have uv65 := Int32.toInt_lt v65
      refine px_calli (pr := [wdP cs h r g tf ta pf na ma wa cf ca ef ea xf xa]) (px_runS (As := [.int v65]) (rest := []) S (c_mp_isLetter l D cs  v65   _) hT (pr := [wdP cs h r g tf ta pf na ma wa cf ca ef ea xf xa]) (pcs := []) hw px_X.tt m11_149 m11_147 m11_148 m1_21 q_Mpg_isLetter ⟨Nat.le_of_ble_eq_true rfl, Nat.le_of_ble_eq_true rfl⟩ hl.1 rfl (Nat.le_of_ble_eq_true rfl) d_Mpg_readToken_22 ⟨Nat.le_of_ble_eq_true rfl, Nat.le_of_ble_eq_true rfl⟩) hw hA (fun v70 p69 H locs hp69 hw => ?_)
      obtain ⟨rfl, e71, e72, e73, e74⟩ := hp69
      have e71 := z_rng e71
      have e72 : v70.toInt = 1 → 65 ≤ v65.toInt := e72
      have e73 : LtV v65.toInt v70.toInt := e73
      have e74 : R_mp_isLetter v65 v70 := e74
      have lv70 := Int32.le_toInt v70
      have uv70 := Int32.toInt_lt v70
      have hpos22 : v70.toInt = 0 → z63.toInt = p0.toInt + x15_3.toInt → ¬ x15_3.toInt = 0 := fun q1 q2 => lt_pos hlt (show BtV ta (tf 5).toInt z63.toInt v65.toInt by assumption) (show LtV v65.toInt v70.toInt by assumption) q1 q2
      refine lv_if_ne (tgt := 41) S.x S.b d_Mpg_readToken_25 (by decide) (fun c75 => ?_) (fun c75 => ?_)
      · have nc75 : ¬ v70.toInt = (0 : Int) := mt (i_eq (x := v70) (y := 0)).mpr c75
        obtain ⟨z77, ez77⟩ : ∃ y : Int32, y = x15_3 + 1 := ⟨_, rfl⟩
        have tz77 : z77.toInt = (x15_3.toInt + 1 + 2147483648) % 4294967296 - 2147483648 := by rw [ez77]; exact i_add x15_3 1
        have lz77 := Int32.le_toInt z77
        have uz77 := Int32.toInt_lt z77
        try replace tz77 : z77.toInt = x15_3.toInt + 1 := by omega
        refine lv_iinc (v := z77) (lv' := [(3, .int z77), (0, .ref h), (1, .int p0), (2, .int x15_2)]) S.x S.b d_Mpg_readToken_41 hl (k := 3) rfl (by rw [ez77]; rfl) (by decide) rfl (fun ls hl => ?_)
        refine lv_goto (tgt := 15) S.x S.b d_Mpg_readToken_44 (by decide) ?_
        first | exact ih15 x15_2 z77 _ _ ls (show 0 ≤ z77.toInt from (oz_ae613611c0 tz77 k15_0)) (show p0.toInt + z77.toInt ≤ (tf 5).toInt from by omega) (show LtA ta (tf 5).toInt p0.toInt from (by first | assumption | exact lt_is (by assumption) (by assumption) (by omega))) (show K_mp_readToken_15 p0 tf ta tf ta x15_2 z77 from (fun y_f0 y_f1 y_v k hE => k15_3 y_f0 y_f1 y_v (k + 1) (Or.inr (Or.inl ⟨rfl, x15_2, x15_3, rfl, rfl, rfl, rfl, rfl, z63, ez63, v65, e68, v70, e74, Or.inl ⟨nc75, z77, ez77, hE⟩⟩)))) (show (tf 5).toInt + 2 - p0.toInt - z77.toInt < (n_15 : Int) from (oz_1c04ad23e8 hm tz77)) hw (lv_sub hl [1, 2, 3, 0] rfl) | (exact ih15 x15_2 z77 _ _ ls (show 0 ≤ z77.toInt from by first | exact oz_ae613611c0 tz77 k15_0 | omega) (show p0.toInt + z77.toInt ≤ (tf 5).toInt from by omega) (show LtA ta (tf 5).toInt p0.toInt from (by first | assumption | exact lt_is (by assumption) (by assumption) (by omega))) (show K_mp_readToken_15 p0 tf ta tf ta x15_2 z77 from (fun y_f0 y_f1 y_v k hE => k15_3 y_f0 y_f1 y_v (k + 1) (Or.inr (Or.inl ⟨rfl, x15_2, x15_3, rfl, rfl, rfl, rfl, rfl, z63, ez63, v65, e68, v70, e74, Or.inl ⟨nc75, z77, ez77, hE⟩⟩)))) (show (tf 5).toInt + 2 - p0.toInt - z77.toInt < (n_15 : Int) from by first | exact oz_1c04ad23e8 hm tz77 | omega) hw (lv_sub hl [1, 2, 3, 0] rfl))
      · have nc75 : v70.toInt = (0 : Int) := (i_eq (x := v70) (y := 0)).mp c75
        refine lv_aload_n S.x S.b d_Mpg_readToken_28 rfl (lv_at hl 0 rfl) ?_
        refine lv_iload_n S.x S.b d_Mpg_readToken_29 rfl (lv_at hl 1 rfl) ?_
        refine lv_iload_n S.x S.b d_Mpg_readToken_30 rfl (lv_at hl 3 rfl) ?_
        refine lv_iadd S.x S.b d_Mpg_readToken_31 ?_
        refine lv_topi (fun z78 ez78 => ?_)
        have tz78 : z78.toInt = (p0.toInt + x15_3.toInt + 2147483648) % 4294967296 - 2147483648 := by rw [ez78]; exact i_add p0 x15_3
        have lz78 := Int32.le_toInt z78
        have uz78 := Int32.toInt_lt z78
        try replace tz78 : z78.toInt = p0.toInt + x15_3.toInt := by omega
        first | refine px_calli (pr := []) (px_runV (As := [.int z78]) (rest := []) S (c_mp_byteAt l D cs h r g tf ta pf na ma wa cf ca ef ea xf xa z78  (show 0 ≤ (tf 5).toInt from g0) (show (tf 5).toInt ≤ 2048 from g1) (show 0 ≤ z78.toInt from (oz_58f944d8b2 tz78 g2 k15_0)) _) hT (pr := []) (pcs := [wdP cs h r g tf ta pf na ma wa cf ca ef ea xf xa]) hw px_X.tt (px_recv hT hw 0 0 rfl rfl rfl) m11_142 m11_139 m11_141 ms_7_15 m1_21 q_Mpg_byteAt ⟨Nat.le_of_ble_eq_true rfl, Nat.le_of_ble_eq_true rfl⟩ hl.1 rfl (Nat.le_of_ble_eq_true rfl) d_Mpg_readToken_32 ⟨Nat.le_of_ble_eq_true rfl, Nat.le_of_ble_eq_true rfl⟩) hw hA (fun v80 p79 H locs hp79 hw => ?_) | (refine px_calli (pr := []) (px_runV (As := [.int z78]) (rest := []) S (c_mp_byteAt l D cs h r g tf ta pf na ma wa cf ca ef ea xf xa z78  (show 0 ≤ (tf 5).toInt from by first | exact g0 | omega) (show (tf 5).toInt ≤ 2048 from by first | exact g1 | omega) (show 0 ≤ z78.toInt from by first | exact oz_58f944d8b2 tz78 g2 k15_0 | omega) _) hT (pr := []) (pcs := [wdP cs h r g tf ta pf na ma wa cf ca ef ea xf xa]) hw px_X.tt (px_recv hT hw 0 0 rfl rfl rfl) m11_142 m11_139 m11_141 ms_7_15 m1_21 q_Mpg_byteAt ⟨Nat.le_of_ble_eq_true rfl, Nat.le_of_ble_eq_true rfl⟩ hl.1 rfl (Nat.le_of_ble_eq_true rfl) d_Mpg_readToken_32 ⟨Nat.le_of_ble_eq_true rfl, Nat.le_of_ble_eq_true rfl⟩) hw hA (fun v80 p79 H locs hp79 hw => ?_))
        obtain ⟨rfl, e81, e82, e83⟩ := hp79
        have e81 : z78.toInt < (tf 5).toInt ∨ v80.toInt = -1 := e81
        have e82 : BtV ta (tf 5).toInt z78.toInt v80.toInt := e82
        have e83 : R_mp_byteAt tf ta z78 v80 := e83
        have lv80 := Int32.le_toInt v80
        have uv80 := Int32.toInt_lt v80
        refine px_calli (pr := [wdP cs h r g tf ta pf na ma wa cf ca ef ea xf xa]) (px_runS (As := [.int v80]) (rest := []) S (c_mp_isDigit l D cs  v80   _) hT (pr := [wdP cs h r g tf ta pf na ma wa cf ca ef ea xf xa]) (pcs := []) hw px_X.tt m11_152 m11_150 m11_151 m1_21 q_Mpg_isDigit ⟨Nat.le_of_ble_eq_true rfl, Nat.le_of_ble_eq_true rfl⟩ hl.1 rfl (Nat.le_of_ble_eq_true rfl) d_Mpg_readToken_35 ⟨Nat.le_of_ble_eq_true rfl, Nat.le_of_ble_eq_true rfl⟩) hw hA (fun v85 p84 H locs hp84 hw => ?_)
        obtain ⟨rfl, e86, e87, e88, e89⟩ := hp84
        have e86 := z_rng e86
        have e87 : v85.toInt = 1 → 48 ≤ v80.toInt ∧ v80.toInt ≤ 57 := e87
        have e88 : DgV v80.toInt v85.toInt := e88
        have e89 : R_mp_isDigit v80 v85 := e89
        have lv85 := Int32.le_toInt v85
        have uv85 := Int32.toInt_lt v85
        refine lv_if_eq (tgt := 47) S.x S.b d_Mpg_readToken_38 (by decide) (fun c90 => ?_) (fun c90 => ?_)
        · have nc90 : v85.toInt = (0 : Int) := (i_eq (x := v85) (y := 0)).mp c90
          first | exact J47 x15_3 _ _ ls (show 1 ≤ x15_3.toInt from by omega) (show p0.toInt + x15_3.toInt ≤ (tf 5).toInt from k15_1) (show K_mp_readToken_47 p0 tf ta tf ta x15_3 from (fun y_f0 y_f1 y_v k hE => k15_3 y_f0 y_f1 y_v (k + 1) (Or.inr (Or.inl ⟨rfl, x15_2, x15_3, rfl, rfl, rfl, rfl, rfl, z63, ez63, v65, e68, v70, e74, Or.inr ⟨nc75, z78, ez78, v80, e83, v85, e89, Or.inl ⟨nc90, hE⟩⟩⟩)))) hw (lv_sub hl [0, 1, 3] rfl) | (exact J47 x15_3 _ _ ls (show 1 ≤ x15_3.toInt from by omega) (show p0.toInt + x15_3.toInt ≤ (tf 5).toInt from by first | exact k15_1 | omega) (show K_mp_readToken_47 p0 tf ta tf ta x15_3 from (fun y_f0 y_f1 y_v k hE => k15_3 y_f0 y_f1 y_v (k + 1) (Or.inr (Or.inl ⟨rfl, x15_2, x15_3, rfl, rfl, rfl, rfl, rfl, z63, ez63, v65, e68, v70, e74, Or.inr ⟨nc75, z78, ez78, v80, e83, v85, e89, Or.inl ⟨nc90, hE⟩⟩⟩)))) hw (lv_sub hl [0, 1, 3] rfl))
        · have nc90 : ¬ v85.toInt = (0 : Int) := mt (i_eq (x := v85) (y := 0)).mpr c90
          obtain ⟨z92, ez92⟩ : ∃ y : Int32, y = x15_3 + 1 := ⟨_, rfl⟩
          have tz92 : z92.toInt = (x15_3.toInt + 1 + 2147483648) % 4294967296 - 2147483648 := by rw [ez92]; exact i_add x15_3 1
          have lz92 := Int32.le_toInt z92
          have uz92 := Int32.toInt_lt z92
          try replace tz92 : z92.toInt = x15_3.toInt + 1 := by omega
          refine lv_iinc (v := z92) (lv' := [(3, .int z92), (0, .ref h), (1, .int p0), (2, .int x15_2)]) S.x S.b d_Mpg_readToken_41 hl (k := 3) rfl (by rw [ez92]; rfl) (by decide) rfl (fun ls hl => ?_)
          refine lv_goto (tgt := 15) S.x S.b d_Mpg_readToken_44 (by decide) ?_
          first | exact ih15 x15_2 z92 _ _ ls (show 0 ≤ z92.toInt from (oz_ae613611c0 tz92 k15_0)) (show p0.toInt + z92.toInt ≤ (tf 5).toInt from by omega) (show LtA ta (tf 5).toInt p0.toInt from (by first | assumption | exact lt_is (by assumption) (by assumption) (by omega))) (show K_mp_readToken_15 p0 tf ta tf ta x15_2 z92 from (fun y_f0 y_f1 y_v k hE => k15_3 y_f0 y_f1 y_v (k + 1) (Or.inr (Or.inl ⟨rfl, x15_2, x15_3, rfl, rfl, rfl, rfl, rfl, z63, ez63, v65, e68, v70, e74, Or.inr ⟨nc75, z78, ez78, v80, e83, v85, e89, Or.inr ⟨nc90, z92, ez92, hE⟩⟩⟩)))) (show (tf 5).toInt + 2 - p0.toInt - z92.toInt < (n_15 : Int) from (oz_1c04ad23e8 hm tz92)) hw (lv_sub hl [1, 2, 3, 0] rfl) | (exact ih15 x15_2 z92 _ _ ls (show 0 ≤ z92.toInt from by first | exact oz_ae613611c0 tz92 k15_0 | omega) (show p0.toInt + z92.toInt ≤ (tf 5).toInt from by omega) (show LtA ta (tf 5).toInt p0.toInt from (by first | assumption | exact lt_is (by assumption) (by assumption) (by omega))) (show K_mp_readToken_15 p0 tf ta tf ta x15_2 z92 from (fun y_f0 y_f1 y_v k hE => k15_3 y_f0 y_f1 y_v (k + 1) (Or.inr (Or.inl ⟨rfl, x15_2, x15_3, rfl, rfl, rfl, rfl, rfl, z63, ez63, v65, e68, v70, e74, Or.inr ⟨nc75, z78, ez78, v80, e83, v85, e89, Or.inr ⟨nc90, z92, ez92, hE⟩⟩⟩)))) (show (tf 5).toInt + 2 - p0.toInt - z92.toInt < (n_15 : Int) from by first | exact oz_1c04ad23e8 hm tz92 | omega) hw (lv_sub hl [1, 2, 3, 0] rfl))
  refine lv_aload_n S.x S.b d_Mpg_readToken_0 rfl (lv_at hl 0 rfl) ?_
  refine lv_iload_n S.x S.b d_Mpg_readToken_1 rfl (lv_at hl 1 rfl) ?_
  first | refine px_calli (pr := []) (px_runV (As := [.int p0]) (rest := []) S (c_mp_byteAt l D cs h r g tf ta pf na ma wa cf ca ef ea xf xa p0  (show 0 ≤ (tf 5).toInt from g0) (show (tf 5).toInt ≤ 2048 from g1) (show 0 ≤ p0.toInt from g2) _) hT (pr := []) (pcs := [wdP cs h r g tf ta pf na ma wa cf ca ef ea xf xa]) hw px_X.tt (px_recv hT hw 0 0 rfl rfl rfl) m11_142 m11_139 m11_141 ms_7_15 m1_21 q_Mpg_byteAt ⟨Nat.le_of_ble_eq_true rfl, Nat.le_of_ble_eq_true rfl⟩ hl.1 rfl (Nat.le_of_ble_eq_true rfl) d_Mpg_readToken_2 ⟨Nat.le_of_ble_eq_true rfl, Nat.le_of_ble_eq_true rfl⟩) hw hA (fun v94 p93 H locs hp93 hw => ?_) | (refine px_calli (pr := []) (px_runV (As := [.int p0]) (rest := []) S (c_mp_byteAt l D cs h r g tf ta pf na ma wa cf ca ef ea xf xa p0  (show 0 ≤ (tf 5).toInt from by first | exact g0 | omega) (show (tf 5).toInt ≤ 2048 from by first | exact g1 | omega) (show 0 ≤ p0.toInt from by first | exact g2 | omega) _) hT (pr := []) (pcs := [wdP cs h r g tf ta pf na ma wa cf ca ef ea xf xa]) hw px_X.tt (px_recv hT hw 0 0 rfl rfl rfl) m11_142 m11_139 m11_141 ms_7_15 m1_21 q_Mpg_byteAt ⟨Nat.le_of_ble_eq_true rfl, Nat.le_of_ble_eq_true rfl⟩ hl.1 rfl (Nat.le_of_ble_eq_true rfl) d_Mpg_readToken_2 ⟨Nat.le_of_ble_eq_true rfl, Nat.le_of_ble_eq_true rfl⟩) hw hA (fun v94 p93 H locs hp93 hw => ?_))
  obtain ⟨rfl, e95, e96, e97⟩ := hp93
  have e95 : p0.toInt < (tf 5).toInt ∨ v94.toInt = -1 := e95
  have e96 : BtV ta (tf 5).toInt p0.toInt v94.toInt := e96
  have e97 : R_mp_byteAt tf ta p0 v94 := e97
  have lv94 := Int32.le_toInt v94
  have uv94 := Int32.toInt_lt v94
  refine lv_istore_n (lv' := [(2, .int v94), (0, .ref h), (1, .int p0)]) S.x S.b d_Mpg_readToken_5 rfl hl (by decide) rfl (fun ls hl => ?_)
  refine lv_iconst (v := 0) S.x S.b d_Mpg_readToken_6 (by decide) ?_
  refine lv_istore_n (lv' := [(3, .int 0), (2, .int v94), (0, .ref h), (1, .int p0)]) S.x S.b d_Mpg_readToken_7 rfl hl (by decide) rfl (fun ls hl => ?_)
  refine lv_iload_n S.x S.b d_Mpg_readToken_8 rfl (lv_at hl 1 rfl) ?_
  refine px_calli (pr := [wdP cs h r g tf ta pf na ma wa cf ca ef ea xf xa]) (px_runS (As := [.int v94]) (rest := []) S (c_mp_isLetter l D cs  v94   _) hT (pr := [wdP cs h r g tf ta pf na ma wa cf ca ef ea xf xa]) (pcs := []) hw px_X.tt m11_149 m11_147 m11_148 m1_21 q_Mpg_isLetter ⟨Nat.le_of_ble_eq_true rfl, Nat.le_of_ble_eq_true rfl⟩ hl.1 rfl (Nat.le_of_ble_eq_true rfl) d_Mpg_readToken_9 ⟨Nat.le_of_ble_eq_true rfl, Nat.le_of_ble_eq_true rfl⟩) hw hA (fun v99 p98 H locs hp98 hw => ?_)
  obtain ⟨rfl, e100, e101, e102, e103⟩ := hp98
  have e100 := z_rng e100
  have e101 : v99.toInt = 1 → 65 ≤ v94.toInt := e101
  have e102 : LtV v94.toInt v99.toInt := e102
  have e103 : R_mp_isLetter v94 v99 := e103
  have lv99 := Int32.le_toInt v99
  have uv99 := Int32.toInt_lt v99
  refine lv_if_eq (tgt := 85) S.x S.b d_Mpg_readToken_12 (by decide) (fun c104 => ?_) (fun c104 => ?_)
  · have nc104 : v99.toInt = (0 : Int) := (i_eq (x := v99) (y := 0)).mp c104
    refine lv_iload_n S.x S.b d_Mpg_readToken_85 rfl (lv_at hl 1 rfl) ?_
    refine px_calli (pr := [wdP cs h r g tf ta pf na ma wa cf ca ef ea xf xa]) (px_runS (As := [.int v94]) (rest := []) S (c_mp_isDigit l D cs  v94   _) hT (pr := [wdP cs h r g tf ta pf na ma wa cf ca ef ea xf xa]) (pcs := []) hw px_X.tt m11_152 m11_150 m11_151 m1_21 q_Mpg_isDigit ⟨Nat.le_of_ble_eq_true rfl, Nat.le_of_ble_eq_true rfl⟩ hl.1 rfl (Nat.le_of_ble_eq_true rfl) d_Mpg_readToken_86 ⟨Nat.le_of_ble_eq_true rfl, Nat.le_of_ble_eq_true rfl⟩) hw hA (fun v107 p106 H locs hp106 hw => ?_)
    obtain ⟨rfl, e108, e109, e110, e111⟩ := hp106
    have e108 := z_rng e108
    have e109 : v107.toInt = 1 → 48 ≤ v94.toInt ∧ v94.toInt ≤ 57 := e109
    have e110 : DgV v94.toInt v107.toInt := e110
    have e111 : R_mp_isDigit v94 v107 := e111
    have lv107 := Int32.le_toInt v107
    have uv107 := Int32.toInt_lt v107
    refine lv_if_eq (tgt := 98) S.x S.b d_Mpg_readToken_89 (by decide) (fun c112 => ?_) (fun c112 => ?_)
    · have nc112 : v107.toInt = (0 : Int) := (i_eq (x := v107) (y := 0)).mp c112
      refine lv_iload_n S.x S.b d_Mpg_readToken_98 rfl (lv_at hl 1 rfl) ?_
      refine lv_bipush (v := 39) S.x S.b d_Mpg_readToken_99 (by decide) ?_
      refine lv_icmp_ne (tgt := 177) S.x S.b d_Mpg_readToken_101 (by decide) (fun c114 => ?_) (fun c114 => ?_)
      · have nc114 : ¬ v94.toInt = (39 : Int) := mt (i_eq (x := v94) (y := 39)).mpr c114
        refine lv_iload_n S.x S.b d_Mpg_readToken_177 rfl (lv_at hl 1 rfl) ?_
        refine lv_bipush (v := 34) S.x S.b d_Mpg_readToken_178 (by decide) ?_
        refine lv_icmp_ne (tgt := 189) S.x S.b d_Mpg_readToken_180 (by decide) (fun c116 => ?_) (fun c116 => ?_)
        · have nc116 : ¬ v94.toInt = (34 : Int) := mt (i_eq (x := v94) (y := 34)).mpr c116
          refine lv_iload_n S.x S.b d_Mpg_readToken_189 rfl (lv_at hl 1 rfl) ?_
          refine lv_bipush (v := 47) S.x S.b d_Mpg_readToken_190 (by decide) ?_
          refine lv_icmp_ne (tgt := 209) S.x S.b d_Mpg_readToken_192 (by decide) (fun c118 => ?_) (fun c118 => ?_)
          · have nc118 : ¬ v94.toInt = (47 : Int) := mt (i_eq (x := v94) (y := 47)).mpr c118
            refine lv_iconst (v := 0) S.x S.b d_Mpg_readToken_209 (by decide) ?_
            refine lv_istore (lv' := [(4, .int 0), (3, .int 0), (2, .int v94), (0, .ref h), (1, .int p0)]) S.x S.b d_Mpg_readToken_210 hl (by decide) rfl (fun ls hl => ?_)
            first | exact J212 ((44 - (0 : Int)).toNat + 1) (0 : Int32) _ _ ls (show 0 ≤ (0 : Int) from oz_5a341f00aa) (show (0 : Int) ≤ 43 from oz_05a38b089a) (show K_mp_readToken_212 p0 tf ta tf ta 0 from (fun y_f0 y_f1 y_v k hE => Exists.intro (k + 1) (Or.inl ⟨rfl, v94, e97, v99, e103, Or.inl ⟨nc104, v107, e111, Or.inl ⟨nc112, Or.inl ⟨nc114, Or.inl ⟨nc116, Or.inl ⟨nc118, hE⟩⟩⟩⟩⟩⟩))) (show 44 - (0 : Int) < ((((44 - (0 : Int)).toNat + 1 : Nat) : Int) : Int) from oz_natlt) hw (lv_sub hl [3, 4, 0] rfl) | (exact J212 ((44 - (0 : Int)).toNat + 1) (0 : Int32) _ _ ls (show 0 ≤ (0 : Int) from by first | exact oz_5a341f00aa | omega) (show (0 : Int) ≤ 43 from by first | exact oz_05a38b089a | omega) (show K_mp_readToken_212 p0 tf ta tf ta 0 from (fun y_f0 y_f1 y_v k hE => Exists.intro (k + 1) (Or.inl ⟨rfl, v94, e97, v99, e103, Or.inl ⟨nc104, v107, e111, Or.inl ⟨nc112, Or.inl ⟨nc114, Or.inl ⟨nc116, Or.inl ⟨nc118, hE⟩⟩⟩⟩⟩⟩))) (show 44 - (0 : Int) < ((((44 - (0 : Int)).toNat + 1 : Nat) : Int) : Int) from by first | exact oz_natlt | omega) hw (lv_sub hl [3, 4, 0] rfl))
          · have nc118 : v94.toInt = (47 : Int) := (i_eq (x := v94) (y := 47)).mp c118
            refine lv_aload_n S.x S.b d_Mpg_readToken_195 rfl (lv_at hl 2 rfl) ?_
            refine lv_iload_n S.x S.b d_Mpg_readToken_196 rfl (lv_at hl 3 rfl) ?_
            refine lv_iconst (v := 1) S.x S.b d_Mpg_readToken_197 (by decide) ?_
            refine lv_iadd S.x S.b d_Mpg_readToken_198 ?_
            refine lv_topi (fun z120 ez120 => ?_)
            have tz120 : z120.toInt = (p0.toInt + (1 : Int) + 2147483648) % 4294967296 - 2147483648 := by rw [ez120]; exact i_add p0 1
            have lz120 := Int32.le_toInt z120
            have uz120 := Int32.toInt_lt z120
            try replace tz120 : z120.toInt = p0.toInt + (1 : Int) := by omega
            first | refine px_calli (pr := []) (px_runV (As := [.int z120]) (rest := []) S (c_mp_byteAt l D cs h r g tf ta pf na ma wa cf ca ef ea xf xa z120  (show 0 ≤ (tf 5).toInt from g0) (show (tf 5).toInt ≤ 2048 from g1) (show 0 ≤ z120.toInt from (oz_b3b25f0e49 tz120 g2)) _) hT (pr := []) (pcs := [wdP cs h r g tf ta pf na ma wa cf ca ef ea xf xa]) hw px_X.tt (px_recv hT hw 0 0 rfl rfl rfl) m11_142 m11_139 m11_141 ms_7_15 m1_21 q_Mpg_byteAt ⟨Nat.le_of_ble_eq_true rfl, Nat.le_of_ble_eq_true rfl⟩ hl.1 rfl (Nat.le_of_ble_eq_true rfl) d_Mpg_readToken_199 ⟨Nat.le_of_ble_eq_true rfl, Nat.le_of_ble_eq_true rfl⟩) hw hA (fun v122 p121 H locs hp121 hw => ?_) | (refine px_calli (pr := []) (px_runV (As := [.int z120]) (rest := []) S (c_mp_byteAt l D cs h r g tf ta pf na ma wa cf ca ef ea xf xa z120  (show 0 ≤ (tf 5).toInt from by first | exact g0 | omega) (show (tf 5).toInt ≤ 2048 from by first | exact g1 | omega) (show 0 ≤ z120.toInt from by first | exact oz_b3b25f0e49 tz120 g2 | omega) _) hT (pr := []) (pcs := [wdP cs h r g tf ta pf na ma wa cf ca ef ea xf xa]) hw px_X.tt (px_recv hT hw 0 0 rfl rfl rfl) m11_142 m11_139 m11_141 ms_7_15 m1_21 q_Mpg_byteAt ⟨Nat.le_of_ble_eq_true rfl, Nat.le_of_ble_eq_true rfl⟩ hl.1 rfl (Nat.le_of_ble_eq_true rfl) d_Mpg_readToken_199 ⟨Nat.le_of_ble_eq_true rfl, Nat.le_of_ble_eq_true rfl⟩) hw hA (fun v122 p121 H locs hp121 hw => ?_))
            obtain ⟨rfl, e123, e124, e125⟩ := hp121
            have e123 : z120.toInt < (tf 5).toInt ∨ v122.toInt = -1 := e123
            have e124 : BtV ta (tf 5).toInt z120.toInt v122.toInt := e124
            have e125 : R_mp_byteAt tf ta z120 v122 := e125
            have lv122 := Int32.le_toInt v122
            have uv122 := Int32.toInt_lt v122
            refine lv_bipush (v := 42) S.x S.b d_Mpg_readToken_202 (by decide) ?_
            refine lv_icmp_ne (tgt := 209) S.x S.b d_Mpg_readToken_204 (by decide) (fun c126 => ?_) (fun c126 => ?_)
            · have nc126 : ¬ v122.toInt = (42 : Int) := mt (i_eq (x := v122) (y := 42)).mpr c126
              refine lv_iconst (v := 0) S.x S.b d_Mpg_readToken_209 (by decide) ?_
              refine lv_istore (lv' := [(4, .int 0), (3, .int 0), (2, .int v94), (0, .ref h), (1, .int p0)]) S.x S.b d_Mpg_readToken_210 hl (by decide) rfl (fun ls hl => ?_)
              first | exact J212 ((44 - (0 : Int)).toNat + 1) (0 : Int32) _ _ ls (show 0 ≤ (0 : Int) from oz_5a341f00aa) (show (0 : Int) ≤ 43 from oz_05a38b089a) (show K_mp_readToken_212 p0 tf ta tf ta 0 from (fun y_f0 y_f1 y_v k hE => Exists.intro (k + 1) (Or.inl ⟨rfl, v94, e97, v99, e103, Or.inl ⟨nc104, v107, e111, Or.inl ⟨nc112, Or.inl ⟨nc114, Or.inl ⟨nc116, Or.inr ⟨nc118, z120, ez120, v122, e125, Or.inl ⟨nc126, hE⟩⟩⟩⟩⟩⟩⟩))) (show 44 - (0 : Int) < ((((44 - (0 : Int)).toNat + 1 : Nat) : Int) : Int) from oz_natlt) hw (lv_sub hl [3, 4, 0] rfl) | (exact J212 ((44 - (0 : Int)).toNat + 1) (0 : Int32) _ _ ls (show 0 ≤ (0 : Int) from by first | exact oz_5a341f00aa | omega) (show (0 : Int) ≤ 43 from by first | exact oz_05a38b089a | omega) (show K_mp_readToken_212 p0 tf ta tf ta 0 from (fun y_f0 y_f1 y_v k hE => Exists.intro (k + 1) (Or.inl ⟨rfl, v94, e97, v99, e103, Or.inl ⟨nc104, v107, e111, Or.inl ⟨nc112, Or.inl ⟨nc114, Or.inl ⟨nc116, Or.inr ⟨nc118, z120, ez120, v122, e125, Or.inl ⟨nc126, hE⟩⟩⟩⟩⟩⟩⟩))) (show 44 - (0 : Int) < ((((44 - (0 : Int)).toNat + 1 : Nat) : Int) : Int) from by first | exact oz_natlt | omega) hw (lv_sub hl [3, 4, 0] rfl))
            · have nc126 : v122.toInt = (42 : Int) := (i_eq (x := v122) (y := 42)).mp c126
              refine lv_iconst (v := 0) S.x S.b d_Mpg_readToken_207 (by decide) ?_
              first | exact px_iret (v := 0) S hr rfl hlk hAe hw (Nat.le_of_ble_eq_true rfl) (Nat.le_of_ble_eq_true rfl) (⟨tf, ta, rfl, (show (0 : Int32) = 0 ∨ (0 : Int32) = 1 from by first | exact Or.inl rfl | exact Or.inr rfl | exact z_or (by omega)), (show (tf 5).toInt = (tf 5).toInt from rfl), (show (tf 6).toInt ≤ (tf 6).toInt from oz_1cb5f934a5), (show (tf 6).toInt ≤ (tf 6).toInt + 1 from oz_ae0d7c4baf), (show (0 : Int) = 1 → (tf 6).toInt = (tf 6).toInt + 1 from by omega), (show RdK (tf 5).toInt ta (tf 6) (0 : Int32) p0 from (by first | exact rdk_n htp (by assumption) (by omega) (by omega) | exact rdk_0 htp (by omega))), (show R_mp_readToken p0 tf ta tf ta (0 : Int32) from (Exists.intro 1 (Or.inl ⟨rfl, v94, e97, v99, e103, Or.inl ⟨nc104, v107, e111, Or.inl ⟨nc112, Or.inl ⟨nc114, Or.inl ⟨nc116, Or.inr ⟨nc118, z120, ez120, v122, e125, Or.inr ⟨nc126, rfl, rfl, rfl⟩⟩⟩⟩⟩⟩⟩)))⟩) d_Mpg_readToken_208 | (exact px_iret (v := 0) S hr rfl hlk hAe hw (Nat.le_of_ble_eq_true rfl) (Nat.le_of_ble_eq_true rfl) (⟨tf, ta, rfl, (show (0 : Int32) = 0 ∨ (0 : Int32) = 1 from by first | exact Or.inl rfl | exact Or.inr rfl | exact z_or (by omega)), (show (tf 5).toInt = (tf 5).toInt from rfl), (show (tf 6).toInt ≤ (tf 6).toInt from by first | exact oz_1cb5f934a5 | omega), (show (tf 6).toInt ≤ (tf 6).toInt + 1 from by first | exact oz_ae0d7c4baf | omega), (show (0 : Int) = 1 → (tf 6).toInt = (tf 6).toInt + 1 from by omega), (show RdK (tf 5).toInt ta (tf 6) (0 : Int32) p0 from (by first | exact rdk_n htp (by assumption) (by omega) (by omega) | exact rdk_0 htp (by omega))), (show R_mp_readToken p0 tf ta tf ta (0 : Int32) from (Exists.intro 1 (Or.inl ⟨rfl, v94, e97, v99, e103, Or.inl ⟨nc104, v107, e111, Or.inl ⟨nc112, Or.inl ⟨nc114, Or.inl ⟨nc116, Or.inr ⟨nc118, z120, ez120, v122, e125, Or.inr ⟨nc126, rfl, rfl, rfl⟩⟩⟩⟩⟩⟩⟩)))⟩) d_Mpg_readToken_208)
        · have nc116 : v94.toInt = (34 : Int) := (i_eq (x := v94) (y := 34)).mp c116
          refine lv_aload_n S.x S.b d_Mpg_readToken_183 rfl (lv_at hl 2 rfl) ?_
          refine lv_iload_n S.x S.b d_Mpg_readToken_184 rfl (lv_at hl 3 rfl) ?_
          first | refine px_calli (pr := []) (px_runV (As := [.int p0]) (rest := []) S (c_mp_readString l D cs h r g pf na ma wa cf ca ef ea xf xa tf ta p0  (show 0 ≤ (tf 5).toInt from g0) (show (tf 5).toInt ≤ 2048 from g1) (show 0 ≤ p0.toInt from g2) (show p0.toInt < (tf 5).toInt from g3) (show 0 ≤ (tf 6).toInt from g4) (show (tf 6).toInt ≤ p0.toInt from g5) (by first | assumption | exact htp) _) hT (pr := []) (pcs := [wdP cs h r g tf ta pf na ma wa cf ca ef ea xf xa]) hw px_X.tt (px_recv hT hw 0 0 rfl rfl rfl) m11_184 m11_181 m11_183 ms_8_6 m1_21 q_Mpg_readString ⟨Nat.le_of_ble_eq_true rfl, Nat.le_of_ble_eq_true rfl⟩ hl.1 rfl (Nat.le_of_ble_eq_true rfl) d_Mpg_readToken_185 ⟨Nat.le_of_ble_eq_true rfl, Nat.le_of_ble_eq_true rfl⟩) hw hA (fun v133 p132 H locs hp132 hw => ?_) | (refine px_calli (pr := []) (px_runV (As := [.int p0]) (rest := []) S (c_mp_readString l D cs h r g pf na ma wa cf ca ef ea xf xa tf ta p0  (show 0 ≤ (tf 5).toInt from by first | exact g0 | omega) (show (tf 5).toInt ≤ 2048 from by first | exact g1 | omega) (show 0 ≤ p0.toInt from by first | exact g2 | omega) (show p0.toInt < (tf 5).toInt from by first | exact g3 | omega) (show 0 ≤ (tf 6).toInt from by first | exact g4 | omega) (show (tf 6).toInt ≤ p0.toInt from by first | exact g5 | omega) (by first | assumption | exact htp) _) hT (pr := []) (pcs := [wdP cs h r g tf ta pf na ma wa cf ca ef ea xf xa]) hw px_X.tt (px_recv hT hw 0 0 rfl rfl rfl) m11_184 m11_181 m11_183 ms_8_6 m1_21 q_Mpg_readString ⟨Nat.le_of_ble_eq_true rfl, Nat.le_of_ble_eq_true rfl⟩ hl.1 rfl (Nat.le_of_ble_eq_true rfl) d_Mpg_readToken_185 ⟨Nat.le_of_ble_eq_true rfl, Nat.le_of_ble_eq_true rfl⟩) hw hA (fun v133 p132 H locs hp132 hw => ?_))
          obtain ⟨tf130, ta131, rfl, e134, e135, e136, e137, e138, e139, e140⟩ := hp132
          have e134 := z_rng e134
          have e135 : (tf130 5).toInt = (tf 5).toInt := e135
          have e136 : (tf 6).toInt ≤ (tf130 6).toInt := e136
          have e137 : (tf130 6).toInt ≤ (tf 6).toInt + 1 := e137
          have e138 : v133.toInt = 1 → (tf130 6).toInt = (tf 6).toInt + 1 := e138
          have e139 : RdK (tf 5).toInt ta131 (tf 6) v133 p0 := e139
          have e140 : R_mp_readString p0 tf ta tf130 ta131 v133 := e140
          have lv133 := Int32.le_toInt v133
          have uv133 := Int32.toInt_lt v133
          first | exact px_iret (v := v133) S hr (z_nar (by omega)) hlk hAe hw (Nat.le_of_ble_eq_true rfl) (Nat.le_of_ble_eq_true rfl) (⟨tf130, ta131, rfl, (show v133 = 0 ∨ v133 = 1 from by first | exact Or.inl rfl | exact Or.inr rfl | exact z_or (by omega)), (show (tf130 5).toInt = (tf 5).toInt from e135), (show (tf 6).toInt ≤ (tf130 6).toInt from e136), (show (tf130 6).toInt ≤ (tf 6).toInt + 1 from e137), (show v133.toInt = 1 → (tf130 6).toInt = (tf 6).toInt + 1 from e138), (show RdK (tf 5).toInt ta131 (tf 6) v133 p0 from (by assumption)), (show R_mp_readToken p0 tf ta tf130 ta131 v133 from (Exists.intro 1 (Or.inl ⟨rfl, v94, e97, v99, e103, Or.inl ⟨nc104, v107, e111, Or.inl ⟨nc112, Or.inl ⟨nc114, Or.inr ⟨nc116, tf130, ta131, v133, e140, rfl, rfl, rfl⟩⟩⟩⟩⟩)))⟩) d_Mpg_readToken_188 | (exact px_iret (v := v133) S hr (z_nar (by omega)) hlk hAe hw (Nat.le_of_ble_eq_true rfl) (Nat.le_of_ble_eq_true rfl) (⟨tf130, ta131, rfl, (show v133 = 0 ∨ v133 = 1 from by first | exact Or.inl rfl | exact Or.inr rfl | exact z_or (by omega)), (show (tf130 5).toInt = (tf 5).toInt from by first | exact e135 | omega), (show (tf 6).toInt ≤ (tf130 6).toInt from by first | exact e136 | omega), (show (tf130 6).toInt ≤ (tf 6).toInt + 1 from by first | exact e137 | omega), (show v133.toInt = 1 → (tf130 6).toInt = (tf 6).toInt + 1 from by first | exact e138 | omega), (show RdK (tf 5).toInt ta131 (tf 6) v133 p0 from (by assumption)), (show R_mp_readToken p0 tf ta tf130 ta131 v133 from (Exists.intro 1 (Or.inl ⟨rfl, v94, e97, v99, e103, Or.inl ⟨nc104, v107, e111, Or.inl ⟨nc112, Or.inl ⟨nc114, Or.inr ⟨nc116, tf130, ta131, v133, e140, rfl, rfl, rfl⟩⟩⟩⟩⟩)))⟩) d_Mpg_readToken_188)
      · have nc114 : v94.toInt = (39 : Int) := (i_eq (x := v94) (y := 39)).mp c114
        refine lv_aload_n S.x S.b d_Mpg_readToken_104 rfl (lv_at hl 2 rfl) ?_
        refine lv_iload_n S.x S.b d_Mpg_readToken_105 rfl (lv_at hl 3 rfl) ?_
        refine lv_iconst (v := 1) S.x S.b d_Mpg_readToken_106 (by decide) ?_
        refine lv_iadd S.x S.b d_Mpg_readToken_107 ?_
        refine lv_topi (fun z141 ez141 => ?_)
        have tz141 : z141.toInt = (p0.toInt + (1 : Int) + 2147483648) % 4294967296 - 2147483648 := by rw [ez141]; exact i_add p0 1
        have lz141 := Int32.le_toInt z141
        have uz141 := Int32.toInt_lt z141
        try replace tz141 : z141.toInt = p0.toInt + (1 : Int) := by omega
        refine lv_bipush (v := 39) S.x S.b d_Mpg_readToken_108 (by decide) ?_
        first | refine px_calli (pr := []) (px_runV (As := [.int z141, .int 39]) (rest := []) S (c_mp_character l D cs h r g tf ta pf na ma wa cf ca ef ea xf xa z141 39  (show 0 ≤ (tf 5).toInt from g0) (show (tf 5).toInt ≤ 2048 from g1) (show 0 ≤ z141.toInt from (oz_b3b25f0e49 tz141 g2)) (show z141.toInt ≤ 100000 from (oz_f878e4a551 tz141 g3 g1)) (show 0 ≤ (39 : Int) from oz_1129936c84) (show (39 : Int) ≤ 100 from oz_90edb1163d) _) hT (pr := []) (pcs := [wdP cs h r g tf ta pf na ma wa cf ca ef ea xf xa]) hw px_X.tt (px_recv hT hw 0 0 rfl rfl rfl) m11_180 m11_177 m11_179 ms_8_5 m1_21 q_Mpg_character ⟨Nat.le_of_ble_eq_true rfl, Nat.le_of_ble_eq_true rfl⟩ hl.1 rfl (Nat.le_of_ble_eq_true rfl) d_Mpg_readToken_110 ⟨Nat.le_of_ble_eq_true rfl, Nat.le_of_ble_eq_true rfl⟩) hw hA (fun v143 p142 H locs hp142 hw => ?_) | (refine px_calli (pr := []) (px_runV (As := [.int z141, .int 39]) (rest := []) S (c_mp_character l D cs h r g tf ta pf na ma wa cf ca ef ea xf xa z141 39  (show 0 ≤ (tf 5).toInt from by first | exact g0 | omega) (show (tf 5).toInt ≤ 2048 from by first | exact g1 | omega) (show 0 ≤ z141.toInt from by first | exact oz_b3b25f0e49 tz141 g2 | omega) (show z141.toInt ≤ 100000 from by first | exact oz_f878e4a551 tz141 g3 g1 | omega) (show 0 ≤ (39 : Int) from by first | exact oz_1129936c84 | omega) (show (39 : Int) ≤ 100 from by first | exact oz_90edb1163d | omega) _) hT (pr := []) (pcs := [wdP cs h r g tf ta pf na ma wa cf ca ef ea xf xa]) hw px_X.tt (px_recv hT hw 0 0 rfl rfl rfl) m11_180 m11_177 m11_179 ms_8_5 m1_21 q_Mpg_character ⟨Nat.le_of_ble_eq_true rfl, Nat.le_of_ble_eq_true rfl⟩ hl.1 rfl (Nat.le_of_ble_eq_true rfl) d_Mpg_readToken_110 ⟨Nat.le_of_ble_eq_true rfl, Nat.le_of_ble_eq_true rfl⟩) hw hA (fun v143 p142 H locs hp142 hw => ?_))
        obtain ⟨rfl, e144, e145, e146, e147, e148⟩ := hp142
        have e144 : -1 ≤ v143.toInt := e144
        have e145 : v143.toInt ≤ 1126 := e145
        have e146 : 0 ≤ v143.toInt → z141.toInt < (tf 5).toInt := e146
        have e147 : 1000 ≤ v143.toInt → z141.toInt + 1 < (tf 5).toInt := e147
        have e148 : R_mp_character tf ta z141 (39 : Int32) v143 := e148
        have lv143 := Int32.le_toInt v143
        have uv143 := Int32.toInt_lt v143
        refine lv_istore (lv' := [(4, .int v143), (3, .int 0), (2, .int v94), (0, .ref h), (1, .int p0)]) S.x S.b d_Mpg_readToken_113 hl (by decide) rfl (fun ls hl => ?_)
        refine lv_iload S.x S.b d_Mpg_readToken_115 (lv_at hl 0 rfl) ?_
        refine lv_if_ge (tgt := 124) S.x S.b d_Mpg_readToken_117 (by decide) (fun c149 => ?_) (fun c149 => ?_)
        · have nc149 : (0 : Int) ≤ v143.toInt := (i_le (x := 0) (y := v143)).mp c149
          refine lv_iload S.x S.b d_Mpg_readToken_124 (lv_at hl 0 rfl) ?_
          refine lv_sipush (v := 1000) S.x S.b d_Mpg_readToken_126 (by decide) ?_
          refine lv_icmp_ge (tgt := 136) S.x S.b d_Mpg_readToken_129 (by decide) (fun c151 => ?_) (fun c151 => ?_)
          · have nc151 : (1000 : Int) ≤ v143.toInt := (i_le (x := 1000) (y := v143)).mp c151
            refine lv_iconst (v := 2) S.x S.b d_Mpg_readToken_136 (by decide) ?_
            refine lv_istore_n (lv' := [(3, .int 2), (4, .int v143), (2, .int v94), (0, .ref h), (1, .int p0)]) S.x S.b d_Mpg_readToken_137 rfl hl (by decide) rfl (fun ls hl => ?_)
            refine lv_aload_n S.x S.b d_Mpg_readToken_138 rfl (lv_at hl 3 rfl) ?_
            refine lv_iload_n S.x S.b d_Mpg_readToken_139 rfl (lv_at hl 4 rfl) ?_
            refine lv_iload_n S.x S.b d_Mpg_readToken_140 rfl (lv_at hl 0 rfl) ?_
            refine lv_iconst (v := 2) S.x S.b d_Mpg_readToken_141 (by decide) ?_
            refine lv_iadd S.x S.b d_Mpg_readToken_142 ?_
            refine lv_topi (fun z153 ez153 => ?_)
            have tz153 : z153.toInt = ((2 : Int) + (2 : Int) + 2147483648) % 4294967296 - 2147483648 := by rw [ez153]; exact i_add 2 2
            have lz153 := Int32.le_toInt z153
            have uz153 := Int32.toInt_lt z153
            try replace tz153 : z153.toInt = (2 : Int) + (2 : Int) := by omega
            refine lv_iconst (v := 3) S.x S.b d_Mpg_readToken_143 (by decide) ?_
            refine lv_iload S.x S.b d_Mpg_readToken_144 (lv_at hl 1 rfl) ?_
            refine lv_sipush (v := 1000) S.x S.b d_Mpg_readToken_146 (by decide) ?_
            refine lv_irem S.x S.b d_Mpg_readToken_149 (fun hz0 => by have hz1 := i_eq.mp hz0; omega) ?_
            refine lv_topi (fun z154 ez154 => ?_)
            have lz154 := Int32.le_toInt z154
            have uz154 := Int32.toInt_lt z154
            first | refine px_callv (pr := []) (px_runV (As := [.int p0, .int z153, .int 3, .int z154]) (rest := []) S (c_mp_token l D cs h r g pf na ma wa cf ca ef ea xf xa tf ta p0 z153 3 z154  (show 0 ≤ (tf 6).toInt from g4) (show (tf 6).toInt ≤ 2059 from (oz_9dfb4af2f5 g5 g3 g1)) _) hT (pr := []) (pcs := [wdP cs h r g tf ta pf na ma wa cf ca ef ea xf xa]) hw px_X.tt (px_recv hT hw 0 0 rfl rfl rfl) m11_166 m11_163 m11_165 ms_8_3 m1_21 q_Mpg_token ⟨Nat.le_of_ble_eq_true rfl, Nat.le_of_ble_eq_true rfl⟩ hl.1 rfl (Nat.le_of_ble_eq_true rfl) d_Mpg_readToken_150 ⟨Nat.le_of_ble_eq_true rfl, Nat.le_of_ble_eq_true rfl⟩) hw hA (fun p159 H locs hp159 hw => ?_) | (refine px_callv (pr := []) (px_runV (As := [.int p0, .int z153, .int 3, .int z154]) (rest := []) S (c_mp_token l D cs h r g pf na ma wa cf ca ef ea xf xa tf ta p0 z153 3 z154  (show 0 ≤ (tf 6).toInt from by first | exact g4 | omega) (show (tf 6).toInt ≤ 2059 from by first | exact oz_9dfb4af2f5 g5 g3 g1 | omega) _) hT (pr := []) (pcs := [wdP cs h r g tf ta pf na ma wa cf ca ef ea xf xa]) hw px_X.tt (px_recv hT hw 0 0 rfl rfl rfl) m11_166 m11_163 m11_165 ms_8_3 m1_21 q_Mpg_token ⟨Nat.le_of_ble_eq_true rfl, Nat.le_of_ble_eq_true rfl⟩ hl.1 rfl (Nat.le_of_ble_eq_true rfl) d_Mpg_readToken_150 ⟨Nat.le_of_ble_eq_true rfl, Nat.le_of_ble_eq_true rfl⟩) hw hA (fun p159 H locs hp159 hw => ?_))
            obtain ⟨tf157, ta158, rfl, e161, e162, e163, e164⟩ := hp159
            have e161 : (tf157 6).toInt = (tf 6).toInt + 1 := e161
            have e162 : (tf157 5).toInt = (tf 5).toInt := e162
            have e163 : TkU ta ta158 (tf 6) p0 z153 (3 : Int32) z154 := e163
            have e164 : R_mp_token p0 z153 (3 : Int32) z154 tf ta tf157 ta158 := e164
            refine lv_iload_n S.x S.b d_Mpg_readToken_153 rfl (lv_at hl 0 rfl) ?_
            refine lv_if_le (tgt := 175) S.x S.b d_Mpg_readToken_154 (by decide) (fun c165 => ?_) (fun c165 => ?_)
            · exact absurd c165 (by decide)
            ·
              refine lv_aload_n S.x S.b d_Mpg_readToken_157 rfl (lv_at hl 3 rfl) ?_
              refine lv_iload_n S.x S.b d_Mpg_readToken_158 rfl (lv_at hl 4 rfl) ?_
              refine lv_iconst (v := 1) S.x S.b d_Mpg_readToken_159 (by decide) ?_
              refine lv_iadd S.x S.b d_Mpg_readToken_160 ?_
              refine lv_topi (fun z166 ez166 => ?_)
              have tz166 : z166.toInt = (p0.toInt + (1 : Int) + 2147483648) % 4294967296 - 2147483648 := by rw [ez166]; exact i_add p0 1
              have lz166 := Int32.le_toInt z166
              have uz166 := Int32.toInt_lt z166
              try replace tz166 : z166.toInt = p0.toInt + (1 : Int) := by omega
              refine lv_iload_n S.x S.b d_Mpg_readToken_161 rfl (lv_at hl 0 rfl) ?_
              refine lv_iadd S.x S.b d_Mpg_readToken_162 ?_
              refine lv_topi (fun z167 ez167 => ?_)
              have tz167 : z167.toInt = (z166.toInt + (2 : Int) + 2147483648) % 4294967296 - 2147483648 := by rw [ez167]; exact i_add z166 2
              have lz167 := Int32.le_toInt z167
              have uz167 := Int32.toInt_lt z167
              try replace tz167 : z167.toInt = z166.toInt + (2 : Int) := by omega
              first | refine px_calli (pr := []) (px_runV (As := [.int z167]) (rest := []) S (c_mp_byteAt l D cs h r g tf157 ta158 pf na ma wa cf ca ef ea xf xa z167  (show 0 ≤ (tf157 5).toInt from (oz_f3ebed1ad0 e162 g0)) (show (tf157 5).toInt ≤ 2048 from (oz_508e595d19 e162 g1)) (show 0 ≤ z167.toInt from (oz_676ddfcb1b tz167 tz166 g2)) _) hT (pr := []) (pcs := [wdP cs h r g tf157 ta158 pf na ma wa cf ca ef ea xf xa]) hw px_X.tt (px_recv hT hw 0 0 rfl rfl rfl) m11_142 m11_139 m11_141 ms_7_15 m1_21 q_Mpg_byteAt ⟨Nat.le_of_ble_eq_true rfl, Nat.le_of_ble_eq_true rfl⟩ hl.1 rfl (Nat.le_of_ble_eq_true rfl) d_Mpg_readToken_163 ⟨Nat.le_of_ble_eq_true rfl, Nat.le_of_ble_eq_true rfl⟩) hw hA (fun v169 p168 H locs hp168 hw => ?_) | (refine px_calli (pr := []) (px_runV (As := [.int z167]) (rest := []) S (c_mp_byteAt l D cs h r g tf157 ta158 pf na ma wa cf ca ef ea xf xa z167  (show 0 ≤ (tf157 5).toInt from by first | exact oz_f3ebed1ad0 e162 g0 | omega) (show (tf157 5).toInt ≤ 2048 from by first | exact oz_508e595d19 e162 g1 | omega) (show 0 ≤ z167.toInt from by first | exact oz_676ddfcb1b tz167 tz166 g2 | omega) _) hT (pr := []) (pcs := [wdP cs h r g tf157 ta158 pf na ma wa cf ca ef ea xf xa]) hw px_X.tt (px_recv hT hw 0 0 rfl rfl rfl) m11_142 m11_139 m11_141 ms_7_15 m1_21 q_Mpg_byteAt ⟨Nat.le_of_ble_eq_true rfl, Nat.le_of_ble_eq_true rfl⟩ hl.1 rfl (Nat.le_of_ble_eq_true rfl) d_Mpg_readToken_163 ⟨Nat.le_of_ble_eq_true rfl, Nat.le_of_ble_eq_true rfl⟩) hw hA (fun v169 p168 H locs hp168 hw => ?_))
              obtain ⟨rfl, e170, e171, e172⟩ := hp168
              have e170 : z167.toInt < (tf157 5).toInt ∨ v169.toInt = -1 := e170
              have e171 : BtV ta158 (tf157 5).toInt z167.toInt v169.toInt := e171
              have e172 : R_mp_byteAt tf157 ta158 z167 v169 := e172
              have lv169 := Int32.le_toInt v169
              have uv169 := Int32.toInt_lt v169
              refine lv_bipush (v := 39) S.x S.b d_Mpg_readToken_166 (by decide) ?_
              refine lv_icmp_ne (tgt := 175) S.x S.b d_Mpg_readToken_168 (by decide) (fun c173 => ?_) (fun c173 => ?_)
              · have nc173 : ¬ v169.toInt = (39 : Int) := mt (i_eq (x := v169) (y := 39)).mpr c173
                refine lv_iconst (v := 0) S.x S.b d_Mpg_readToken_175 (by decide) ?_
                first | exact px_iret (v := 0) S hr rfl hlk hAe hw (Nat.le_of_ble_eq_true rfl) (Nat.le_of_ble_eq_true rfl) (⟨tf157, ta158, rfl, (show (0 : Int32) = 0 ∨ (0 : Int32) = 1 from by first | exact Or.inl rfl | exact Or.inr rfl | exact z_or (by omega)), (show (tf157 5).toInt = (tf 5).toInt from e162), (show (tf 6).toInt ≤ (tf157 6).toInt from (oz_7db54039c4 e161)), (show (tf157 6).toInt ≤ (tf 6).toInt + 1 from (oz_6ad8cf7f07 e161)), (show (0 : Int) = 1 → (tf157 6).toInt = (tf 6).toInt + 1 from by omega), (show RdK (tf 5).toInt ta158 (tf 6) (0 : Int32) p0 from (by first | exact rdk_n htp (by assumption) (by omega) (by omega) | exact rdk_0 htp (by omega))), (show R_mp_readToken p0 tf ta tf157 ta158 (0 : Int32) from (Exists.intro 1 (Or.inl ⟨rfl, v94, e97, v99, e103, Or.inl ⟨nc104, v107, e111, Or.inl ⟨nc112, Or.inr ⟨nc114, z141, ez141, v143, e148, Or.inl ⟨nc149, Or.inl ⟨nc151, z153, ez153, z154, ez154, tf157, ta158, e164, z166, ez166, z167, ez167, v169, e172, Or.inl ⟨nc173, rfl, rfl, rfl⟩⟩⟩⟩⟩⟩⟩)))⟩) d_Mpg_readToken_176 | (exact px_iret (v := 0) S hr rfl hlk hAe hw (Nat.le_of_ble_eq_true rfl) (Nat.le_of_ble_eq_true rfl) (⟨tf157, ta158, rfl, (show (0 : Int32) = 0 ∨ (0 : Int32) = 1 from by first | exact Or.inl rfl | exact Or.inr rfl | exact z_or (by omega)), (show (tf157 5).toInt = (tf 5).toInt from by first | exact e162 | omega), (show (tf 6).toInt ≤ (tf157 6).toInt from by first | exact oz_7db54039c4 e161 | omega), (show (tf157 6).toInt ≤ (tf 6).toInt + 1 from by first | exact oz_6ad8cf7f07 e161 | omega), (show (0 : Int) = 1 → (tf157 6).toInt = (tf 6).toInt + 1 from by omega), (show RdK (tf 5).toInt ta158 (tf 6) (0 : Int32) p0 from (by first | exact rdk_n htp (by assumption) (by omega) (by omega) | exact rdk_0 htp (by omega))), (show R_mp_readToken p0 tf ta tf157 ta158 (0 : Int32) from (Exists.intro 1 (Or.inl ⟨rfl, v94, e97, v99, e103, Or.inl ⟨nc104, v107, e111, Or.inl ⟨nc112, Or.inr ⟨nc114, z141, ez141, v143, e148, Or.inl ⟨nc149, Or.inl ⟨nc151, z153, ez153, z154, ez154, tf157, ta158, e164, z166, ez166, z167, ez167, v169, e172, Or.inl ⟨nc173, rfl, rfl, rfl⟩⟩⟩⟩⟩⟩⟩)))⟩) d_Mpg_readToken_176)
              · have nc173 : v169.toInt = (39 : Int) := (i_eq (x := v169) (y := 39)).mp c173
                refine lv_iconst (v := 1) S.x S.b d_Mpg_readToken_171 (by decide) ?_
                refine lv_goto (tgt := 176) S.x S.b d_Mpg_readToken_172 (by decide) ?_
                first | exact px_iret (v := 1) S hr rfl hlk hAe hw (Nat.le_of_ble_eq_true rfl) (Nat.le_of_ble_eq_true rfl) (⟨tf157, ta158, rfl, (show (1 : Int32) = 0 ∨ (1 : Int32) = 1 from by first | exact Or.inl rfl | exact Or.inr rfl | exact z_or (by omega)), (show (tf157 5).toInt = (tf 5).toInt from e162), (show (tf 6).toInt ≤ (tf157 6).toInt from (oz_7db54039c4 e161)), (show (tf157 6).toInt ≤ (tf 6).toInt + 1 from (oz_6ad8cf7f07 e161)), (show (1 : Int) = 1 → (tf157 6).toInt = (tf 6).toInt + 1 from by omega), (show RdK (tf 5).toInt ta158 (tf 6) (1 : Int32) p0 from (rdk_y htp (by assumption) (by omega) ⟨⟨by omega, by omega⟩, ⟨by omega, by omega, by omega⟩, fun h => ⟨by omega, by omega, by omega⟩, fun h => ⟨by omega, by omega, by omega⟩, fun h => ⟨by omega, by omega, by omega⟩⟩)), (show R_mp_readToken p0 tf ta tf157 ta158 (1 : Int32) from (Exists.intro 1 (Or.inl ⟨rfl, v94, e97, v99, e103, Or.inl ⟨nc104, v107, e111, Or.inl ⟨nc112, Or.inr ⟨nc114, z141, ez141, v143, e148, Or.inl ⟨nc149, Or.inl ⟨nc151, z153, ez153, z154, ez154, tf157, ta158, e164, z166, ez166, z167, ez167, v169, e172, Or.inr ⟨nc173, rfl, rfl, rfl⟩⟩⟩⟩⟩⟩⟩)))⟩) d_Mpg_readToken_176 | (exact px_iret (v := 1) S hr rfl hlk hAe hw (Nat.le_of_ble_eq_true rfl) (Nat.le_of_ble_eq_true rfl) (⟨tf157, ta158, rfl, (show (1 : Int32) = 0 ∨ (1 : Int32) = 1 from by first | exact Or.inl rfl | exact Or.inr rfl | exact z_or (by omega)), (show (tf157 5).toInt = (tf 5).toInt from by first | exact e162 | omega), (show (tf 6).toInt ≤ (tf157 6).toInt from by first | exact oz_7db54039c4 e161 | omega), (show (tf157 6).toInt ≤ (tf 6).toInt + 1 from by first | exact oz_6ad8cf7f07 e161 | omega), (show (1 : Int) = 1 → (tf157 6).toInt = (tf 6).toInt + 1 from by omega), (show RdK (tf 5).toInt ta158 (tf 6) (1 : Int32) p0 from (rdk_y htp (by assumption) (by omega) ⟨⟨by omega, by omega⟩, ⟨by omega, by omega, by omega⟩, fun h => ⟨by omega, by omega, by omega⟩, fun h => ⟨by omega, by omega, by omega⟩, fun h => ⟨by omega, by omega, by omega⟩⟩)), (show R_mp_readToken p0 tf ta tf157 ta158 (1 : Int32) from (Exists.intro 1 (Or.inl ⟨rfl, v94, e97, v99, e103, Or.inl ⟨nc104, v107, e111, Or.inl ⟨nc112, Or.inr ⟨nc114, z141, ez141, v143, e148, Or.inl ⟨nc149, Or.inl ⟨nc151, z153, ez153, z154, ez154, tf157, ta158, e164, z166, ez166, z167, ez167, v169, e172, Or.inr ⟨nc173, rfl, rfl, rfl⟩⟩⟩⟩⟩⟩⟩)))⟩) d_Mpg_readToken_176)
          · have nc151 : ¬ (1000 : Int) ≤ v143.toInt := mt (i_le (x := 1000) (y := v143)).mpr c151
            refine lv_iconst (v := 1) S.x S.b d_Mpg_readToken_132 (by decide) ?_
            refine lv_goto (tgt := 137) S.x S.b d_Mpg_readToken_133 (by decide) ?_
            refine lv_istore_n (lv' := [(3, .int 1), (4, .int v143), (2, .int v94), (0, .ref h), (1, .int p0)]) S.x S.b d_Mpg_readToken_137 rfl hl (by decide) rfl (fun ls hl => ?_)
            refine lv_aload_n S.x S.b d_Mpg_readToken_138 rfl (lv_at hl 3 rfl) ?_
            refine lv_iload_n S.x S.b d_Mpg_readToken_139 rfl (lv_at hl 4 rfl) ?_
            refine lv_iload_n S.x S.b d_Mpg_readToken_140 rfl (lv_at hl 0 rfl) ?_
            refine lv_iconst (v := 2) S.x S.b d_Mpg_readToken_141 (by decide) ?_
            refine lv_iadd S.x S.b d_Mpg_readToken_142 ?_
            refine lv_topi (fun z175 ez175 => ?_)
            have tz175 : z175.toInt = ((1 : Int) + (2 : Int) + 2147483648) % 4294967296 - 2147483648 := by rw [ez175]; exact i_add 1 2
            have lz175 := Int32.le_toInt z175
            have uz175 := Int32.toInt_lt z175
            try replace tz175 : z175.toInt = (1 : Int) + (2 : Int) := by omega
            refine lv_iconst (v := 3) S.x S.b d_Mpg_readToken_143 (by decide) ?_
            refine lv_iload S.x S.b d_Mpg_readToken_144 (lv_at hl 1 rfl) ?_
            refine lv_sipush (v := 1000) S.x S.b d_Mpg_readToken_146 (by decide) ?_
            refine lv_irem S.x S.b d_Mpg_readToken_149 (fun hz0 => by have hz1 := i_eq.mp hz0; omega) ?_
            refine lv_topi (fun z176 ez176 => ?_)
            have lz176 := Int32.le_toInt z176
            have uz176 := Int32.toInt_lt z176
            first | refine px_callv (pr := []) (px_runV (As := [.int p0, .int z175, .int 3, .int z176]) (rest := []) S (c_mp_token l D cs h r g pf na ma wa cf ca ef ea xf xa tf ta p0 z175 3 z176  (show 0 ≤ (tf 6).toInt from g4) (show (tf 6).toInt ≤ 2059 from (oz_9dfb4af2f5 g5 g3 g1)) _) hT (pr := []) (pcs := [wdP cs h r g tf ta pf na ma wa cf ca ef ea xf xa]) hw px_X.tt (px_recv hT hw 0 0 rfl rfl rfl) m11_166 m11_163 m11_165 ms_8_3 m1_21 q_Mpg_token ⟨Nat.le_of_ble_eq_true rfl, Nat.le_of_ble_eq_true rfl⟩ hl.1 rfl (Nat.le_of_ble_eq_true rfl) d_Mpg_readToken_150 ⟨Nat.le_of_ble_eq_true rfl, Nat.le_of_ble_eq_true rfl⟩) hw hA (fun p181 H locs hp181 hw => ?_) | (refine px_callv (pr := []) (px_runV (As := [.int p0, .int z175, .int 3, .int z176]) (rest := []) S (c_mp_token l D cs h r g pf na ma wa cf ca ef ea xf xa tf ta p0 z175 3 z176  (show 0 ≤ (tf 6).toInt from by first | exact g4 | omega) (show (tf 6).toInt ≤ 2059 from by first | exact oz_9dfb4af2f5 g5 g3 g1 | omega) _) hT (pr := []) (pcs := [wdP cs h r g tf ta pf na ma wa cf ca ef ea xf xa]) hw px_X.tt (px_recv hT hw 0 0 rfl rfl rfl) m11_166 m11_163 m11_165 ms_8_3 m1_21 q_Mpg_token ⟨Nat.le_of_ble_eq_true rfl, Nat.le_of_ble_eq_true rfl⟩ hl.1 rfl (Nat.le_of_ble_eq_true rfl) d_Mpg_readToken_150 ⟨Nat.le_of_ble_eq_true rfl, Nat.le_of_ble_eq_true rfl⟩) hw hA (fun p181 H locs hp181 hw => ?_))
            obtain ⟨tf179, ta180, rfl, e183, e184, e185, e186⟩ := hp181
            have e183 : (tf179 6).toInt = (tf 6).toInt + 1 := e183
            have e184 : (tf179 5).toInt = (tf 5).toInt := e184
            have e185 : TkU ta ta180 (tf 6) p0 z175 (3 : Int32) z176 := e185
            have e186 : R_mp_token p0 z175 (3 : Int32) z176 tf ta tf179 ta180 := e186
            refine lv_iload_n S.x S.b d_Mpg_readToken_153 rfl (lv_at hl 0 rfl) ?_
            refine lv_if_le (tgt := 175) S.x S.b d_Mpg_readToken_154 (by decide) (fun c187 => ?_) (fun c187 => ?_)
            · exact absurd c187 (by decide)
            ·
              refine lv_aload_n S.x S.b d_Mpg_readToken_157 rfl (lv_at hl 3 rfl) ?_
              refine lv_iload_n S.x S.b d_Mpg_readToken_158 rfl (lv_at hl 4 rfl) ?_
              refine lv_iconst (v := 1) S.x S.b d_Mpg_readToken_159 (by decide) ?_
              refine lv_iadd S.x S.b d_Mpg_readToken_160 ?_
              refine lv_topi (fun z188 ez188 => ?_)
              have tz188 : z188.toInt = (p0.toInt + (1 : Int) + 2147483648) % 4294967296 - 2147483648 := by rw [ez188]; exact i_add p0 1
              have lz188 := Int32.le_toInt z188
              have uz188 := Int32.toInt_lt z188
              try replace tz188 : z188.toInt = p0.toInt + (1 : Int) := by omega
              refine lv_iload_n S.x S.b d_Mpg_readToken_161 rfl (lv_at hl 0 rfl) ?_
              refine lv_iadd S.x S.b d_Mpg_readToken_162 ?_
              refine lv_topi (fun z189 ez189 => ?_)
              have tz189 : z189.toInt = (z188.toInt + (1 : Int) + 2147483648) % 4294967296 - 2147483648 := by rw [ez189]; exact i_add z188 1
              have lz189 := Int32.le_toInt z189
              have uz189 := Int32.toInt_lt z189
              try replace tz189 : z189.toInt = z188.toInt + (1 : Int) := by omega
              first | refine px_calli (pr := []) (px_runV (As := [.int z189]) (rest := []) S (c_mp_byteAt l D cs h r g tf179 ta180 pf na ma wa cf ca ef ea xf xa z189  (show 0 ≤ (tf179 5).toInt from (oz_f3ebed1ad0 e184 g0)) (show (tf179 5).toInt ≤ 2048 from (oz_508e595d19 e184 g1)) (show 0 ≤ z189.toInt from (oz_2b89fb80b9 tz189 tz188 g2)) _) hT (pr := []) (pcs := [wdP cs h r g tf179 ta180 pf na ma wa cf ca ef ea xf xa]) hw px_X.tt (px_recv hT hw 0 0 rfl rfl rfl) m11_142 m11_139 m11_141 ms_7_15 m1_21 q_Mpg_byteAt ⟨Nat.le_of_ble_eq_true rfl, Nat.le_of_ble_eq_true rfl⟩ hl.1 rfl (Nat.le_of_ble_eq_true rfl) d_Mpg_readToken_163 ⟨Nat.le_of_ble_eq_true rfl, Nat.le_of_ble_eq_true rfl⟩) hw hA (fun v191 p190 H locs hp190 hw => ?_) | (refine px_calli (pr := []) (px_runV (As := [.int z189]) (rest := []) S (c_mp_byteAt l D cs h r g tf179 ta180 pf na ma wa cf ca ef ea xf xa z189  (show 0 ≤ (tf179 5).toInt from by first | exact oz_f3ebed1ad0 e184 g0 | omega) (show (tf179 5).toInt ≤ 2048 from by first | exact oz_508e595d19 e184 g1 | omega) (show 0 ≤ z189.toInt from by first | exact oz_2b89fb80b9 tz189 tz188 g2 | omega) _) hT (pr := []) (pcs := [wdP cs h r g tf179 ta180 pf na ma wa cf ca ef ea xf xa]) hw px_X.tt (px_recv hT hw 0 0 rfl rfl rfl) m11_142 m11_139 m11_141 ms_7_15 m1_21 q_Mpg_byteAt ⟨Nat.le_of_ble_eq_true rfl, Nat.le_of_ble_eq_true rfl⟩ hl.1 rfl (Nat.le_of_ble_eq_true rfl) d_Mpg_readToken_163 ⟨Nat.le_of_ble_eq_true rfl, Nat.le_of_ble_eq_true rfl⟩) hw hA (fun v191 p190 H locs hp190 hw => ?_))
              obtain ⟨rfl, e192, e193, e194⟩ := hp190
              have e192 : z189.toInt < (tf179 5).toInt ∨ v191.toInt = -1 := e192
              have e193 : BtV ta180 (tf179 5).toInt z189.toInt v191.toInt := e193
              have e194 : R_mp_byteAt tf179 ta180 z189 v191 := e194
              have lv191 := Int32.le_toInt v191
              have uv191 := Int32.toInt_lt v191
              refine lv_bipush (v := 39) S.x S.b d_Mpg_readToken_166 (by decide) ?_
              refine lv_icmp_ne (tgt := 175) S.x S.b d_Mpg_readToken_168 (by decide) (fun c195 => ?_) (fun c195 => ?_)
              · have nc195 : ¬ v191.toInt = (39 : Int) := mt (i_eq (x := v191) (y := 39)).mpr c195
                refine lv_iconst (v := 0) S.x S.b d_Mpg_readToken_175 (by decide) ?_
                first | exact px_iret (v := 0) S hr rfl hlk hAe hw (Nat.le_of_ble_eq_true rfl) (Nat.le_of_ble_eq_true rfl) (⟨tf179, ta180, rfl, (show (0 : Int32) = 0 ∨ (0 : Int32) = 1 from by first | exact Or.inl rfl | exact Or.inr rfl | exact z_or (by omega)), (show (tf179 5).toInt = (tf 5).toInt from e184), (show (tf 6).toInt ≤ (tf179 6).toInt from (oz_7db54039c4 e183)), (show (tf179 6).toInt ≤ (tf 6).toInt + 1 from (oz_6ad8cf7f07 e183)), (show (0 : Int) = 1 → (tf179 6).toInt = (tf 6).toInt + 1 from by omega), (show RdK (tf 5).toInt ta180 (tf 6) (0 : Int32) p0 from (by first | exact rdk_n htp (by assumption) (by omega) (by omega) | exact rdk_0 htp (by omega))), (show R_mp_readToken p0 tf ta tf179 ta180 (0 : Int32) from (Exists.intro 1 (Or.inl ⟨rfl, v94, e97, v99, e103, Or.inl ⟨nc104, v107, e111, Or.inl ⟨nc112, Or.inr ⟨nc114, z141, ez141, v143, e148, Or.inl ⟨nc149, Or.inr ⟨nc151, z175, ez175, z176, ez176, tf179, ta180, e186, z188, ez188, z189, ez189, v191, e194, Or.inl ⟨nc195, rfl, rfl, rfl⟩⟩⟩⟩⟩⟩⟩)))⟩) d_Mpg_readToken_176 | (exact px_iret (v := 0) S hr rfl hlk hAe hw (Nat.le_of_ble_eq_true rfl) (Nat.le_of_ble_eq_true rfl) (⟨tf179, ta180, rfl, (show (0 : Int32) = 0 ∨ (0 : Int32) = 1 from by first | exact Or.inl rfl | exact Or.inr rfl | exact z_or (by omega)), (show (tf179 5).toInt = (tf 5).toInt from by first | exact e184 | omega), (show (tf 6).toInt ≤ (tf179 6).toInt from by first | exact oz_7db54039c4 e183 | omega), (show (tf179 6).toInt ≤ (tf 6).toInt + 1 from by first | exact oz_6ad8cf7f07 e183 | omega), (show (0 : Int) = 1 → (tf179 6).toInt = (tf 6).toInt + 1 from by omega), (show RdK (tf 5).toInt ta180 (tf 6) (0 : Int32) p0 from (by first | exact rdk_n htp (by assumption) (by omega) (by omega) | exact rdk_0 htp (by omega))), (show R_mp_readToken p0 tf ta tf179 ta180 (0 : Int32) from (Exists.intro 1 (Or.inl ⟨rfl, v94, e97, v99, e103, Or.inl ⟨nc104, v107, e111, Or.inl ⟨nc112, Or.inr ⟨nc114, z141, ez141, v143, e148, Or.inl ⟨nc149, Or.inr ⟨nc151, z175, ez175, z176, ez176, tf179, ta180, e186, z188, ez188, z189, ez189, v191, e194, Or.inl ⟨nc195, rfl, rfl, rfl⟩⟩⟩⟩⟩⟩⟩)))⟩) d_Mpg_readToken_176)
              · have nc195 : v191.toInt = (39 : Int) := (i_eq (x := v191) (y := 39)).mp c195
                refine lv_iconst (v := 1) S.x S.b d_Mpg_readToken_171 (by decide) ?_
                refine lv_goto (tgt := 176) S.x S.b d_Mpg_readToken_172 (by decide) ?_
                first | exact px_iret (v := 1) S hr rfl hlk hAe hw (Nat.le_of_ble_eq_true rfl) (Nat.le_of_ble_eq_true rfl) (⟨tf179, ta180, rfl, (show (1 : Int32) = 0 ∨ (1 : Int32) = 1 from by first | exact Or.inl rfl | exact Or.inr rfl | exact z_or (by omega)), (show (tf179 5).toInt = (tf 5).toInt from e184), (show (tf 6).toInt ≤ (tf179 6).toInt from (oz_7db54039c4 e183)), (show (tf179 6).toInt ≤ (tf 6).toInt + 1 from (oz_6ad8cf7f07 e183)), (show (1 : Int) = 1 → (tf179 6).toInt = (tf 6).toInt + 1 from by omega), (show RdK (tf 5).toInt ta180 (tf 6) (1 : Int32) p0 from (rdk_y htp (by assumption) (by omega) ⟨⟨by omega, by omega⟩, ⟨by omega, by omega, by omega⟩, fun h => ⟨by omega, by omega, by omega⟩, fun h => ⟨by omega, by omega, by omega⟩, fun h => ⟨by omega, by omega, by omega⟩⟩)), (show R_mp_readToken p0 tf ta tf179 ta180 (1 : Int32) from (Exists.intro 1 (Or.inl ⟨rfl, v94, e97, v99, e103, Or.inl ⟨nc104, v107, e111, Or.inl ⟨nc112, Or.inr ⟨nc114, z141, ez141, v143, e148, Or.inl ⟨nc149, Or.inr ⟨nc151, z175, ez175, z176, ez176, tf179, ta180, e186, z188, ez188, z189, ez189, v191, e194, Or.inr ⟨nc195, rfl, rfl, rfl⟩⟩⟩⟩⟩⟩⟩)))⟩) d_Mpg_readToken_176 | (exact px_iret (v := 1) S hr rfl hlk hAe hw (Nat.le_of_ble_eq_true rfl) (Nat.le_of_ble_eq_true rfl) (⟨tf179, ta180, rfl, (show (1 : Int32) = 0 ∨ (1 : Int32) = 1 from by first | exact Or.inl rfl | exact Or.inr rfl | exact z_or (by omega)), (show (tf179 5).toInt = (tf 5).toInt from by first | exact e184 | omega), (show (tf 6).toInt ≤ (tf179 6).toInt from by first | exact oz_7db54039c4 e183 | omega), (show (tf179 6).toInt ≤ (tf 6).toInt + 1 from by first | exact oz_6ad8cf7f07 e183 | omega), (show (1 : Int) = 1 → (tf179 6).toInt = (tf 6).toInt + 1 from by omega), (show RdK (tf 5).toInt ta180 (tf 6) (1 : Int32) p0 from (rdk_y htp (by assumption) (by omega) ⟨⟨by omega, by omega⟩, ⟨by omega, by omega, by omega⟩, fun h => ⟨by omega, by omega, by omega⟩, fun h => ⟨by omega, by omega, by omega⟩, fun h => ⟨by omega, by omega, by omega⟩⟩)), (show R_mp_readToken p0 tf ta tf179 ta180 (1 : Int32) from (Exists.intro 1 (Or.inl ⟨rfl, v94, e97, v99, e103, Or.inl ⟨nc104, v107, e111, Or.inl ⟨nc112, Or.inr ⟨nc114, z141, ez141, v143, e148, Or.inl ⟨nc149, Or.inr ⟨nc151, z175, ez175, z176, ez176, tf179, ta180, e186, z188, ez188, z189, ez189, v191, e194, Or.inr ⟨nc195, rfl, rfl, rfl⟩⟩⟩⟩⟩⟩⟩)))⟩) d_Mpg_readToken_176)
        · have nc149 : ¬ (0 : Int) ≤ v143.toInt := mt (i_le (x := 0) (y := v143)).mpr c149
          refine lv_iconst (v := 0) S.x S.b d_Mpg_readToken_120 (by decide) ?_
          refine lv_goto (tgt := 137) S.x S.b d_Mpg_readToken_121 (by decide) ?_
          refine lv_istore_n (lv' := [(3, .int 0), (4, .int v143), (2, .int v94), (0, .ref h), (1, .int p0)]) S.x S.b d_Mpg_readToken_137 rfl hl (by decide) rfl (fun ls hl => ?_)
          refine lv_aload_n S.x S.b d_Mpg_readToken_138 rfl (lv_at hl 3 rfl) ?_
          refine lv_iload_n S.x S.b d_Mpg_readToken_139 rfl (lv_at hl 4 rfl) ?_
          refine lv_iload_n S.x S.b d_Mpg_readToken_140 rfl (lv_at hl 0 rfl) ?_
          refine lv_iconst (v := 2) S.x S.b d_Mpg_readToken_141 (by decide) ?_
          refine lv_iadd S.x S.b d_Mpg_readToken_142 ?_
          refine lv_topi (fun z197 ez197 => ?_)
          have tz197 : z197.toInt = ((0 : Int) + (2 : Int) + 2147483648) % 4294967296 - 2147483648 := by rw [ez197]; exact i_add 0 2
          have lz197 := Int32.le_toInt z197
          have uz197 := Int32.toInt_lt z197
          try replace tz197 : z197.toInt = (0 : Int) + (2 : Int) := by omega
          refine lv_iconst (v := 3) S.x S.b d_Mpg_readToken_143 (by decide) ?_
          refine lv_iload S.x S.b d_Mpg_readToken_144 (lv_at hl 1 rfl) ?_
          refine lv_sipush (v := 1000) S.x S.b d_Mpg_readToken_146 (by decide) ?_
          refine lv_irem S.x S.b d_Mpg_readToken_149 (fun hz0 => by have hz1 := i_eq.mp hz0; omega) ?_
          refine lv_topi (fun z198 ez198 => ?_)
          have lz198 := Int32.le_toInt z198
          have uz198 := Int32.toInt_lt z198
          first | refine px_callv (pr := []) (px_runV (As := [.int p0, .int z197, .int 3, .int z198]) (rest := []) S (c_mp_token l D cs h r g pf na ma wa cf ca ef ea xf xa tf ta p0 z197 3 z198  (show 0 ≤ (tf 6).toInt from g4) (show (tf 6).toInt ≤ 2059 from (oz_9dfb4af2f5 g5 g3 g1)) _) hT (pr := []) (pcs := [wdP cs h r g tf ta pf na ma wa cf ca ef ea xf xa]) hw px_X.tt (px_recv hT hw 0 0 rfl rfl rfl) m11_166 m11_163 m11_165 ms_8_3 m1_21 q_Mpg_token ⟨Nat.le_of_ble_eq_true rfl, Nat.le_of_ble_eq_true rfl⟩ hl.1 rfl (Nat.le_of_ble_eq_true rfl) d_Mpg_readToken_150 ⟨Nat.le_of_ble_eq_true rfl, Nat.le_of_ble_eq_true rfl⟩) hw hA (fun p203 H locs hp203 hw => ?_) | (refine px_callv (pr := []) (px_runV (As := [.int p0, .int z197, .int 3, .int z198]) (rest := []) S (c_mp_token l D cs h r g pf na ma wa cf ca ef ea xf xa tf ta p0 z197 3 z198  (show 0 ≤ (tf 6).toInt from by first | exact g4 | omega) (show (tf 6).toInt ≤ 2059 from by first | exact oz_9dfb4af2f5 g5 g3 g1 | omega) _) hT (pr := []) (pcs := [wdP cs h r g tf ta pf na ma wa cf ca ef ea xf xa]) hw px_X.tt (px_recv hT hw 0 0 rfl rfl rfl) m11_166 m11_163 m11_165 ms_8_3 m1_21 q_Mpg_token ⟨Nat.le_of_ble_eq_true rfl, Nat.le_of_ble_eq_true rfl⟩ hl.1 rfl (Nat.le_of_ble_eq_true rfl) d_Mpg_readToken_150 ⟨Nat.le_of_ble_eq_true rfl, Nat.le_of_ble_eq_true rfl⟩) hw hA (fun p203 H locs hp203 hw => ?_))
          obtain ⟨tf201, ta202, rfl, e205, e206, e207, e208⟩ := hp203
          have e205 : (tf201 6).toInt = (tf 6).toInt + 1 := e205
          have e206 : (tf201 5).toInt = (tf 5).toInt := e206
          have e207 : TkU ta ta202 (tf 6) p0 z197 (3 : Int32) z198 := e207
          have e208 : R_mp_token p0 z197 (3 : Int32) z198 tf ta tf201 ta202 := e208
          refine lv_iload_n S.x S.b d_Mpg_readToken_153 rfl (lv_at hl 0 rfl) ?_
          refine lv_if_le (tgt := 175) S.x S.b d_Mpg_readToken_154 (by decide) (fun c209 => ?_) (fun c209 => ?_)
          ·
            refine lv_iconst (v := 0) S.x S.b d_Mpg_readToken_175 (by decide) ?_
            first | exact px_iret (v := 0) S hr rfl hlk hAe hw (Nat.le_of_ble_eq_true rfl) (Nat.le_of_ble_eq_true rfl) (⟨tf201, ta202, rfl, (show (0 : Int32) = 0 ∨ (0 : Int32) = 1 from by first | exact Or.inl rfl | exact Or.inr rfl | exact z_or (by omega)), (show (tf201 5).toInt = (tf 5).toInt from e206), (show (tf 6).toInt ≤ (tf201 6).toInt from (oz_7db54039c4 e205)), (show (tf201 6).toInt ≤ (tf 6).toInt + 1 from (oz_6ad8cf7f07 e205)), (show (0 : Int) = 1 → (tf201 6).toInt = (tf 6).toInt + 1 from by omega), (show RdK (tf 5).toInt ta202 (tf 6) (0 : Int32) p0 from (by first | exact rdk_n htp (by assumption) (by omega) (by omega) | exact rdk_0 htp (by omega))), (show R_mp_readToken p0 tf ta tf201 ta202 (0 : Int32) from (Exists.intro 1 (Or.inl ⟨rfl, v94, e97, v99, e103, Or.inl ⟨nc104, v107, e111, Or.inl ⟨nc112, Or.inr ⟨nc114, z141, ez141, v143, e148, Or.inr ⟨nc149, z197, ez197, z198, ez198, tf201, ta202, e208, rfl, rfl, rfl⟩⟩⟩⟩⟩)))⟩) d_Mpg_readToken_176 | (exact px_iret (v := 0) S hr rfl hlk hAe hw (Nat.le_of_ble_eq_true rfl) (Nat.le_of_ble_eq_true rfl) (⟨tf201, ta202, rfl, (show (0 : Int32) = 0 ∨ (0 : Int32) = 1 from by first | exact Or.inl rfl | exact Or.inr rfl | exact z_or (by omega)), (show (tf201 5).toInt = (tf 5).toInt from by first | exact e206 | omega), (show (tf 6).toInt ≤ (tf201 6).toInt from by first | exact oz_7db54039c4 e205 | omega), (show (tf201 6).toInt ≤ (tf 6).toInt + 1 from by first | exact oz_6ad8cf7f07 e205 | omega), (show (0 : Int) = 1 → (tf201 6).toInt = (tf 6).toInt + 1 from by omega), (show RdK (tf 5).toInt ta202 (tf 6) (0 : Int32) p0 from (by first | exact rdk_n htp (by assumption) (by omega) (by omega) | exact rdk_0 htp (by omega))), (show R_mp_readToken p0 tf ta tf201 ta202 (0 : Int32) from (Exists.intro 1 (Or.inl ⟨rfl, v94, e97, v99, e103, Or.inl ⟨nc104, v107, e111, Or.inl ⟨nc112, Or.inr ⟨nc114, z141, ez141, v143, e148, Or.inr ⟨nc149, z197, ez197, z198, ez198, tf201, ta202, e208, rfl, rfl, rfl⟩⟩⟩⟩⟩)))⟩) d_Mpg_readToken_176)
          · exact absurd c209 (by decide)
    · have nc112 : ¬ v107.toInt = (0 : Int) := mt (i_eq (x := v107) (y := 0)).mpr c112
      refine lv_aload_n S.x S.b d_Mpg_readToken_92 rfl (lv_at hl 2 rfl) ?_
      refine lv_iload_n S.x S.b d_Mpg_readToken_93 rfl (lv_at hl 3 rfl) ?_
      first | refine px_calli (pr := []) (px_runV (As := [.int p0]) (rest := []) S (c_mp_readNumber l D cs h r g pf na ma wa cf ca ef ea xf xa tf ta p0  (show 0 ≤ (tf 5).toInt from g0) (show (tf 5).toInt ≤ 2048 from g1) (show 0 ≤ p0.toInt from g2) (show p0.toInt < (tf 5).toInt from g3) (show 0 ≤ (tf 6).toInt from g4) (show (tf 6).toInt ≤ p0.toInt from g5) (by first | assumption | exact htp) (dg_is (by assumption) (by assumption) (by omega)) _) hT (pr := []) (pcs := [wdP cs h r g tf ta pf na ma wa cf ca ef ea xf xa]) hw px_X.tt (px_recv hT hw 0 0 rfl rfl rfl) m11_170 m11_167 m11_169 ms_8_4 m1_21 q_Mpg_readNumber ⟨Nat.le_of_ble_eq_true rfl, Nat.le_of_ble_eq_true rfl⟩ hl.1 rfl (Nat.le_of_ble_eq_true rfl) d_Mpg_readToken_94 ⟨Nat.le_of_ble_eq_true rfl, Nat.le_of_ble_eq_true rfl⟩) hw hA (fun v215 p214 H locs hp214 hw => ?_) | (refine px_calli (pr := []) (px_runV (As := [.int p0]) (rest := []) S (c_mp_readNumber l D cs h r g pf na ma wa cf ca ef ea xf xa tf ta p0  (show 0 ≤ (tf 5).toInt from by first | exact g0 | omega) (show (tf 5).toInt ≤ 2048 from by first | exact g1 | omega) (show 0 ≤ p0.toInt from by first | exact g2 | omega) (show p0.toInt < (tf 5).toInt from by first | exact g3 | omega) (show 0 ≤ (tf 6).toInt from by first | exact g4 | omega) (show (tf 6).toInt ≤ p0.toInt from by first | exact g5 | omega) (by first | assumption | exact htp) (dg_is (by assumption) (by assumption) (by omega)) _) hT (pr := []) (pcs := [wdP cs h r g tf ta pf na ma wa cf ca ef ea xf xa]) hw px_X.tt (px_recv hT hw 0 0 rfl rfl rfl) m11_170 m11_167 m11_169 ms_8_4 m1_21 q_Mpg_readNumber ⟨Nat.le_of_ble_eq_true rfl, Nat.le_of_ble_eq_true rfl⟩ hl.1 rfl (Nat.le_of_ble_eq_true rfl) d_Mpg_readToken_94 ⟨Nat.le_of_ble_eq_true rfl, Nat.le_of_ble_eq_true rfl⟩) hw hA (fun v215 p214 H locs hp214 hw => ?_))
      obtain ⟨tf212, ta213, rfl, e216, e217, e218, e219, e220, e221, e222⟩ := hp214
      have e216 := z_rng e216
      have e217 : (tf212 5).toInt = (tf 5).toInt := e217
      have e218 : (tf 6).toInt ≤ (tf212 6).toInt := e218
      have e219 : (tf212 6).toInt ≤ (tf 6).toInt + 1 := e219
      have e220 : v215.toInt = 1 → (tf212 6).toInt = (tf 6).toInt + 1 := e220
      have e221 : RdK (tf 5).toInt ta213 (tf 6) v215 p0 := e221
      have e222 : R_mp_readNumber p0 tf ta tf212 ta213 v215 := e222
      have lv215 := Int32.le_toInt v215
      have uv215 := Int32.toInt_lt v215
      first | exact px_iret (v := v215) S hr (z_nar (by omega)) hlk hAe hw (Nat.le_of_ble_eq_true rfl) (Nat.le_of_ble_eq_true rfl) (⟨tf212, ta213, rfl, (show v215 = 0 ∨ v215 = 1 from by first | exact Or.inl rfl | exact Or.inr rfl | exact z_or (by omega)), (show (tf212 5).toInt = (tf 5).toInt from e217), (show (tf 6).toInt ≤ (tf212 6).toInt from e218), (show (tf212 6).toInt ≤ (tf 6).toInt + 1 from e219), (show v215.toInt = 1 → (tf212 6).toInt = (tf 6).toInt + 1 from e220), (show RdK (tf 5).toInt ta213 (tf 6) v215 p0 from (by assumption)), (show R_mp_readToken p0 tf ta tf212 ta213 v215 from (Exists.intro 1 (Or.inl ⟨rfl, v94, e97, v99, e103, Or.inl ⟨nc104, v107, e111, Or.inr ⟨nc112, tf212, ta213, v215, e222, rfl, rfl, rfl⟩⟩⟩)))⟩) d_Mpg_readToken_97 | (exact px_iret (v := v215) S hr (z_nar (by omega)) hlk hAe hw (Nat.le_of_ble_eq_true rfl) (Nat.le_of_ble_eq_true rfl) (⟨tf212, ta213, rfl, (show v215 = 0 ∨ v215 = 1 from by first | exact Or.inl rfl | exact Or.inr rfl | exact z_or (by omega)), (show (tf212 5).toInt = (tf 5).toInt from by first | exact e217 | omega), (show (tf 6).toInt ≤ (tf212 6).toInt from by first | exact e218 | omega), (show (tf212 6).toInt ≤ (tf 6).toInt + 1 from by first | exact e219 | omega), (show v215.toInt = 1 → (tf212 6).toInt = (tf 6).toInt + 1 from by first | exact e220 | omega), (show RdK (tf 5).toInt ta213 (tf 6) v215 p0 from (by assumption)), (show R_mp_readToken p0 tf ta tf212 ta213 v215 from (Exists.intro 1 (Or.inl ⟨rfl, v94, e97, v99, e103, Or.inl ⟨nc104, v107, e111, Or.inr ⟨nc112, tf212, ta213, v215, e222, rfl, rfl, rfl⟩⟩⟩)))⟩) d_Mpg_readToken_97)
  · have nc104 : ¬ v99.toInt = (0 : Int) := mt (i_eq (x := v99) (y := 0)).mpr c104
    first | exact J15 (((tf 5).toInt + 2 - p0.toInt - (0 : Int)).toNat + 1) v94 (0 : Int32) _ _ ls (show 0 ≤ (0 : Int) from oz_5a341f00aa) (show p0.toInt + (0 : Int) ≤ (tf 5).toInt from (oz_5aceba244f g3)) (show LtA ta (tf 5).toInt p0.toInt from (by first | assumption | exact lt_is (by assumption) (by assumption) (by omega))) (show K_mp_readToken_15 p0 tf ta tf ta v94 0 from (fun y_f0 y_f1 y_v k hE => Exists.intro (k + 1) (Or.inl ⟨rfl, v94, e97, v99, e103, Or.inr ⟨nc104, hE⟩⟩))) (show (tf 5).toInt + 2 - p0.toInt - (0 : Int) < (((((tf 5).toInt + 2 - p0.toInt - (0 : Int)).toNat + 1 : Nat) : Int) : Int) from oz_natlt) hw (lv_sub hl [2, 3, 1, 0] rfl) | (exact J15 (((tf 5).toInt + 2 - p0.toInt - (0 : Int)).toNat + 1) v94 (0 : Int32) _ _ ls (show 0 ≤ (0 : Int) from by first | exact oz_5a341f00aa | omega) (show p0.toInt + (0 : Int) ≤ (tf 5).toInt from by first | exact oz_5aceba244f g3 | omega) (show LtA ta (tf 5).toInt p0.toInt from (by first | assumption | exact lt_is (by assumption) (by assumption) (by omega))) (show K_mp_readToken_15 p0 tf ta tf ta v94 0 from (fun y_f0 y_f1 y_v k hE => Exists.intro (k + 1) (Or.inl ⟨rfl, v94, e97, v99, e103, Or.inr ⟨nc104, hE⟩⟩))) (show (tf 5).toInt + 2 - p0.toInt - (0 : Int) < (((((tf 5).toInt + 2 - p0.toInt - (0 : Int)).toNat + 1 : Nat) : Int) : Int) from by first | exact oz_natlt | omega) hw (lv_sub hl [2, 3, 1, 0] rfl))
abbrev b_Mpg_readTokens : ByteArray := prog_16_method_14_code
def y_Mpg_readTokens : MethodName := ⟨"HomeSystemModel$Program", "readTokens", "()V"⟩
theorem d_Mpg_readTokens_0 : decode b_Mpg_readTokens 0 = .ok (.aload_n 0, 1) := by decide +kernel
theorem d_Mpg_readTokens_1 : decode b_Mpg_readTokens 1 = .ok (.iconst 0, 1) := by decide +kernel
theorem d_Mpg_readTokens_2 : decode b_Mpg_readTokens 2 = .ok (.putfield 304, 3) := by decide +kernel
theorem d_Mpg_readTokens_5 : decode b_Mpg_readTokens 5 = .ok (.aload_n 0, 1) := by decide +kernel
theorem d_Mpg_readTokens_6 : decode b_Mpg_readTokens 6 = .ok (.iconst 0, 1) := by decide +kernel
theorem d_Mpg_readTokens_7 : decode b_Mpg_readTokens 7 = .ok (.invokevirtual 347, 3) := by decide +kernel
theorem d_Mpg_readTokens_10 : decode b_Mpg_readTokens 10 = .ok (.istore_n 1, 1) := by decide +kernel
theorem d_Mpg_readTokens_11 : decode b_Mpg_readTokens 11 = .ok (.iconst 1, 1) := by decide +kernel
theorem d_Mpg_readTokens_12 : decode b_Mpg_readTokens 12 = .ok (.istore_n 2, 1) := by decide +kernel
theorem d_Mpg_readTokens_13 : decode b_Mpg_readTokens 13 = .ok (.iload_n 2, 1) := by decide +kernel
theorem d_Mpg_readTokens_14 : decode b_Mpg_readTokens 14 = .ok (.ifCond .eq 64, 3) := by decide +kernel
theorem d_Mpg_readTokens_17 : decode b_Mpg_readTokens 17 = .ok (.iload_n 1, 1) := by decide +kernel
theorem d_Mpg_readTokens_18 : decode b_Mpg_readTokens 18 = .ok (.aload_n 0, 1) := by decide +kernel
theorem d_Mpg_readTokens_19 : decode b_Mpg_readTokens 19 = .ok (.getfield 292, 3) := by decide +kernel
theorem d_Mpg_readTokens_22 : decode b_Mpg_readTokens 22 = .ok (.if_icmp .ge 56, 3) := by decide +kernel
theorem d_Mpg_readTokens_25 : decode b_Mpg_readTokens 25 = .ok (.aload_n 0, 1) := by decide +kernel
theorem d_Mpg_readTokens_26 : decode b_Mpg_readTokens 26 = .ok (.getfield 304, 3) := by decide +kernel
theorem d_Mpg_readTokens_29 : decode b_Mpg_readTokens 29 = .ok (.istore_n 3, 1) := by decide +kernel
theorem d_Mpg_readTokens_30 : decode b_Mpg_readTokens 30 = .ok (.aload_n 0, 1) := by decide +kernel
theorem d_Mpg_readTokens_31 : decode b_Mpg_readTokens 31 = .ok (.iload_n 1, 1) := by decide +kernel
theorem d_Mpg_readTokens_32 : decode b_Mpg_readTokens 32 = .ok (.invokevirtual 350, 3) := by decide +kernel
theorem d_Mpg_readTokens_35 : decode b_Mpg_readTokens 35 = .ok (.istore_n 2, 1) := by decide +kernel
theorem d_Mpg_readTokens_36 : decode b_Mpg_readTokens 36 = .ok (.iload_n 2, 1) := by decide +kernel
theorem d_Mpg_readTokens_37 : decode b_Mpg_readTokens 37 = .ok (.ifCond .ne 20, 3) := by decide +kernel
theorem d_Mpg_readTokens_40 : decode b_Mpg_readTokens 40 = .ok (.aload_n 0, 1) := by decide +kernel
theorem d_Mpg_readTokens_41 : decode b_Mpg_readTokens 41 = .ok (.iload_n 3, 1) := by decide +kernel
theorem d_Mpg_readTokens_42 : decode b_Mpg_readTokens 42 = .ok (.putfield 304, 3) := by decide +kernel
theorem d_Mpg_readTokens_45 : decode b_Mpg_readTokens 45 = .ok (.aload_n 0, 1) := by decide +kernel
theorem d_Mpg_readTokens_46 : decode b_Mpg_readTokens 46 = .ok (.iload_n 1, 1) := by decide +kernel
theorem d_Mpg_readTokens_47 : decode b_Mpg_readTokens 47 = .ok (.iconst 0, 1) := by decide +kernel
theorem d_Mpg_readTokens_48 : decode b_Mpg_readTokens 48 = .ok (.bipush 6, 2) := by decide +kernel
theorem d_Mpg_readTokens_50 : decode b_Mpg_readTokens 50 = .ok (.iconst (-1), 1) := by decide +kernel
theorem d_Mpg_readTokens_51 : decode b_Mpg_readTokens 51 = .ok (.invokevirtual 325, 3) := by decide +kernel
theorem d_Mpg_readTokens_54 : decode b_Mpg_readTokens 54 = .ok (.goto 21, 3) := by decide +kernel
theorem d_Mpg_readTokens_57 : decode b_Mpg_readTokens 57 = .ok (.aload_n 0, 1) := by decide +kernel
theorem d_Mpg_readTokens_58 : decode b_Mpg_readTokens 58 = .ok (.aload_n 0, 1) := by decide +kernel
theorem d_Mpg_readTokens_59 : decode b_Mpg_readTokens 59 = .ok (.getfield 194, 3) := by decide +kernel
theorem d_Mpg_readTokens_62 : decode b_Mpg_readTokens 62 = .ok (.iload_n 3, 1) := by decide +kernel
theorem d_Mpg_readTokens_63 : decode b_Mpg_readTokens 63 = .ok (.iaload, 1) := by decide +kernel
theorem d_Mpg_readTokens_64 : decode b_Mpg_readTokens 64 = .ok (.aload_n 0, 1) := by decide +kernel
theorem d_Mpg_readTokens_65 : decode b_Mpg_readTokens 65 = .ok (.getfield 198, 3) := by decide +kernel
theorem d_Mpg_readTokens_68 : decode b_Mpg_readTokens 68 = .ok (.iload_n 3, 1) := by decide +kernel
theorem d_Mpg_readTokens_69 : decode b_Mpg_readTokens 69 = .ok (.iaload, 1) := by decide +kernel
theorem d_Mpg_readTokens_70 : decode b_Mpg_readTokens 70 = .ok (.iadd, 1) := by decide +kernel
theorem d_Mpg_readTokens_71 : decode b_Mpg_readTokens 71 = .ok (.invokevirtual 347, 3) := by decide +kernel
theorem d_Mpg_readTokens_74 : decode b_Mpg_readTokens 74 = .ok (.istore_n 1, 1) := by decide +kernel
theorem d_Mpg_readTokens_75 : decode b_Mpg_readTokens 75 = .ok (.goto (-62), 3) := by decide +kernel
theorem d_Mpg_readTokens_78 : decode b_Mpg_readTokens 78 = .ok (.iload_n 2, 1) := by decide +kernel
theorem d_Mpg_readTokens_79 : decode b_Mpg_readTokens 79 = .ok (.ifCond .eq 15, 3) := by decide +kernel
theorem d_Mpg_readTokens_82 : decode b_Mpg_readTokens 82 = .ok (.aload_n 0, 1) := by decide +kernel
theorem d_Mpg_readTokens_83 : decode b_Mpg_readTokens 83 = .ok (.aload_n 0, 1) := by decide +kernel
theorem d_Mpg_readTokens_84 : decode b_Mpg_readTokens 84 = .ok (.getfield 292, 3) := by decide +kernel
theorem d_Mpg_readTokens_87 : decode b_Mpg_readTokens 87 = .ok (.iconst 0, 1) := by decide +kernel
theorem d_Mpg_readTokens_88 : decode b_Mpg_readTokens 88 = .ok (.bipush 7, 2) := by decide +kernel
theorem d_Mpg_readTokens_90 : decode b_Mpg_readTokens 90 = .ok (.iconst (-1), 1) := by decide +kernel
theorem d_Mpg_readTokens_91 : decode b_Mpg_readTokens 91 = .ok (.invokevirtual 325, 3) := by decide +kernel
theorem d_Mpg_readTokens_94 : decode b_Mpg_readTokens 94 = .ok (.return_, 1) := by decide +kernel
theorem q_Mpg_readTokens : px_y y_Mpg_readTokens 0 := by unfold px_y; decide +kernel
set_option maxHeartbeats 4000000 in
set_option maxRecDepth 100000 in
theorem c_mp_readTokens (l : Launch) (D : va_G) (cs : Nat → ClassId) (h : Nat) (r : Nat → Nat) (g : Nat → Nat → Option Nat) (pf : Nat → Int32) (na : Nat → Nat → Int32) (ma : Nat → Nat → Int32) (wa : Nat → Nat → Int32) (cf : Nat → Int32) (ca : Nat → Nat → Int32) (ef : Nat → Int32) (ea : Nat → Nat → Int32) (xf : Nat → Int32) (xa : Nat → Nat → Int32) (tf : Nat → Int32) (ta : Nat → Nat → Int32)  (g0 : 0 ≤ (tf 5).toInt) (g1 : (tf 5).toInt ≤ 2048) : MetV l y_Mpg_readTokens b_Mpg_readTokens 4 D cs 7 280 (0) (0) [.ref h] [wdP cs h r g tf ta pf na ma wa cf ca ef ea xf xa] (oX (fun A U H => (oP A g U H)) [wdP cs h r g tf ta pf na ma wa cf ca ef ea xf xa]) (fun ps => ∃ (tf' : Nat → Int32) (ta' : Nat → Nat → Int32), (ps = [wdP cs h r g tf' ta' pf na ma wa cf ca ef ea xf xa]) ∧ ((tf' 5).toInt = (tf 5).toInt) ∧ (TkI tf' ta') ∧ (R_mp_readTokens tf ta tf' ta')) := by
  refine px_enter (by decide) (Nat.le_of_ble_eq_true rfl) ?_
  intro p e s m below meth c A ls hAe S hr hlk hnm hA hT hX hw hl
  have hl : lv_has ls 4 [(0, .ref h)] := hl
  have cstm1 : ((-1) : Int32).toInt = (-1) := rfl
  have cst0 : (0 : Int32).toInt = 0 := rfl
  have cst1 : (1 : Int32).toInt = 1 := rfl
  have cst6 : (6 : Int32).toInt = 6 := rfl
  have cst7 : (7 : Int32).toInt = 7 := rfl
  have hX : (fun A U H => (oP A g U H)) A s s.heap := by rw [hAe]; exact hX
  have hP := hX
  have hZ := hP.1
  have hF0 := hP.2.1
  have J13 : ∀ (n_13 : Nat) (tf_13 : Nat → Int32) (ta_13 : Nat → Nat → Int32) (x13_1 x13_2 : Int32) (H : Heap) (locs : List Loc) (ls : Array Slot), ((tf_13 5).toInt = (tf 5).toInt) → (0 ≤ x13_1.toInt) → (x13_1.toInt ≤ (tf 5).toInt) → (0 ≤ x13_2.toInt) → (x13_2.toInt ≤ 1) → (0 ≤ (tf_13 6).toInt) → ((tf_13 6).toInt ≤ 2049) → (RdL tf_13 ta_13 x13_1 x13_2) → (K_mp_readTokens_13 tf ta tf_13 ta_13 x13_1 x13_2) → 2*((tf 5).toInt-x13_1.toInt)+x13_2.toInt < (n_13 : Int) → pw D A s.heap H locs [wdP cs h r g tf_13 ta_13 pf na ma wa cf ca ef ea xf xa] → lv_has ls 4 [(0, .ref h), (1, .int x13_1), (2, .int x13_2)] → W p l e { frames := 7, cells := 0, slots := 0, locals := 280 } s m [.ref h].toArray below meth c H locs 0 0 (MQ below (va_Qv (fun ps => ∃ (tf' : Nat → Int32) (ta' : Nat → Nat → Int32), (ps = [wdP cs h r g tf' ta' pf na ma wa cf ca ef ea xf xa]) ∧ ((tf' 5).toInt = (tf 5).toInt) ∧ (TkI tf' ta') ∧ (R_mp_readTokens tf ta tf' ta')) (pc_B D (va_A ([wdP cs h r g tf ta pf na ma wa cf ca ef ea xf xa] : List va_W).flatten s.heap.size)) (va_A ([wdP cs h r g tf ta pf na ma wa cf ca ef ea xf xa] : List va_W).flatten s.heap.size)) [.ref h].toArray s 0 0 A) (F0 m 13 ls []) := by
    intro  n_13
    induction n_13 with
    | zero =>
      intro tf_13 ta_13 x13_1 x13_2 H locs ls k13_0 k13_1 k13_2 k13_3 k13_4 k13_5 k13_6 k13_7 k13_8 hm hw hl
      have lx13_1 := Int32.le_toInt x13_1
      have ux13_1 := Int32.toInt_lt x13_1
      have lx13_2 := Int32.le_toInt x13_2
      have ux13_2 := Int32.toInt_lt x13_2
      have hrd := k13_7
      exact absurd hm (by omega)
    | succ n_13 ih13 =>
      intro tf_13 ta_13 x13_1 x13_2 H locs ls k13_0 k13_1 k13_2 k13_3 k13_4 k13_5 k13_6 k13_7 k13_8 hm hw hl
      have lx13_1 := Int32.le_toInt x13_1
      have ux13_1 := Int32.toInt_lt x13_1
      have lx13_2 := Int32.le_toInt x13_2
      have ux13_2 := Int32.toInt_lt x13_2
      have hrd := k13_7
      refine lv_iload_n S.x S.b d_Mpg_readTokens_13 rfl (lv_at hl 2 rfl) ?_
      refine lv_if_eq (tgt := 78) S.x S.b d_Mpg_readTokens_14 (by decide) (fun c1 => ?_) (fun c1 => ?_)
      · have nc1 : x13_2.toInt = (0 : Int) := (i_eq (x := x13_2) (y := 0)).mp c1
        refine lv_iload_n S.x S.b d_Mpg_readTokens_78 rfl (lv_at hl 2 rfl) ?_
        refine lv_if_eq (tgt := 94) S.x S.b d_Mpg_readTokens_79 (by decide) (fun c3 => ?_) (fun c3 => ?_)
        · have nc3 : x13_2.toInt = (0 : Int) := (i_eq (x := x13_2) (y := 0)).mp c3
          first | exact px_vret S hr hlk hAe hw (Nat.le_of_ble_eq_true rfl) (Nat.le_of_ble_eq_true rfl) (⟨tf_13, ta_13, rfl, (show (tf_13 5).toInt = (tf 5).toInt from k13_0), (show TkI tf_13 ta_13 from (by first | exact hrd.2 (by omega) | exact tki_end hrd (by omega) (by assumption) (by omega) (by omega) (by omega) (by omega) (by omega) (by omega) (by omega) (by omega) (by omega))), (show R_mp_readTokens tf ta tf_13 ta_13 from (k13_8 _ _ 1 (Or.inr (Or.inl ⟨rfl, x13_1, x13_2, rfl, rfl, rfl, rfl, rfl, Or.inl ⟨nc1, Or.inl ⟨nc3, rfl, rfl⟩⟩⟩))))⟩) d_Mpg_readTokens_94 | (exact px_vret S hr hlk hAe hw (Nat.le_of_ble_eq_true rfl) (Nat.le_of_ble_eq_true rfl) (⟨tf_13, ta_13, rfl, (show (tf_13 5).toInt = (tf 5).toInt from by first | exact k13_0 | omega), (show TkI tf_13 ta_13 from (by first | exact hrd.2 (by omega) | exact tki_end hrd (by omega) (by assumption) (by omega) (by omega) (by omega) (by omega) (by omega) (by omega) (by omega) (by omega) (by omega))), (show R_mp_readTokens tf ta tf_13 ta_13 from (k13_8 _ _ 1 (Or.inr (Or.inl ⟨rfl, x13_1, x13_2, rfl, rfl, rfl, rfl, rfl, Or.inl ⟨nc1, Or.inl ⟨nc3, rfl, rfl⟩⟩⟩))))⟩) d_Mpg_readTokens_94)
        · have nc3 : ¬ x13_2.toInt = (0 : Int) := mt (i_eq (x := x13_2) (y := 0)).mpr c3
          refine lv_aload_n S.x S.b d_Mpg_readTokens_82 rfl (lv_at hl 0 rfl) ?_
          refine lv_aload_n S.x S.b d_Mpg_readTokens_83 rfl (lv_at hl 0 rfl) ?_
          refine gP_5 (v := (tf_13 5)) S hT hw 0 rfl rfl m9_229 d_Mpg_readTokens_84 ?_
          refine lv_iconst (v := 0) S.x S.b d_Mpg_readTokens_87 (by decide) ?_
          refine lv_bipush (v := 7) S.x S.b d_Mpg_readTokens_88 (by decide) ?_
          refine lv_iconst (v := (-1)) S.x S.b d_Mpg_readTokens_90 (by decide) ?_
          first | refine px_callv (pr := []) (px_runV (As := [.int (tf_13 5), .int 0, .int 7, .int (-1)]) (rest := []) S (c_mp_token l D cs h r g pf na ma wa cf ca ef ea xf xa tf_13 ta_13 (tf_13 5) 0 7 (-1)  (show 0 ≤ (tf_13 6).toInt from k13_5) (show (tf_13 6).toInt ≤ 2059 from (oz_e00ec8391b k13_6)) _) hT (pr := []) (pcs := [wdP cs h r g tf_13 ta_13 pf na ma wa cf ca ef ea xf xa]) hw px_X.tt (px_recv hT hw 0 0 rfl rfl rfl) m11_166 m11_163 m11_165 ms_8_3 m1_21 q_Mpg_token ⟨Nat.le_of_ble_eq_true rfl, Nat.le_of_ble_eq_true rfl⟩ hl.1 rfl (Nat.le_of_ble_eq_true rfl) d_Mpg_readTokens_91 ⟨Nat.le_of_ble_eq_true rfl, Nat.le_of_ble_eq_true rfl⟩) hw hA (fun p9 H locs hp9 hw => ?_) | (refine px_callv (pr := []) (px_runV (As := [.int (tf_13 5), .int 0, .int 7, .int (-1)]) (rest := []) S (c_mp_token l D cs h r g pf na ma wa cf ca ef ea xf xa tf_13 ta_13 (tf_13 5) 0 7 (-1)  (show 0 ≤ (tf_13 6).toInt from by first | exact k13_5 | omega) (show (tf_13 6).toInt ≤ 2059 from by first | exact oz_e00ec8391b k13_6 | omega) _) hT (pr := []) (pcs := [wdP cs h r g tf_13 ta_13 pf na ma wa cf ca ef ea xf xa]) hw px_X.tt (px_recv hT hw 0 0 rfl rfl rfl) m11_166 m11_163 m11_165 ms_8_3 m1_21 q_Mpg_token ⟨Nat.le_of_ble_eq_true rfl, Nat.le_of_ble_eq_true rfl⟩ hl.1 rfl (Nat.le_of_ble_eq_true rfl) d_Mpg_readTokens_91 ⟨Nat.le_of_ble_eq_true rfl, Nat.le_of_ble_eq_true rfl⟩) hw hA (fun p9 H locs hp9 hw => ?_))
          obtain ⟨tf7, ta8, rfl, e11, e12, e13, e14⟩ := hp9
          have e11 : (tf7 6).toInt = (tf_13 6).toInt + 1 := e11
          have e12 : (tf7 5).toInt = (tf_13 5).toInt := e12
          have e13 : TkU ta_13 ta8 (tf_13 6) (tf_13 5) (0 : Int32) (7 : Int32) (-1 : Int32) := e13
          have e14 : R_mp_token (tf_13 5) (0 : Int32) (7 : Int32) (-1 : Int32) tf_13 ta_13 tf7 ta8 := e14
          first | exact px_vret S hr hlk hAe hw (Nat.le_of_ble_eq_true rfl) (Nat.le_of_ble_eq_true rfl) (⟨tf7, ta8, rfl, (show (tf7 5).toInt = (tf 5).toInt from (oz_1687f4cc65 k13_0 e12)), (show TkI tf7 ta8 from (by first | exact hrd.2 (by omega) | exact tki_end hrd (by omega) (by assumption) (by omega) (by omega) (by omega) (by omega) (by omega) (by omega) (by omega) (by omega) (by omega))), (show R_mp_readTokens tf ta tf7 ta8 from (k13_8 _ _ 1 (Or.inr (Or.inl ⟨rfl, x13_1, x13_2, rfl, rfl, rfl, rfl, rfl, Or.inl ⟨nc1, Or.inr ⟨nc3, tf7, ta8, e14, rfl, rfl⟩⟩⟩))))⟩) d_Mpg_readTokens_94 | (exact px_vret S hr hlk hAe hw (Nat.le_of_ble_eq_true rfl) (Nat.le_of_ble_eq_true rfl) (⟨tf7, ta8, rfl, (show (tf7 5).toInt = (tf 5).toInt from by first | exact oz_1687f4cc65 k13_0 e12 | omega), (show TkI tf7 ta8 from (by first | exact hrd.2 (by omega) | exact tki_end hrd (by omega) (by assumption) (by omega) (by omega) (by omega) (by omega) (by omega) (by omega) (by omega) (by omega) (by omega))), (show R_mp_readTokens tf ta tf7 ta8 from (k13_8 _ _ 1 (Or.inr (Or.inl ⟨rfl, x13_1, x13_2, rfl, rfl, rfl, rfl, rfl, Or.inl ⟨nc1, Or.inr ⟨nc3, tf7, ta8, e14, rfl, rfl⟩⟩⟩))))⟩) d_Mpg_readTokens_94)
      · have nc1 : ¬ x13_2.toInt = (0 : Int) := mt (i_eq (x := x13_2) (y := 0)).mpr c1
        refine lv_iload_n S.x S.b d_Mpg_readTokens_17 rfl (lv_at hl 1 rfl) ?_
        refine lv_aload_n S.x S.b d_Mpg_readTokens_18 rfl (lv_at hl 0 rfl) ?_
        refine gP_5 (v := (tf_13 5)) S hT hw 0 rfl rfl m9_229 d_Mpg_readTokens_19 ?_
        refine lv_icmp_ge (tgt := 78) S.x S.b d_Mpg_readTokens_22 (by decide) (fun c15 => ?_) (fun c15 => ?_)
        · have nc15 : (tf_13 5).toInt ≤ x13_1.toInt := (i_le (x := (tf_13 5)) (y := x13_1)).mp c15
          refine lv_iload_n S.x S.b d_Mpg_readTokens_78 rfl (lv_at hl 2 rfl) ?_
          refine lv_if_eq (tgt := 94) S.x S.b d_Mpg_readTokens_79 (by decide) (fun c17 => ?_) (fun c17 => ?_)
          · have nc17 : x13_2.toInt = (0 : Int) := (i_eq (x := x13_2) (y := 0)).mp c17
            first | exact px_vret S hr hlk hAe hw (Nat.le_of_ble_eq_true rfl) (Nat.le_of_ble_eq_true rfl) (⟨tf_13, ta_13, rfl, (show (tf_13 5).toInt = (tf 5).toInt from k13_0), (show TkI tf_13 ta_13 from (by first | exact hrd.2 (by omega) | exact tki_end hrd (by omega) (by assumption) (by omega) (by omega) (by omega) (by omega) (by omega) (by omega) (by omega) (by omega) (by omega))), (show R_mp_readTokens tf ta tf_13 ta_13 from (k13_8 _ _ 1 (Or.inr (Or.inl ⟨rfl, x13_1, x13_2, rfl, rfl, rfl, rfl, rfl, Or.inr ⟨nc1, Or.inl ⟨nc15, Or.inl ⟨nc17, rfl, rfl⟩⟩⟩⟩))))⟩) d_Mpg_readTokens_94 | (exact px_vret S hr hlk hAe hw (Nat.le_of_ble_eq_true rfl) (Nat.le_of_ble_eq_true rfl) (⟨tf_13, ta_13, rfl, (show (tf_13 5).toInt = (tf 5).toInt from by first | exact k13_0 | omega), (show TkI tf_13 ta_13 from (by first | exact hrd.2 (by omega) | exact tki_end hrd (by omega) (by assumption) (by omega) (by omega) (by omega) (by omega) (by omega) (by omega) (by omega) (by omega) (by omega))), (show R_mp_readTokens tf ta tf_13 ta_13 from (k13_8 _ _ 1 (Or.inr (Or.inl ⟨rfl, x13_1, x13_2, rfl, rfl, rfl, rfl, rfl, Or.inr ⟨nc1, Or.inl ⟨nc15, Or.inl ⟨nc17, rfl, rfl⟩⟩⟩⟩))))⟩) d_Mpg_readTokens_94)
          · have nc17 : ¬ x13_2.toInt = (0 : Int) := mt (i_eq (x := x13_2) (y := 0)).mpr c17
            refine lv_aload_n S.x S.b d_Mpg_readTokens_82 rfl (lv_at hl 0 rfl) ?_
            refine lv_aload_n S.x S.b d_Mpg_readTokens_83 rfl (lv_at hl 0 rfl) ?_
            refine gP_5 (v := (tf_13 5)) S hT hw 0 rfl rfl m9_229 d_Mpg_readTokens_84 ?_
            refine lv_iconst (v := 0) S.x S.b d_Mpg_readTokens_87 (by decide) ?_
            refine lv_bipush (v := 7) S.x S.b d_Mpg_readTokens_88 (by decide) ?_
            refine lv_iconst (v := (-1)) S.x S.b d_Mpg_readTokens_90 (by decide) ?_
            first | refine px_callv (pr := []) (px_runV (As := [.int (tf_13 5), .int 0, .int 7, .int (-1)]) (rest := []) S (c_mp_token l D cs h r g pf na ma wa cf ca ef ea xf xa tf_13 ta_13 (tf_13 5) 0 7 (-1)  (show 0 ≤ (tf_13 6).toInt from k13_5) (show (tf_13 6).toInt ≤ 2059 from (oz_e00ec8391b k13_6)) _) hT (pr := []) (pcs := [wdP cs h r g tf_13 ta_13 pf na ma wa cf ca ef ea xf xa]) hw px_X.tt (px_recv hT hw 0 0 rfl rfl rfl) m11_166 m11_163 m11_165 ms_8_3 m1_21 q_Mpg_token ⟨Nat.le_of_ble_eq_true rfl, Nat.le_of_ble_eq_true rfl⟩ hl.1 rfl (Nat.le_of_ble_eq_true rfl) d_Mpg_readTokens_91 ⟨Nat.le_of_ble_eq_true rfl, Nat.le_of_ble_eq_true rfl⟩) hw hA (fun p23 H locs hp23 hw => ?_) | (refine px_callv (pr := []) (px_runV (As := [.int (tf_13 5), .int 0, .int 7, .int (-1)]) (rest := []) S (c_mp_token l D cs h r g pf na ma wa cf ca ef ea xf xa tf_13 ta_13 (tf_13 5) 0 7 (-1)  (show 0 ≤ (tf_13 6).toInt from by first | exact k13_5 | omega) (show (tf_13 6).toInt ≤ 2059 from by first | exact oz_e00ec8391b k13_6 | omega) _) hT (pr := []) (pcs := [wdP cs h r g tf_13 ta_13 pf na ma wa cf ca ef ea xf xa]) hw px_X.tt (px_recv hT hw 0 0 rfl rfl rfl) m11_166 m11_163 m11_165 ms_8_3 m1_21 q_Mpg_token ⟨Nat.le_of_ble_eq_true rfl, Nat.le_of_ble_eq_true rfl⟩ hl.1 rfl (Nat.le_of_ble_eq_true rfl) d_Mpg_readTokens_91 ⟨Nat.le_of_ble_eq_true rfl, Nat.le_of_ble_eq_true rfl⟩) hw hA (fun p23 H locs hp23 hw => ?_))
            obtain ⟨tf21, ta22, rfl, e25, e26, e27, e28⟩ := hp23
            have e25 : (tf21 6).toInt = (tf_13 6).toInt + 1 := e25
            have e26 : (tf21 5).toInt = (tf_13 5).toInt := e26
            have e27 : TkU ta_13 ta22 (tf_13 6) (tf_13 5) (0 : Int32) (7 : Int32) (-1 : Int32) := e27
            have e28 : R_mp_token (tf_13 5) (0 : Int32) (7 : Int32) (-1 : Int32) tf_13 ta_13 tf21 ta22 := e28
            first | exact px_vret S hr hlk hAe hw (Nat.le_of_ble_eq_true rfl) (Nat.le_of_ble_eq_true rfl) (⟨tf21, ta22, rfl, (show (tf21 5).toInt = (tf 5).toInt from (oz_1687f4cc65 k13_0 e26)), (show TkI tf21 ta22 from (by first | exact hrd.2 (by omega) | exact tki_end hrd (by omega) (by assumption) (by omega) (by omega) (by omega) (by omega) (by omega) (by omega) (by omega) (by omega) (by omega))), (show R_mp_readTokens tf ta tf21 ta22 from (k13_8 _ _ 1 (Or.inr (Or.inl ⟨rfl, x13_1, x13_2, rfl, rfl, rfl, rfl, rfl, Or.inr ⟨nc1, Or.inl ⟨nc15, Or.inr ⟨nc17, tf21, ta22, e28, rfl, rfl⟩⟩⟩⟩))))⟩) d_Mpg_readTokens_94 | (exact px_vret S hr hlk hAe hw (Nat.le_of_ble_eq_true rfl) (Nat.le_of_ble_eq_true rfl) (⟨tf21, ta22, rfl, (show (tf21 5).toInt = (tf 5).toInt from by first | exact oz_1687f4cc65 k13_0 e26 | omega), (show TkI tf21 ta22 from (by first | exact hrd.2 (by omega) | exact tki_end hrd (by omega) (by assumption) (by omega) (by omega) (by omega) (by omega) (by omega) (by omega) (by omega) (by omega) (by omega))), (show R_mp_readTokens tf ta tf21 ta22 from (k13_8 _ _ 1 (Or.inr (Or.inl ⟨rfl, x13_1, x13_2, rfl, rfl, rfl, rfl, rfl, Or.inr ⟨nc1, Or.inl ⟨nc15, Or.inr ⟨nc17, tf21, ta22, e28, rfl, rfl⟩⟩⟩⟩))))⟩) d_Mpg_readTokens_94)
        · have nc15 : ¬ (tf_13 5).toInt ≤ x13_1.toInt := mt (i_le (x := (tf_13 5)) (y := x13_1)).mpr c15
          refine lv_aload_n S.x S.b d_Mpg_readTokens_25 rfl (lv_at hl 0 rfl) ?_
          refine gP_6 (v := (tf_13 6)) S hT hw 0 rfl rfl m9_230 d_Mpg_readTokens_26 ?_
          have htp := (hrd.1 (by omega)).1; have htp2 := (hrd.1 (by omega)).2
          refine lv_istore_n (lv' := [(3, .int (tf_13 6)), (0, .ref h), (1, .int x13_1), (2, .int x13_2)]) S.x S.b d_Mpg_readTokens_29 rfl hl (by decide) rfl (fun ls hl => ?_)
          refine lv_aload_n S.x S.b d_Mpg_readTokens_30 rfl (lv_at hl 1 rfl) ?_
          refine lv_iload_n S.x S.b d_Mpg_readTokens_31 rfl (lv_at hl 2 rfl) ?_
          first | refine px_calli (pr := []) (px_runV (As := [.int x13_1]) (rest := []) S (c_mp_readToken l D cs h r g pf na ma wa cf ca ef ea xf xa tf_13 ta_13 x13_1  (show 0 ≤ (tf_13 5).toInt from (oz_8c8b3d3770 nc15 k13_1)) (show (tf_13 5).toInt ≤ 2048 from (oz_508e595d19 k13_0 g1)) (show 0 ≤ x13_1.toInt from k13_1) (show x13_1.toInt < (tf_13 5).toInt from (oz_e1f61422c9 nc15)) (show 0 ≤ (tf_13 6).toInt from k13_5) (show (tf_13 6).toInt ≤ x13_1.toInt from by omega) (by first | assumption | exact htp) _) hT (pr := []) (pcs := [wdP cs h r g tf_13 ta_13 pf na ma wa cf ca ef ea xf xa]) hw (oX_call (P := (fun A U H => (oP A g U H))) (pr := []) oG_P hw hA hP) (px_recv hT hw 0 0 rfl rfl rfl) m11_146 m11_143 m11_145 ms_8_0 m1_21 q_Mpg_readToken ⟨Nat.le_of_ble_eq_true rfl, Nat.le_of_ble_eq_true rfl⟩ hl.1 rfl (Nat.le_of_ble_eq_true rfl) d_Mpg_readTokens_32 ⟨Nat.le_of_ble_eq_true rfl, Nat.le_of_ble_eq_true rfl⟩) hw hA (fun v34 p33 H locs hp33 hw => ?_) | (refine px_calli (pr := []) (px_runV (As := [.int x13_1]) (rest := []) S (c_mp_readToken l D cs h r g pf na ma wa cf ca ef ea xf xa tf_13 ta_13 x13_1  (show 0 ≤ (tf_13 5).toInt from by first | exact oz_8c8b3d3770 nc15 k13_1 | omega) (show (tf_13 5).toInt ≤ 2048 from by first | exact oz_508e595d19 k13_0 g1 | omega) (show 0 ≤ x13_1.toInt from by first | exact k13_1 | omega) (show x13_1.toInt < (tf_13 5).toInt from by first | exact oz_e1f61422c9 nc15 | omega) (show 0 ≤ (tf_13 6).toInt from by first | exact k13_5 | omega) (show (tf_13 6).toInt ≤ x13_1.toInt from by omega) (by first | assumption | exact htp) _) hT (pr := []) (pcs := [wdP cs h r g tf_13 ta_13 pf na ma wa cf ca ef ea xf xa]) hw (oX_call (P := (fun A U H => (oP A g U H))) (pr := []) oG_P hw hA hP) (px_recv hT hw 0 0 rfl rfl rfl) m11_146 m11_143 m11_145 ms_8_0 m1_21 q_Mpg_readToken ⟨Nat.le_of_ble_eq_true rfl, Nat.le_of_ble_eq_true rfl⟩ hl.1 rfl (Nat.le_of_ble_eq_true rfl) d_Mpg_readTokens_32 ⟨Nat.le_of_ble_eq_true rfl, Nat.le_of_ble_eq_true rfl⟩) hw hA (fun v34 p33 H locs hp33 hw => ?_))
          obtain ⟨tf31, ta32, rfl, e35, e36, e37, e38, e39, e40, e41⟩ := hp33
          have e35 := z_rng e35
          have e36 : (tf31 5).toInt = (tf_13 5).toInt := e36
          have e37 : (tf_13 6).toInt ≤ (tf31 6).toInt := e37
          have e38 : (tf31 6).toInt ≤ (tf_13 6).toInt + 1 := e38
          have e39 : v34.toInt = 1 → (tf31 6).toInt = (tf_13 6).toInt + 1 := e39
          have e40 : RdK (tf_13 5).toInt ta32 (tf_13 6) v34 x13_1 := e40
          have e41 : R_mp_readToken x13_1 tf_13 ta_13 tf31 ta32 v34 := e41
          have lv34 := Int32.le_toInt v34
          have uv34 := Int32.toInt_lt v34
          refine lv_istore_n (lv' := [(2, .int v34), (3, .int (tf_13 6)), (0, .ref h), (1, .int x13_1)]) S.x S.b d_Mpg_readTokens_35 rfl hl (by decide) rfl (fun ls hl => ?_)
          refine lv_iload_n S.x S.b d_Mpg_readTokens_36 rfl (lv_at hl 0 rfl) ?_
          refine lv_if_ne (tgt := 57) S.x S.b d_Mpg_readTokens_37 (by decide) (fun c42 => ?_) (fun c42 => ?_)
          · have nc42 : ¬ v34.toInt = (0 : Int) := mt (i_eq (x := v34) (y := 0)).mpr c42
            refine lv_aload_n S.x S.b d_Mpg_readTokens_57 rfl (lv_at hl 2 rfl) ?_
            refine lv_aload_n S.x S.b d_Mpg_readTokens_58 rfl (lv_at hl 2 rfl) ?_
            refine gP_7 S hT hw 0 rfl m9_231 d_Mpg_readTokens_59 ?_
            refine lv_iload_n S.x S.b d_Mpg_readTokens_62 rfl (lv_at hl 1 rfl) ?_
            refine px_iald S hT hw 0 6 (n := 2060) (f := (ta32 7)) rfl gp_7 (x := (tf_13 6)) (vp_in_iff.mpr (by first | exact oz_99c0df1a02 k13_5 k13_6 | (constructor <;> omega))) d_Mpg_readTokens_63 ?_
            refine lv_topi (fun z44 ez44 => ?_)
            have lz44 := Int32.le_toInt z44
            have uz44 := Int32.toInt_lt z44
            refine lv_aload_n S.x S.b d_Mpg_readTokens_64 rfl (lv_at hl 2 rfl) ?_
            refine gP_8 S hT hw 0 rfl m9_232 d_Mpg_readTokens_65 ?_
            refine lv_iload_n S.x S.b d_Mpg_readTokens_68 rfl (lv_at hl 1 rfl) ?_
            refine px_iald S hT hw 0 7 (n := 2060) (f := (ta32 8)) rfl gp_8 (x := (tf_13 6)) (vp_in_iff.mpr (by first | exact oz_99c0df1a02 k13_5 k13_6 | (constructor <;> omega))) d_Mpg_readTokens_69 ?_
            refine lv_topi (fun z45 ez45 => ?_)
            have lz45 := Int32.le_toInt z45
            have uz45 := Int32.toInt_lt z45
            obtain ⟨hq1, hq2, hq3, hq4, hq5⟩ := (show RdK _ _ _ v34 _ by assumption).1 (by omega); rw [← ez44, ← ez45] at hq1 hq2 hq3; rw [← ez44] at hq4; rw [← ez45] at hq5
            refine lv_iadd S.x S.b d_Mpg_readTokens_70 ?_
            refine lv_topi (fun z46 ez46 => ?_)
            have tz46 : z46.toInt = (z44.toInt + z45.toInt + 2147483648) % 4294967296 - 2147483648 := by rw [ez46]; exact i_add z44 z45
            have lz46 := Int32.le_toInt z46
            have uz46 := Int32.toInt_lt z46
            try replace tz46 : z46.toInt = z44.toInt + z45.toInt := by omega
            first | refine px_calli (pr := []) (px_runV (As := [.int z46]) (rest := []) S (c_mp_skip l D cs h r g tf31 ta32 pf na ma wa cf ca ef ea xf xa z46  (show 0 ≤ (tf31 5).toInt from (oz_7d1a3665d9 e36 nc15 k13_1)) (show (tf31 5).toInt ≤ 2048 from (oz_bef6f68ae5 e36 k13_0 g1)) (show 0 ≤ z46.toInt from by omega) (show z46.toInt ≤ (tf31 5).toInt from by omega) _) hT (pr := []) (pcs := [wdP cs h r g tf31 ta32 pf na ma wa cf ca ef ea xf xa]) hw px_X.tt (px_recv hT hw 0 0 rfl rfl rfl) m11_138 m11_135 m11_137 ms_7_14 m1_21 q_Mpg_skip ⟨Nat.le_of_ble_eq_true rfl, Nat.le_of_ble_eq_true rfl⟩ hl.1 rfl (Nat.le_of_ble_eq_true rfl) d_Mpg_readTokens_71 ⟨Nat.le_of_ble_eq_true rfl, Nat.le_of_ble_eq_true rfl⟩) hw hA (fun v48 p47 H locs hp47 hw => ?_) | (refine px_calli (pr := []) (px_runV (As := [.int z46]) (rest := []) S (c_mp_skip l D cs h r g tf31 ta32 pf na ma wa cf ca ef ea xf xa z46  (show 0 ≤ (tf31 5).toInt from by first | exact oz_7d1a3665d9 e36 nc15 k13_1 | omega) (show (tf31 5).toInt ≤ 2048 from by first | exact oz_bef6f68ae5 e36 k13_0 g1 | omega) (show 0 ≤ z46.toInt from by omega) (show z46.toInt ≤ (tf31 5).toInt from by omega) _) hT (pr := []) (pcs := [wdP cs h r g tf31 ta32 pf na ma wa cf ca ef ea xf xa]) hw px_X.tt (px_recv hT hw 0 0 rfl rfl rfl) m11_138 m11_135 m11_137 ms_7_14 m1_21 q_Mpg_skip ⟨Nat.le_of_ble_eq_true rfl, Nat.le_of_ble_eq_true rfl⟩ hl.1 rfl (Nat.le_of_ble_eq_true rfl) d_Mpg_readTokens_71 ⟨Nat.le_of_ble_eq_true rfl, Nat.le_of_ble_eq_true rfl⟩) hw hA (fun v48 p47 H locs hp47 hw => ?_))
            obtain ⟨rfl, e49, e50, e51⟩ := hp47
            have e49 : z46.toInt ≤ v48.toInt := e49
            have e50 : v48.toInt ≤ (tf31 5).toInt := e50
            have e51 : R_mp_skip tf31 ta32 z46 v48 := e51
            have lv48 := Int32.le_toInt v48
            have uv48 := Int32.toInt_lt v48
            refine lv_istore_n (lv' := [(1, .int v48), (2, .int v34), (3, .int (tf_13 6)), (0, .ref h)]) S.x S.b d_Mpg_readTokens_74 rfl hl (by decide) rfl (fun ls hl => ?_)
            refine lv_goto (tgt := 13) S.x S.b d_Mpg_readTokens_75 (by decide) ?_
            first | exact ih13 tf31 ta32 v48 v34 _ _ ls (show (tf31 5).toInt = (tf 5).toInt from (oz_1687f4cc65 k13_0 e36)) (show 0 ≤ v48.toInt from by omega) (show v48.toInt ≤ (tf 5).toInt from (oz_fcc6387d7b k13_0 e50 e36)) (show 0 ≤ v34.toInt from e35.1) (show v34.toInt ≤ 1 from e35.2) (show 0 ≤ (tf31 6).toInt from (oz_16d7fa9f32 e37 k13_5)) (show (tf31 6).toInt ≤ 2049 from by omega) (show RdL tf31 ta32 v48 v34 from (by first | exact rdl_1 (L := (tf 5).toInt) (c := 0) (e := 0) tkp_0 (by first | rfl | omega) (by first | rfl | omega) (by omega) (by omega) (by omega) | exact rdl_1 hq1 (by omega) (by omega) (by omega) (by omega) (by omega) | exact rdl_bad (by assumption) (by assumption) (by omega) (by omega) (by omega) (by omega) (by omega) (by omega) (by omega) (by omega) (by omega))) (show K_mp_readTokens_13 tf ta tf31 ta32 v48 v34 from (fun y_f0 y_f1 k hE => k13_8 y_f0 y_f1 (k + 1) (Or.inr (Or.inl ⟨rfl, x13_1, x13_2, rfl, rfl, rfl, rfl, rfl, Or.inr ⟨nc1, Or.inr ⟨nc15, tf31, ta32, v34, e41, Or.inl ⟨nc42, z44, ez44, z45, ez45, z46, ez46, v48, e51, hE⟩⟩⟩⟩)))) (show 2*((tf 5).toInt-v48.toInt)+v34.toInt < (n_13 : Int) from by omega) hw (lv_sub hl [3, 0, 1] rfl) | (exact ih13 tf31 ta32 v48 v34 _ _ ls (show (tf31 5).toInt = (tf 5).toInt from by first | exact oz_1687f4cc65 k13_0 e36 | omega) (show 0 ≤ v48.toInt from by omega) (show v48.toInt ≤ (tf 5).toInt from by first | exact oz_fcc6387d7b k13_0 e50 e36 | omega) (show 0 ≤ v34.toInt from by first | exact e35.1 | omega) (show v34.toInt ≤ 1 from by first | exact e35.2 | omega) (show 0 ≤ (tf31 6).toInt from by first | exact oz_16d7fa9f32 e37 k13_5 | omega) (show (tf31 6).toInt ≤ 2049 from by omega) (show RdL tf31 ta32 v48 v34 from (by first | exact rdl_1 (L := (tf 5).toInt) (c := 0) (e := 0) tkp_0 (by first | rfl | omega) (by first | rfl | omega) (by omega) (by omega) (by omega) | exact rdl_1 hq1 (by omega) (by omega) (by omega) (by omega) (by omega) | exact rdl_bad (by assumption) (by assumption) (by omega) (by omega) (by omega) (by omega) (by omega) (by omega) (by omega) (by omega) (by omega))) (show K_mp_readTokens_13 tf ta tf31 ta32 v48 v34 from (fun y_f0 y_f1 k hE => k13_8 y_f0 y_f1 (k + 1) (Or.inr (Or.inl ⟨rfl, x13_1, x13_2, rfl, rfl, rfl, rfl, rfl, Or.inr ⟨nc1, Or.inr ⟨nc15, tf31, ta32, v34, e41, Or.inl ⟨nc42, z44, ez44, z45, ez45, z46, ez46, v48, e51, hE⟩⟩⟩⟩)))) (show 2*((tf 5).toInt-v48.toInt)+v34.toInt < (n_13 : Int) from by omega) hw (lv_sub hl [3, 0, 1] rfl))
          · have nc42 : v34.toInt = (0 : Int) := (i_eq (x := v34) (y := 0)).mp c42
            refine lv_aload_n S.x S.b d_Mpg_readTokens_40 rfl (lv_at hl 2 rfl) ?_
            refine lv_iload_n S.x S.b d_Mpg_readTokens_41 rfl (lv_at hl 1 rfl) ?_
            refine pP_6 S hT hw 0 rfl m9_230 rfl rfl rfl d_Mpg_readTokens_42 (ps' := [wdP cs h r g (upd tf31 6 (tf_13 6)) ta32 pf na ma wa cf ca ef ea xf xa]) rfl (fun H locs hw => ?_)
            refine lv_aload_n S.x S.b d_Mpg_readTokens_45 rfl (lv_at hl 2 rfl) ?_
            refine lv_iload_n S.x S.b d_Mpg_readTokens_46 rfl (lv_at hl 3 rfl) ?_
            refine lv_iconst (v := 0) S.x S.b d_Mpg_readTokens_47 (by decide) ?_
            refine lv_bipush (v := 6) S.x S.b d_Mpg_readTokens_48 (by decide) ?_
            refine lv_iconst (v := (-1)) S.x S.b d_Mpg_readTokens_50 (by decide) ?_
            first | refine px_callv (pr := []) (px_runV (As := [.int x13_1, .int 0, .int 6, .int (-1)]) (rest := []) S (c_mp_token l D cs h r g pf na ma wa cf ca ef ea xf xa (upd tf31 6 (tf_13 6)) ta32 x13_1 0 6 (-1)  (show 0 ≤ (tf_13 6).toInt from k13_5) (show (tf_13 6).toInt ≤ 2059 from (oz_e00ec8391b k13_6)) _) hT (pr := []) (pcs := [wdP cs h r g (upd tf31 6 (tf_13 6)) ta32 pf na ma wa cf ca ef ea xf xa]) hw px_X.tt (px_recv hT hw 0 0 rfl rfl rfl) m11_166 m11_163 m11_165 ms_8_3 m1_21 q_Mpg_token ⟨Nat.le_of_ble_eq_true rfl, Nat.le_of_ble_eq_true rfl⟩ hl.1 rfl (Nat.le_of_ble_eq_true rfl) d_Mpg_readTokens_51 ⟨Nat.le_of_ble_eq_true rfl, Nat.le_of_ble_eq_true rfl⟩) hw hA (fun p56 H locs hp56 hw => ?_) | (refine px_callv (pr := []) (px_runV (As := [.int x13_1, .int 0, .int 6, .int (-1)]) (rest := []) S (c_mp_token l D cs h r g pf na ma wa cf ca ef ea xf xa (upd tf31 6 (tf_13 6)) ta32 x13_1 0 6 (-1)  (show 0 ≤ (tf_13 6).toInt from by first | exact k13_5 | omega) (show (tf_13 6).toInt ≤ 2059 from by first | exact oz_e00ec8391b k13_6 | omega) _) hT (pr := []) (pcs := [wdP cs h r g (upd tf31 6 (tf_13 6)) ta32 pf na ma wa cf ca ef ea xf xa]) hw px_X.tt (px_recv hT hw 0 0 rfl rfl rfl) m11_166 m11_163 m11_165 ms_8_3 m1_21 q_Mpg_token ⟨Nat.le_of_ble_eq_true rfl, Nat.le_of_ble_eq_true rfl⟩ hl.1 rfl (Nat.le_of_ble_eq_true rfl) d_Mpg_readTokens_51 ⟨Nat.le_of_ble_eq_true rfl, Nat.le_of_ble_eq_true rfl⟩) hw hA (fun p56 H locs hp56 hw => ?_))
            obtain ⟨tf54, ta55, rfl, e58, e59, e60, e61⟩ := hp56
            have e58 : (tf54 6).toInt = (tf_13 6).toInt + 1 := e58
            have e59 : (tf54 5).toInt = (tf31 5).toInt := e59
            have e60 : TkU ta32 ta55 (tf_13 6) x13_1 (0 : Int32) (6 : Int32) (-1 : Int32) := e60
            have e61 : R_mp_token x13_1 (0 : Int32) (6 : Int32) (-1 : Int32) (upd tf31 6 (tf_13 6)) ta32 tf54 ta55 := e61
            refine lv_goto (tgt := 75) S.x S.b d_Mpg_readTokens_54 (by decide) ?_
            refine lv_goto (tgt := 13) S.x S.b d_Mpg_readTokens_75 (by decide) ?_
            first | exact ih13 tf54 ta55 x13_1 v34 _ _ ls (show (tf54 5).toInt = (tf 5).toInt from (oz_e13fc83238 k13_0 e59 e36)) (show 0 ≤ x13_1.toInt from k13_1) (show x13_1.toInt ≤ (tf 5).toInt from k13_2) (show 0 ≤ v34.toInt from e35.1) (show v34.toInt ≤ 1 from e35.2) (show 0 ≤ (tf54 6).toInt from (oz_ae613611c0 e58 k13_5)) (show (tf54 6).toInt ≤ 2049 from by omega) (show RdL tf54 ta55 x13_1 v34 from (by first | exact rdl_1 (L := (tf 5).toInt) (c := 0) (e := 0) tkp_0 (by first | rfl | omega) (by first | rfl | omega) (by omega) (by omega) (by omega) | exact rdl_1 hq1 (by omega) (by omega) (by omega) (by omega) (by omega) | exact rdl_bad (by assumption) (by assumption) (by omega) (by omega) (by omega) (by omega) (by omega) (by omega) (by omega) (by omega) (by omega))) (show K_mp_readTokens_13 tf ta tf54 ta55 x13_1 v34 from (fun y_f0 y_f1 k hE => k13_8 y_f0 y_f1 (k + 1) (Or.inr (Or.inl ⟨rfl, x13_1, x13_2, rfl, rfl, rfl, rfl, rfl, Or.inr ⟨nc1, Or.inr ⟨nc15, tf31, ta32, v34, e41, Or.inr ⟨nc42, tf54, ta55, e61, hE⟩⟩⟩⟩)))) (show 2*((tf 5).toInt-x13_1.toInt)+v34.toInt < (n_13 : Int) from (oz_5e052c77ae hm nc42 k13_3 nc1)) hw (lv_sub hl [2, 3, 0] rfl) | (exact ih13 tf54 ta55 x13_1 v34 _ _ ls (show (tf54 5).toInt = (tf 5).toInt from by first | exact oz_e13fc83238 k13_0 e59 e36 | omega) (show 0 ≤ x13_1.toInt from by first | exact k13_1 | omega) (show x13_1.toInt ≤ (tf 5).toInt from by first | exact k13_2 | omega) (show 0 ≤ v34.toInt from by first | exact e35.1 | omega) (show v34.toInt ≤ 1 from by first | exact e35.2 | omega) (show 0 ≤ (tf54 6).toInt from by first | exact oz_ae613611c0 e58 k13_5 | omega) (show (tf54 6).toInt ≤ 2049 from by omega) (show RdL tf54 ta55 x13_1 v34 from (by first | exact rdl_1 (L := (tf 5).toInt) (c := 0) (e := 0) tkp_0 (by first | rfl | omega) (by first | rfl | omega) (by omega) (by omega) (by omega) | exact rdl_1 hq1 (by omega) (by omega) (by omega) (by omega) (by omega) | exact rdl_bad (by assumption) (by assumption) (by omega) (by omega) (by omega) (by omega) (by omega) (by omega) (by omega) (by omega) (by omega))) (show K_mp_readTokens_13 tf ta tf54 ta55 x13_1 v34 from (fun y_f0 y_f1 k hE => k13_8 y_f0 y_f1 (k + 1) (Or.inr (Or.inl ⟨rfl, x13_1, x13_2, rfl, rfl, rfl, rfl, rfl, Or.inr ⟨nc1, Or.inr ⟨nc15, tf31, ta32, v34, e41, Or.inr ⟨nc42, tf54, ta55, e61, hE⟩⟩⟩⟩)))) (show 2*((tf 5).toInt-x13_1.toInt)+v34.toInt < (n_13 : Int) from by first | exact oz_5e052c77ae hm nc42 k13_3 nc1 | omega) hw (lv_sub hl [2, 3, 0] rfl))
  refine lv_aload_n S.x S.b d_Mpg_readTokens_0 rfl (lv_at hl 0 rfl) ?_
  refine lv_iconst (v := 0) S.x S.b d_Mpg_readTokens_1 (by decide) ?_
  refine pP_6 S hT hw 0 rfl m9_230 rfl rfl rfl d_Mpg_readTokens_2 (ps' := [wdP cs h r g (upd tf 6 0) ta pf na ma wa cf ca ef ea xf xa]) rfl (fun H locs hw => ?_)
  refine lv_aload_n S.x S.b d_Mpg_readTokens_5 rfl (lv_at hl 0 rfl) ?_
  refine lv_iconst (v := 0) S.x S.b d_Mpg_readTokens_6 (by decide) ?_
  first | refine px_calli (pr := []) (px_runV (As := [.int 0]) (rest := []) S (c_mp_skip l D cs h r g (upd tf 6 0) ta pf na ma wa cf ca ef ea xf xa 0  (show 0 ≤ (tf 5).toInt from g0) (show (tf 5).toInt ≤ 2048 from g1) (show 0 ≤ (0 : Int) from oz_5a341f00aa) (show (0 : Int) ≤ (tf 5).toInt from (oz_50c21e157e g0)) _) hT (pr := []) (pcs := [wdP cs h r g (upd tf 6 0) ta pf na ma wa cf ca ef ea xf xa]) hw px_X.tt (px_recv hT hw 0 0 rfl rfl rfl) m11_138 m11_135 m11_137 ms_7_14 m1_21 q_Mpg_skip ⟨Nat.le_of_ble_eq_true rfl, Nat.le_of_ble_eq_true rfl⟩ hl.1 rfl (Nat.le_of_ble_eq_true rfl) d_Mpg_readTokens_7 ⟨Nat.le_of_ble_eq_true rfl, Nat.le_of_ble_eq_true rfl⟩) hw hA (fun v63 p62 H locs hp62 hw => ?_) | (refine px_calli (pr := []) (px_runV (As := [.int 0]) (rest := []) S (c_mp_skip l D cs h r g (upd tf 6 0) ta pf na ma wa cf ca ef ea xf xa 0  (show 0 ≤ (tf 5).toInt from by first | exact g0 | omega) (show (tf 5).toInt ≤ 2048 from by first | exact g1 | omega) (show 0 ≤ (0 : Int) from by first | exact oz_5a341f00aa | omega) (show (0 : Int) ≤ (tf 5).toInt from by first | exact oz_50c21e157e g0 | omega) _) hT (pr := []) (pcs := [wdP cs h r g (upd tf 6 0) ta pf na ma wa cf ca ef ea xf xa]) hw px_X.tt (px_recv hT hw 0 0 rfl rfl rfl) m11_138 m11_135 m11_137 ms_7_14 m1_21 q_Mpg_skip ⟨Nat.le_of_ble_eq_true rfl, Nat.le_of_ble_eq_true rfl⟩ hl.1 rfl (Nat.le_of_ble_eq_true rfl) d_Mpg_readTokens_7 ⟨Nat.le_of_ble_eq_true rfl, Nat.le_of_ble_eq_true rfl⟩) hw hA (fun v63 p62 H locs hp62 hw => ?_))
  obtain ⟨rfl, e64, e65, e66⟩ := hp62
  have e64 : (0 : Int) ≤ v63.toInt := e64
  have e65 : v63.toInt ≤ (tf 5).toInt := e65
  have e66 : R_mp_skip (upd tf 6 0) ta (0 : Int32) v63 := e66
  have lv63 := Int32.le_toInt v63
  have uv63 := Int32.toInt_lt v63
  refine lv_istore_n (lv' := [(1, .int v63), (0, .ref h)]) S.x S.b d_Mpg_readTokens_10 rfl hl (by decide) rfl (fun ls hl => ?_)
  refine lv_iconst (v := 1) S.x S.b d_Mpg_readTokens_11 (by decide) ?_
  refine lv_istore_n (lv' := [(2, .int 1), (1, .int v63), (0, .ref h)]) S.x S.b d_Mpg_readTokens_12 rfl hl (by decide) rfl (fun ls hl => ?_)
  first | exact J13 ((2*((tf 5).toInt-v63.toInt)+(1 : Int)).toNat + 1) (upd tf 6 0) ta v63 (1 : Int32) _ _ ls (show (tf 5).toInt = (tf 5).toInt from rfl) (show 0 ≤ v63.toInt from (oz_0ffba53c78 e64)) (show v63.toInt ≤ (tf 5).toInt from e65) (show 0 ≤ (1 : Int) from oz_19c3a41681) (show (1 : Int) ≤ 1 from oz_f9181dc4bb) (show 0 ≤ (0 : Int) from oz_5a341f00aa) (show (0 : Int) ≤ 2049 from oz_0420973235) (show RdL (upd tf 6 0) ta v63 1 from (rdl_1 (L := (tf 5).toInt) (c := 0) (e := 0) tkp_0 rfl rfl (by omega) (show (0 : Int) ≤ v63.toInt from e64) (by decide))) (show K_mp_readTokens_13 tf ta (upd tf 6 0) ta v63 1 from (fun y_f0 y_f1 k hE => Exists.intro (k + 1) (Or.inl ⟨rfl, v63, e66, hE⟩))) (show 2*((tf 5).toInt-v63.toInt)+(1 : Int) < ((((2*((tf 5).toInt-v63.toInt)+(1 : Int)).toNat + 1 : Nat) : Int) : Int) from oz_natlt) hw (lv_sub hl [2, 1, 0] rfl) | (exact J13 ((2*((tf 5).toInt-v63.toInt)+(1 : Int)).toNat + 1) (upd tf 6 0) ta v63 (1 : Int32) _ _ ls (show (tf 5).toInt = (tf 5).toInt from rfl) (show 0 ≤ v63.toInt from by first | exact oz_0ffba53c78 e64 | omega) (show v63.toInt ≤ (tf 5).toInt from by first | exact e65 | omega) (show 0 ≤ (1 : Int) from by first | exact oz_19c3a41681 | omega) (show (1 : Int) ≤ 1 from by first | exact oz_f9181dc4bb | omega) (show 0 ≤ (0 : Int) from by first | exact oz_5a341f00aa | omega) (show (0 : Int) ≤ 2049 from by first | exact oz_0420973235 | omega) (show RdL (upd tf 6 0) ta v63 1 from (rdl_1 (L := (tf 5).toInt) (c := 0) (e := 0) tkp_0 rfl rfl (by omega) (show (0 : Int) ≤ v63.toInt from by first | exact e64 | omega) (by decide))) (show K_mp_readTokens_13 tf ta (upd tf 6 0) ta v63 1 from (fun y_f0 y_f1 k hE => Exists.intro (k + 1) (Or.inl ⟨rfl, v63, e66, hE⟩))) (show 2*((tf 5).toInt-v63.toInt)+(1 : Int) < ((((2*((tf 5).toInt-v63.toInt)+(1 : Int)).toNat + 1 : Nat) : Int) : Int) from by first | exact oz_natlt | omega) hw (lv_sub hl [2, 1, 0] rfl))
