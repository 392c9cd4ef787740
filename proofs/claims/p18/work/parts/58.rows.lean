theorem m1_222 : Cond.fieldLink "HomeSystem$TextCompiler" 173 "HomeSystem$Symbol" "number" "I" ∈ AL := AL_1 (List.mem_of_getElem? (i := 222) rfl) rfl
theorem m5_113 : Cond.methodLink "HomeSystem$TextCompiler" 226 ⟨"HomeSystem$TextCompiler", "declare", "(LHomeSystem$Symbol;I)V"⟩ ∈ AL := AL_5 (List.mem_of_getElem? (i := 113) rfl) rfl
theorem m5_116 : Cond.code ⟨"HomeSystem$TextCompiler", "declare", "(LHomeSystem$Symbol;I)V"⟩ prog_10_method_9_code 4 (Option.none : Option Jvm.ClassFile.FieldType) ∈ AL := AL_5 (List.mem_of_getElem? (i := 116) rfl) rfl
theorem ms_3_8 : Cond.selects "HomeSystem$TextCompiler" ⟨"HomeSystem$TextCompiler", "declare", "(LHomeSystem$Symbol;I)V"⟩ ⟨"HomeSystem$TextCompiler", "declare", "(LHomeSystem$Symbol;I)V"⟩ ∈ AL := AL_p (q := (⟨"HomeSystem$TextCompiler", "declare", "(LHomeSystem$Symbol;I)V"⟩, 18)) (by unfold lw_privs; exact List.mem_append_right _ (List.mem_append_right _ (List.mem_append_left _ (List.mem_of_getElem? (i := 8) rfl))))
theorem m5_115 : Cond.instanceMethod ⟨"HomeSystem$TextCompiler", "declare", "(LHomeSystem$Symbol;I)V"⟩ ∈ AL := AL_5 (List.mem_of_getElem? (i := 115) rfl) rfl
theorem m4_137 : Cond.methodLink "HomeSystem$TextCompiler" 195 ⟨"HomeSystem$Tokens", "expect", "(I)V"⟩ ∈ AL := AL_4 (List.mem_of_getElem? (i := 137) rfl) rfl
theorem m1_116 : Cond.fieldLink "HomeSystem$TextCompiler" 201 "HomeSystem$Tokens" "now" "I" ∈ AL := AL_1 (List.mem_of_getElem? (i := 116) rfl) rfl
theorem m4_131 : Cond.classLink "HomeSystem$TextCompiler" 158 "HomeSystem$Symbol" ∈ AL := AL_4 (List.mem_of_getElem? (i := 131) rfl) rfl
theorem m4_136 : Cond.methodLink "HomeSystem$TextCompiler" 207 ⟨"HomeSystem$Symbol", "<init>", "(II)V"⟩ ∈ AL := AL_4 (List.mem_of_getElem? (i := 136) rfl) rfl
theorem m2_157 : Cond.fieldLink "HomeSystem$TextCompiler" 57 "HomeSystem$TextCompiler" "firstTime" "Z" ∈ AL := AL_2 (List.mem_of_getElem? (i := 157) rfl) rfl
theorem m5_150 : Cond.methodLink "HomeSystem$TextCompiler" 262 ⟨"HomeSystem$Names", "addWant", "(LHomeSystem$Symbol;I)V"⟩ ∈ AL := AL_5 (List.mem_of_getElem? (i := 150) rfl) rfl
theorem m5_153 : Cond.code ⟨"HomeSystem$Names", "addWant", "(LHomeSystem$Symbol;I)V"⟩ prog_5_method_12_code 3 (Option.none : Option Jvm.ClassFile.FieldType) ∈ AL := AL_5 (List.mem_of_getElem? (i := 153) rfl) rfl
theorem m5_152 : Cond.selects "HomeSystem$Names" ⟨"HomeSystem$Names", "addWant", "(LHomeSystem$Symbol;I)V"⟩ ⟨"HomeSystem$Names", "addWant", "(LHomeSystem$Symbol;I)V"⟩ ∈ AL := AL_5 (List.mem_of_getElem? (i := 152) rfl) rfl
theorem m5_151 : Cond.instanceMethod ⟨"HomeSystem$Names", "addWant", "(LHomeSystem$Symbol;I)V"⟩ ∈ AL := AL_5 (List.mem_of_getElem? (i := 151) rfl) rfl
theorem m4_105 : Cond.methodLink "HomeSystem$TextCompiler" 63 ⟨"HomeSystem$Tokens", "kind", "()I"⟩ ∈ AL := AL_4 (List.mem_of_getElem? (i := 105) rfl) rfl
theorem m5_128 : Cond.methodLink "HomeSystem$TextCompiler" 183 ⟨"HomeSystem$Tokens", "fail", "()V"⟩ ∈ AL := AL_5 (List.mem_of_getElem? (i := 128) rfl) rfl
theorem m2_159 : Cond.fieldLink "HomeSystem$TextCompiler" 119 "HomeSystem$TextCompiler" "begun" "I" ∈ AL := AL_2 (List.mem_of_getElem? (i := 159) rfl) rfl
theorem m6_35 : Cond.methodLink "HomeSystem$TextCompiler" 265 ⟨"HomeSystem$Program", "define", "(IIII)V"⟩ ∈ AL := AL_6 (List.mem_of_getElem? (i := 35) rfl) rfl
theorem m6_38 : Cond.code ⟨"HomeSystem$Program", "define", "(IIII)V"⟩ prog_7_method_4_code 6 (Option.none : Option Jvm.ClassFile.FieldType) ∈ AL := AL_6 (List.mem_of_getElem? (i := 38) rfl) rfl
theorem m6_37 : Cond.selects "HomeSystem$Program" ⟨"HomeSystem$Program", "define", "(IIII)V"⟩ ⟨"HomeSystem$Program", "define", "(IIII)V"⟩ ∈ AL := AL_6 (List.mem_of_getElem? (i := 37) rfl) rfl
theorem m6_36 : Cond.instanceMethod ⟨"HomeSystem$Program", "define", "(IIII)V"⟩ ∈ AL := AL_6 (List.mem_of_getElem? (i := 36) rfl) rfl
theorem m5_201 : Cond.methodLink "HomeSystem$TextCompiler" 269 ⟨"HomeSystem$Names", "leave", "(I)V"⟩ ∈ AL := AL_5 (List.mem_of_getElem? (i := 201) rfl) rfl
theorem m5_204 : Cond.code ⟨"HomeSystem$Names", "leave", "(I)V"⟩ prog_5_method_5_code 3 (Option.none : Option Jvm.ClassFile.FieldType) ∈ AL := AL_5 (List.mem_of_getElem? (i := 204) rfl) rfl
theorem m5_203 : Cond.selects "HomeSystem$Names" ⟨"HomeSystem$Names", "leave", "(I)V"⟩ ⟨"HomeSystem$Names", "leave", "(I)V"⟩ ∈ AL := AL_5 (List.mem_of_getElem? (i := 203) rfl) rfl
theorem m5_202 : Cond.instanceMethod ⟨"HomeSystem$Names", "leave", "(I)V"⟩ ∈ AL := AL_5 (List.mem_of_getElem? (i := 202) rfl) rfl
theorem m6_31 : Cond.methodLink "HomeSystem$TextCompiler" 167 ⟨"HomeSystem$Tokens", "last", "()I"⟩ ∈ AL := AL_6 (List.mem_of_getElem? (i := 31) rfl) rfl
theorem m6_34 : Cond.code ⟨"HomeSystem$Tokens", "last", "()I"⟩ prog_12_method_27_code 1 (Option.some FieldType.int) ∈ AL := AL_6 (List.mem_of_getElem? (i := 34) rfl) rfl
theorem m6_33 : Cond.selects "HomeSystem$Tokens" ⟨"HomeSystem$Tokens", "last", "()I"⟩ ⟨"HomeSystem$Tokens", "last", "()I"⟩ ∈ AL := AL_6 (List.mem_of_getElem? (i := 33) rfl) rfl
theorem m6_32 : Cond.instanceMethod ⟨"HomeSystem$Tokens", "last", "()I"⟩ ∈ AL := AL_6 (List.mem_of_getElem? (i := 32) rfl) rfl
theorem m5_146 : Cond.methodLink "HomeSystem$TextCompiler" 253 ⟨"HomeSystem$TextCompiler", "parameter", "()V"⟩ ∈ AL := AL_5 (List.mem_of_getElem? (i := 146) rfl) rfl
theorem m5_149 : Cond.code ⟨"HomeSystem$TextCompiler", "parameter", "()V"⟩ prog_10_method_11_code 5 (Option.none : Option Jvm.ClassFile.FieldType) ∈ AL := AL_5 (List.mem_of_getElem? (i := 149) rfl) rfl
theorem ms_3_10 : Cond.selects "HomeSystem$TextCompiler" ⟨"HomeSystem$TextCompiler", "parameter", "()V"⟩ ⟨"HomeSystem$TextCompiler", "parameter", "()V"⟩ ∈ AL := AL_p (q := (⟨"HomeSystem$TextCompiler", "parameter", "()V"⟩, 18)) (by unfold lw_privs; exact List.mem_append_right _ (List.mem_append_right _ (List.mem_append_left _ (List.mem_of_getElem? (i := 10) rfl))))
theorem m5_148 : Cond.instanceMethod ⟨"HomeSystem$TextCompiler", "parameter", "()V"⟩ ∈ AL := AL_5 (List.mem_of_getElem? (i := 148) rfl) rfl
theorem m5_142 : Cond.methodLink "HomeSystem$TextCompiler" 250 ⟨"HomeSystem$Names", "enter", "()I"⟩ ∈ AL := AL_5 (List.mem_of_getElem? (i := 142) rfl) rfl
theorem m5_145 : Cond.code ⟨"HomeSystem$Names", "enter", "()I"⟩ prog_5_method_4_code 2 (Option.some FieldType.int) ∈ AL := AL_5 (List.mem_of_getElem? (i := 145) rfl) rfl
theorem m5_144 : Cond.selects "HomeSystem$Names" ⟨"HomeSystem$Names", "enter", "()I"⟩ ⟨"HomeSystem$Names", "enter", "()I"⟩ ∈ AL := AL_5 (List.mem_of_getElem? (i := 144) rfl) rfl
theorem m5_143 : Cond.instanceMethod ⟨"HomeSystem$Names", "enter", "()I"⟩ ∈ AL := AL_5 (List.mem_of_getElem? (i := 143) rfl) rfl
theorem m5_138 : Cond.methodLink "HomeSystem$TextCompiler" 244 ⟨"HomeSystem$Names", "functionAt", "(I)LHomeSystem$Symbol;"⟩ ∈ AL := AL_5 (List.mem_of_getElem? (i := 138) rfl) rfl
theorem m5_141 : Cond.code ⟨"HomeSystem$Names", "functionAt", "(I)LHomeSystem$Symbol;"⟩ prog_5_method_11_code 2 (Option.some (FieldType.object "HomeSystem$Symbol")) ∈ AL := AL_5 (List.mem_of_getElem? (i := 141) rfl) rfl
theorem m5_140 : Cond.selects "HomeSystem$Names" ⟨"HomeSystem$Names", "functionAt", "(I)LHomeSystem$Symbol;"⟩ ⟨"HomeSystem$Names", "functionAt", "(I)LHomeSystem$Symbol;"⟩ ∈ AL := AL_5 (List.mem_of_getElem? (i := 140) rfl) rfl
theorem m5_139 : Cond.instanceMethod ⟨"HomeSystem$Names", "functionAt", "(I)LHomeSystem$Symbol;"⟩ ∈ AL := AL_5 (List.mem_of_getElem? (i := 139) rfl) rfl
theorem m5_134 : Cond.methodLink "HomeSystem$TextCompiler" 240 ⟨"HomeSystem$Names", "addFunction", "(II)LHomeSystem$Symbol;"⟩ ∈ AL := AL_5 (List.mem_of_getElem? (i := 134) rfl) rfl
theorem m5_137 : Cond.code ⟨"HomeSystem$Names", "addFunction", "(II)LHomeSystem$Symbol;"⟩ prog_5_method_10_code 4 (Option.some (FieldType.object "HomeSystem$Symbol")) ∈ AL := AL_5 (List.mem_of_getElem? (i := 137) rfl) rfl
theorem m5_136 : Cond.selects "HomeSystem$Names" ⟨"HomeSystem$Names", "addFunction", "(II)LHomeSystem$Symbol;"⟩ ⟨"HomeSystem$Names", "addFunction", "(II)LHomeSystem$Symbol;"⟩ ∈ AL := AL_5 (List.mem_of_getElem? (i := 136) rfl) rfl
theorem m5_135 : Cond.instanceMethod ⟨"HomeSystem$Names", "addFunction", "(II)LHomeSystem$Symbol;"⟩ ∈ AL := AL_5 (List.mem_of_getElem? (i := 135) rfl) rfl
theorem m2_156 : Cond.fieldLink "HomeSystem$TextCompiler" 139 "HomeSystem$TextCompiler" "cases" "I" ∈ AL := AL_2 (List.mem_of_getElem? (i := 156) rfl) rfl
theorem m1_225 : Cond.fieldLink "HomeSystem$TextCompiler" 157 "HomeSystem$Symbol" "type" "I" ∈ AL := AL_1 (List.mem_of_getElem? (i := 225) rfl) rfl
theorem m5_185 : Cond.methodLink "HomeSystem$TextCompiler" 328 ⟨"HomeSystem$TextCompiler", "list", "(LHomeSystem$Symbol;)Z"⟩ ∈ AL := AL_5 (List.mem_of_getElem? (i := 185) rfl) rfl
theorem m5_188 : Cond.code ⟨"HomeSystem$TextCompiler", "list", "(LHomeSystem$Symbol;)Z"⟩ prog_10_method_24_code 6 (Option.some FieldType.boolean) ∈ AL := AL_5 (List.mem_of_getElem? (i := 188) rfl) rfl
theorem ms_4_1 : Cond.selects "HomeSystem$TextCompiler" ⟨"HomeSystem$TextCompiler", "list", "(LHomeSystem$Symbol;)Z"⟩ ⟨"HomeSystem$TextCompiler", "list", "(LHomeSystem$Symbol;)Z"⟩ ∈ AL := AL_p (q := (⟨"HomeSystem$TextCompiler", "list", "(LHomeSystem$Symbol;)Z"⟩, 18)) (by unfold lw_privs; exact List.mem_append_right _ (List.mem_append_right _ (List.mem_append_right _ (List.mem_append_left _ (List.mem_of_getElem? (i := 1) rfl)))))
theorem m5_187 : Cond.instanceMethod ⟨"HomeSystem$TextCompiler", "list", "(LHomeSystem$Symbol;)Z"⟩ ∈ AL := AL_5 (List.mem_of_getElem? (i := 187) rfl) rfl
theorem m5_173 : Cond.methodLink "HomeSystem$TextCompiler" 325 ⟨"HomeSystem$TextCompiler", "string", "(LHomeSystem$Symbol;)Z"⟩ ∈ AL := AL_5 (List.mem_of_getElem? (i := 173) rfl) rfl
theorem m5_176 : Cond.code ⟨"HomeSystem$TextCompiler", "string", "(LHomeSystem$Symbol;)Z"⟩ prog_10_method_23_code 6 (Option.some FieldType.boolean) ∈ AL := AL_5 (List.mem_of_getElem? (i := 176) rfl) rfl
theorem ms_3_15 : Cond.selects "HomeSystem$TextCompiler" ⟨"HomeSystem$TextCompiler", "string", "(LHomeSystem$Symbol;)Z"⟩ ⟨"HomeSystem$TextCompiler", "string", "(LHomeSystem$Symbol;)Z"⟩ ∈ AL := AL_p (q := (⟨"HomeSystem$TextCompiler", "string", "(LHomeSystem$Symbol;)Z"⟩, 18)) (by unfold lw_privs; exact List.mem_append_right _ (List.mem_append_right _ (List.mem_append_left _ (List.mem_of_getElem? (i := 15) rfl))))
theorem m5_175 : Cond.instanceMethod ⟨"HomeSystem$TextCompiler", "string", "(LHomeSystem$Symbol;)Z"⟩ ∈ AL := AL_5 (List.mem_of_getElem? (i := 175) rfl) rfl
theorem m5_169 : Cond.methodLink "HomeSystem$TextCompiler" 321 ⟨"HomeSystem$TextCompiler", "row", "(LHomeSystem$Symbol;)Z"⟩ ∈ AL := AL_5 (List.mem_of_getElem? (i := 169) rfl) rfl
theorem m5_172 : Cond.code ⟨"HomeSystem$TextCompiler", "row", "(LHomeSystem$Symbol;)Z"⟩ prog_10_method_22_code 5 (Option.some FieldType.boolean) ∈ AL := AL_5 (List.mem_of_getElem? (i := 172) rfl) rfl
theorem ms_3_14 : Cond.selects "HomeSystem$TextCompiler" ⟨"HomeSystem$TextCompiler", "row", "(LHomeSystem$Symbol;)Z"⟩ ⟨"HomeSystem$TextCompiler", "row", "(LHomeSystem$Symbol;)Z"⟩ ∈ AL := AL_p (q := (⟨"HomeSystem$TextCompiler", "row", "(LHomeSystem$Symbol;)Z"⟩, 18)) (by unfold lw_privs; exact List.mem_append_right _ (List.mem_append_right _ (List.mem_append_left _ (List.mem_of_getElem? (i := 14) rfl))))
theorem m5_171 : Cond.instanceMethod ⟨"HomeSystem$TextCompiler", "row", "(LHomeSystem$Symbol;)Z"⟩ ∈ AL := AL_5 (List.mem_of_getElem? (i := 171) rfl) rfl
theorem m5_158 : Cond.methodLink "HomeSystem$TextCompiler" 318 ⟨"HomeSystem$TextCompiler", "single", "(LHomeSystem$Symbol;)V"⟩ ∈ AL := AL_5 (List.mem_of_getElem? (i := 158) rfl) rfl
theorem m5_161 : Cond.code ⟨"HomeSystem$TextCompiler", "single", "(LHomeSystem$Symbol;)V"⟩ prog_10_method_21_code 5 (Option.none : Option Jvm.ClassFile.FieldType) ∈ AL := AL_5 (List.mem_of_getElem? (i := 161) rfl) rfl
theorem ms_3_12 : Cond.selects "HomeSystem$TextCompiler" ⟨"HomeSystem$TextCompiler", "single", "(LHomeSystem$Symbol;)V"⟩ ⟨"HomeSystem$TextCompiler", "single", "(LHomeSystem$Symbol;)V"⟩ ∈ AL := AL_p (q := (⟨"HomeSystem$TextCompiler", "single", "(LHomeSystem$Symbol;)V"⟩, 18)) (by unfold lw_privs; exact List.mem_append_right _ (List.mem_append_right _ (List.mem_append_left _ (List.mem_of_getElem? (i := 12) rfl))))
theorem m5_160 : Cond.instanceMethod ⟨"HomeSystem$TextCompiler", "single", "(LHomeSystem$Symbol;)V"⟩ ∈ AL := AL_5 (List.mem_of_getElem? (i := 160) rfl) rfl
theorem sum_k {a b T t0 t1 t2 l f0 f2 : Int} (h1 : a ≤ 2 * (t0 - T) + l + 2 * f0) (h2 : b ≤ t2 - t1 + 200 * f2) (h3 : t0 ≤ t1) (h5 : f0 ≤ f2) (h6 : t0 + 1 ≤ t2 + f2) (h7 : f2 ≤ 1) (h8 : 0 ≤ f2) : a + 1 + b ≤ 2 * (t2 - T) + l + 299 * f2 := by omega
theorem sum_k2 {a b T t0 t1 t2 l f0 f2 : Int} (h1 : a ≤ 2 * (t0 - T) + l + 1 + 2 * f0) (h2 : b ≤ t2 - t1 + 200 * f2) (h3 : t0 ≤ t1) (h5 : f0 ≤ f2) (h6 : t0 + 1 ≤ t2 + f2) (h7 : f2 ≤ 1) (h8 : 0 ≤ f2) : a + b ≤ 2 * (t2 - T) + l + 299 * f2 := by omega
theorem sum_k3 {a b T t0 t1 t2 l f0 f2 : Int} (h1 : a ≤ 2 * (t0 - T) + l + 299 * f0) (h2 : b ≤ t2 - t1 + 200 * f2) (h3 : t0 ≤ t1) (h5 : f0 = 0) (h6 : t0 ≤ t2) (h7 : f2 ≤ 1) (h8 : 0 ≤ f2) : a + b ≤ 2 * (t2 - T) + l + 299 * f2 := by omega
