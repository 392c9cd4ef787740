theorem oz_2af7339bd5 {a0 a1 : Int} {n2 : Nat} (h0 : a0 ≤ (n2 : Int)) (h1 : a1 = (n2 : Int)) : a0 ≤ a1 := by omega
theorem oz_4193540c58 {a0 a1 : Int} (h0 : a0 = a1) (h1 : a1 = 0) : a0 = 0 := by omega
theorem oz_b37b0d235b {a0 : Int} (h0 : ¬ a0 < (0 : Int)) (h1 : a0 ≤ 36863) : 0 ≤ a0 ∧ a0 < ((36864 : Nat) : Int) := by omega
theorem oz_c4e42565ca {n0 : Nat}  : 0 ≤ (n0) := by omega
theorem oz_5cdfddacaa {n0 : Nat}  : 0 ≤ (36864 * n0) := by omega
theorem oz_d90171b0e4 {n0 : Nat}  : 0 + n0 ≤ n0 := by omega
theorem oz_9c92651dc9 {n0 : Nat}  : 0 + 36864 * n0 ≤ 36864 * n0 := by omega
theorem oz_4801a4ef71 {n0 : Nat}  : 0 + 0 ≤ (n0) := by omega
theorem oz_26949c3f46 {n0 : Nat}  : 0 + 0 ≤ (36864 * n0) := by omega
theorem oz_817a3ca24d {n0 : Nat} (h0 : n0 = 1) : 0 + 1 ≤ (n0) := by omega
theorem oz_cafacf7cbb {n0 : Nat} (h0 : n0 = 1) : 0 + 36864 ≤ (36864 * n0) := by omega
theorem oz_a71ae4c02c {n0 : Nat} (h0 : n0 = 1) : (0 + 1) ≤ (n0) := by omega
theorem oz_392452387d {n0 : Nat} (h0 : n0 = 1) : (0 + 36864) ≤ (36864 * n0) := by omega
theorem oz_5e87a23678 {n0 n1 : Nat} (h0 : n1 = 1) (h1 : n0 = 0) : (0 + 1) + n0 ≤ n1 := by omega
theorem oz_63b38c6fbd {n0 n1 : Nat} (h0 : n1 = 1) (h1 : n0 = 0) : (0 + 36864) + 36864 * n0 ≤ 36864 * n1 := by omega
theorem oz_3fb7c53a0e {n0 : Nat} (h0 : n0 = 1) : (0 + 1) + 0 ≤ (n0) := by omega
theorem oz_f9fc5c2101 {n0 : Nat} (h0 : n0 = 1) : (0 + 36864) + 0 ≤ (36864 * n0) := by omega
theorem oz_06727f128b {n0 : Nat}  : 0 + (n0) ≤ (n0) := by omega
theorem oz_59d5c717d7 {n0 : Nat}  : 0 + (36864 * n0) ≤ (36864 * n0) := by omega
theorem oz_cb01867abd {n0 n1 n2 : Nat} (h0 : n0 + n2 ≤ n1) : (0 + n0) ≤ (n1) := by omega
theorem oz_9e82047430 {n0 n1 n2 : Nat} (h0 : n0 + 36864 * n2 ≤ 36864 * n1) : (0 + n0) ≤ (36864 * n1) := by omega
theorem oz_aa274e400b {n0 n1 n2 : Nat} (h0 : n0 + n1 ≤ n2) : (0 + n0) + n1 ≤ n2 := by omega
theorem oz_093c094757 {n0 n1 n2 : Nat} (h0 : n0 + 36864 * n1 ≤ 36864 * n2) : (0 + n0) + 36864 * n1 ≤ 36864 * n2 := by omega
theorem oz_0f96c12a68 {a0 : Int} (h0 : 0 ≤ a0) (h1 : a0 ≤ 31) : 0 ≤ a0 ∧ a0 < ((32 : Nat) : Int) := by omega
theorem oz_a67883325c {n0 n1 n2 : Nat} (h0 : n0 + n2 ≤ n1) : n0 ≤ (n1) := by omega
theorem oz_36dcdec57f {n0 n1 n2 : Nat} (h0 : n0 + 36864 * n2 ≤ 36864 * n1) : n0 ≤ (36864 * n1) := by omega
theorem oz_5cc5a47d1c {n0 n1 n2 : Nat} (h0 : n0 + n2 ≤ n1) : n0 + 0 ≤ (n1) := by omega
theorem oz_abaf2d8cf0 {n0 n1 n2 : Nat} (h0 : n0 + 36864 * n2 ≤ 36864 * n1) : n0 + 0 ≤ (36864 * n1) := by omega
theorem oz_ed6b1a2b55 {a0 a1 : Int} (h0 : a0 = a1) (h1 : (0 : Int) < a1) : 0 ≤ a0 := by omega
theorem oz_b9c93daaaa {a0 a1 : Int} (h0 : a0 = a1) (h1 : a1 ≤ 1600) : a0 ≤ 1600 := by omega
theorem oz_f3ebed1ad0 {a0 a1 : Int} (h0 : a0 = a1) (h1 : 0 ≤ a1) : 0 ≤ a0 := by omega
theorem oz_d790e69b3d {a0 a1 a2 a3 : Int} (h0 : a1 = a2) (h1 : a0 = a3) (h2 : a3 + a2 ≤ 1600) : a0 + a1 ≤ 1600 := by omega
theorem oz_40e4cf67f2 {a0 a1 : Int} (h0 : a0 = a1) (h1 : (0 : Int) < a1) : 1 ≤ a0 := by omega
theorem oz_1687f4cc65 {a0 a1 a2 : Int} (h0 : a2 = a1) (h1 : a0 = a2) : a0 = a1 := by omega
theorem oz_bd42429e38 {a0 : Int} (h0 : a0 = (0 : Int)) : a0 = 0 := by omega
theorem oz_82da742b77 {n0 n1 n2 : Nat} (h0 : n0 + n1 ≤ n2) : n0 + (n1) ≤ (n2) := by omega
theorem oz_ce64fae190 {n0 n1 n2 : Nat} (h0 : n0 + 36864 * n1 ≤ 36864 * n2) : n0 + (36864 * n1) ≤ (36864 * n2) := by omega
theorem oz_75577a19d3 {n0 n1 n2 n3 n4 : Nat} (h0 : n0 + n4 ≤ n3) (h1 : n1 + n2 ≤ n4) : (n0 + n1) + n2 ≤ n3 := by omega
theorem oz_9ab1dfc28b {n0 n1 n2 n3 n4 : Nat} (h0 : n0 + 36864 * n4 ≤ 36864 * n3) (h1 : n1 + 36864 * n2 ≤ 36864 * n4) : (n0 + n1) + 36864 * n2 ≤ 36864 * n3 := by omega
theorem oz_5c3cf53afe {a0 a1 : Int} (h0 : a0 = a1) (h1 : ¬ (0 : Int) < a1) : a0 ≤ 1600 := by omega
theorem oz_d50442415f {a0 a1 : Int} (h0 : a1 ≤ a0) (h1 : 0 ≤ a1) : -1 ≤ a0 := by omega
theorem m7_55 : Cond.methodLink "java/util/Arrays" 13 ⟨"java/util/Arrays", "rangeCheck", "(III)V"⟩ ∈ AL := AL_7 (List.mem_of_getElem? (i := 55) rfl) rfl
theorem m7_57 : Cond.code ⟨"java/util/Arrays", "rangeCheck", "(III)V"⟩ prog_40_method_30_code 3 (Option.none : Option Jvm.ClassFile.FieldType) ∈ AL := AL_7 (List.mem_of_getElem? (i := 57) rfl) rfl
theorem m1_14 : Cond.initialized "java/util/Arrays" ∈ AL := AL_1 (List.mem_of_getElem? (i := 14) rfl) rfl
theorem m7_56 : Cond.static ⟨"java/util/Arrays", "rangeCheck", "(III)V"⟩ ∈ AL := AL_7 (List.mem_of_getElem? (i := 56) rfl) rfl
theorem m6_129 : Cond.fieldLink "HomeSystem$RawProcess" 38 "HomeSystem$RawProcess" "pc" "I" ∈ AL := AL_6 (List.mem_of_getElem? (i := 129) rfl) rfl
theorem m8_178 : Cond.methodLink "HomeSystem$RawProcess" 103 ⟨"HomeSystem$RawProcess", "setRegister", "(II)V"⟩ ∈ AL := AL_8 (List.mem_of_getElem? (i := 178) rfl) rfl
theorem m8_181 : Cond.code ⟨"HomeSystem$RawProcess", "setRegister", "(II)V"⟩ prog_8_method_12_code 3 (Option.none : Option Jvm.ClassFile.FieldType) ∈ AL := AL_8 (List.mem_of_getElem? (i := 181) rfl) rfl
theorem ms_6_5 : Cond.selects "HomeSystem$RawProcess" ⟨"HomeSystem$RawProcess", "setRegister", "(II)V"⟩ ⟨"HomeSystem$RawProcess", "setRegister", "(II)V"⟩ ∈ AL := AL_p (q := (⟨"HomeSystem$RawProcess", "setRegister", "(II)V"⟩, 18)) (by unfold lw_privs; exact List.mem_append_right _ (List.mem_append_right _ (List.mem_append_right _ (List.mem_append_right _ (List.mem_append_right _ (List.mem_append_left _ (List.mem_of_getElem? (i := 5) rfl)))))))
theorem m8_180 : Cond.instanceMethod ⟨"HomeSystem$RawProcess", "setRegister", "(II)V"⟩ ∈ AL := AL_8 (List.mem_of_getElem? (i := 180) rfl) rfl
theorem m6_130 : Cond.fieldLink "HomeSystem$RawProcess" 64 "HomeSystem$RawProcess" "next" "I" ∈ AL := AL_6 (List.mem_of_getElem? (i := 130) rfl) rfl
theorem m8_170 : Cond.methodLink "HomeSystem$RawProcess" 56 ⟨"HomeSystem$RawProcess", "finish", "(II)V"⟩ ∈ AL := AL_8 (List.mem_of_getElem? (i := 170) rfl) rfl
theorem m8_89 : Cond.code ⟨"HomeSystem$AnyProcess", "finish", "(II)V"⟩ prog_2_method_3_code 3 (Option.none : Option Jvm.ClassFile.FieldType) ∈ AL := AL_8 (List.mem_of_getElem? (i := 89) rfl) rfl
theorem m1_33 : Cond.initialized "HomeSystem$AnyProcess" ∈ AL := AL_1 (List.mem_of_getElem? (i := 33) rfl) rfl
theorem m8_171 : Cond.sameMethod "HomeSystem$RawProcess" "HomeSystem$AnyProcess" "finish" "(II)V" ∈ AL := AL_8 (List.mem_of_getElem? (i := 171) rfl) rfl
theorem m8_85 : Cond.instanceMethod ⟨"HomeSystem$AnyProcess", "finish", "(II)V"⟩ ∈ AL := AL_8 (List.mem_of_getElem? (i := 85) rfl) rfl
theorem m8_173 : Cond.selects "HomeSystem$RawProcess" ⟨"HomeSystem$RawProcess", "finish", "(II)V"⟩ ⟨"HomeSystem$AnyProcess", "finish", "(II)V"⟩ ∈ AL := AL_8 (List.mem_of_getElem? (i := 173) rfl) rfl
theorem m8_186 : Cond.methodLink "HomeSystem$RawProcess" 109 ⟨"HomeSystem$RawProcess", "jump", "(II)V"⟩ ∈ AL := AL_8 (List.mem_of_getElem? (i := 186) rfl) rfl
theorem m8_189 : Cond.code ⟨"HomeSystem$RawProcess", "jump", "(II)V"⟩ prog_8_method_16_code 3 (Option.none : Option Jvm.ClassFile.FieldType) ∈ AL := AL_8 (List.mem_of_getElem? (i := 189) rfl) rfl
theorem ms_6_6 : Cond.selects "HomeSystem$RawProcess" ⟨"HomeSystem$RawProcess", "jump", "(II)V"⟩ ⟨"HomeSystem$RawProcess", "jump", "(II)V"⟩ ∈ AL := AL_p (q := (⟨"HomeSystem$RawProcess", "jump", "(II)V"⟩, 18)) (by unfold lw_privs; exact List.mem_append_right _ (List.mem_append_right _ (List.mem_append_right _ (List.mem_append_right _ (List.mem_append_right _ (List.mem_append_left _ (List.mem_of_getElem? (i := 6) rfl)))))))
theorem m8_188 : Cond.instanceMethod ⟨"HomeSystem$RawProcess", "jump", "(II)V"⟩ ∈ AL := AL_8 (List.mem_of_getElem? (i := 188) rfl) rfl
theorem m8_220 : Cond.methodLink "HomeSystem$RawProcess" 149 ⟨"HomeSystem$RawProcess", "basic", "(IIIZ)I"⟩ ∈ AL := AL_8 (List.mem_of_getElem? (i := 220) rfl) rfl
theorem m8_222 : Cond.code ⟨"HomeSystem$RawProcess", "basic", "(IIIZ)I"⟩ prog_8_method_25_code 4 (Option.some FieldType.int) ∈ AL := AL_8 (List.mem_of_getElem? (i := 222) rfl) rfl
theorem m8_221 : Cond.static ⟨"HomeSystem$RawProcess", "basic", "(IIIZ)I"⟩ ∈ AL := AL_8 (List.mem_of_getElem? (i := 221) rfl) rfl
theorem m6_164 : Cond.fieldLink "HomeSystem$RawProcess" 160 "HomeSystem$RawProcess" "first" "I" ∈ AL := AL_6 (List.mem_of_getElem? (i := 164) rfl) rfl
theorem m6_165 : Cond.sameField "HomeSystem$RawProcess" "HomeSystem$AnyProcess" "first" "I" ∈ AL := AL_6 (List.mem_of_getElem? (i := 165) rfl) rfl
theorem m6_169 : Cond.fieldLink "HomeSystem$RawProcess" 163 "HomeSystem$RawProcess" "second" "I" ∈ AL := AL_6 (List.mem_of_getElem? (i := 169) rfl) rfl
theorem m6_170 : Cond.sameField "HomeSystem$RawProcess" "HomeSystem$AnyProcess" "second" "I" ∈ AL := AL_6 (List.mem_of_getElem? (i := 170) rfl) rfl
theorem m6_156 : Cond.fieldLink "HomeSystem$RawProcess" 74 "HomeSystem$RawProcess" "which" "I" ∈ AL := AL_6 (List.mem_of_getElem? (i := 156) rfl) rfl
theorem m6_157 : Cond.sameField "HomeSystem$RawProcess" "HomeSystem$AnyProcess" "which" "I" ∈ AL := AL_6 (List.mem_of_getElem? (i := 157) rfl) rfl
theorem m6_151 : Cond.fieldLink "HomeSystem$RawProcess" 52 "HomeSystem$RawProcess" "calling" "Z" ∈ AL := AL_6 (List.mem_of_getElem? (i := 151) rfl) rfl
theorem m6_152 : Cond.sameField "HomeSystem$RawProcess" "HomeSystem$AnyProcess" "calling" "Z" ∈ AL := AL_6 (List.mem_of_getElem? (i := 152) rfl) rfl
theorem m6_131 : Cond.fieldLink "HomeSystem$RawProcess" 42 "HomeSystem$RawProcess" "meter" "I" ∈ AL := AL_6 (List.mem_of_getElem? (i := 131) rfl) rfl
theorem m8_104 : Cond.methodLink "HomeSystem$RawProcess" 60 ⟨"HomeSystem$RawProcess", "isCode", "(I)Z"⟩ ∈ AL := AL_8 (List.mem_of_getElem? (i := 104) rfl) rfl
theorem m8_106 : Cond.code ⟨"HomeSystem$RawProcess", "isCode", "(I)Z"⟩ prog_8_method_8_code 1 (Option.some FieldType.boolean) ∈ AL := AL_8 (List.mem_of_getElem? (i := 106) rfl) rfl
theorem m8_105 : Cond.static ⟨"HomeSystem$RawProcess", "isCode", "(I)Z"⟩ ∈ AL := AL_8 (List.mem_of_getElem? (i := 105) rfl) rfl
theorem m8_98 : Cond.methodLink "HomeSystem$RawProcess" 86 ⟨"HomeSystem$RawProcess", "cellAt", "(I)I"⟩ ∈ AL := AL_8 (List.mem_of_getElem? (i := 98) rfl) rfl
theorem m8_100 : Cond.code ⟨"HomeSystem$RawProcess", "cellAt", "(I)I"⟩ prog_8_method_9_code 1 (Option.some FieldType.int) ∈ AL := AL_8 (List.mem_of_getElem? (i := 100) rfl) rfl
theorem m8_99 : Cond.static ⟨"HomeSystem$RawProcess", "cellAt", "(I)I"⟩ ∈ AL := AL_8 (List.mem_of_getElem? (i := 99) rfl) rfl
theorem m6_126 : Cond.fieldLink "HomeSystem$RawProcess" 96 "HomeSystem$RawProcess" "memory" "[I" ∈ AL := AL_6 (List.mem_of_getElem? (i := 126) rfl) rfl
theorem m6_125 : Cond.fieldLink "HomeSystem$RawProcess" 15 "HomeSystem$RawProcess" "pageTimes" "[I" ∈ AL := AL_6 (List.mem_of_getElem? (i := 125) rfl) rfl
theorem m6_127 : Cond.fieldLink "HomeSystem$RawProcess" 45 "HomeSystem$RawProcess" "time" "I" ∈ AL := AL_6 (List.mem_of_getElem? (i := 127) rfl) rfl
theorem m6_128 : Cond.fieldLink "HomeSystem$RawProcess" 34 "HomeSystem$RawProcess" "words" "[I" ∈ AL := AL_6 (List.mem_of_getElem? (i := 128) rfl) rfl
theorem m8_121 : Cond.constant "HomeSystem$RawProcess" 99 (36864) ∈ AL := AL_8 (List.mem_of_getElem? (i := 121) rfl) rfl
theorem m8_122 : Cond.methodLink "HomeSystem$RawProcess" 100 ⟨"java/util/Arrays", "fill", "([IIII)V"⟩ ∈ AL := AL_8 (List.mem_of_getElem? (i := 122) rfl) rfl
theorem m7_54 : Cond.code ⟨"java/util/Arrays", "fill", "([IIII)V"⟩ prog_40_method_104_code 5 (Option.none : Option Jvm.ClassFile.FieldType) ∈ AL := AL_7 (List.mem_of_getElem? (i := 54) rfl) rfl
theorem m7_53 : Cond.static ⟨"java/util/Arrays", "fill", "([IIII)V"⟩ ∈ AL := AL_7 (List.mem_of_getElem? (i := 53) rfl) rfl
theorem m8_230 : Cond.methodLink "HomeSystem$RawProcess" 157 ⟨"HomeSystem$RawProcess", "quotient", "(III)I"⟩ ∈ AL := AL_8 (List.mem_of_getElem? (i := 230) rfl) rfl
theorem m8_232 : Cond.code ⟨"HomeSystem$RawProcess", "quotient", "(III)I"⟩ prog_8_method_27_code 8 (Option.some FieldType.int) ∈ AL := AL_8 (List.mem_of_getElem? (i := 232) rfl) rfl
theorem m8_231 : Cond.static ⟨"HomeSystem$RawProcess", "quotient", "(III)I"⟩ ∈ AL := AL_8 (List.mem_of_getElem? (i := 231) rfl) rfl
theorem m8_227 : Cond.methodLink "HomeSystem$RawProcess" 153 ⟨"HomeSystem$RawProcess", "product", "(III)I"⟩ ∈ AL := AL_8 (List.mem_of_getElem? (i := 227) rfl) rfl
theorem m8_229 : Cond.code ⟨"HomeSystem$RawProcess", "product", "(III)I"⟩ prog_8_method_26_code 3 (Option.some FieldType.int) ∈ AL := AL_8 (List.mem_of_getElem? (i := 229) rfl) rfl
theorem m8_228 : Cond.static ⟨"HomeSystem$RawProcess", "product", "(III)I"⟩ ∈ AL := AL_8 (List.mem_of_getElem? (i := 228) rfl) rfl
theorem m8_209 : Cond.methodLink "HomeSystem$RawProcess" 146 ⟨"HomeSystem$RawProcess", "isAligned", "(II)Z"⟩ ∈ AL := AL_8 (List.mem_of_getElem? (i := 209) rfl) rfl
theorem m8_211 : Cond.code ⟨"HomeSystem$RawProcess", "isAligned", "(II)Z"⟩ prog_8_method_20_code 2 (Option.some FieldType.boolean) ∈ AL := AL_8 (List.mem_of_getElem? (i := 211) rfl) rfl
theorem m8_210 : Cond.static ⟨"HomeSystem$RawProcess", "isAligned", "(II)Z"⟩ ∈ AL := AL_8 (List.mem_of_getElem? (i := 210) rfl) rfl
theorem m8_136 : Cond.methodLink "HomeSystem$RawProcess" 67 ⟨"HomeSystem$RawProcess", "wordAt", "(I)I"⟩ ∈ AL := AL_8 (List.mem_of_getElem? (i := 136) rfl) rfl
theorem m8_139 : Cond.code ⟨"HomeSystem$RawProcess", "wordAt", "(I)I"⟩ prog_8_method_10_code 4 (Option.some FieldType.int) ∈ AL := AL_8 (List.mem_of_getElem? (i := 139) rfl) rfl
theorem ms_5_14 : Cond.selects "HomeSystem$RawProcess" ⟨"HomeSystem$RawProcess", "wordAt", "(I)I"⟩ ⟨"HomeSystem$RawProcess", "wordAt", "(I)I"⟩ ∈ AL := AL_p (q := (⟨"HomeSystem$RawProcess", "wordAt", "(I)I"⟩, 18)) (by unfold lw_privs; exact List.mem_append_right _ (List.mem_append_right _ (List.mem_append_right _ (List.mem_append_right _ (List.mem_append_left _ (List.mem_of_getElem? (i := 14) rfl))))))
theorem m8_138 : Cond.instanceMethod ⟨"HomeSystem$RawProcess", "wordAt", "(I)I"⟩ ∈ AL := AL_8 (List.mem_of_getElem? (i := 138) rfl) rfl
theorem m8_117 : Cond.methodLink "HomeSystem$RawProcess" 89 ⟨"HomeSystem$RawProcess", "setCell", "(II)V"⟩ ∈ AL := AL_8 (List.mem_of_getElem? (i := 117) rfl) rfl
theorem m8_120 : Cond.code ⟨"HomeSystem$RawProcess", "setCell", "(II)V"⟩ prog_8_method_11_code 4 (Option.none : Option Jvm.ClassFile.FieldType) ∈ AL := AL_8 (List.mem_of_getElem? (i := 120) rfl) rfl
theorem ms_5_12 : Cond.selects "HomeSystem$RawProcess" ⟨"HomeSystem$RawProcess", "setCell", "(II)V"⟩ ⟨"HomeSystem$RawProcess", "setCell", "(II)V"⟩ ∈ AL := AL_p (q := (⟨"HomeSystem$RawProcess", "setCell", "(II)V"⟩, 18)) (by unfold lw_privs; exact List.mem_append_right _ (List.mem_append_right _ (List.mem_append_right _ (List.mem_append_right _ (List.mem_append_left _ (List.mem_of_getElem? (i := 12) rfl))))))
theorem m8_119 : Cond.instanceMethod ⟨"HomeSystem$RawProcess", "setCell", "(II)V"⟩ ∈ AL := AL_8 (List.mem_of_getElem? (i := 119) rfl) rfl
theorem m8_205 : Cond.methodLink "HomeSystem$RawProcess" 123 ⟨"HomeSystem$RawProcess", "load", "(III)V"⟩ ∈ AL := AL_8 (List.mem_of_getElem? (i := 205) rfl) rfl
theorem m8_208 : Cond.code ⟨"HomeSystem$RawProcess", "load", "(III)V"⟩ prog_8_method_21_code 7 (Option.none : Option Jvm.ClassFile.FieldType) ∈ AL := AL_8 (List.mem_of_getElem? (i := 208) rfl) rfl
theorem ms_6_9 : Cond.selects "HomeSystem$RawProcess" ⟨"HomeSystem$RawProcess", "load", "(III)V"⟩ ⟨"HomeSystem$RawProcess", "load", "(III)V"⟩ ∈ AL := AL_p (q := (⟨"HomeSystem$RawProcess", "load", "(III)V"⟩, 18)) (by unfold lw_privs; exact List.mem_append_right _ (List.mem_append_right _ (List.mem_append_right _ (List.mem_append_right _ (List.mem_append_right _ (List.mem_append_left _ (List.mem_of_getElem? (i := 9) rfl)))))))
theorem m8_207 : Cond.instanceMethod ⟨"HomeSystem$RawProcess", "load", "(III)V"⟩ ∈ AL := AL_8 (List.mem_of_getElem? (i := 207) rfl) rfl
theorem m8_216 : Cond.methodLink "HomeSystem$RawProcess" 129 ⟨"HomeSystem$RawProcess", "immediate", "(IIII)V"⟩ ∈ AL := AL_8 (List.mem_of_getElem? (i := 216) rfl) rfl
theorem m8_219 : Cond.code ⟨"HomeSystem$RawProcess", "immediate", "(IIII)V"⟩ prog_8_method_23_code 7 (Option.none : Option Jvm.ClassFile.FieldType) ∈ AL := AL_8 (List.mem_of_getElem? (i := 219) rfl) rfl
theorem ms_6_11 : Cond.selects "HomeSystem$RawProcess" ⟨"HomeSystem$RawProcess", "immediate", "(IIII)V"⟩ ⟨"HomeSystem$RawProcess", "immediate", "(IIII)V"⟩ ∈ AL := AL_p (q := (⟨"HomeSystem$RawProcess", "immediate", "(IIII)V"⟩, 18)) (by unfold lw_privs; exact List.mem_append_right _ (List.mem_append_right _ (List.mem_append_right _ (List.mem_append_right _ (List.mem_append_right _ (List.mem_append_left _ (List.mem_of_getElem? (i := 11) rfl)))))))
theorem m8_218 : Cond.instanceMethod ⟨"HomeSystem$RawProcess", "immediate", "(IIII)V"⟩ ∈ AL := AL_8 (List.mem_of_getElem? (i := 218) rfl) rfl
theorem m8_212 : Cond.methodLink "HomeSystem$RawProcess" 126 ⟨"HomeSystem$RawProcess", "store", "(III)V"⟩ ∈ AL := AL_8 (List.mem_of_getElem? (i := 212) rfl) rfl
theorem m8_215 : Cond.code ⟨"HomeSystem$RawProcess", "store", "(III)V"⟩ prog_8_method_22_code 7 (Option.none : Option Jvm.ClassFile.FieldType) ∈ AL := AL_8 (List.mem_of_getElem? (i := 215) rfl) rfl
theorem ms_6_10 : Cond.selects "HomeSystem$RawProcess" ⟨"HomeSystem$RawProcess", "store", "(III)V"⟩ ⟨"HomeSystem$RawProcess", "store", "(III)V"⟩ ∈ AL := AL_p (q := (⟨"HomeSystem$RawProcess", "store", "(III)V"⟩, 18)) (by unfold lw_privs; exact List.mem_append_right _ (List.mem_append_right _ (List.mem_append_right _ (List.mem_append_right _ (List.mem_append_right _ (List.mem_append_left _ (List.mem_of_getElem? (i := 10) rfl)))))))
theorem m8_214 : Cond.instanceMethod ⟨"HomeSystem$RawProcess", "store", "(III)V"⟩ ∈ AL := AL_8 (List.mem_of_getElem? (i := 214) rfl) rfl
theorem m8_223 : Cond.methodLink "HomeSystem$RawProcess" 132 ⟨"HomeSystem$RawProcess", "between", "(IIIII)V"⟩ ∈ AL := AL_8 (List.mem_of_getElem? (i := 223) rfl) rfl
theorem m8_226 : Cond.code ⟨"HomeSystem$RawProcess", "between", "(IIIII)V"⟩ prog_8_method_24_code 6 (Option.none : Option Jvm.ClassFile.FieldType) ∈ AL := AL_8 (List.mem_of_getElem? (i := 226) rfl) rfl
theorem ms_6_12 : Cond.selects "HomeSystem$RawProcess" ⟨"HomeSystem$RawProcess", "between", "(IIIII)V"⟩ ⟨"HomeSystem$RawProcess", "between", "(IIIII)V"⟩ ∈ AL := AL_p (q := (⟨"HomeSystem$RawProcess", "between", "(IIIII)V"⟩, 18)) (by unfold lw_privs; exact List.mem_append_right _ (List.mem_append_right _ (List.mem_append_right _ (List.mem_append_right _ (List.mem_append_right _ (List.mem_append_left _ (List.mem_of_getElem? (i := 12) rfl)))))))
theorem m8_225 : Cond.instanceMethod ⟨"HomeSystem$RawProcess", "between", "(IIIII)V"⟩ ∈ AL := AL_8 (List.mem_of_getElem? (i := 225) rfl) rfl
theorem m8_194 : Cond.methodLink "HomeSystem$RawProcess" 116 ⟨"HomeSystem$RawProcess", "branchDistance", "(I)I"⟩ ∈ AL := AL_8 (List.mem_of_getElem? (i := 194) rfl) rfl
theorem m8_196 : Cond.code ⟨"HomeSystem$RawProcess", "branchDistance", "(I)I"⟩ prog_8_method_15_code 1 (Option.some FieldType.int) ∈ AL := AL_8 (List.mem_of_getElem? (i := 196) rfl) rfl
theorem m8_195 : Cond.static ⟨"HomeSystem$RawProcess", "branchDistance", "(I)I"⟩ ∈ AL := AL_8 (List.mem_of_getElem? (i := 195) rfl) rfl
theorem m8_197 : Cond.methodLink "HomeSystem$RawProcess" 119 ⟨"HomeSystem$RawProcess", "branch", "(IIII)V"⟩ ∈ AL := AL_8 (List.mem_of_getElem? (i := 197) rfl) rfl
theorem m8_200 : Cond.code ⟨"HomeSystem$RawProcess", "branch", "(IIII)V"⟩ prog_8_method_18_code 6 (Option.none : Option Jvm.ClassFile.FieldType) ∈ AL := AL_8 (List.mem_of_getElem? (i := 200) rfl) rfl
theorem ms_6_8 : Cond.selects "HomeSystem$RawProcess" ⟨"HomeSystem$RawProcess", "branch", "(IIII)V"⟩ ⟨"HomeSystem$RawProcess", "branch", "(IIII)V"⟩ ∈ AL := AL_p (q := (⟨"HomeSystem$RawProcess", "branch", "(IIII)V"⟩, 18)) (by unfold lw_privs; exact List.mem_append_right _ (List.mem_append_right _ (List.mem_append_right _ (List.mem_append_right _ (List.mem_append_right _ (List.mem_append_left _ (List.mem_of_getElem? (i := 8) rfl)))))))
theorem m8_199 : Cond.instanceMethod ⟨"HomeSystem$RawProcess", "branch", "(IIII)V"⟩ ∈ AL := AL_8 (List.mem_of_getElem? (i := 199) rfl) rfl
theorem m8_190 : Cond.methodLink "HomeSystem$RawProcess" 112 ⟨"HomeSystem$RawProcess", "jumpIndirect", "(III)V"⟩ ∈ AL := AL_8 (List.mem_of_getElem? (i := 190) rfl) rfl
theorem m8_193 : Cond.code ⟨"HomeSystem$RawProcess", "jumpIndirect", "(III)V"⟩ prog_8_method_17_code 4 (Option.none : Option Jvm.ClassFile.FieldType) ∈ AL := AL_8 (List.mem_of_getElem? (i := 193) rfl) rfl
theorem ms_6_7 : Cond.selects "HomeSystem$RawProcess" ⟨"HomeSystem$RawProcess", "jumpIndirect", "(III)V"⟩ ⟨"HomeSystem$RawProcess", "jumpIndirect", "(III)V"⟩ ∈ AL := AL_p (q := (⟨"HomeSystem$RawProcess", "jumpIndirect", "(III)V"⟩, 18)) (by unfold lw_privs; exact List.mem_append_right _ (List.mem_append_right _ (List.mem_append_right _ (List.mem_append_right _ (List.mem_append_right _ (List.mem_append_left _ (List.mem_of_getElem? (i := 7) rfl)))))))
theorem m8_192 : Cond.instanceMethod ⟨"HomeSystem$RawProcess", "jumpIndirect", "(III)V"⟩ ∈ AL := AL_8 (List.mem_of_getElem? (i := 192) rfl) rfl
theorem m8_182 : Cond.methodLink "HomeSystem$RawProcess" 106 ⟨"HomeSystem$RawProcess", "jumpDistance", "(I)I"⟩ ∈ AL := AL_8 (List.mem_of_getElem? (i := 182) rfl) rfl
theorem m8_184 : Cond.code ⟨"HomeSystem$RawProcess", "jumpDistance", "(I)I"⟩ prog_8_method_14_code 1 (Option.some FieldType.int) ∈ AL := AL_8 (List.mem_of_getElem? (i := 184) rfl) rfl
theorem m8_183 : Cond.static ⟨"HomeSystem$RawProcess", "jumpDistance", "(I)I"⟩ ∈ AL := AL_8 (List.mem_of_getElem? (i := 183) rfl) rfl
theorem m8_233 : Cond.methodLink "HomeSystem$RawProcess" 136 ⟨"HomeSystem$RawProcess", "system", "(I)V"⟩ ∈ AL := AL_8 (List.mem_of_getElem? (i := 233) rfl) rfl
theorem m8_236 : Cond.code ⟨"HomeSystem$RawProcess", "system", "(I)V"⟩ prog_8_method_28_code 3 (Option.none : Option Jvm.ClassFile.FieldType) ∈ AL := AL_8 (List.mem_of_getElem? (i := 236) rfl) rfl
theorem ms_6_13 : Cond.selects "HomeSystem$RawProcess" ⟨"HomeSystem$RawProcess", "system", "(I)V"⟩ ⟨"HomeSystem$RawProcess", "system", "(I)V"⟩ ∈ AL := AL_p (q := (⟨"HomeSystem$RawProcess", "system", "(I)V"⟩, 18)) (by unfold lw_privs; exact List.mem_append_right _ (List.mem_append_right _ (List.mem_append_right _ (List.mem_append_right _ (List.mem_append_right _ (List.mem_append_left _ (List.mem_of_getElem? (i := 13) rfl)))))))
theorem m8_235 : Cond.instanceMethod ⟨"HomeSystem$RawProcess", "system", "(I)V"⟩ ∈ AL := AL_8 (List.mem_of_getElem? (i := 235) rfl) rfl
theorem m8_169 : Cond.constant "HomeSystem$RawProcess" 48 (1000000) ∈ AL := AL_8 (List.mem_of_getElem? (i := 169) rfl) rfl
theorem m6_140 : Cond.fieldLink "HomeSystem$RawProcess" 49 "HomeSystem$RawProcess" "outcome" "I" ∈ AL := AL_6 (List.mem_of_getElem? (i := 140) rfl) rfl
theorem m6_141 : Cond.sameField "HomeSystem$RawProcess" "HomeSystem$AnyProcess" "outcome" "I" ∈ AL := AL_6 (List.mem_of_getElem? (i := 141) rfl) rfl
theorem m8_174 : Cond.methodLink "HomeSystem$RawProcess" 71 ⟨"HomeSystem$RawProcess", "perform", "(I)V"⟩ ∈ AL := AL_8 (List.mem_of_getElem? (i := 174) rfl) rfl
theorem m8_177 : Cond.code ⟨"HomeSystem$RawProcess", "perform", "(I)V"⟩ prog_8_method_13_code 6 (Option.none : Option Jvm.ClassFile.FieldType) ∈ AL := AL_8 (List.mem_of_getElem? (i := 177) rfl) rfl
theorem ms_6_4 : Cond.selects "HomeSystem$RawProcess" ⟨"HomeSystem$RawProcess", "perform", "(I)V"⟩ ⟨"HomeSystem$RawProcess", "perform", "(I)V"⟩ ∈ AL := AL_p (q := (⟨"HomeSystem$RawProcess", "perform", "(I)V"⟩, 18)) (by unfold lw_privs; exact List.mem_append_right _ (List.mem_append_right _ (List.mem_append_right _ (List.mem_append_right _ (List.mem_append_right _ (List.mem_append_left _ (List.mem_of_getElem? (i := 4) rfl)))))))
theorem m8_176 : Cond.instanceMethod ⟨"HomeSystem$RawProcess", "perform", "(I)V"⟩ ∈ AL := AL_8 (List.mem_of_getElem? (i := 176) rfl) rfl
theorem m8_96 : Cond.methodLink "HomeSystem$RawProcess" 77 ⟨"java/lang/Math", "min", "(II)I"⟩ ∈ AL := AL_8 (List.mem_of_getElem? (i := 96) rfl) rfl
theorem m2_69 : Cond.code ⟨"java/lang/Math", "min", "(II)I"⟩ prog_29_method_69_code 2 (Option.some FieldType.int) ∈ AL := AL_2 (List.mem_of_getElem? (i := 69) rfl) rfl
theorem m2_68 : Cond.static ⟨"java/lang/Math", "min", "(II)I"⟩ ∈ AL := AL_2 (List.mem_of_getElem? (i := 68) rfl) rfl
theorem m1_13 : Cond.initialized "java/lang/Math" ∈ AL := AL_1 (List.mem_of_getElem? (i := 13) rfl) rfl
theorem m8_97 : Cond.methodLink "HomeSystem$RawProcess" 83 ⟨"java/lang/Math", "max", "(II)I"⟩ ∈ AL := AL_8 (List.mem_of_getElem? (i := 97) rfl) rfl
theorem m2_27 : Cond.code ⟨"java/lang/Math", "max", "(II)I"⟩ prog_29_method_65_code 2 (Option.some FieldType.int) ∈ AL := AL_2 (List.mem_of_getElem? (i := 27) rfl) rfl
theorem m2_26 : Cond.static ⟨"java/lang/Math", "max", "(II)I"⟩ ∈ AL := AL_2 (List.mem_of_getElem? (i := 26) rfl) rfl
theorem l_nz {x : Int32} (h : ¬ x.toInt = 0) {z : Int64} (e : z = x.toInt64 &&& 4294967295) : ¬ z = 0 := by
  intro hz
  apply h
  have h1 : (x.toInt64 &&& 4294967295).toBitVec.toNat = 0 := by rw [← e, hz]; rfl
  have h2 : (x.toInt64 &&& 4294967295).toBitVec.toNat = x.toInt64.toBitVec.toNat % 4294967296 := by
    show (x.toInt64.toBitVec &&& (4294967295 : Int64).toBitVec).toNat = _
    rw [BitVec.toNat_and]
    show x.toInt64.toBitVec.toNat &&& (2 ^ 32 - 1) = _
    rw [Nat.and_two_pow_sub_one_eq_mod]
  have h3 : x.toInt64.toBitVec.toInt = x.toInt := Int32.toInt_toInt64 x
  rw [BitVec.toInt_eq_toNat_cond] at h3
  have h4 := Int32.toInt_lt x
  have h5 := Int32.le_toInt x
  split at h3 <;> omega
abbrev b_Arrays_rangeCheck : ByteArray := prog_40_method_30_code
def y_Arrays_rangeCheck : MethodName := ⟨"java/util/Arrays", "rangeCheck", "(III)V"⟩
theorem d_Arrays_rangeCheck_0 : decode b_Arrays_rangeCheck 0 = .ok (.iload_n 1, 1) := by decide +kernel
theorem d_Arrays_rangeCheck_1 : decode b_Arrays_rangeCheck 1 = .ok (.iload_n 2, 1) := by decide +kernel
theorem d_Arrays_rangeCheck_2 : decode b_Arrays_rangeCheck 2 = .ok (.if_icmp .le 44, 3) := by decide +kernel
theorem d_Arrays_rangeCheck_46 : decode b_Arrays_rangeCheck 46 = .ok (.iload_n 1, 1) := by decide +kernel
theorem d_Arrays_rangeCheck_47 : decode b_Arrays_rangeCheck 47 = .ok (.ifCond .ge 12, 3) := by decide +kernel
theorem d_Arrays_rangeCheck_59 : decode b_Arrays_rangeCheck 59 = .ok (.iload_n 2, 1) := by decide +kernel
theorem d_Arrays_rangeCheck_60 : decode b_Arrays_rangeCheck 60 = .ok (.iload_n 0, 1) := by decide +kernel
theorem d_Arrays_rangeCheck_61 : decode b_Arrays_rangeCheck 61 = .ok (.if_icmp .le 12, 3) := by decide +kernel
theorem d_Arrays_rangeCheck_73 : decode b_Arrays_rangeCheck 73 = .ok (.return_, 1) := by decide +kernel
theorem q_Arrays_rangeCheck : px_y y_Arrays_rangeCheck 3 := by unfold px_y; decide +kernel
set_option maxHeartbeats 4000000 in
set_option maxRecDepth 100000 in
theorem c_Arrays_rangeCheck (l : Launch) (D : va_G) (cs : Nat → ClassId)  (p0 p1 p2 : Int32)  (g0 : 0 ≤ p1.toInt) (g1 : p1.toInt ≤ p2.toInt) (g2 : p2.toInt ≤ p0.toInt) : MetV l y_Arrays_rangeCheck b_Arrays_rangeCheck 3 D cs 0 0 (0) (0) [.int p0, .int p1, .int p2] [] (fun _ => True) (fun ps => (ps = [])) := by
  refine px_enter (by decide) (Nat.le_of_ble_eq_true rfl) ?_
  intro p e s m below meth c A ls hAe S hr hlk hnm hA hT hX hw hl
  have hl : lv_has ls 3 [(0, .int p0), (1, .int p1), (2, .int p2)] := hl
  have lp0 := Int32.le_toInt p0
  have up0 := Int32.toInt_lt p0
  have lp1 := Int32.le_toInt p1
  have up1 := Int32.toInt_lt p1
  have lp2 := Int32.le_toInt p2
  have up2 := Int32.toInt_lt p2
  refine lv_iload_n S.x S.b d_Arrays_rangeCheck_0 rfl (lv_at hl 1 rfl) ?_
  refine lv_iload_n S.x S.b d_Arrays_rangeCheck_1 rfl (lv_at hl 2 rfl) ?_
  refine lv_icmp_le (tgt := 46) S.x S.b d_Arrays_rangeCheck_2 (by decide) (fun c1 => ?_) (fun c1 => ?_)
  · have nc1 : p1.toInt ≤ p2.toInt := (i_le (x := p1) (y := p2)).mp c1
    refine lv_iload_n S.x S.b d_Arrays_rangeCheck_46 rfl (lv_at hl 1 rfl) ?_
    refine lv_if_ge (tgt := 59) S.x S.b d_Arrays_rangeCheck_47 (by decide) (fun c2 => ?_) (fun c2 => ?_)
    · have nc2 : (0 : Int) ≤ p1.toInt := (i_le (x := 0) (y := p1)).mp c2
      refine lv_iload_n S.x S.b d_Arrays_rangeCheck_59 rfl (lv_at hl 2 rfl) ?_
      refine lv_iload_n S.x S.b d_Arrays_rangeCheck_60 rfl (lv_at hl 0 rfl) ?_
      refine lv_icmp_le (tgt := 73) S.x S.b d_Arrays_rangeCheck_61 (by decide) (fun c3 => ?_) (fun c3 => ?_)
      · have nc3 : p2.toInt ≤ p0.toInt := (i_le (x := p2) (y := p0)).mp c3
        exact px_vret S hr hlk hAe hw (Nat.le_of_ble_eq_true rfl) (Nat.le_of_ble_eq_true rfl) (rfl) d_Arrays_rangeCheck_73
      · have nc3 : ¬ p2.toInt ≤ p0.toInt := mt (i_le (x := p2) (y := p0)).mpr c3
        exfalso
        omega
    · have nc2 : ¬ (0 : Int) ≤ p1.toInt := mt (i_le (x := 0) (y := p1)).mpr c2
      exfalso
      omega
  · have nc1 : ¬ p1.toInt ≤ p2.toInt := mt (i_le (x := p1) (y := p2)).mpr c1
    exfalso
    omega
abbrev b_Arrays_fill2 : ByteArray := prog_40_method_104_code
def y_Arrays_fill2 : MethodName := ⟨"java/util/Arrays", "fill", "([IIII)V"⟩
theorem d_Arrays_fill2_0 : decode b_Arrays_fill2 0 = .ok (.aload_n 0, 1) := by decide +kernel
theorem d_Arrays_fill2_1 : decode b_Arrays_fill2 1 = .ok (.arraylength, 1) := by decide +kernel
theorem d_Arrays_fill2_2 : decode b_Arrays_fill2 2 = .ok (.iload_n 1, 1) := by decide +kernel
theorem d_Arrays_fill2_3 : decode b_Arrays_fill2 3 = .ok (.iload_n 2, 1) := by decide +kernel
theorem d_Arrays_fill2_4 : decode b_Arrays_fill2 4 = .ok (.invokestatic 13, 3) := by decide +kernel
theorem d_Arrays_fill2_7 : decode b_Arrays_fill2 7 = .ok (.iload_n 1, 1) := by decide +kernel
theorem d_Arrays_fill2_8 : decode b_Arrays_fill2 8 = .ok (.istore 4, 2) := by decide +kernel
theorem d_Arrays_fill2_10 : decode b_Arrays_fill2 10 = .ok (.iload 4, 2) := by decide +kernel
theorem d_Arrays_fill2_12 : decode b_Arrays_fill2 12 = .ok (.iload_n 2, 1) := by decide +kernel
theorem d_Arrays_fill2_13 : decode b_Arrays_fill2 13 = .ok (.if_icmp .ge 14, 3) := by decide +kernel
theorem d_Arrays_fill2_16 : decode b_Arrays_fill2 16 = .ok (.aload_n 0, 1) := by decide +kernel
theorem d_Arrays_fill2_17 : decode b_Arrays_fill2 17 = .ok (.iload 4, 2) := by decide +kernel
theorem d_Arrays_fill2_19 : decode b_Arrays_fill2 19 = .ok (.iload_n 3, 1) := by decide +kernel
theorem d_Arrays_fill2_20 : decode b_Arrays_fill2 20 = .ok (.iastore, 1) := by decide +kernel
theorem d_Arrays_fill2_21 : decode b_Arrays_fill2 21 = .ok (.iinc 4 1, 3) := by decide +kernel
theorem d_Arrays_fill2_24 : decode b_Arrays_fill2 24 = .ok (.goto (-14), 3) := by decide +kernel
theorem d_Arrays_fill2_27 : decode b_Arrays_fill2 27 = .ok (.return_, 1) := by decide +kernel
theorem q_Arrays_fill2 : px_y y_Arrays_fill2 4 := by unfold px_y; decide +kernel
set_option maxHeartbeats 4000000 in
set_option maxRecDepth 100000 in
theorem c_Arrays_fill4 (l : Launch) (D : va_G) (cs : Nat → ClassId) (q : Nat) (nn : Nat) (ca : Nat → Int32) (p0 p1 p2 : Int32)  (g0 : nn ≤ 1000000) (g1 : 0 ≤ p0.toInt) (g2 : p0.toInt ≤ p1.toInt) (g3 : p1.toInt ≤ (nn : Int)) : MetV l y_Arrays_fill2 b_Arrays_fill2 5 D cs 1 30 (0) (0) [.ref q, .int p0, .int p1, .int p2] [[(q, .inl (cs 0, nn, .inl ca))]] (fun _ => True) (fun ps => ∃ (ca' : Nat → Int32), (ps = [[(q, .inl (cs 0, nn, .inl ca'))]])) := by
  refine px_enter (by decide) (Nat.le_of_ble_eq_true rfl) ?_
  intro p e s m below meth c A ls hAe S hr hlk hnm hA hT hX hw hl
  have hl : lv_has ls 5 [(0, .ref q), (1, .int p0), (2, .int p1), (3, .int p2)] := hl
  have lp0 := Int32.le_toInt p0
  have up0 := Int32.toInt_lt p0
  have lp1 := Int32.le_toInt p1
  have up1 := Int32.toInt_lt p1
  have lp2 := Int32.le_toInt p2
  have up2 := Int32.toInt_lt p2
  have hnn : (nI nn).toInt = (nn : Int) := nI_toInt (by omega)
  have J10 : ∀ (n : Nat) (ca_10 : Nat → Int32) (x10_4 : Int32) (H : Heap) (locs : List Loc) (ls : Array Slot), (0 ≤ x10_4.toInt) → (x10_4.toInt ≤ p1.toInt) → p1.toInt+1-x10_4.toInt < (n : Int) → pw D A s.heap H locs [[(q, .inl (cs 0, nn, .inl ca_10))]] → lv_has ls 5 [(0, .ref q), (1, .int p0), (2, .int p1), (3, .int p2), (4, .int x10_4)] → W p l e { frames := 1, cells := 0, slots := 0, locals := 30 } s m [.ref q, .int p0, .int p1, .int p2].toArray below meth c H locs 0 0 (MQ below (va_Qv (fun ps => ∃ (ca' : Nat → Int32), (ps = [[(q, .inl (cs 0, nn, .inl ca'))]])) (pc_B D (va_A ([[(q, .inl (cs 0, nn, .inl ca))]] : List va_W).flatten s.heap.size)) (va_A ([[(q, .inl (cs 0, nn, .inl ca))]] : List va_W).flatten s.heap.size)) [.ref q, .int p0, .int p1, .int p2].toArray s 0 0 A) (F0 m 10 ls []) := by
    intro n
    induction n with
    | zero =>
      intro ca_10 x10_4 H locs ls k10_0 k10_1 hm hw hl
      have lx10_4 := Int32.le_toInt x10_4
      have ux10_4 := Int32.toInt_lt x10_4
      exact absurd hm (by omega)
    | succ n ih =>
      intro ca_10 x10_4 H locs ls k10_0 k10_1 hm hw hl
      have lx10_4 := Int32.le_toInt x10_4
      have ux10_4 := Int32.toInt_lt x10_4
      refine lv_iload S.x S.b d_Arrays_fill2_10 (lv_at hl 4 rfl) ?_
      refine lv_iload_n S.x S.b d_Arrays_fill2_12 rfl (lv_at hl 2 rfl) ?_
      refine lv_icmp_ge (tgt := 27) S.x S.b d_Arrays_fill2_13 (by decide) (fun c1 => ?_) (fun c1 => ?_)
      · have nc1 : p1.toInt ≤ x10_4.toInt := (i_le (x := p1) (y := x10_4)).mp c1
        exact px_vret S hr hlk hAe hw (Nat.le_of_ble_eq_true rfl) (Nat.le_of_ble_eq_true rfl) (⟨ca_10, rfl⟩) d_Arrays_fill2_27
      · have nc1 : ¬ p1.toInt ≤ x10_4.toInt := mt (i_le (x := p1) (y := x10_4)).mpr c1
        refine lv_aload_n S.x S.b d_Arrays_fill2_16 rfl (lv_at hl 0 rfl) ?_
        refine lv_iload S.x S.b d_Arrays_fill2_17 (lv_at hl 4 rfl) ?_
        refine lv_iload_n S.x S.b d_Arrays_fill2_19 rfl (lv_at hl 3 rfl) ?_
        refine px_iast S hT hw 0 0 (n := nn) (f := ca_10) (x := x10_4) (y := p2) rfl rfl (vp_in_iff.mpr (by constructor <;> omega)) d_Arrays_fill2_20 (w' := [(q, .inl (cs 0, nn, .inl (upd ca_10 x10_4.toNatClampNeg p2)))]) (ps' := [[(q, .inl (cs 0, nn, .inl (upd ca_10 x10_4.toNatClampNeg p2)))]]) rfl rfl (fun H locs hw => ?_)
        obtain ⟨z2, ez2⟩ : ∃ y : Int32, y = x10_4 + 1 := ⟨_, rfl⟩
        have tz2 : z2.toInt = (x10_4.toInt + 1 + 2147483648) % 4294967296 - 2147483648 := by rw [ez2]; exact i_add x10_4 1
        have lz2 := Int32.le_toInt z2
        have uz2 := Int32.toInt_lt z2
        refine lv_iinc (v := z2) (lv' := [(4, .int z2), (0, .ref q), (1, .int p0), (2, .int p1), (3, .int p2)]) S.x S.b d_Arrays_fill2_21 hl (k := 4) rfl (by rw [ez2]; rfl) (by decide) rfl (fun ls hl => ?_)
        refine lv_goto (tgt := 10) S.x S.b d_Arrays_fill2_24 (by decide) ?_
        exact ih (upd ca_10 x10_4.toNatClampNeg p2) z2 _ _ ls (show 0 ≤ z2.toInt from by first | with_reducible rfl | with_reducible assumption | omega) (show z2.toInt ≤ p1.toInt from by first | with_reducible rfl | with_reducible assumption | omega) (show p1.toInt+1-z2.toInt < (n : Int) from by first | with_reducible rfl | with_reducible assumption | omega) hw (lv_sub hl [1, 2, 3, 4, 0] rfl)
  refine lv_aload_n S.x S.b d_Arrays_fill2_0 rfl (lv_at hl 0 rfl) ?_
  refine px_len S hT hw 0 0 0 rfl rfl rfl (v := (nI nn)) rfl d_Arrays_fill2_1 ?_
  refine lv_iload_n S.x S.b d_Arrays_fill2_2 rfl (lv_at hl 1 rfl) ?_
  refine lv_iload_n S.x S.b d_Arrays_fill2_3 rfl (lv_at hl 2 rfl) ?_
  first | refine px_callv (pr := [[(q, .inl (cs 0, nn, .inl ca))]]) (px_runS (As := [.int (nI nn), .int p0, .int p1]) (rest := []) S (c_Arrays_rangeCheck l D cs  (nI nn) p0 p1  (show 0 ≤ p0.toInt from g1) (show p0.toInt ≤ p1.toInt from g2) (show p1.toInt ≤ (nI nn).toInt from (oz_2af7339bd5 g3 hnn)) _) hT (pr := [[(q, .inl (cs 0, nn, .inl ca))]]) (pcs := []) hw px_X.tt m7_57 m7_55 m7_56 m1_14 q_Arrays_rangeCheck ⟨Nat.le_of_ble_eq_true rfl, Nat.le_of_ble_eq_true rfl⟩ hl.1 rfl (Nat.le_of_ble_eq_true rfl) d_Arrays_fill2_4 ⟨Nat.le_of_ble_eq_true rfl, Nat.le_of_ble_eq_true rfl⟩) hw hA (fun p3 H locs hp3 hw => ?_) | refine px_callv (pr := [[(q, .inl (cs 0, nn, .inl ca))]]) (px_runS (As := [.int (nI nn), .int p0, .int p1]) (rest := []) S (c_Arrays_rangeCheck l D cs  (nI nn) p0 p1  (show 0 ≤ p0.toInt from by first | exact g1 | omega) (show p0.toInt ≤ p1.toInt from by first | exact g2 | omega) (show p1.toInt ≤ (nI nn).toInt from by first | exact oz_2af7339bd5 g3 hnn | omega) _) hT (pr := [[(q, .inl (cs 0, nn, .inl ca))]]) (pcs := []) hw px_X.tt m7_57 m7_55 m7_56 m1_14 q_Arrays_rangeCheck ⟨Nat.le_of_ble_eq_true rfl, Nat.le_of_ble_eq_true rfl⟩ hl.1 rfl (Nat.le_of_ble_eq_true rfl) d_Arrays_fill2_4 ⟨Nat.le_of_ble_eq_true rfl, Nat.le_of_ble_eq_true rfl⟩) hw hA (fun p3 H locs hp3 hw => ?_)
  subst hp3
  refine lv_iload_n S.x S.b d_Arrays_fill2_7 rfl (lv_at hl 1 rfl) ?_
  refine lv_istore (lv' := [(4, .int p0), (0, .ref q), (1, .int p0), (2, .int p1), (3, .int p2)]) S.x S.b d_Arrays_fill2_8 hl (by decide) rfl (fun ls hl => ?_)
  first | exact J10 ((p1.toInt+1-p0.toInt).toNat + 1) ca p0 _ _ ls (show 0 ≤ p0.toInt from g1) (show p0.toInt ≤ p1.toInt from g2) (show p1.toInt+1-p0.toInt < ((((p1.toInt+1-p0.toInt).toNat + 1 : Nat) : Int) : Int) from oz_natlt) hw (lv_sub hl [1, 2, 3, 4, 0] rfl) | exact J10 ((p1.toInt+1-p0.toInt).toNat + 1) ca p0 _ _ ls (show 0 ≤ p0.toInt from by first | exact g1 | omega) (show p0.toInt ≤ p1.toInt from by first | exact g2 | omega) (show p1.toInt+1-p0.toInt < ((((p1.toInt+1-p0.toInt).toNat + 1 : Nat) : Int) : Int) from by first | exact oz_natlt | omega) hw (lv_sub hl [1, 2, 3, 4, 0] rfl)
abbrev b_Raw_quotient : ByteArray := prog_8_method_27_code
def y_Raw_quotient : MethodName := ⟨"HomeSystem$RawProcess", "quotient", "(III)I"⟩
theorem d_Raw_quotient_0 : decode b_Raw_quotient 0 = .ok (.iload_n 0, 1) := by decide +kernel
theorem d_Raw_quotient_1 : decode b_Raw_quotient 1 = .ok (.bipush 6, 2) := by decide +kernel
theorem d_Raw_quotient_3 : decode b_Raw_quotient 3 = .ok (.if_icmp .lt 7, 3) := by decide +kernel
theorem d_Raw_quotient_6 : decode b_Raw_quotient 6 = .ok (.iconst 1, 1) := by decide +kernel
theorem d_Raw_quotient_7 : decode b_Raw_quotient 7 = .ok (.goto 4, 3) := by decide +kernel
theorem d_Raw_quotient_10 : decode b_Raw_quotient 10 = .ok (.iconst 0, 1) := by decide +kernel
theorem d_Raw_quotient_11 : decode b_Raw_quotient 11 = .ok (.istore_n 3, 1) := by decide +kernel
theorem d_Raw_quotient_12 : decode b_Raw_quotient 12 = .ok (.iload_n 2, 1) := by decide +kernel
theorem d_Raw_quotient_13 : decode b_Raw_quotient 13 = .ok (.ifCond .ne 13, 3) := by decide +kernel
theorem d_Raw_quotient_16 : decode b_Raw_quotient 16 = .ok (.iload_n 3, 1) := by decide +kernel
theorem d_Raw_quotient_17 : decode b_Raw_quotient 17 = .ok (.ifCond .eq 7, 3) := by decide +kernel
theorem d_Raw_quotient_20 : decode b_Raw_quotient 20 = .ok (.iload_n 1, 1) := by decide +kernel
theorem d_Raw_quotient_21 : decode b_Raw_quotient 21 = .ok (.goto 4, 3) := by decide +kernel
theorem d_Raw_quotient_24 : decode b_Raw_quotient 24 = .ok (.iconst (-1), 1) := by decide +kernel
theorem d_Raw_quotient_25 : decode b_Raw_quotient 25 = .ok (.ireturn, 1) := by decide +kernel
theorem d_Raw_quotient_26 : decode b_Raw_quotient 26 = .ok (.iload_n 0, 1) := by decide +kernel
theorem d_Raw_quotient_27 : decode b_Raw_quotient 27 = .ok (.iconst 1, 1) := by decide +kernel
theorem d_Raw_quotient_28 : decode b_Raw_quotient 28 = .ok (.iand, 1) := by decide +kernel
theorem d_Raw_quotient_29 : decode b_Raw_quotient 29 = .ok (.ifCond .ne 17, 3) := by decide +kernel
theorem d_Raw_quotient_32 : decode b_Raw_quotient 32 = .ok (.iload_n 3, 1) := by decide +kernel
theorem d_Raw_quotient_33 : decode b_Raw_quotient 33 = .ok (.ifCond .eq 9, 3) := by decide +kernel
theorem d_Raw_quotient_36 : decode b_Raw_quotient 36 = .ok (.iload_n 1, 1) := by decide +kernel
theorem d_Raw_quotient_37 : decode b_Raw_quotient 37 = .ok (.iload_n 2, 1) := by decide +kernel
theorem d_Raw_quotient_38 : decode b_Raw_quotient 38 = .ok (.irem, 1) := by decide +kernel
theorem d_Raw_quotient_39 : decode b_Raw_quotient 39 = .ok (.goto 6, 3) := by decide +kernel
theorem d_Raw_quotient_42 : decode b_Raw_quotient 42 = .ok (.iload_n 1, 1) := by decide +kernel
theorem d_Raw_quotient_43 : decode b_Raw_quotient 43 = .ok (.iload_n 2, 1) := by decide +kernel
theorem d_Raw_quotient_44 : decode b_Raw_quotient 44 = .ok (.idiv, 1) := by decide +kernel
theorem d_Raw_quotient_45 : decode b_Raw_quotient 45 = .ok (.ireturn, 1) := by decide +kernel
theorem d_Raw_quotient_46 : decode b_Raw_quotient 46 = .ok (.iload_n 1, 1) := by decide +kernel
theorem d_Raw_quotient_47 : decode b_Raw_quotient 47 = .ok (.i2l, 1) := by decide +kernel
theorem d_Raw_quotient_48 : decode b_Raw_quotient 48 = .ok (.ldc2_w 144, 3) := by decide +kernel
theorem d_Raw_quotient_51 : decode b_Raw_quotient 51 = .ok (.land, 1) := by decide +kernel
theorem d_Raw_quotient_52 : decode b_Raw_quotient 52 = .ok (.lstore 4, 2) := by decide +kernel
theorem d_Raw_quotient_54 : decode b_Raw_quotient 54 = .ok (.iload_n 2, 1) := by decide +kernel
theorem d_Raw_quotient_55 : decode b_Raw_quotient 55 = .ok (.i2l, 1) := by decide +kernel
theorem d_Raw_quotient_56 : decode b_Raw_quotient 56 = .ok (.ldc2_w 144, 3) := by decide +kernel
theorem d_Raw_quotient_59 : decode b_Raw_quotient 59 = .ok (.land, 1) := by decide +kernel
theorem d_Raw_quotient_60 : decode b_Raw_quotient 60 = .ok (.lstore 6, 2) := by decide +kernel
theorem d_Raw_quotient_62 : decode b_Raw_quotient 62 = .ok (.iload_n 3, 1) := by decide +kernel
theorem d_Raw_quotient_63 : decode b_Raw_quotient 63 = .ok (.ifCond .eq 11, 3) := by decide +kernel
theorem d_Raw_quotient_66 : decode b_Raw_quotient 66 = .ok (.lload 4, 2) := by decide +kernel
theorem d_Raw_quotient_68 : decode b_Raw_quotient 68 = .ok (.lload 6, 2) := by decide +kernel
theorem d_Raw_quotient_70 : decode b_Raw_quotient 70 = .ok (.lrem, 1) := by decide +kernel
theorem d_Raw_quotient_71 : decode b_Raw_quotient 71 = .ok (.goto 8, 3) := by decide +kernel
theorem d_Raw_quotient_74 : decode b_Raw_quotient 74 = .ok (.lload 4, 2) := by decide +kernel
theorem d_Raw_quotient_76 : decode b_Raw_quotient 76 = .ok (.lload 6, 2) := by decide +kernel
theorem d_Raw_quotient_78 : decode b_Raw_quotient 78 = .ok (.ldiv, 1) := by decide +kernel
theorem d_Raw_quotient_79 : decode b_Raw_quotient 79 = .ok (.l2i, 1) := by decide +kernel
theorem d_Raw_quotient_80 : decode b_Raw_quotient 80 = .ok (.ireturn, 1) := by decide +kernel
theorem q_Raw_quotient : px_y y_Raw_quotient 3 := by unfold px_y; decide +kernel
set_option maxHeartbeats 4000000 in
set_option maxRecDepth 100000 in
theorem c_Raw_quotient (l : Launch) (D : va_G) (cs : Nat → ClassId)  (p0 p1 p2 : Int32)   : MetI l y_Raw_quotient b_Raw_quotient 8 (.int) D cs 0 0 (0) (0) [.int p0, .int p1, .int p2] [] (fun _ => True) (fun v ps => (ps = [])) := by
  refine px_enter (by decide) (Nat.le_of_ble_eq_true rfl) ?_
  intro p e s m below meth c A ls hAe S hr hlk hnm hA hT hX hw hl
  have hl : lv_has ls 8 [(0, .int p0), (1, .int p1), (2, .int p2)] := hl
  have lp0 := Int32.le_toInt p0
  have up0 := Int32.toInt_lt p0
  have lp1 := Int32.le_toInt p1
  have up1 := Int32.toInt_lt p1
  have lp2 := Int32.le_toInt p2
  have up2 := Int32.toInt_lt p2
  have cstm1 : ((-1) : Int32).toInt = (-1) := rfl
  have cst0 : (0 : Int32).toInt = 0 := rfl
  have cst1 : (1 : Int32).toInt = 1 := rfl
  have cst6 : (6 : Int32).toInt = 6 := rfl
  refine lv_iload_n S.x S.b d_Raw_quotient_0 rfl (lv_at hl 0 rfl) ?_
  refine lv_bipush (v := 6) S.x S.b d_Raw_quotient_1 (by decide) ?_
  refine lv_icmp_lt (tgt := 10) S.x S.b d_Raw_quotient_3 (by decide) (fun c1 => ?_) (fun c1 => ?_)
  · have nc1 : p0.toInt < (6 : Int) := (i_lt (x := p0) (y := 6)).mp c1
    refine lv_iconst (v := 0) S.x S.b d_Raw_quotient_10 (by decide) ?_
    refine lv_istore_n (lv' := [(3, .int 0), (0, .int p0), (1, .int p1), (2, .int p2)]) S.x S.b d_Raw_quotient_11 rfl hl (by decide) rfl (fun ls hl => ?_)
    refine lv_iload_n S.x S.b d_Raw_quotient_12 rfl (lv_at hl 3 rfl) ?_
    refine lv_if_ne (tgt := 26) S.x S.b d_Raw_quotient_13 (by decide) (fun c2 => ?_) (fun c2 => ?_)
    · have nc2 : ¬ p2.toInt = (0 : Int) := mt (i_eq (x := p2) (y := 0)).mpr c2
      refine lv_iload_n S.x S.b d_Raw_quotient_26 rfl (lv_at hl 1 rfl) ?_
      refine lv_iconst (v := 1) S.x S.b d_Raw_quotient_27 (by decide) ?_
      refine lv_iand S.x S.b d_Raw_quotient_28 ?_
      refine lv_topi (fun z3 ez3 => ?_)
      have lz3 := Int32.le_toInt z3
      have uz3 := Int32.toInt_lt z3
      have bz3 := i_andm p0 (m := 1) 1 (by decide) (by decide)
      rw [← ez3] at bz3
      have wz3 : 0 ≤ z3.toInt ∧ z3.toInt ≤ 1 := by simp only [Nat.reducePow, Int.reducePow] at bz3; omega
      refine lv_if_ne (tgt := 46) S.x S.b d_Raw_quotient_29 (by decide) (fun c4 => ?_) (fun c4 => ?_)
      · have nc4 : ¬ z3.toInt = (0 : Int) := mt (i_eq (x := z3) (y := 0)).mpr c4
        refine lv_iload_n S.x S.b d_Raw_quotient_46 rfl (lv_at hl 2 rfl) ?_
        refine lv_i2l S.x S.b d_Raw_quotient_47 rfl ?_
        refine lv_ldc2 (v := 4294967295) S.x S.b S.own (S.w m8_204) d_Raw_quotient_48 ?_
        refine lv_land S.x S.b d_Raw_quotient_51 ?_
        refine lv_topl (fun z5 ez5 => ?_)
        refine lv_lstore (lv' := [(4, .long z5), (3, .int 0), (0, .int p0), (1, .int p1), (2, .int p2)]) S.x S.b d_Raw_quotient_52 hl (by decide) rfl (fun ls hl => ?_)
        refine lv_iload_n S.x S.b d_Raw_quotient_54 rfl (lv_at hl 4 rfl) ?_
        refine lv_i2l S.x S.b d_Raw_quotient_55 rfl ?_
        refine lv_ldc2 (v := 4294967295) S.x S.b S.own (S.w m8_204) d_Raw_quotient_56 ?_
        refine lv_land S.x S.b d_Raw_quotient_59 ?_
        refine lv_topl (fun z6 ez6 => ?_)
        refine lv_lstore (lv' := [(6, .long z6), (4, .long z5), (3, .int 0), (0, .int p0), (1, .int p1), (2, .int p2)]) S.x S.b d_Raw_quotient_60 hl (by decide) rfl (fun ls hl => ?_)
        refine lv_iload_n S.x S.b d_Raw_quotient_62 rfl (lv_at hl 2 rfl) ?_
        refine lv_if_eq (tgt := 74) S.x S.b d_Raw_quotient_63 (by decide) (fun c7 => ?_) (fun c7 => ?_)
        ·
          refine lv_lload S.x S.b d_Raw_quotient_74 (lv_at hl 1 rfl) ?_
          refine lv_lload S.x S.b d_Raw_quotient_76 (lv_at hl 0 rfl) ?_
          refine lv_ldiv S.x S.b d_Raw_quotient_78 (l_nz (x := p2) (by omega) ez6) ?_
          refine lv_topl (fun z8 ez8 => ?_)
          refine lv_l2i S.x S.b d_Raw_quotient_79 rfl ?_
          refine lv_topi (fun z9 ez9 => ?_)
          have lz9 := Int32.le_toInt z9
          have uz9 := Int32.toInt_lt z9
          exact px_iret (v := z9) S hr rfl hlk hAe hw (Nat.le_of_ble_eq_true rfl) (Nat.le_of_ble_eq_true rfl) (rfl) d_Raw_quotient_80
        · exact absurd c7 (by decide)
      · have nc4 : z3.toInt = (0 : Int) := (i_eq (x := z3) (y := 0)).mp c4
        refine lv_iload_n S.x S.b d_Raw_quotient_32 rfl (lv_at hl 0 rfl) ?_
        refine lv_if_eq (tgt := 42) S.x S.b d_Raw_quotient_33 (by decide) (fun c10 => ?_) (fun c10 => ?_)
        ·
          refine lv_iload_n S.x S.b d_Raw_quotient_42 rfl (lv_at hl 2 rfl) ?_
          refine lv_iload_n S.x S.b d_Raw_quotient_43 rfl (lv_at hl 3 rfl) ?_
          refine lv_idiv S.x S.b d_Raw_quotient_44 (fun hz0 => by have hz1 := i_eq.mp hz0; omega) ?_
          refine lv_topi (fun z11 ez11 => ?_)
          have lz11 := Int32.le_toInt z11
          have uz11 := Int32.toInt_lt z11
          exact px_iret (v := z11) S hr rfl hlk hAe hw (Nat.le_of_ble_eq_true rfl) (Nat.le_of_ble_eq_true rfl) (rfl) d_Raw_quotient_45
        · exact absurd c10 (by decide)
    · have nc2 : p2.toInt = (0 : Int) := (i_eq (x := p2) (y := 0)).mp c2
      refine lv_iload_n S.x S.b d_Raw_quotient_16 rfl (lv_at hl 0 rfl) ?_
      refine lv_if_eq (tgt := 24) S.x S.b d_Raw_quotient_17 (by decide) (fun c12 => ?_) (fun c12 => ?_)
      ·
        refine lv_iconst (v := (-1)) S.x S.b d_Raw_quotient_24 (by decide) ?_
        exact px_iret (v := (-1)) S hr rfl hlk hAe hw (Nat.le_of_ble_eq_true rfl) (Nat.le_of_ble_eq_true rfl) (rfl) d_Raw_quotient_25
      · exact absurd c12 (by decide)
  · have nc1 : ¬ p0.toInt < (6 : Int) := mt (i_lt (x := p0) (y := 6)).mpr c1
    refine lv_iconst (v := 1) S.x S.b d_Raw_quotient_6 (by decide) ?_
    refine lv_goto (tgt := 11) S.x S.b d_Raw_quotient_7 (by decide) ?_
    refine lv_istore_n (lv' := [(3, .int 1), (0, .int p0), (1, .int p1), (2, .int p2)]) S.x S.b d_Raw_quotient_11 rfl hl (by decide) rfl (fun ls hl => ?_)
    refine lv_iload_n S.x S.b d_Raw_quotient_12 rfl (lv_at hl 3 rfl) ?_
    refine lv_if_ne (tgt := 26) S.x S.b d_Raw_quotient_13 (by decide) (fun c13 => ?_) (fun c13 => ?_)
    · have nc13 : ¬ p2.toInt = (0 : Int) := mt (i_eq (x := p2) (y := 0)).mpr c13
      refine lv_iload_n S.x S.b d_Raw_quotient_26 rfl (lv_at hl 1 rfl) ?_
      refine lv_iconst (v := 1) S.x S.b d_Raw_quotient_27 (by decide) ?_
      refine lv_iand S.x S.b d_Raw_quotient_28 ?_
      refine lv_topi (fun z14 ez14 => ?_)
      have lz14 := Int32.le_toInt z14
      have uz14 := Int32.toInt_lt z14
      have bz14 := i_andm p0 (m := 1) 1 (by decide) (by decide)
      rw [← ez14] at bz14
      have wz14 : 0 ≤ z14.toInt ∧ z14.toInt ≤ 1 := by simp only [Nat.reducePow, Int.reducePow] at bz14; omega
      refine lv_if_ne (tgt := 46) S.x S.b d_Raw_quotient_29 (by decide) (fun c15 => ?_) (fun c15 => ?_)
      · have nc15 : ¬ z14.toInt = (0 : Int) := mt (i_eq (x := z14) (y := 0)).mpr c15
        refine lv_iload_n S.x S.b d_Raw_quotient_46 rfl (lv_at hl 2 rfl) ?_
        refine lv_i2l S.x S.b d_Raw_quotient_47 rfl ?_
        refine lv_ldc2 (v := 4294967295) S.x S.b S.own (S.w m8_204) d_Raw_quotient_48 ?_
        refine lv_land S.x S.b d_Raw_quotient_51 ?_
        refine lv_topl (fun z16 ez16 => ?_)
        refine lv_lstore (lv' := [(4, .long z16), (3, .int 1), (0, .int p0), (1, .int p1), (2, .int p2)]) S.x S.b d_Raw_quotient_52 hl (by decide) rfl (fun ls hl => ?_)
        refine lv_iload_n S.x S.b d_Raw_quotient_54 rfl (lv_at hl 4 rfl) ?_
        refine lv_i2l S.x S.b d_Raw_quotient_55 rfl ?_
        refine lv_ldc2 (v := 4294967295) S.x S.b S.own (S.w m8_204) d_Raw_quotient_56 ?_
        refine lv_land S.x S.b d_Raw_quotient_59 ?_
        refine lv_topl (fun z17 ez17 => ?_)
        refine lv_lstore (lv' := [(6, .long z17), (4, .long z16), (3, .int 1), (0, .int p0), (1, .int p1), (2, .int p2)]) S.x S.b d_Raw_quotient_60 hl (by decide) rfl (fun ls hl => ?_)
        refine lv_iload_n S.x S.b d_Raw_quotient_62 rfl (lv_at hl 2 rfl) ?_
        refine lv_if_eq (tgt := 74) S.x S.b d_Raw_quotient_63 (by decide) (fun c18 => ?_) (fun c18 => ?_)
        · exact absurd c18 (by decide)
        ·
          refine lv_lload S.x S.b d_Raw_quotient_66 (lv_at hl 1 rfl) ?_
          refine lv_lload S.x S.b d_Raw_quotient_68 (lv_at hl 0 rfl) ?_
          refine lv_lrem S.x S.b d_Raw_quotient_70 (l_nz (x := p2) (by omega) ez17) ?_
          refine lv_topl (fun z19 ez19 => ?_)
          refine lv_goto (tgt := 79) S.x S.b d_Raw_quotient_71 (by decide) ?_
          refine lv_l2i S.x S.b d_Raw_quotient_79 rfl ?_
          refine lv_topi (fun z20 ez20 => ?_)
          have lz20 := Int32.le_toInt z20
          have uz20 := Int32.toInt_lt z20
          exact px_iret (v := z20) S hr rfl hlk hAe hw (Nat.le_of_ble_eq_true rfl) (Nat.le_of_ble_eq_true rfl) (rfl) d_Raw_quotient_80
      · have nc15 : z14.toInt = (0 : Int) := (i_eq (x := z14) (y := 0)).mp c15
        refine lv_iload_n S.x S.b d_Raw_quotient_32 rfl (lv_at hl 0 rfl) ?_
        refine lv_if_eq (tgt := 42) S.x S.b d_Raw_quotient_33 (by decide) (fun c21 => ?_) (fun c21 => ?_)
        · exact absurd c21 (by decide)
        ·
          refine lv_iload_n S.x S.b d_Raw_quotient_36 rfl (lv_at hl 2 rfl) ?_
          refine lv_iload_n S.x S.b d_Raw_quotient_37 rfl (lv_at hl 3 rfl) ?_
          refine lv_irem S.x S.b d_Raw_quotient_38 (fun hz0 => by have hz1 := i_eq.mp hz0; omega) ?_
          refine lv_topi (fun z22 ez22 => ?_)
          have lz22 := Int32.le_toInt z22
          have uz22 := Int32.toInt_lt z22
          refine lv_goto (tgt := 45) S.x S.b d_Raw_quotient_39 (by decide) ?_
          exact px_iret (v := z22) S hr rfl hlk hAe hw (Nat.le_of_ble_eq_true rfl) (Nat.le_of_ble_eq_true rfl) (rfl) d_Raw_quotient_45
    · have nc13 : p2.toInt = (0 : Int) := (i_eq (x := p2) (y := 0)).mp c13
      refine lv_iload_n S.x S.b d_Raw_quotient_16 rfl (lv_at hl 0 rfl) ?_
      refine lv_if_eq (tgt := 24) S.x S.b d_Raw_quotient_17 (by decide) (fun c23 => ?_) (fun c23 => ?_)
      · exact absurd c23 (by decide)
      ·
        refine lv_iload_n S.x S.b d_Raw_quotient_20 rfl (lv_at hl 2 rfl) ?_
        refine lv_goto (tgt := 25) S.x S.b d_Raw_quotient_21 (by decide) ?_
        exact px_iret (v := p1) S hr rfl hlk hAe hw (Nat.le_of_ble_eq_true rfl) (Nat.le_of_ble_eq_true rfl) (rfl) d_Raw_quotient_25
abbrev b_Raw_jump : ByteArray := prog_8_method_16_code
def y_Raw_jump : MethodName := ⟨"HomeSystem$RawProcess", "jump", "(II)V"⟩
theorem d_Raw_jump_0 : decode b_Raw_jump 0 = .ok (.iload_n 2, 1) := by decide +kernel
theorem d_Raw_jump_1 : decode b_Raw_jump 1 = .ok (.iconst 3, 1) := by decide +kernel
theorem d_Raw_jump_2 : decode b_Raw_jump 2 = .ok (.iand, 1) := by decide +kernel
theorem d_Raw_jump_3 : decode b_Raw_jump 3 = .ok (.ifCond .eq 13, 3) := by decide +kernel
theorem d_Raw_jump_6 : decode b_Raw_jump 6 = .ok (.aload_n 0, 1) := by decide +kernel
theorem d_Raw_jump_7 : decode b_Raw_jump 7 = .ok (.bipush 7, 2) := by decide +kernel
theorem d_Raw_jump_9 : decode b_Raw_jump 9 = .ok (.iconst 0, 1) := by decide +kernel
theorem d_Raw_jump_10 : decode b_Raw_jump 10 = .ok (.invokevirtual 56, 3) := by decide +kernel
theorem d_Raw_jump_13 : decode b_Raw_jump 13 = .ok (.goto 19, 3) := by decide +kernel
theorem d_Raw_jump_16 : decode b_Raw_jump 16 = .ok (.aload_n 0, 1) := by decide +kernel
theorem d_Raw_jump_17 : decode b_Raw_jump 17 = .ok (.iload_n 1, 1) := by decide +kernel
theorem d_Raw_jump_18 : decode b_Raw_jump 18 = .ok (.aload_n 0, 1) := by decide +kernel
theorem d_Raw_jump_19 : decode b_Raw_jump 19 = .ok (.getfield 38, 3) := by decide +kernel
theorem d_Raw_jump_22 : decode b_Raw_jump 22 = .ok (.iconst 4, 1) := by decide +kernel
theorem d_Raw_jump_23 : decode b_Raw_jump 23 = .ok (.iadd, 1) := by decide +kernel
theorem d_Raw_jump_24 : decode b_Raw_jump 24 = .ok (.invokevirtual 103, 3) := by decide +kernel
theorem d_Raw_jump_27 : decode b_Raw_jump 27 = .ok (.aload_n 0, 1) := by decide +kernel
theorem d_Raw_jump_28 : decode b_Raw_jump 28 = .ok (.iload_n 2, 1) := by decide +kernel
theorem d_Raw_jump_29 : decode b_Raw_jump 29 = .ok (.putfield 64, 3) := by decide +kernel
theorem d_Raw_jump_32 : decode b_Raw_jump 32 = .ok (.return_, 1) := by decide +kernel
theorem q_Raw_jump : px_y y_Raw_jump 2 := by unfold px_y; decide +kernel
set_option maxHeartbeats 4000000 in
set_option maxRecDepth 100000 in
theorem c_Raw_jump (l : Launch) (D : va_G) (cs : Nat → ClassId) (h : Nat) (r : Nat → Nat) (g : Nat → Nat → Option Nat) (o2 : Option Nat) (o4 : Option Nat) (f : Nat → Int32) (a : Nat → Nat → Int32) (p0 p1 : Int32)  (g0 : (f 14).toInt = 0) : MetV l y_Raw_jump b_Raw_jump 3 D cs 1 30 (0) (0) [.ref h, .int p0, .int p1] [wd_Raw cs h r (fun k => if k = 2 then o2 else if k = 4 then o4 else none) f a g] (fun _ => True) (fun ps => ∃ (f' : Nat → Int32) (a' : Nat → Nat → Int32), (ps = [wd_Raw cs h r (fun k => if k = 2 then o2 else if k = 4 then o4 else none) f' a' g]) ∧ ((f' 3).toInt = (f 3).toInt) ∧ ((f' 7).toInt = (f 7).toInt) ∧ ((f' 8).toInt = (f 8).toInt) ∧ ((f' 10).toInt = (f 10).toInt) ∧ ((f' 13).toInt = (f 13).toInt) ∧ ((f' 14).toInt = 0)) := by
  refine px_enter (by decide) (Nat.le_of_ble_eq_true rfl) ?_
  intro p e s m below meth c A ls hAe S hr hlk hnm hA hT hX hw hl
  have hl : lv_has ls 3 [(0, .ref h), (1, .int p0), (2, .int p1)] := hl
  have lp0 := Int32.le_toInt p0
  have up0 := Int32.toInt_lt p0
  have lp1 := Int32.le_toInt p1
  have up1 := Int32.toInt_lt p1
  have cst0 : (0 : Int32).toInt = 0 := rfl
  have cst3 : (3 : Int32).toInt = 3 := rfl
  have cst4 : (4 : Int32).toInt = 4 := rfl
  have cst7 : (7 : Int32).toInt = 7 := rfl
  refine lv_iload_n S.x S.b d_Raw_jump_0 rfl (lv_at hl 2 rfl) ?_
  refine lv_iconst (v := 3) S.x S.b d_Raw_jump_1 (by decide) ?_
  refine lv_iand S.x S.b d_Raw_jump_2 ?_
  refine lv_topi (fun z1 ez1 => ?_)
  have lz1 := Int32.le_toInt z1
  have uz1 := Int32.toInt_lt z1
  have bz1 := i_andm p1 (m := 3) 2 (by decide) (by decide)
  rw [← ez1] at bz1
  have wz1 : 0 ≤ z1.toInt ∧ z1.toInt ≤ 3 := by simp only [Nat.reducePow, Int.reducePow] at bz1; omega
  refine lv_if_eq (tgt := 16) S.x S.b d_Raw_jump_3 (by decide) (fun c2 => ?_) (fun c2 => ?_)
  · have nc2 : z1.toInt = (0 : Int) := (i_eq (x := z1) (y := 0)).mp c2
    refine lv_aload_n S.x S.b d_Raw_jump_16 rfl (lv_at hl 0 rfl) ?_
    refine lv_iload_n S.x S.b d_Raw_jump_17 rfl (lv_at hl 1 rfl) ?_
    refine lv_aload_n S.x S.b d_Raw_jump_18 rfl (lv_at hl 0 rfl) ?_
    refine px_get S k_Raw hT hw 0 0 5 (v := .int (f 5)) rfl rfl rfl (by decide) m6_129 d_Raw_jump_19 ?_
    refine lv_iconst (v := 4) S.x S.b d_Raw_jump_22 (by decide) ?_
    refine lv_iadd S.x S.b d_Raw_jump_23 ?_
    have lr3 := Int32.le_toInt (f 5)
    have ur3 := Int32.toInt_lt (f 5)
    refine lv_topi (fun z4 ez4 => ?_)
    have tz4 : z4.toInt = ((f 5).toInt + (4 : Int) + 2147483648) % 4294967296 - 2147483648 := by rw [ez4]; exact i_add (f 5) 4
    have lz4 := Int32.le_toInt z4
    have uz4 := Int32.toInt_lt z4
    refine px_callv (pr := []) (px_runV (As := [.int p0, .int z4]) (rest := []) S (c_Raw_setRegister l D cs h r g o2 o4 f a p0 z4   _) hT (pr := []) (pcs := [wd_Raw cs h r (fun k => if k = 2 then o2 else if k = 4 then o4 else none) f a g]) hw px_X.tt (px_recv hT hw 0 0 rfl rfl rfl) m8_181 m8_178 m8_180 ms_6_5 m1_34 q_Raw_setRegister ⟨Nat.le_of_ble_eq_true rfl, Nat.le_of_ble_eq_true rfl⟩ hl.1 rfl (Nat.le_of_ble_eq_true rfl) d_Raw_jump_24 ⟨Nat.le_of_ble_eq_true rfl, Nat.le_of_ble_eq_true rfl⟩) hw hA (fun p7 H locs hp7 hw => ?_)
    obtain ⟨f5, a6, rfl, e9, e10, e11, e12, e13, e14, e15⟩ := hp7
    have e9 : (f5 3).toInt = (f 3).toInt := e9
    have e10 : (f5 7).toInt = (f 7).toInt := e10
    have e11 : (f5 8).toInt = (f 8).toInt := e11
    have e12 : (f5 10).toInt = (f 10).toInt := e12
    have e13 : (f5 13).toInt = (f 13).toInt := e13
    have e14 : (f5 14).toInt = (f 14).toInt := e14
    have e15 : (f5 11).toInt = (f 11).toInt := e15
    refine lv_aload_n S.x S.b d_Raw_jump_27 rfl (lv_at hl 0 rfl) ?_
    refine lv_iload_n S.x S.b d_Raw_jump_28 rfl (lv_at hl 2 rfl) ?_
    refine px_put S k_Raw hT hw 0 0 6 rfl rfl (by decide) m6_130 rfl rfl rfl (Nat.le_of_ble_eq_true rfl) d_Raw_jump_29 (w' := wd_Raw cs h r (fun k => if k = 2 then o2 else if k = 4 then o4 else none) (upd f5 6 p1) a6 g) (ps' := [wd_Raw cs h r (fun k => if k = 2 then o2 else if k = 4 then o4 else none) (upd f5 6 p1) a6 g]) rfl rfl (fun H locs hw => ?_)
    first | exact px_vret S hr hlk hAe hw (Nat.le_of_ble_eq_true rfl) (Nat.le_of_ble_eq_true rfl) (⟨(upd f5 6 p1), a6, rfl, (show (f5 3).toInt = (f 3).toInt from e9), (show (f5 7).toInt = (f 7).toInt from e10), (show (f5 8).toInt = (f 8).toInt from e11), (show (f5 10).toInt = (f 10).toInt from e12), (show (f5 13).toInt = (f 13).toInt from e13), (show (f5 14).toInt = 0 from (oz_4193540c58 e14 g0))⟩) d_Raw_jump_32 | exact px_vret S hr hlk hAe hw (Nat.le_of_ble_eq_true rfl) (Nat.le_of_ble_eq_true rfl) (⟨(upd f5 6 p1), a6, rfl, (show (f5 3).toInt = (f 3).toInt from by first | exact e9 | omega), (show (f5 7).toInt = (f 7).toInt from by first | exact e10 | omega), (show (f5 8).toInt = (f 8).toInt from by first | exact e11 | omega), (show (f5 10).toInt = (f 10).toInt from by first | exact e12 | omega), (show (f5 13).toInt = (f 13).toInt from by first | exact e13 | omega), (show (f5 14).toInt = 0 from by first | exact oz_4193540c58 e14 g0 | omega)⟩) d_Raw_jump_32
  · have nc2 : ¬ z1.toInt = (0 : Int) := mt (i_eq (x := z1) (y := 0)).mpr c2
    refine lv_aload_n S.x S.b d_Raw_jump_6 rfl (lv_at hl 0 rfl) ?_
    refine lv_bipush (v := 7) S.x S.b d_Raw_jump_7 (by decide) ?_
    refine lv_iconst (v := 0) S.x S.b d_Raw_jump_9 (by decide) ?_
    refine px_callv (pr := []) (px_runU (As := [.int 7, .int 0]) (rest := []) S (c_finish_Raw l D cs h r g o2 o4 f a 7 0   _) hT (pr := []) (pcs := [wd_Raw cs h r (fun k => if k = 2 then o2 else if k = 4 then o4 else none) f a g]) hw px_X.tt (C := "HomeSystem$RawProcess") (x := ⟨"HomeSystem$RawProcess", "finish", "(II)V"⟩) (px_recv hT hw 0 0 rfl rfl rfl) m8_89 m8_170 m8_171 m8_85 m8_173 m1_33 rfl q_HomeSystem_AnyProcess_finish ⟨Nat.le_of_ble_eq_true rfl, Nat.le_of_ble_eq_true rfl⟩ hl.1 rfl (Nat.le_of_ble_eq_true rfl) d_Raw_jump_10 ⟨Nat.le_of_ble_eq_true rfl, Nat.le_of_ble_eq_true rfl⟩) hw hA (fun p18 H locs hp18 hw => ?_)
    obtain ⟨f16, a17, rfl, e20, e21, e22, e23, e24, e25, e26⟩ := hp18
    have e20 : (f16 3).toInt = (f 3).toInt := e20
    have e21 : (f16 7).toInt = (f 7).toInt := e21
    have e22 : (f16 8).toInt = (f 8).toInt := e22
    have e23 : (f16 10).toInt = (f 10).toInt := e23
    have e24 : (f16 13).toInt = (f 13).toInt := e24
    have e25 : (f16 14).toInt = 0 := e25
    have e26 : (f16 11).toInt = (7 : Int) := e26
    refine lv_goto (tgt := 32) S.x S.b d_Raw_jump_13 (by decide) ?_
    first | exact px_vret S hr hlk hAe hw (Nat.le_of_ble_eq_true rfl) (Nat.le_of_ble_eq_true rfl) (⟨f16, a17, rfl, (show (f16 3).toInt = (f 3).toInt from e20), (show (f16 7).toInt = (f 7).toInt from e21), (show (f16 8).toInt = (f 8).toInt from e22), (show (f16 10).toInt = (f 10).toInt from e23), (show (f16 13).toInt = (f 13).toInt from e24), (show (f16 14).toInt = 0 from e25)⟩) d_Raw_jump_32 | exact px_vret S hr hlk hAe hw (Nat.le_of_ble_eq_true rfl) (Nat.le_of_ble_eq_true rfl) (⟨f16, a17, rfl, (show (f16 3).toInt = (f 3).toInt from by first | exact e20 | omega), (show (f16 7).toInt = (f 7).toInt from by first | exact e21 | omega), (show (f16 8).toInt = (f 8).toInt from by first | exact e22 | omega), (show (f16 10).toInt = (f 10).toInt from by first | exact e23 | omega), (show (f16 13).toInt = (f 13).toInt from by first | exact e24 | omega), (show (f16 14).toInt = 0 from by first | exact e25 | omega)⟩) d_Raw_jump_32
abbrev b_Raw_jumpIndirect : ByteArray := prog_8_method_17_code
def y_Raw_jumpIndirect : MethodName := ⟨"HomeSystem$RawProcess", "jumpIndirect", "(III)V"⟩
theorem d_Raw_jumpIndirect_0 : decode b_Raw_jumpIndirect 0 = .ok (.iload_n 2, 1) := by decide +kernel
theorem d_Raw_jumpIndirect_1 : decode b_Raw_jumpIndirect 1 = .ok (.ifCond .eq 13, 3) := by decide +kernel
theorem d_Raw_jumpIndirect_4 : decode b_Raw_jumpIndirect 4 = .ok (.aload_n 0, 1) := by decide +kernel
theorem d_Raw_jumpIndirect_5 : decode b_Raw_jumpIndirect 5 = .ok (.bipush 7, 2) := by decide +kernel
theorem d_Raw_jumpIndirect_7 : decode b_Raw_jumpIndirect 7 = .ok (.iconst 0, 1) := by decide +kernel
theorem d_Raw_jumpIndirect_8 : decode b_Raw_jumpIndirect 8 = .ok (.invokevirtual 56, 3) := by decide +kernel
theorem d_Raw_jumpIndirect_11 : decode b_Raw_jumpIndirect 11 = .ok (.goto 12, 3) := by decide +kernel
theorem d_Raw_jumpIndirect_14 : decode b_Raw_jumpIndirect 14 = .ok (.aload_n 0, 1) := by decide +kernel
theorem d_Raw_jumpIndirect_15 : decode b_Raw_jumpIndirect 15 = .ok (.iload_n 1, 1) := by decide +kernel
theorem d_Raw_jumpIndirect_16 : decode b_Raw_jumpIndirect 16 = .ok (.iload_n 3, 1) := by decide +kernel
theorem d_Raw_jumpIndirect_17 : decode b_Raw_jumpIndirect 17 = .ok (.bipush (-2), 2) := by decide +kernel
theorem d_Raw_jumpIndirect_19 : decode b_Raw_jumpIndirect 19 = .ok (.iand, 1) := by decide +kernel
theorem d_Raw_jumpIndirect_20 : decode b_Raw_jumpIndirect 20 = .ok (.invokevirtual 109, 3) := by decide +kernel
theorem d_Raw_jumpIndirect_23 : decode b_Raw_jumpIndirect 23 = .ok (.return_, 1) := by decide +kernel
theorem q_Raw_jumpIndirect : px_y y_Raw_jumpIndirect 3 := by unfold px_y; decide +kernel
set_option maxHeartbeats 4000000 in
set_option maxRecDepth 100000 in
theorem c_Raw_jumpIndirect (l : Launch) (D : va_G) (cs : Nat → ClassId) (h : Nat) (r : Nat → Nat) (g : Nat → Nat → Option Nat) (o2 : Option Nat) (o4 : Option Nat) (f : Nat → Int32) (a : Nat → Nat → Int32) (p0 p1 p2 : Int32)  (g0 : (f 14).toInt = 0) : MetV l y_Raw_jumpIndirect b_Raw_jumpIndirect 4 D cs 2 60 (0) (0) [.ref h, .int p0, .int p1, .int p2] [wd_Raw cs h r (fun k => if k = 2 then o2 else if k = 4 then o4 else none) f a g] (fun _ => True) (fun ps => ∃ (f' : Nat → Int32) (a' : Nat → Nat → Int32), (ps = [wd_Raw cs h r (fun k => if k = 2 then o2 else if k = 4 then o4 else none) f' a' g]) ∧ ((f' 3).toInt = (f 3).toInt) ∧ ((f' 7).toInt = (f 7).toInt) ∧ ((f' 8).toInt = (f 8).toInt) ∧ ((f' 10).toInt = (f 10).toInt) ∧ ((f' 13).toInt = (f 13).toInt) ∧ ((f' 14).toInt = 0)) := by
  refine px_enter (by decide) (Nat.le_of_ble_eq_true rfl) ?_
  intro p e s m below meth c A ls hAe S hr hlk hnm hA hT hX hw hl
  have hl : lv_has ls 4 [(0, .ref h), (1, .int p0), (2, .int p1), (3, .int p2)] := hl
  have lp0 := Int32.le_toInt p0
  have up0 := Int32.toInt_lt p0
  have lp1 := Int32.le_toInt p1
  have up1 := Int32.toInt_lt p1
  have lp2 := Int32.le_toInt p2
  have up2 := Int32.toInt_lt p2
  have cstm2 : ((-2) : Int32).toInt = (-2) := rfl
  have cst0 : (0 : Int32).toInt = 0 := rfl
  have cst7 : (7 : Int32).toInt = 7 := rfl
  refine lv_iload_n S.x S.b d_Raw_jumpIndirect_0 rfl (lv_at hl 2 rfl) ?_
  refine lv_if_eq (tgt := 14) S.x S.b d_Raw_jumpIndirect_1 (by decide) (fun c1 => ?_) (fun c1 => ?_)
  · have nc1 : p1.toInt = (0 : Int) := (i_eq (x := p1) (y := 0)).mp c1
    refine lv_aload_n S.x S.b d_Raw_jumpIndirect_14 rfl (lv_at hl 0 rfl) ?_
    refine lv_iload_n S.x S.b d_Raw_jumpIndirect_15 rfl (lv_at hl 1 rfl) ?_
    refine lv_iload_n S.x S.b d_Raw_jumpIndirect_16 rfl (lv_at hl 3 rfl) ?_
    refine lv_bipush (v := (-2)) S.x S.b d_Raw_jumpIndirect_17 (by decide) ?_
    refine lv_iand S.x S.b d_Raw_jumpIndirect_19 ?_
    refine lv_topi (fun z2 ez2 => ?_)
    have lz2 := Int32.le_toInt z2
    have uz2 := Int32.toInt_lt z2
    first | refine px_callv (pr := []) (px_runV (As := [.int p0, .int z2]) (rest := []) S (c_Raw_jump l D cs h r g o2 o4 f a p0 z2  (show (f 14).toInt = 0 from g0) _) hT (pr := []) (pcs := [wd_Raw cs h r (fun k => if k = 2 then o2 else if k = 4 then o4 else none) f a g]) hw px_X.tt (px_recv hT hw 0 0 rfl rfl rfl) m8_189 m8_186 m8_188 ms_6_6 m1_34 q_Raw_jump ⟨Nat.le_of_ble_eq_true rfl, Nat.le_of_ble_eq_true rfl⟩ hl.1 rfl (Nat.le_of_ble_eq_true rfl) d_Raw_jumpIndirect_20 ⟨Nat.le_of_ble_eq_true rfl, Nat.le_of_ble_eq_true rfl⟩) hw hA (fun p5 H locs hp5 hw => ?_) | refine px_callv (pr := []) (px_runV (As := [.int p0, .int z2]) (rest := []) S (c_Raw_jump l D cs h r g o2 o4 f a p0 z2  (show (f 14).toInt = 0 from by first | exact g0 | omega) _) hT (pr := []) (pcs := [wd_Raw cs h r (fun k => if k = 2 then o2 else if k = 4 then o4 else none) f a g]) hw px_X.tt (px_recv hT hw 0 0 rfl rfl rfl) m8_189 m8_186 m8_188 ms_6_6 m1_34 q_Raw_jump ⟨Nat.le_of_ble_eq_true rfl, Nat.le_of_ble_eq_true rfl⟩ hl.1 rfl (Nat.le_of_ble_eq_true rfl) d_Raw_jumpIndirect_20 ⟨Nat.le_of_ble_eq_true rfl, Nat.le_of_ble_eq_true rfl⟩) hw hA (fun p5 H locs hp5 hw => ?_)
    obtain ⟨f3, a4, rfl, e7, e8, e9, e10, e11, e12⟩ := hp5
    have e7 : (f3 3).toInt = (f 3).toInt := e7
    have e8 : (f3 7).toInt = (f 7).toInt := e8
    have e9 : (f3 8).toInt = (f 8).toInt := e9
    have e10 : (f3 10).toInt = (f 10).toInt := e10
    have e11 : (f3 13).toInt = (f 13).toInt := e11
    have e12 : (f3 14).toInt = 0 := e12
    first | exact px_vret S hr hlk hAe hw (Nat.le_of_ble_eq_true rfl) (Nat.le_of_ble_eq_true rfl) (⟨f3, a4, rfl, (show (f3 3).toInt = (f 3).toInt from e7), (show (f3 7).toInt = (f 7).toInt from e8), (show (f3 8).toInt = (f 8).toInt from e9), (show (f3 10).toInt = (f 10).toInt from e10), (show (f3 13).toInt = (f 13).toInt from e11), (show (f3 14).toInt = 0 from e12)⟩) d_Raw_jumpIndirect_23 | exact px_vret S hr hlk hAe hw (Nat.le_of_ble_eq_true rfl) (Nat.le_of_ble_eq_true rfl) (⟨f3, a4, rfl, (show (f3 3).toInt = (f 3).toInt from by first | exact e7 | omega), (show (f3 7).toInt = (f 7).toInt from by first | exact e8 | omega), (show (f3 8).toInt = (f 8).toInt from by first | exact e9 | omega), (show (f3 10).toInt = (f 10).toInt from by first | exact e10 | omega), (show (f3 13).toInt = (f 13).toInt from by first | exact e11 | omega), (show (f3 14).toInt = 0 from by first | exact e12 | omega)⟩) d_Raw_jumpIndirect_23
  · have nc1 : ¬ p1.toInt = (0 : Int) := mt (i_eq (x := p1) (y := 0)).mpr c1
    refine lv_aload_n S.x S.b d_Raw_jumpIndirect_4 rfl (lv_at hl 0 rfl) ?_
    refine lv_bipush (v := 7) S.x S.b d_Raw_jumpIndirect_5 (by decide) ?_
    refine lv_iconst (v := 0) S.x S.b d_Raw_jumpIndirect_7 (by decide) ?_
    refine px_callv (pr := []) (px_runU (As := [.int 7, .int 0]) (rest := []) S (c_finish_Raw l D cs h r g o2 o4 f a 7 0   _) hT (pr := []) (pcs := [wd_Raw cs h r (fun k => if k = 2 then o2 else if k = 4 then o4 else none) f a g]) hw px_X.tt (C := "HomeSystem$RawProcess") (x := ⟨"HomeSystem$RawProcess", "finish", "(II)V"⟩) (px_recv hT hw 0 0 rfl rfl rfl) m8_89 m8_170 m8_171 m8_85 m8_173 m1_33 rfl q_HomeSystem_AnyProcess_finish ⟨Nat.le_of_ble_eq_true rfl, Nat.le_of_ble_eq_true rfl⟩ hl.1 rfl (Nat.le_of_ble_eq_true rfl) d_Raw_jumpIndirect_8 ⟨Nat.le_of_ble_eq_true rfl, Nat.le_of_ble_eq_true rfl⟩) hw hA (fun p15 H locs hp15 hw => ?_)
    obtain ⟨f13, a14, rfl, e17, e18, e19, e20, e21, e22, e23⟩ := hp15
    have e17 : (f13 3).toInt = (f 3).toInt := e17
    have e18 : (f13 7).toInt = (f 7).toInt := e18
    have e19 : (f13 8).toInt = (f 8).toInt := e19
    have e20 : (f13 10).toInt = (f 10).toInt := e20
    have e21 : (f13 13).toInt = (f 13).toInt := e21
    have e22 : (f13 14).toInt = 0 := e22
    have e23 : (f13 11).toInt = (7 : Int) := e23
    refine lv_goto (tgt := 23) S.x S.b d_Raw_jumpIndirect_11 (by decide) ?_
    first | exact px_vret S hr hlk hAe hw (Nat.le_of_ble_eq_true rfl) (Nat.le_of_ble_eq_true rfl) (⟨f13, a14, rfl, (show (f13 3).toInt = (f 3).toInt from e17), (show (f13 7).toInt = (f 7).toInt from e18), (show (f13 8).toInt = (f 8).toInt from e19), (show (f13 10).toInt = (f 10).toInt from e20), (show (f13 13).toInt = (f 13).toInt from e21), (show (f13 14).toInt = 0 from e22)⟩) d_Raw_jumpIndirect_23 | exact px_vret S hr hlk hAe hw (Nat.le_of_ble_eq_true rfl) (Nat.le_of_ble_eq_true rfl) (⟨f13, a14, rfl, (show (f13 3).toInt = (f 3).toInt from by first | exact e17 | omega), (show (f13 7).toInt = (f 7).toInt from by first | exact e18 | omega), (show (f13 8).toInt = (f 8).toInt from by first | exact e19 | omega), (show (f13 10).toInt = (f 10).toInt from by first | exact e20 | omega), (show (f13 13).toInt = (f 13).toInt from by first | exact e21 | omega), (show (f13 14).toInt = 0 from by first | exact e22 | omega)⟩) d_Raw_jumpIndirect_23
abbrev b_Raw_branch : ByteArray := prog_8_method_18_code
def y_Raw_branch : MethodName := ⟨"HomeSystem$RawProcess", "branch", "(IIII)V"⟩
theorem d_Raw_branch_0 : decode b_Raw_branch 0 = .ok (.iconst 0, 1) := by decide +kernel
theorem d_Raw_branch_1 : decode b_Raw_branch 1 = .ok (.istore 5, 2) := by decide +kernel
theorem d_Raw_branch_3 : decode b_Raw_branch 3 = .ok (.iload_n 1, 1) := by decide +kernel
theorem d_Raw_branch_4 : decode b_Raw_branch 4 = .ok (.iconst 1, 1) := by decide +kernel
theorem d_Raw_branch_5 : decode b_Raw_branch 5 = .ok (.ishr, 1) := by decide +kernel
theorem d_Raw_branch_6 : decode b_Raw_branch 6 = .ok (.tableswitch 70 0 3 #[30, 70, 45, 60], 30) := by decide +kernel
theorem d_Raw_branch_36 : decode b_Raw_branch 36 = .ok (.iload_n 2, 1) := by decide +kernel
theorem d_Raw_branch_37 : decode b_Raw_branch 37 = .ok (.iload_n 3, 1) := by decide +kernel
theorem d_Raw_branch_38 : decode b_Raw_branch 38 = .ok (.if_icmp .ne 7, 3) := by decide +kernel
theorem d_Raw_branch_41 : decode b_Raw_branch 41 = .ok (.iconst 1, 1) := by decide +kernel
theorem d_Raw_branch_42 : decode b_Raw_branch 42 = .ok (.goto 4, 3) := by decide +kernel
theorem d_Raw_branch_45 : decode b_Raw_branch 45 = .ok (.iconst 0, 1) := by decide +kernel
theorem d_Raw_branch_46 : decode b_Raw_branch 46 = .ok (.istore 5, 2) := by decide +kernel
theorem d_Raw_branch_48 : decode b_Raw_branch 48 = .ok (.goto 36, 3) := by decide +kernel
theorem d_Raw_branch_51 : decode b_Raw_branch 51 = .ok (.iload_n 2, 1) := by decide +kernel
theorem d_Raw_branch_52 : decode b_Raw_branch 52 = .ok (.iload_n 3, 1) := by decide +kernel
theorem d_Raw_branch_53 : decode b_Raw_branch 53 = .ok (.if_icmp .ge 7, 3) := by decide +kernel
theorem d_Raw_branch_56 : decode b_Raw_branch 56 = .ok (.iconst 1, 1) := by decide +kernel
theorem d_Raw_branch_57 : decode b_Raw_branch 57 = .ok (.goto 4, 3) := by decide +kernel
theorem d_Raw_branch_60 : decode b_Raw_branch 60 = .ok (.iconst 0, 1) := by decide +kernel
theorem d_Raw_branch_61 : decode b_Raw_branch 61 = .ok (.istore 5, 2) := by decide +kernel
theorem d_Raw_branch_63 : decode b_Raw_branch 63 = .ok (.goto 21, 3) := by decide +kernel
theorem d_Raw_branch_66 : decode b_Raw_branch 66 = .ok (.iload_n 2, 1) := by decide +kernel
theorem d_Raw_branch_67 : decode b_Raw_branch 67 = .ok (.iload_n 3, 1) := by decide +kernel
theorem d_Raw_branch_68 : decode b_Raw_branch 68 = .ok (.invokestatic 140, 3) := by decide +kernel
theorem d_Raw_branch_71 : decode b_Raw_branch 71 = .ok (.istore 5, 2) := by decide +kernel
theorem d_Raw_branch_73 : decode b_Raw_branch 73 = .ok (.goto 11, 3) := by decide +kernel
theorem d_Raw_branch_76 : decode b_Raw_branch 76 = .ok (.aload_n 0, 1) := by decide +kernel
theorem d_Raw_branch_77 : decode b_Raw_branch 77 = .ok (.bipush 7, 2) := by decide +kernel
theorem d_Raw_branch_79 : decode b_Raw_branch 79 = .ok (.iconst 0, 1) := by decide +kernel
theorem d_Raw_branch_80 : decode b_Raw_branch 80 = .ok (.invokevirtual 56, 3) := by decide +kernel
theorem d_Raw_branch_83 : decode b_Raw_branch 83 = .ok (.return_, 1) := by decide +kernel
theorem d_Raw_branch_84 : decode b_Raw_branch 84 = .ok (.iload 5, 2) := by decide +kernel
theorem d_Raw_branch_86 : decode b_Raw_branch 86 = .ok (.iload_n 1, 1) := by decide +kernel
theorem d_Raw_branch_87 : decode b_Raw_branch 87 = .ok (.iconst 1, 1) := by decide +kernel
theorem d_Raw_branch_88 : decode b_Raw_branch 88 = .ok (.iand, 1) := by decide +kernel
theorem d_Raw_branch_89 : decode b_Raw_branch 89 = .ok (.ifCond .ne 7, 3) := by decide +kernel
theorem d_Raw_branch_92 : decode b_Raw_branch 92 = .ok (.iconst 1, 1) := by decide +kernel
theorem d_Raw_branch_93 : decode b_Raw_branch 93 = .ok (.goto 4, 3) := by decide +kernel
theorem d_Raw_branch_96 : decode b_Raw_branch 96 = .ok (.iconst 0, 1) := by decide +kernel
theorem d_Raw_branch_97 : decode b_Raw_branch 97 = .ok (.if_icmp .ne 10, 3) := by decide +kernel
theorem d_Raw_branch_100 : decode b_Raw_branch 100 = .ok (.aload_n 0, 1) := by decide +kernel
theorem d_Raw_branch_101 : decode b_Raw_branch 101 = .ok (.iconst 0, 1) := by decide +kernel
theorem d_Raw_branch_102 : decode b_Raw_branch 102 = .ok (.iload 4, 2) := by decide +kernel
theorem d_Raw_branch_104 : decode b_Raw_branch 104 = .ok (.invokevirtual 109, 3) := by decide +kernel
theorem d_Raw_branch_107 : decode b_Raw_branch 107 = .ok (.return_, 1) := by decide +kernel
theorem q_Raw_branch : px_y y_Raw_branch 4 := by unfold px_y; decide +kernel
set_option maxHeartbeats 4000000 in
set_option maxRecDepth 100000 in
theorem c_Raw_branch (l : Launch) (D : va_G) (cs : Nat → ClassId) (h : Nat) (r : Nat → Nat) (g : Nat → Nat → Option Nat) (o2 : Option Nat) (o4 : Option Nat) (f : Nat → Int32) (a : Nat → Nat → Int32) (p0 p1 p2 p3 : Int32)  (g0 : (f 14).toInt = 0) : MetV l y_Raw_branch b_Raw_branch 6 D cs 2 60 (0) (0) [.ref h, .int p0, .int p1, .int p2, .int p3] [wd_Raw cs h r (fun k => if k = 2 then o2 else if k = 4 then o4 else none) f a g] (fun _ => True) (fun ps => ∃ (f' : Nat → Int32) (a' : Nat → Nat → Int32), (ps = [wd_Raw cs h r (fun k => if k = 2 then o2 else if k = 4 then o4 else none) f' a' g]) ∧ ((f' 3).toInt = (f 3).toInt) ∧ ((f' 7).toInt = (f 7).toInt) ∧ ((f' 8).toInt = (f 8).toInt) ∧ ((f' 10).toInt = (f 10).toInt) ∧ ((f' 13).toInt = (f 13).toInt) ∧ ((f' 14).toInt = 0)) := by
  refine px_enter (by decide) (Nat.le_of_ble_eq_true rfl) ?_
  intro p e s m below meth c A ls hAe S hr hlk hnm hA hT hX hw hl
  have hl : lv_has ls 6 [(0, .ref h), (1, .int p0), (2, .int p1), (3, .int p2), (4, .int p3)] := hl
  have lp0 := Int32.le_toInt p0
  have up0 := Int32.toInt_lt p0
  have lp1 := Int32.le_toInt p1
  have up1 := Int32.toInt_lt p1
  have lp2 := Int32.le_toInt p2
  have up2 := Int32.toInt_lt p2
  have lp3 := Int32.le_toInt p3
  have up3 := Int32.toInt_lt p3
  have cst0 : (0 : Int32).toInt = 0 := rfl
  have cst1 : (1 : Int32).toInt = 1 := rfl
  have cst7 : (7 : Int32).toInt = 7 := rfl
  refine lv_iconst (v := 0) S.x S.b d_Raw_branch_0 (by decide) ?_
  refine lv_istore (lv' := [(5, .int 0), (0, .ref h), (1, .int p0), (2, .int p1), (3, .int p2), (4, .int p3)]) S.x S.b d_Raw_branch_1 hl (by decide) rfl (fun ls hl => ?_)
  refine lv_iload_n S.x S.b d_Raw_branch_3 rfl (lv_at hl 2 rfl) ?_
  refine lv_iconst (v := 1) S.x S.b d_Raw_branch_4 (by decide) ?_
  refine lv_ishr S.x S.b d_Raw_branch_5 ?_
  refine lv_topi (fun z1 ez1 => ?_)
  have tz1 : z1.toInt = p0.toInt / 2 := by rw [ez1]; exact i_shr p0 1 (k := 1) (d := 2) (by decide) (by decide)
  have lz1 := Int32.le_toInt z1
  have uz1 := Int32.toInt_lt z1
  refine px_table S (tgts := [36, 76, 51, 66]) d_Raw_branch_6 (by decide +kernel) (by decide +kernel) ?_
  refine List.forall_mem_cons.mpr ⟨?_, List.forall_mem_cons.mpr ⟨?_, List.forall_mem_cons.mpr ⟨?_, List.forall_mem_cons.mpr ⟨?_, fun _ h => absurd h List.not_mem_nil⟩⟩⟩⟩
  ·
    refine lv_iload_n S.x S.b d_Raw_branch_36 rfl (lv_at hl 3 rfl) ?_
    refine lv_iload_n S.x S.b d_Raw_branch_37 rfl (lv_at hl 4 rfl) ?_
    refine lv_icmp_ne (tgt := 45) S.x S.b d_Raw_branch_38 (by decide) (fun c2 => ?_) (fun c2 => ?_)
    · have nc2 : ¬ p1.toInt = p2.toInt := mt (i_eq (x := p1) (y := p2)).mpr c2
      refine lv_iconst (v := 0) S.x S.b d_Raw_branch_45 (by decide) ?_
      refine lv_istore (lv' := [(5, .int 0), (0, .ref h), (1, .int p0), (2, .int p1), (3, .int p2), (4, .int p3)]) S.x S.b d_Raw_branch_46 hl (by decide) rfl (fun ls hl => ?_)
      refine lv_goto (tgt := 84) S.x S.b d_Raw_branch_48 (by decide) ?_
      refine lv_iload S.x S.b d_Raw_branch_84 (lv_at hl 0 rfl) ?_
      refine lv_iload_n S.x S.b d_Raw_branch_86 rfl (lv_at hl 2 rfl) ?_
      refine lv_iconst (v := 1) S.x S.b d_Raw_branch_87 (by decide) ?_
      refine lv_iand S.x S.b d_Raw_branch_88 ?_
      refine lv_topi (fun z3 ez3 => ?_)
      have lz3 := Int32.le_toInt z3
      have uz3 := Int32.toInt_lt z3
      have bz3 := i_andm p0 (m := 1) 1 (by decide) (by decide)
      rw [← ez3] at bz3
      have wz3 : 0 ≤ z3.toInt ∧ z3.toInt ≤ 1 := by simp only [Nat.reducePow, Int.reducePow] at bz3; omega
      refine lv_if_ne (tgt := 96) S.x S.b d_Raw_branch_89 (by decide) (fun c4 => ?_) (fun c4 => ?_)
      · have nc4 : ¬ z3.toInt = (0 : Int) := mt (i_eq (x := z3) (y := 0)).mpr c4
        refine lv_iconst (v := 0) S.x S.b d_Raw_branch_96 (by decide) ?_
        refine lv_icmp_ne (tgt := 107) S.x S.b d_Raw_branch_97 (by decide) (fun c5 => ?_) (fun c5 => ?_)
        · exact absurd c5 (by decide)
        ·
          refine lv_aload_n S.x S.b d_Raw_branch_100 rfl (lv_at hl 1 rfl) ?_
          refine lv_iconst (v := 0) S.x S.b d_Raw_branch_101 (by decide) ?_
          refine lv_iload S.x S.b d_Raw_branch_102 (lv_at hl 5 rfl) ?_
          first | refine px_callv (pr := []) (px_runV (As := [.int 0, .int p3]) (rest := []) S (c_Raw_jump l D cs h r g o2 o4 f a 0 p3  (show (f 14).toInt = 0 from g0) _) hT (pr := []) (pcs := [wd_Raw cs h r (fun k => if k = 2 then o2 else if k = 4 then o4 else none) f a g]) hw px_X.tt (px_recv hT hw 0 0 rfl rfl rfl) m8_189 m8_186 m8_188 ms_6_6 m1_34 q_Raw_jump ⟨Nat.le_of_ble_eq_true rfl, Nat.le_of_ble_eq_true rfl⟩ hl.1 rfl (Nat.le_of_ble_eq_true rfl) d_Raw_branch_104 ⟨Nat.le_of_ble_eq_true rfl, Nat.le_of_ble_eq_true rfl⟩) hw hA (fun p8 H locs hp8 hw => ?_) | refine px_callv (pr := []) (px_runV (As := [.int 0, .int p3]) (rest := []) S (c_Raw_jump l D cs h r g o2 o4 f a 0 p3  (show (f 14).toInt = 0 from by first | exact g0 | omega) _) hT (pr := []) (pcs := [wd_Raw cs h r (fun k => if k = 2 then o2 else if k = 4 then o4 else none) f a g]) hw px_X.tt (px_recv hT hw 0 0 rfl rfl rfl) m8_189 m8_186 m8_188 ms_6_6 m1_34 q_Raw_jump ⟨Nat.le_of_ble_eq_true rfl, Nat.le_of_ble_eq_true rfl⟩ hl.1 rfl (Nat.le_of_ble_eq_true rfl) d_Raw_branch_104 ⟨Nat.le_of_ble_eq_true rfl, Nat.le_of_ble_eq_true rfl⟩) hw hA (fun p8 H locs hp8 hw => ?_)
          obtain ⟨f6, a7, rfl, e10, e11, e12, e13, e14, e15⟩ := hp8
          have e10 : (f6 3).toInt = (f 3).toInt := e10
          have e11 : (f6 7).toInt = (f 7).toInt := e11
          have e12 : (f6 8).toInt = (f 8).toInt := e12
          have e13 : (f6 10).toInt = (f 10).toInt := e13
          have e14 : (f6 13).toInt = (f 13).toInt := e14
          have e15 : (f6 14).toInt = 0 := e15
          first | exact px_vret S hr hlk hAe hw (Nat.le_of_ble_eq_true rfl) (Nat.le_of_ble_eq_true rfl) (⟨f6, a7, rfl, (show (f6 3).toInt = (f 3).toInt from e10), (show (f6 7).toInt = (f 7).toInt from e11), (show (f6 8).toInt = (f 8).toInt from e12), (show (f6 10).toInt = (f 10).toInt from e13), (show (f6 13).toInt = (f 13).toInt from e14), (show (f6 14).toInt = 0 from e15)⟩) d_Raw_branch_107 | exact px_vret S hr hlk hAe hw (Nat.le_of_ble_eq_true rfl) (Nat.le_of_ble_eq_true rfl) (⟨f6, a7, rfl, (show (f6 3).toInt = (f 3).toInt from by first | exact e10 | omega), (show (f6 7).toInt = (f 7).toInt from by first | exact e11 | omega), (show (f6 8).toInt = (f 8).toInt from by first | exact e12 | omega), (show (f6 10).toInt = (f 10).toInt from by first | exact e13 | omega), (show (f6 13).toInt = (f 13).toInt from by first | exact e14 | omega), (show (f6 14).toInt = 0 from by first | exact e15 | omega)⟩) d_Raw_branch_107
      · have nc4 : z3.toInt = (0 : Int) := (i_eq (x := z3) (y := 0)).mp c4
        refine lv_iconst (v := 1) S.x S.b d_Raw_branch_92 (by decide) ?_
        refine lv_goto (tgt := 97) S.x S.b d_Raw_branch_93 (by decide) ?_
        refine lv_icmp_ne (tgt := 107) S.x S.b d_Raw_branch_97 (by decide) (fun c16 => ?_) (fun c16 => ?_)
        ·
          first | exact px_vret S hr hlk hAe hw (Nat.le_of_ble_eq_true rfl) (Nat.le_of_ble_eq_true rfl) (⟨f, a, rfl, (show (f 3).toInt = (f 3).toInt from rfl), (show (f 7).toInt = (f 7).toInt from rfl), (show (f 8).toInt = (f 8).toInt from rfl), (show (f 10).toInt = (f 10).toInt from rfl), (show (f 13).toInt = (f 13).toInt from rfl), (show (f 14).toInt = 0 from g0)⟩) d_Raw_branch_107 | exact px_vret S hr hlk hAe hw (Nat.le_of_ble_eq_true rfl) (Nat.le_of_ble_eq_true rfl) (⟨f, a, rfl, (show (f 3).toInt = (f 3).toInt from rfl), (show (f 7).toInt = (f 7).toInt from rfl), (show (f 8).toInt = (f 8).toInt from rfl), (show (f 10).toInt = (f 10).toInt from rfl), (show (f 13).toInt = (f 13).toInt from rfl), (show (f 14).toInt = 0 from by first | exact g0 | omega)⟩) d_Raw_branch_107
        · exact absurd c16 (by decide)
    · have nc2 : p1.toInt = p2.toInt := (i_eq (x := p1) (y := p2)).mp c2
      refine lv_iconst (v := 1) S.x S.b d_Raw_branch_41 (by decide) ?_
      refine lv_goto (tgt := 46) S.x S.b d_Raw_branch_42 (by decide) ?_
      refine lv_istore (lv' := [(5, .int 1), (0, .ref h), (1, .int p0), (2, .int p1), (3, .int p2), (4, .int p3)]) S.x S.b d_Raw_branch_46 hl (by decide) rfl (fun ls hl => ?_)
      refine lv_goto (tgt := 84) S.x S.b d_Raw_branch_48 (by decide) ?_
      refine lv_iload S.x S.b d_Raw_branch_84 (lv_at hl 0 rfl) ?_
      refine lv_iload_n S.x S.b d_Raw_branch_86 rfl (lv_at hl 2 rfl) ?_
      refine lv_iconst (v := 1) S.x S.b d_Raw_branch_87 (by decide) ?_
      refine lv_iand S.x S.b d_Raw_branch_88 ?_
      refine lv_topi (fun z17 ez17 => ?_)
      have lz17 := Int32.le_toInt z17
      have uz17 := Int32.toInt_lt z17
      have bz17 := i_andm p0 (m := 1) 1 (by decide) (by decide)
      rw [← ez17] at bz17
      have wz17 : 0 ≤ z17.toInt ∧ z17.toInt ≤ 1 := by simp only [Nat.reducePow, Int.reducePow] at bz17; omega
      refine lv_if_ne (tgt := 96) S.x S.b d_Raw_branch_89 (by decide) (fun c18 => ?_) (fun c18 => ?_)
      · have nc18 : ¬ z17.toInt = (0 : Int) := mt (i_eq (x := z17) (y := 0)).mpr c18
        refine lv_iconst (v := 0) S.x S.b d_Raw_branch_96 (by decide) ?_
        refine lv_icmp_ne (tgt := 107) S.x S.b d_Raw_branch_97 (by decide) (fun c19 => ?_) (fun c19 => ?_)
        ·
          first | exact px_vret S hr hlk hAe hw (Nat.le_of_ble_eq_true rfl) (Nat.le_of_ble_eq_true rfl) (⟨f, a, rfl, (show (f 3).toInt = (f 3).toInt from rfl), (show (f 7).toInt = (f 7).toInt from rfl), (show (f 8).toInt = (f 8).toInt from rfl), (show (f 10).toInt = (f 10).toInt from rfl), (show (f 13).toInt = (f 13).toInt from rfl), (show (f 14).toInt = 0 from g0)⟩) d_Raw_branch_107 | exact px_vret S hr hlk hAe hw (Nat.le_of_ble_eq_true rfl) (Nat.le_of_ble_eq_true rfl) (⟨f, a, rfl, (show (f 3).toInt = (f 3).toInt from rfl), (show (f 7).toInt = (f 7).toInt from rfl), (show (f 8).toInt = (f 8).toInt from rfl), (show (f 10).toInt = (f 10).toInt from rfl), (show (f 13).toInt = (f 13).toInt from rfl), (show (f 14).toInt = 0 from by first | exact g0 | omega)⟩) d_Raw_branch_107
        · exact absurd c19 (by decide)
      · have nc18 : z17.toInt = (0 : Int) := (i_eq (x := z17) (y := 0)).mp c18
        refine lv_iconst (v := 1) S.x S.b d_Raw_branch_92 (by decide) ?_
        refine lv_goto (tgt := 97) S.x S.b d_Raw_branch_93 (by decide) ?_
        refine lv_icmp_ne (tgt := 107) S.x S.b d_Raw_branch_97 (by decide) (fun c20 => ?_) (fun c20 => ?_)
        · exact absurd c20 (by decide)
        ·
          refine lv_aload_n S.x S.b d_Raw_branch_100 rfl (lv_at hl 1 rfl) ?_
          refine lv_iconst (v := 0) S.x S.b d_Raw_branch_101 (by decide) ?_
          refine lv_iload S.x S.b d_Raw_branch_102 (lv_at hl 5 rfl) ?_
          first | refine px_callv (pr := []) (px_runV (As := [.int 0, .int p3]) (rest := []) S (c_Raw_jump l D cs h r g o2 o4 f a 0 p3  (show (f 14).toInt = 0 from g0) _) hT (pr := []) (pcs := [wd_Raw cs h r (fun k => if k = 2 then o2 else if k = 4 then o4 else none) f a g]) hw px_X.tt (px_recv hT hw 0 0 rfl rfl rfl) m8_189 m8_186 m8_188 ms_6_6 m1_34 q_Raw_jump ⟨Nat.le_of_ble_eq_true rfl, Nat.le_of_ble_eq_true rfl⟩ hl.1 rfl (Nat.le_of_ble_eq_true rfl) d_Raw_branch_104 ⟨Nat.le_of_ble_eq_true rfl, Nat.le_of_ble_eq_true rfl⟩) hw hA (fun p23 H locs hp23 hw => ?_) | refine px_callv (pr := []) (px_runV (As := [.int 0, .int p3]) (rest := []) S (c_Raw_jump l D cs h r g o2 o4 f a 0 p3  (show (f 14).toInt = 0 from by first | exact g0 | omega) _) hT (pr := []) (pcs := [wd_Raw cs h r (fun k => if k = 2 then o2 else if k = 4 then o4 else none) f a g]) hw px_X.tt (px_recv hT hw 0 0 rfl rfl rfl) m8_189 m8_186 m8_188 ms_6_6 m1_34 q_Raw_jump ⟨Nat.le_of_ble_eq_true rfl, Nat.le_of_ble_eq_true rfl⟩ hl.1 rfl (Nat.le_of_ble_eq_true rfl) d_Raw_branch_104 ⟨Nat.le_of_ble_eq_true rfl, Nat.le_of_ble_eq_true rfl⟩) hw hA (fun p23 H locs hp23 hw => ?_)
          obtain ⟨f21, a22, rfl, e25, e26, e27, e28, e29, e30⟩ := hp23
          have e25 : (f21 3).toInt = (f 3).toInt := e25
          have e26 : (f21 7).toInt = (f 7).toInt := e26
          have e27 : (f21 8).toInt = (f 8).toInt := e27
          have e28 : (f21 10).toInt = (f 10).toInt := e28
          have e29 : (f21 13).toInt = (f 13).toInt := e29
          have e30 : (f21 14).toInt = 0 := e30
          first | exact px_vret S hr hlk hAe hw (Nat.le_of_ble_eq_true rfl) (Nat.le_of_ble_eq_true rfl) (⟨f21, a22, rfl, (show (f21 3).toInt = (f 3).toInt from e25), (show (f21 7).toInt = (f 7).toInt from e26), (show (f21 8).toInt = (f 8).toInt from e27), (show (f21 10).toInt = (f 10).toInt from e28), (show (f21 13).toInt = (f 13).toInt from e29), (show (f21 14).toInt = 0 from e30)⟩) d_Raw_branch_107 | exact px_vret S hr hlk hAe hw (Nat.le_of_ble_eq_true rfl) (Nat.le_of_ble_eq_true rfl) (⟨f21, a22, rfl, (show (f21 3).toInt = (f 3).toInt from by first | exact e25 | omega), (show (f21 7).toInt = (f 7).toInt from by first | exact e26 | omega), (show (f21 8).toInt = (f 8).toInt from by first | exact e27 | omega), (show (f21 10).toInt = (f 10).toInt from by first | exact e28 | omega), (show (f21 13).toInt = (f 13).toInt from by first | exact e29 | omega), (show (f21 14).toInt = 0 from by first | exact e30 | omega)⟩) d_Raw_branch_107
  ·
    refine lv_aload_n S.x S.b d_Raw_branch_76 rfl (lv_at hl 1 rfl) ?_
    refine lv_bipush (v := 7) S.x S.b d_Raw_branch_77 (by decide) ?_
    refine lv_iconst (v := 0) S.x S.b d_Raw_branch_79 (by decide) ?_
    refine px_callv (pr := []) (px_runU (As := [.int 7, .int 0]) (rest := []) S (c_finish_Raw l D cs h r g o2 o4 f a 7 0   _) hT (pr := []) (pcs := [wd_Raw cs h r (fun k => if k = 2 then o2 else if k = 4 then o4 else none) f a g]) hw px_X.tt (C := "HomeSystem$RawProcess") (x := ⟨"HomeSystem$RawProcess", "finish", "(II)V"⟩) (px_recv hT hw 0 0 rfl rfl rfl) m8_89 m8_170 m8_171 m8_85 m8_173 m1_33 rfl q_HomeSystem_AnyProcess_finish ⟨Nat.le_of_ble_eq_true rfl, Nat.le_of_ble_eq_true rfl⟩ hl.1 rfl (Nat.le_of_ble_eq_true rfl) d_Raw_branch_80 ⟨Nat.le_of_ble_eq_true rfl, Nat.le_of_ble_eq_true rfl⟩) hw hA (fun p33 H locs hp33 hw => ?_)
    obtain ⟨f31, a32, rfl, e35, e36, e37, e38, e39, e40, e41⟩ := hp33
    have e35 : (f31 3).toInt = (f 3).toInt := e35
    have e36 : (f31 7).toInt = (f 7).toInt := e36
    have e37 : (f31 8).toInt = (f 8).toInt := e37
    have e38 : (f31 10).toInt = (f 10).toInt := e38
    have e39 : (f31 13).toInt = (f 13).toInt := e39
    have e40 : (f31 14).toInt = 0 := e40
    have e41 : (f31 11).toInt = (7 : Int) := e41
    first | exact px_vret S hr hlk hAe hw (Nat.le_of_ble_eq_true rfl) (Nat.le_of_ble_eq_true rfl) (⟨f31, a32, rfl, (show (f31 3).toInt = (f 3).toInt from e35), (show (f31 7).toInt = (f 7).toInt from e36), (show (f31 8).toInt = (f 8).toInt from e37), (show (f31 10).toInt = (f 10).toInt from e38), (show (f31 13).toInt = (f 13).toInt from e39), (show (f31 14).toInt = 0 from e40)⟩) d_Raw_branch_83 | exact px_vret S hr hlk hAe hw (Nat.le_of_ble_eq_true rfl) (Nat.le_of_ble_eq_true rfl) (⟨f31, a32, rfl, (show (f31 3).toInt = (f 3).toInt from by first | exact e35 | omega), (show (f31 7).toInt = (f 7).toInt from by first | exact e36 | omega), (show (f31 8).toInt = (f 8).toInt from by first | exact e37 | omega), (show (f31 10).toInt = (f 10).toInt from by first | exact e38 | omega), (show (f31 13).toInt = (f 13).toInt from by first | exact e39 | omega), (show (f31 14).toInt = 0 from by first | exact e40 | omega)⟩) d_Raw_branch_83
  ·
    refine lv_iload_n S.x S.b d_Raw_branch_51 rfl (lv_at hl 3 rfl) ?_
    refine lv_iload_n S.x S.b d_Raw_branch_52 rfl (lv_at hl 4 rfl) ?_
    refine lv_icmp_ge (tgt := 60) S.x S.b d_Raw_branch_53 (by decide) (fun c42 => ?_) (fun c42 => ?_)
    · have nc42 : p2.toInt ≤ p1.toInt := (i_le (x := p2) (y := p1)).mp c42
      refine lv_iconst (v := 0) S.x S.b d_Raw_branch_60 (by decide) ?_
      refine lv_istore (lv' := [(5, .int 0), (0, .ref h), (1, .int p0), (2, .int p1), (3, .int p2), (4, .int p3)]) S.x S.b d_Raw_branch_61 hl (by decide) rfl (fun ls hl => ?_)
      refine lv_goto (tgt := 84) S.x S.b d_Raw_branch_63 (by decide) ?_
      refine lv_iload S.x S.b d_Raw_branch_84 (lv_at hl 0 rfl) ?_
      refine lv_iload_n S.x S.b d_Raw_branch_86 rfl (lv_at hl 2 rfl) ?_
      refine lv_iconst (v := 1) S.x S.b d_Raw_branch_87 (by decide) ?_
      refine lv_iand S.x S.b d_Raw_branch_88 ?_
      refine lv_topi (fun z43 ez43 => ?_)
      have lz43 := Int32.le_toInt z43
      have uz43 := Int32.toInt_lt z43
      have bz43 := i_andm p0 (m := 1) 1 (by decide) (by decide)
      rw [← ez43] at bz43
      have wz43 : 0 ≤ z43.toInt ∧ z43.toInt ≤ 1 := by simp only [Nat.reducePow, Int.reducePow] at bz43; omega
      refine lv_if_ne (tgt := 96) S.x S.b d_Raw_branch_89 (by decide) (fun c44 => ?_) (fun c44 => ?_)
      · have nc44 : ¬ z43.toInt = (0 : Int) := mt (i_eq (x := z43) (y := 0)).mpr c44
        refine lv_iconst (v := 0) S.x S.b d_Raw_branch_96 (by decide) ?_
        refine lv_icmp_ne (tgt := 107) S.x S.b d_Raw_branch_97 (by decide) (fun c45 => ?_) (fun c45 => ?_)
        · exact absurd c45 (by decide)
        ·
          refine lv_aload_n S.x S.b d_Raw_branch_100 rfl (lv_at hl 1 rfl) ?_
          refine lv_iconst (v := 0) S.x S.b d_Raw_branch_101 (by decide) ?_
          refine lv_iload S.x S.b d_Raw_branch_102 (lv_at hl 5 rfl) ?_
          first | refine px_callv (pr := []) (px_runV (As := [.int 0, .int p3]) (rest := []) S (c_Raw_jump l D cs h r g o2 o4 f a 0 p3  (show (f 14).toInt = 0 from g0) _) hT (pr := []) (pcs := [wd_Raw cs h r (fun k => if k = 2 then o2 else if k = 4 then o4 else none) f a g]) hw px_X.tt (px_recv hT hw 0 0 rfl rfl rfl) m8_189 m8_186 m8_188 ms_6_6 m1_34 q_Raw_jump ⟨Nat.le_of_ble_eq_true rfl, Nat.le_of_ble_eq_true rfl⟩ hl.1 rfl (Nat.le_of_ble_eq_true rfl) d_Raw_branch_104 ⟨Nat.le_of_ble_eq_true rfl, Nat.le_of_ble_eq_true rfl⟩) hw hA (fun p48 H locs hp48 hw => ?_) | refine px_callv (pr := []) (px_runV (As := [.int 0, .int p3]) (rest := []) S (c_Raw_jump l D cs h r g o2 o4 f a 0 p3  (show (f 14).toInt = 0 from by first | exact g0 | omega) _) hT (pr := []) (pcs := [wd_Raw cs h r (fun k => if k = 2 then o2 else if k = 4 then o4 else none) f a g]) hw px_X.tt (px_recv hT hw 0 0 rfl rfl rfl) m8_189 m8_186 m8_188 ms_6_6 m1_34 q_Raw_jump ⟨Nat.le_of_ble_eq_true rfl, Nat.le_of_ble_eq_true rfl⟩ hl.1 rfl (Nat.le_of_ble_eq_true rfl) d_Raw_branch_104 ⟨Nat.le_of_ble_eq_true rfl, Nat.le_of_ble_eq_true rfl⟩) hw hA (fun p48 H locs hp48 hw => ?_)
          obtain ⟨f46, a47, rfl, e50, e51, e52, e53, e54, e55⟩ := hp48
          have e50 : (f46 3).toInt = (f 3).toInt := e50
          have e51 : (f46 7).toInt = (f 7).toInt := e51
          have e52 : (f46 8).toInt = (f 8).toInt := e52
          have e53 : (f46 10).toInt = (f 10).toInt := e53
          have e54 : (f46 13).toInt = (f 13).toInt := e54
          have e55 : (f46 14).toInt = 0 := e55
          first | exact px_vret S hr hlk hAe hw (Nat.le_of_ble_eq_true rfl) (Nat.le_of_ble_eq_true rfl) (⟨f46, a47, rfl, (show (f46 3).toInt = (f 3).toInt from e50), (show (f46 7).toInt = (f 7).toInt from e51), (show (f46 8).toInt = (f 8).toInt from e52), (show (f46 10).toInt = (f 10).toInt from e53), (show (f46 13).toInt = (f 13).toInt from e54), (show (f46 14).toInt = 0 from e55)⟩) d_Raw_branch_107 | exact px_vret S hr hlk hAe hw (Nat.le_of_ble_eq_true rfl) (Nat.le_of_ble_eq_true rfl) (⟨f46, a47, rfl, (show (f46 3).toInt = (f 3).toInt from by first | exact e50 | omega), (show (f46 7).toInt = (f 7).toInt from by first | exact e51 | omega), (show (f46 8).toInt = (f 8).toInt from by first | exact e52 | omega), (show (f46 10).toInt = (f 10).toInt from by first | exact e53 | omega), (show (f46 13).toInt = (f 13).toInt from by first | exact e54 | omega), (show (f46 14).toInt = 0 from by first | exact e55 | omega)⟩) d_Raw_branch_107
      · have nc44 : z43.toInt = (0 : Int) := (i_eq (x := z43) (y := 0)).mp c44
        refine lv_iconst (v := 1) S.x S.b d_Raw_branch_92 (by decide) ?_
        refine lv_goto (tgt := 97) S.x S.b d_Raw_branch_93 (by decide) ?_
        refine lv_icmp_ne (tgt := 107) S.x S.b d_Raw_branch_97 (by decide) (fun c56 => ?_) (fun c56 => ?_)
        ·
          first | exact px_vret S hr hlk hAe hw (Nat.le_of_ble_eq_true rfl) (Nat.le_of_ble_eq_true rfl) (⟨f, a, rfl, (show (f 3).toInt = (f 3).toInt from rfl), (show (f 7).toInt = (f 7).toInt from rfl), (show (f 8).toInt = (f 8).toInt from rfl), (show (f 10).toInt = (f 10).toInt from rfl), (show (f 13).toInt = (f 13).toInt from rfl), (show (f 14).toInt = 0 from g0)⟩) d_Raw_branch_107 | exact px_vret S hr hlk hAe hw (Nat.le_of_ble_eq_true rfl) (Nat.le_of_ble_eq_true rfl) (⟨f, a, rfl, (show (f 3).toInt = (f 3).toInt from rfl), (show (f 7).toInt = (f 7).toInt from rfl), (show (f 8).toInt = (f 8).toInt from rfl), (show (f 10).toInt = (f 10).toInt from rfl), (show (f 13).toInt = (f 13).toInt from rfl), (show (f 14).toInt = 0 from by first | exact g0 | omega)⟩) d_Raw_branch_107
        · exact absurd c56 (by decide)
    · have nc42 : ¬ p2.toInt ≤ p1.toInt := mt (i_le (x := p2) (y := p1)).mpr c42
      refine lv_iconst (v := 1) S.x S.b d_Raw_branch_56 (by decide) ?_
      refine lv_goto (tgt := 61) S.x S.b d_Raw_branch_57 (by decide) ?_
      refine lv_istore (lv' := [(5, .int 1), (0, .ref h), (1, .int p0), (2, .int p1), (3, .int p2), (4, .int p3)]) S.x S.b d_Raw_branch_61 hl (by decide) rfl (fun ls hl => ?_)
      refine lv_goto (tgt := 84) S.x S.b d_Raw_branch_63 (by decide) ?_
      refine lv_iload S.x S.b d_Raw_branch_84 (lv_at hl 0 rfl) ?_
      refine lv_iload_n S.x S.b d_Raw_branch_86 rfl (lv_at hl 2 rfl) ?_
      refine lv_iconst (v := 1) S.x S.b d_Raw_branch_87 (by decide) ?_
      refine lv_iand S.x S.b d_Raw_branch_88 ?_
      refine lv_topi (fun z57 ez57 => ?_)
      have lz57 := Int32.le_toInt z57
      have uz57 := Int32.toInt_lt z57
      have bz57 := i_andm p0 (m := 1) 1 (by decide) (by decide)
      rw [← ez57] at bz57
      have wz57 : 0 ≤ z57.toInt ∧ z57.toInt ≤ 1 := by simp only [Nat.reducePow, Int.reducePow] at bz57; omega
      refine lv_if_ne (tgt := 96) S.x S.b d_Raw_branch_89 (by decide) (fun c58 => ?_) (fun c58 => ?_)
      · have nc58 : ¬ z57.toInt = (0 : Int) := mt (i_eq (x := z57) (y := 0)).mpr c58
        refine lv_iconst (v := 0) S.x S.b d_Raw_branch_96 (by decide) ?_
        refine lv_icmp_ne (tgt := 107) S.x S.b d_Raw_branch_97 (by decide) (fun c59 => ?_) (fun c59 => ?_)
        ·
          first | exact px_vret S hr hlk hAe hw (Nat.le_of_ble_eq_true rfl) (Nat.le_of_ble_eq_true rfl) (⟨f, a, rfl, (show (f 3).toInt = (f 3).toInt from rfl), (show (f 7).toInt = (f 7).toInt from rfl), (show (f 8).toInt = (f 8).toInt from rfl), (show (f 10).toInt = (f 10).toInt from rfl), (show (f 13).toInt = (f 13).toInt from rfl), (show (f 14).toInt = 0 from g0)⟩) d_Raw_branch_107 | exact px_vret S hr hlk hAe hw (Nat.le_of_ble_eq_true rfl) (Nat.le_of_ble_eq_true rfl) (⟨f, a, rfl, (show (f 3).toInt = (f 3).toInt from rfl), (show (f 7).toInt = (f 7).toInt from rfl), (show (f 8).toInt = (f 8).toInt from rfl), (show (f 10).toInt = (f 10).toInt from rfl), (show (f 13).toInt = (f 13).toInt from rfl), (show (f 14).toInt = 0 from by first | exact g0 | omega)⟩) d_Raw_branch_107
        · exact absurd c59 (by decide)
      · have nc58 : z57.toInt = (0 : Int) := (i_eq (x := z57) (y := 0)).mp c58
        refine lv_iconst (v := 1) S.x S.b d_Raw_branch_92 (by decide) ?_
        refine lv_goto (tgt := 97) S.x S.b d_Raw_branch_93 (by decide) ?_
        refine lv_icmp_ne (tgt := 107) S.x S.b d_Raw_branch_97 (by decide) (fun c60 => ?_) (fun c60 => ?_)
        · exact absurd c60 (by decide)
        ·
          refine lv_aload_n S.x S.b d_Raw_branch_100 rfl (lv_at hl 1 rfl) ?_
          refine lv_iconst (v := 0) S.x S.b d_Raw_branch_101 (by decide) ?_
          refine lv_iload S.x S.b d_Raw_branch_102 (lv_at hl 5 rfl) ?_
          first | refine px_callv (pr := []) (px_runV (As := [.int 0, .int p3]) (rest := []) S (c_Raw_jump l D cs h r g o2 o4 f a 0 p3  (show (f 14).toInt = 0 from g0) _) hT (pr := []) (pcs := [wd_Raw cs h r (fun k => if k = 2 then o2 else if k = 4 then o4 else none) f a g]) hw px_X.tt (px_recv hT hw 0 0 rfl rfl rfl) m8_189 m8_186 m8_188 ms_6_6 m1_34 q_Raw_jump ⟨Nat.le_of_ble_eq_true rfl, Nat.le_of_ble_eq_true rfl⟩ hl.1 rfl (Nat.le_of_ble_eq_true rfl) d_Raw_branch_104 ⟨Nat.le_of_ble_eq_true rfl, Nat.le_of_ble_eq_true rfl⟩) hw hA (fun p63 H locs hp63 hw => ?_) | refine px_callv (pr := []) (px_runV (As := [.int 0, .int p3]) (rest := []) S (c_Raw_jump l D cs h r g o2 o4 f a 0 p3  (show (f 14).toInt = 0 from by first | exact g0 | omega) _) hT (pr := []) (pcs := [wd_Raw cs h r (fun k => if k = 2 then o2 else if k = 4 then o4 else none) f a g]) hw px_X.tt (px_recv hT hw 0 0 rfl rfl rfl) m8_189 m8_186 m8_188 ms_6_6 m1_34 q_Raw_jump ⟨Nat.le_of_ble_eq_true rfl, Nat.le_of_ble_eq_true rfl⟩ hl.1 rfl (Nat.le_of_ble_eq_true rfl) d_Raw_branch_104 ⟨Nat.le_of_ble_eq_true rfl, Nat.le_of_ble_eq_true rfl⟩) hw hA (fun p63 H locs hp63 hw => ?_)
          obtain ⟨f61, a62, rfl, e65, e66, e67, e68, e69, e70⟩ := hp63
          have e65 : (f61 3).toInt = (f 3).toInt := e65
          have e66 : (f61 7).toInt = (f 7).toInt := e66
          have e67 : (f61 8).toInt = (f 8).toInt := e67
          have e68 : (f61 10).toInt = (f 10).toInt := e68
          have e69 : (f61 13).toInt = (f 13).toInt := e69
          have e70 : (f61 14).toInt = 0 := e70
          first | exact px_vret S hr hlk hAe hw (Nat.le_of_ble_eq_true rfl) (Nat.le_of_ble_eq_true rfl) (⟨f61, a62, rfl, (show (f61 3).toInt = (f 3).toInt from e65), (show (f61 7).toInt = (f 7).toInt from e66), (show (f61 8).toInt = (f 8).toInt from e67), (show (f61 10).toInt = (f 10).toInt from e68), (show (f61 13).toInt = (f 13).toInt from e69), (show (f61 14).toInt = 0 from e70)⟩) d_Raw_branch_107 | exact px_vret S hr hlk hAe hw (Nat.le_of_ble_eq_true rfl) (Nat.le_of_ble_eq_true rfl) (⟨f61, a62, rfl, (show (f61 3).toInt = (f 3).toInt from by first | exact e65 | omega), (show (f61 7).toInt = (f 7).toInt from by first | exact e66 | omega), (show (f61 8).toInt = (f 8).toInt from by first | exact e67 | omega), (show (f61 10).toInt = (f 10).toInt from by first | exact e68 | omega), (show (f61 13).toInt = (f 13).toInt from by first | exact e69 | omega), (show (f61 14).toInt = 0 from by first | exact e70 | omega)⟩) d_Raw_branch_107
  ·
    refine lv_iload_n S.x S.b d_Raw_branch_66 rfl (lv_at hl 3 rfl) ?_
    refine lv_iload_n S.x S.b d_Raw_branch_67 rfl (lv_at hl 4 rfl) ?_
    refine px_calli (pr := [wd_Raw cs h r (fun k => if k = 2 then o2 else if k = 4 then o4 else none) f a g]) (px_runS (As := [.int p1, .int p2]) (rest := []) S (c_Raw_below l D cs  p1 p2   _) hT (pr := [wd_Raw cs h r (fun k => if k = 2 then o2 else if k = 4 then o4 else none) f a g]) (pcs := []) hw px_X.tt m8_203 m8_201 m8_202 m1_34 q_Raw_below ⟨Nat.le_of_ble_eq_true rfl, Nat.le_of_ble_eq_true rfl⟩ hl.1 rfl (Nat.le_of_ble_eq_true rfl) d_Raw_branch_68 ⟨Nat.le_of_ble_eq_true rfl, Nat.le_of_ble_eq_true rfl⟩) hw hA (fun v72 p71 H locs hp71 hw => ?_)
    obtain ⟨rfl, e73⟩ := hp71
    have e73 := z_int e73
    have lv72 := Int32.le_toInt v72
    have uv72 := Int32.toInt_lt v72
    refine lv_istore (lv' := [(5, .int v72), (0, .ref h), (1, .int p0), (2, .int p1), (3, .int p2), (4, .int p3)]) S.x S.b d_Raw_branch_71 hl (by decide) rfl (fun ls hl => ?_)
    refine lv_goto (tgt := 84) S.x S.b d_Raw_branch_73 (by decide) ?_
    refine lv_iload S.x S.b d_Raw_branch_84 (lv_at hl 0 rfl) ?_
    refine lv_iload_n S.x S.b d_Raw_branch_86 rfl (lv_at hl 2 rfl) ?_
    refine lv_iconst (v := 1) S.x S.b d_Raw_branch_87 (by decide) ?_
    refine lv_iand S.x S.b d_Raw_branch_88 ?_
    refine lv_topi (fun z74 ez74 => ?_)
    have lz74 := Int32.le_toInt z74
    have uz74 := Int32.toInt_lt z74
    have bz74 := i_andm p0 (m := 1) 1 (by decide) (by decide)
    rw [← ez74] at bz74
    have wz74 : 0 ≤ z74.toInt ∧ z74.toInt ≤ 1 := by simp only [Nat.reducePow, Int.reducePow] at bz74; omega
    refine lv_if_ne (tgt := 96) S.x S.b d_Raw_branch_89 (by decide) (fun c75 => ?_) (fun c75 => ?_)
    · have nc75 : ¬ z74.toInt = (0 : Int) := mt (i_eq (x := z74) (y := 0)).mpr c75
      refine lv_iconst (v := 0) S.x S.b d_Raw_branch_96 (by decide) ?_
      refine lv_icmp_ne (tgt := 107) S.x S.b d_Raw_branch_97 (by decide) (fun c76 => ?_) (fun c76 => ?_)
      · have nc76 : ¬ v72.toInt = (0 : Int) := mt (i_eq (x := v72) (y := 0)).mpr c76
        first | exact px_vret S hr hlk hAe hw (Nat.le_of_ble_eq_true rfl) (Nat.le_of_ble_eq_true rfl) (⟨f, a, rfl, (show (f 3).toInt = (f 3).toInt from rfl), (show (f 7).toInt = (f 7).toInt from rfl), (show (f 8).toInt = (f 8).toInt from rfl), (show (f 10).toInt = (f 10).toInt from rfl), (show (f 13).toInt = (f 13).toInt from rfl), (show (f 14).toInt = 0 from g0)⟩) d_Raw_branch_107 | exact px_vret S hr hlk hAe hw (Nat.le_of_ble_eq_true rfl) (Nat.le_of_ble_eq_true rfl) (⟨f, a, rfl, (show (f 3).toInt = (f 3).toInt from rfl), (show (f 7).toInt = (f 7).toInt from rfl), (show (f 8).toInt = (f 8).toInt from rfl), (show (f 10).toInt = (f 10).toInt from rfl), (show (f 13).toInt = (f 13).toInt from rfl), (show (f 14).toInt = 0 from by first | exact g0 | omega)⟩) d_Raw_branch_107
      · have nc76 : v72.toInt = (0 : Int) := (i_eq (x := v72) (y := 0)).mp c76
        refine lv_aload_n S.x S.b d_Raw_branch_100 rfl (lv_at hl 1 rfl) ?_
        refine lv_iconst (v := 0) S.x S.b d_Raw_branch_101 (by decide) ?_
        refine lv_iload S.x S.b d_Raw_branch_102 (lv_at hl 5 rfl) ?_
        first | refine px_callv (pr := []) (px_runV (As := [.int 0, .int p3]) (rest := []) S (c_Raw_jump l D cs h r g o2 o4 f a 0 p3  (show (f 14).toInt = 0 from g0) _) hT (pr := []) (pcs := [wd_Raw cs h r (fun k => if k = 2 then o2 else if k = 4 then o4 else none) f a g]) hw px_X.tt (px_recv hT hw 0 0 rfl rfl rfl) m8_189 m8_186 m8_188 ms_6_6 m1_34 q_Raw_jump ⟨Nat.le_of_ble_eq_true rfl, Nat.le_of_ble_eq_true rfl⟩ hl.1 rfl (Nat.le_of_ble_eq_true rfl) d_Raw_branch_104 ⟨Nat.le_of_ble_eq_true rfl, Nat.le_of_ble_eq_true rfl⟩) hw hA (fun p79 H locs hp79 hw => ?_) | refine px_callv (pr := []) (px_runV (As := [.int 0, .int p3]) (rest := []) S (c_Raw_jump l D cs h r g o2 o4 f a 0 p3  (show (f 14).toInt = 0 from by first | exact g0 | omega) _) hT (pr := []) (pcs := [wd_Raw cs h r (fun k => if k = 2 then o2 else if k = 4 then o4 else none) f a g]) hw px_X.tt (px_recv hT hw 0 0 rfl rfl rfl) m8_189 m8_186 m8_188 ms_6_6 m1_34 q_Raw_jump ⟨Nat.le_of_ble_eq_true rfl, Nat.le_of_ble_eq_true rfl⟩ hl.1 rfl (Nat.le_of_ble_eq_true rfl) d_Raw_branch_104 ⟨Nat.le_of_ble_eq_true rfl, Nat.le_of_ble_eq_true rfl⟩) hw hA (fun p79 H locs hp79 hw => ?_)
        obtain ⟨f77, a78, rfl, e81, e82, e83, e84, e85, e86⟩ := hp79
        have e81 : (f77 3).toInt = (f 3).toInt := e81
        have e82 : (f77 7).toInt = (f 7).toInt := e82
        have e83 : (f77 8).toInt = (f 8).toInt := e83
        have e84 : (f77 10).toInt = (f 10).toInt := e84
        have e85 : (f77 13).toInt = (f 13).toInt := e85
        have e86 : (f77 14).toInt = 0 := e86
        first | exact px_vret S hr hlk hAe hw (Nat.le_of_ble_eq_true rfl) (Nat.le_of_ble_eq_true rfl) (⟨f77, a78, rfl, (show (f77 3).toInt = (f 3).toInt from e81), (show (f77 7).toInt = (f 7).toInt from e82), (show (f77 8).toInt = (f 8).toInt from e83), (show (f77 10).toInt = (f 10).toInt from e84), (show (f77 13).toInt = (f 13).toInt from e85), (show (f77 14).toInt = 0 from e86)⟩) d_Raw_branch_107 | exact px_vret S hr hlk hAe hw (Nat.le_of_ble_eq_true rfl) (Nat.le_of_ble_eq_true rfl) (⟨f77, a78, rfl, (show (f77 3).toInt = (f 3).toInt from by first | exact e81 | omega), (show (f77 7).toInt = (f 7).toInt from by first | exact e82 | omega), (show (f77 8).toInt = (f 8).toInt from by first | exact e83 | omega), (show (f77 10).toInt = (f 10).toInt from by first | exact e84 | omega), (show (f77 13).toInt = (f 13).toInt from by first | exact e85 | omega), (show (f77 14).toInt = 0 from by first | exact e86 | omega)⟩) d_Raw_branch_107
    · have nc75 : z74.toInt = (0 : Int) := (i_eq (x := z74) (y := 0)).mp c75
      refine lv_iconst (v := 1) S.x S.b d_Raw_branch_92 (by decide) ?_
      refine lv_goto (tgt := 97) S.x S.b d_Raw_branch_93 (by decide) ?_
      refine lv_icmp_ne (tgt := 107) S.x S.b d_Raw_branch_97 (by decide) (fun c87 => ?_) (fun c87 => ?_)
      · have nc87 : ¬ v72.toInt = (1 : Int) := mt (i_eq (x := v72) (y := 1)).mpr c87
        first | exact px_vret S hr hlk hAe hw (Nat.le_of_ble_eq_true rfl) (Nat.le_of_ble_eq_true rfl) (⟨f, a, rfl, (show (f 3).toInt = (f 3).toInt from rfl), (show (f 7).toInt = (f 7).toInt from rfl), (show (f 8).toInt = (f 8).toInt from rfl), (show (f 10).toInt = (f 10).toInt from rfl), (show (f 13).toInt = (f 13).toInt from rfl), (show (f 14).toInt = 0 from g0)⟩) d_Raw_branch_107 | exact px_vret S hr hlk hAe hw (Nat.le_of_ble_eq_true rfl) (Nat.le_of_ble_eq_true rfl) (⟨f, a, rfl, (show (f 3).toInt = (f 3).toInt from rfl), (show (f 7).toInt = (f 7).toInt from rfl), (show (f 8).toInt = (f 8).toInt from rfl), (show (f 10).toInt = (f 10).toInt from rfl), (show (f 13).toInt = (f 13).toInt from rfl), (show (f 14).toInt = 0 from by first | exact g0 | omega)⟩) d_Raw_branch_107
      · have nc87 : v72.toInt = (1 : Int) := (i_eq (x := v72) (y := 1)).mp c87
        refine lv_aload_n S.x S.b d_Raw_branch_100 rfl (lv_at hl 1 rfl) ?_
        refine lv_iconst (v := 0) S.x S.b d_Raw_branch_101 (by decide) ?_
        refine lv_iload S.x S.b d_Raw_branch_102 (lv_at hl 5 rfl) ?_
        first | refine px_callv (pr := []) (px_runV (As := [.int 0, .int p3]) (rest := []) S (c_Raw_jump l D cs h r g o2 o4 f a 0 p3  (show (f 14).toInt = 0 from g0) _) hT (pr := []) (pcs := [wd_Raw cs h r (fun k => if k = 2 then o2 else if k = 4 then o4 else none) f a g]) hw px_X.tt (px_recv hT hw 0 0 rfl rfl rfl) m8_189 m8_186 m8_188 ms_6_6 m1_34 q_Raw_jump ⟨Nat.le_of_ble_eq_true rfl, Nat.le_of_ble_eq_true rfl⟩ hl.1 rfl (Nat.le_of_ble_eq_true rfl) d_Raw_branch_104 ⟨Nat.le_of_ble_eq_true rfl, Nat.le_of_ble_eq_true rfl⟩) hw hA (fun p90 H locs hp90 hw => ?_) | refine px_callv (pr := []) (px_runV (As := [.int 0, .int p3]) (rest := []) S (c_Raw_jump l D cs h r g o2 o4 f a 0 p3  (show (f 14).toInt = 0 from by first | exact g0 | omega) _) hT (pr := []) (pcs := [wd_Raw cs h r (fun k => if k = 2 then o2 else if k = 4 then o4 else none) f a g]) hw px_X.tt (px_recv hT hw 0 0 rfl rfl rfl) m8_189 m8_186 m8_188 ms_6_6 m1_34 q_Raw_jump ⟨Nat.le_of_ble_eq_true rfl, Nat.le_of_ble_eq_true rfl⟩ hl.1 rfl (Nat.le_of_ble_eq_true rfl) d_Raw_branch_104 ⟨Nat.le_of_ble_eq_true rfl, Nat.le_of_ble_eq_true rfl⟩) hw hA (fun p90 H locs hp90 hw => ?_)
        obtain ⟨f88, a89, rfl, e92, e93, e94, e95, e96, e97⟩ := hp90
        have e92 : (f88 3).toInt = (f 3).toInt := e92
        have e93 : (f88 7).toInt = (f 7).toInt := e93
        have e94 : (f88 8).toInt = (f 8).toInt := e94
        have e95 : (f88 10).toInt = (f 10).toInt := e95
        have e96 : (f88 13).toInt = (f 13).toInt := e96
        have e97 : (f88 14).toInt = 0 := e97
        first | exact px_vret S hr hlk hAe hw (Nat.le_of_ble_eq_true rfl) (Nat.le_of_ble_eq_true rfl) (⟨f88, a89, rfl, (show (f88 3).toInt = (f 3).toInt from e92), (show (f88 7).toInt = (f 7).toInt from e93), (show (f88 8).toInt = (f 8).toInt from e94), (show (f88 10).toInt = (f 10).toInt from e95), (show (f88 13).toInt = (f 13).toInt from e96), (show (f88 14).toInt = 0 from e97)⟩) d_Raw_branch_107 | exact px_vret S hr hlk hAe hw (Nat.le_of_ble_eq_true rfl) (Nat.le_of_ble_eq_true rfl) (⟨f88, a89, rfl, (show (f88 3).toInt = (f 3).toInt from by first | exact e92 | omega), (show (f88 7).toInt = (f 7).toInt from by first | exact e93 | omega), (show (f88 8).toInt = (f 8).toInt from by first | exact e94 | omega), (show (f88 10).toInt = (f 10).toInt from by first | exact e95 | omega), (show (f88 13).toInt = (f 13).toInt from by first | exact e96 | omega), (show (f88 14).toInt = 0 from by first | exact e97 | omega)⟩) d_Raw_branch_107
abbrev b_Raw_immediate : ByteArray := prog_8_method_23_code
def y_Raw_immediate : MethodName := ⟨"HomeSystem$RawProcess", "immediate", "(IIII)V"⟩
theorem d_Raw_immediate_0 : decode b_Raw_immediate 0 = .ok (.iload_n 1, 1) := by decide +kernel
theorem d_Raw_immediate_1 : decode b_Raw_immediate 1 = .ok (.bipush 25, 2) := by decide +kernel
theorem d_Raw_immediate_3 : decode b_Raw_immediate 3 = .ok (.iushr, 1) := by decide +kernel
theorem d_Raw_immediate_4 : decode b_Raw_immediate 4 = .ok (.istore 5, 2) := by decide +kernel
theorem d_Raw_immediate_6 : decode b_Raw_immediate 6 = .ok (.iload_n 3, 1) := by decide +kernel
theorem d_Raw_immediate_7 : decode b_Raw_immediate 7 = .ok (.iconst 1, 1) := by decide +kernel
theorem d_Raw_immediate_8 : decode b_Raw_immediate 8 = .ok (.if_icmp .eq 8, 3) := by decide +kernel
theorem d_Raw_immediate_11 : decode b_Raw_immediate 11 = .ok (.iload_n 3, 1) := by decide +kernel
theorem d_Raw_immediate_12 : decode b_Raw_immediate 12 = .ok (.iconst 5, 1) := by decide +kernel
theorem d_Raw_immediate_13 : decode b_Raw_immediate 13 = .ok (.if_icmp .ne 7, 3) := by decide +kernel
theorem d_Raw_immediate_16 : decode b_Raw_immediate 16 = .ok (.iconst 1, 1) := by decide +kernel
theorem d_Raw_immediate_17 : decode b_Raw_immediate 17 = .ok (.goto 4, 3) := by decide +kernel
theorem d_Raw_immediate_20 : decode b_Raw_immediate 20 = .ok (.iconst 0, 1) := by decide +kernel
theorem d_Raw_immediate_21 : decode b_Raw_immediate 21 = .ok (.istore 6, 2) := by decide +kernel
theorem d_Raw_immediate_23 : decode b_Raw_immediate 23 = .ok (.iload 6, 2) := by decide +kernel
theorem d_Raw_immediate_25 : decode b_Raw_immediate 25 = .ok (.ifCond .eq 30, 3) := by decide +kernel
theorem d_Raw_immediate_28 : decode b_Raw_immediate 28 = .ok (.iload 5, 2) := by decide +kernel
theorem d_Raw_immediate_30 : decode b_Raw_immediate 30 = .ok (.ifCond .eq 25, 3) := by decide +kernel
theorem d_Raw_immediate_33 : decode b_Raw_immediate 33 = .ok (.iload_n 3, 1) := by decide +kernel
theorem d_Raw_immediate_34 : decode b_Raw_immediate 34 = .ok (.iconst 5, 1) := by decide +kernel
theorem d_Raw_immediate_35 : decode b_Raw_immediate 35 = .ok (.if_icmp .ne 10, 3) := by decide +kernel
theorem d_Raw_immediate_38 : decode b_Raw_immediate 38 = .ok (.iload 5, 2) := by decide +kernel
theorem d_Raw_immediate_40 : decode b_Raw_immediate 40 = .ok (.bipush 32, 2) := by decide +kernel
theorem d_Raw_immediate_42 : decode b_Raw_immediate 42 = .ok (.if_icmp .eq 13, 3) := by decide +kernel
theorem d_Raw_immediate_45 : decode b_Raw_immediate 45 = .ok (.aload_n 0, 1) := by decide +kernel
theorem d_Raw_immediate_46 : decode b_Raw_immediate 46 = .ok (.bipush 7, 2) := by decide +kernel
theorem d_Raw_immediate_48 : decode b_Raw_immediate 48 = .ok (.iconst 0, 1) := by decide +kernel
theorem d_Raw_immediate_49 : decode b_Raw_immediate 49 = .ok (.invokevirtual 56, 3) := by decide +kernel
theorem d_Raw_immediate_52 : decode b_Raw_immediate 52 = .ok (.goto 45, 3) := by decide +kernel
theorem d_Raw_immediate_55 : decode b_Raw_immediate 55 = .ok (.aload_n 0, 1) := by decide +kernel
theorem d_Raw_immediate_56 : decode b_Raw_immediate 56 = .ok (.iload_n 2, 1) := by decide +kernel
theorem d_Raw_immediate_57 : decode b_Raw_immediate 57 = .ok (.iload_n 3, 1) := by decide +kernel
theorem d_Raw_immediate_58 : decode b_Raw_immediate 58 = .ok (.iload 4, 2) := by decide +kernel
theorem d_Raw_immediate_60 : decode b_Raw_immediate 60 = .ok (.iload 6, 2) := by decide +kernel
theorem d_Raw_immediate_62 : decode b_Raw_immediate 62 = .ok (.ifCond .eq 13, 3) := by decide +kernel
theorem d_Raw_immediate_65 : decode b_Raw_immediate 65 = .ok (.iload_n 1, 1) := by decide +kernel
theorem d_Raw_immediate_66 : decode b_Raw_immediate 66 = .ok (.bipush 20, 2) := by decide +kernel
theorem d_Raw_immediate_68 : decode b_Raw_immediate 68 = .ok (.iushr, 1) := by decide +kernel
theorem d_Raw_immediate_69 : decode b_Raw_immediate 69 = .ok (.bipush 31, 2) := by decide +kernel
theorem d_Raw_immediate_71 : decode b_Raw_immediate 71 = .ok (.iand, 1) := by decide +kernel
theorem d_Raw_immediate_72 : decode b_Raw_immediate 72 = .ok (.goto 7, 3) := by decide +kernel
theorem d_Raw_immediate_75 : decode b_Raw_immediate 75 = .ok (.iload_n 1, 1) := by decide +kernel
theorem d_Raw_immediate_76 : decode b_Raw_immediate 76 = .ok (.bipush 20, 2) := by decide +kernel
theorem d_Raw_immediate_78 : decode b_Raw_immediate 78 = .ok (.ishr, 1) := by decide +kernel
theorem d_Raw_immediate_79 : decode b_Raw_immediate 79 = .ok (.iload 5, 2) := by decide +kernel
theorem d_Raw_immediate_81 : decode b_Raw_immediate 81 = .ok (.bipush 32, 2) := by decide +kernel
theorem d_Raw_immediate_83 : decode b_Raw_immediate 83 = .ok (.if_icmp .ne 7, 3) := by decide +kernel
theorem d_Raw_immediate_86 : decode b_Raw_immediate 86 = .ok (.iconst 1, 1) := by decide +kernel
theorem d_Raw_immediate_87 : decode b_Raw_immediate 87 = .ok (.goto 4, 3) := by decide +kernel
theorem d_Raw_immediate_90 : decode b_Raw_immediate 90 = .ok (.iconst 0, 1) := by decide +kernel
theorem d_Raw_immediate_91 : decode b_Raw_immediate 91 = .ok (.invokestatic 149, 3) := by decide +kernel
theorem d_Raw_immediate_94 : decode b_Raw_immediate 94 = .ok (.invokevirtual 103, 3) := by decide +kernel
theorem d_Raw_immediate_97 : decode b_Raw_immediate 97 = .ok (.return_, 1) := by decide +kernel
theorem q_Raw_immediate : px_y y_Raw_immediate 4 := by unfold px_y; decide +kernel
set_option maxHeartbeats 4000000 in
set_option maxRecDepth 100000 in
theorem c_Raw_immediate (l : Launch) (D : va_G) (cs : Nat → ClassId) (h : Nat) (r : Nat → Nat) (g : Nat → Nat → Option Nat) (o2 : Option Nat) (o4 : Option Nat) (f : Nat → Int32) (a : Nat → Nat → Int32) (p0 p1 p2 p3 : Int32)  (g0 : (f 14).toInt = 0) : MetV l y_Raw_immediate b_Raw_immediate 7 D cs 2 70 (0) (0) [.ref h, .int p0, .int p1, .int p2, .int p3] [wd_Raw cs h r (fun k => if k = 2 then o2 else if k = 4 then o4 else none) f a g] (fun _ => True) (fun ps => ∃ (f' : Nat → Int32) (a' : Nat → Nat → Int32), (ps = [wd_Raw cs h r (fun k => if k = 2 then o2 else if k = 4 then o4 else none) f' a' g]) ∧ ((f' 3).toInt = (f 3).toInt) ∧ ((f' 7).toInt = (f 7).toInt) ∧ ((f' 8).toInt = (f 8).toInt) ∧ ((f' 10).toInt = (f 10).toInt) ∧ ((f' 13).toInt = (f 13).toInt) ∧ ((f' 14).toInt = 0)) := by
  refine px_enter (by decide) (Nat.le_of_ble_eq_true rfl) ?_
  intro p e s m below meth c A ls hAe S hr hlk hnm hA hT hX hw hl
  have hl : lv_has ls 7 [(0, .ref h), (1, .int p0), (2, .int p1), (3, .int p2), (4, .int p3)] := hl
  have lp0 := Int32.le_toInt p0
  have up0 := Int32.toInt_lt p0
  have lp1 := Int32.le_toInt p1
  have up1 := Int32.toInt_lt p1
  have lp2 := Int32.le_toInt p2
  have up2 := Int32.toInt_lt p2
  have lp3 := Int32.le_toInt p3
  have up3 := Int32.toInt_lt p3
  have cst0 : (0 : Int32).toInt = 0 := rfl
  have cst1 : (1 : Int32).toInt = 1 := rfl
  have cst5 : (5 : Int32).toInt = 5 := rfl
  have cst7 : (7 : Int32).toInt = 7 := rfl
  have cst20 : (20 : Int32).toInt = 20 := rfl
  have cst25 : (25 : Int32).toInt = 25 := rfl
  have cst31 : (31 : Int32).toInt = 31 := rfl
  have cst32 : (32 : Int32).toInt = 32 := rfl
  refine lv_iload_n S.x S.b d_Raw_immediate_0 rfl (lv_at hl 1 rfl) ?_
  refine lv_bipush (v := 25) S.x S.b d_Raw_immediate_1 (by decide) ?_
  refine lv_iushr S.x S.b d_Raw_immediate_3 rfl ?_
  refine lv_topi (fun z1 ez1 => ?_)
  have lz1 := Int32.le_toInt z1
  have uz1 := Int32.toInt_lt z1
  refine lv_istore (lv' := [(5, .int z1), (0, .ref h), (1, .int p0), (2, .int p1), (3, .int p2), (4, .int p3)]) S.x S.b d_Raw_immediate_4 hl (by decide) rfl (fun ls hl => ?_)
  refine lv_iload_n S.x S.b d_Raw_immediate_6 rfl (lv_at hl 4 rfl) ?_
  refine lv_iconst (v := 1) S.x S.b d_Raw_immediate_7 (by decide) ?_
  refine lv_icmp_eq (tgt := 16) S.x S.b d_Raw_immediate_8 (by decide) (fun c2 => ?_) (fun c2 => ?_)
  · have nc2 : p2.toInt = (1 : Int) := (i_eq (x := p2) (y := 1)).mp c2
    refine lv_iconst (v := 1) S.x S.b d_Raw_immediate_16 (by decide) ?_
    refine lv_goto (tgt := 21) S.x S.b d_Raw_immediate_17 (by decide) ?_
    refine lv_istore (lv' := [(6, .int 1), (5, .int z1), (0, .ref h), (1, .int p0), (2, .int p1), (3, .int p2), (4, .int p3)]) S.x S.b d_Raw_immediate_21 hl (by decide) rfl (fun ls hl => ?_)
    refine lv_iload S.x S.b d_Raw_immediate_23 (lv_at hl 0 rfl) ?_
    refine lv_if_eq (tgt := 55) S.x S.b d_Raw_immediate_25 (by decide) (fun c3 => ?_) (fun c3 => ?_)
    · exact absurd c3 (by decide)
    ·
      refine lv_iload S.x S.b d_Raw_immediate_28 (lv_at hl 1 rfl) ?_
      refine lv_if_eq (tgt := 55) S.x S.b d_Raw_immediate_30 (by decide) (fun c4 => ?_) (fun c4 => ?_)
      · have nc4 : z1.toInt = (0 : Int) := (i_eq (x := z1) (y := 0)).mp c4
        refine lv_aload_n S.x S.b d_Raw_immediate_55 rfl (lv_at hl 2 rfl) ?_
        refine lv_iload_n S.x S.b d_Raw_immediate_56 rfl (lv_at hl 4 rfl) ?_
        refine lv_iload_n S.x S.b d_Raw_immediate_57 rfl (lv_at hl 5 rfl) ?_
        refine lv_iload S.x S.b d_Raw_immediate_58 (lv_at hl 6 rfl) ?_
        refine lv_iload S.x S.b d_Raw_immediate_60 (lv_at hl 0 rfl) ?_
        refine lv_if_eq (tgt := 75) S.x S.b d_Raw_immediate_62 (by decide) (fun c5 => ?_) (fun c5 => ?_)
        · exact absurd c5 (by decide)
        ·
          refine lv_iload_n S.x S.b d_Raw_immediate_65 rfl (lv_at hl 3 rfl) ?_
          refine lv_bipush (v := 20) S.x S.b d_Raw_immediate_66 (by decide) ?_
          refine lv_iushr S.x S.b d_Raw_immediate_68 rfl ?_
          refine lv_topi (fun z6 ez6 => ?_)
          have lz6 := Int32.le_toInt z6
          have uz6 := Int32.toInt_lt z6
          refine lv_bipush (v := 31) S.x S.b d_Raw_immediate_69 (by decide) ?_
          refine lv_iand S.x S.b d_Raw_immediate_71 ?_
          refine lv_topi (fun z7 ez7 => ?_)
          have lz7 := Int32.le_toInt z7
          have uz7 := Int32.toInt_lt z7
          have bz7 := i_andm z6 (m := 31) 5 (by decide) (by decide)
          rw [← ez7] at bz7
          have wz7 : 0 ≤ z7.toInt ∧ z7.toInt ≤ 31 := by simp only [Nat.reducePow, Int.reducePow] at bz7; omega
          refine lv_goto (tgt := 79) S.x S.b d_Raw_immediate_72 (by decide) ?_
          refine lv_iload S.x S.b d_Raw_immediate_79 (lv_at hl 1 rfl) ?_
          refine lv_bipush (v := 32) S.x S.b d_Raw_immediate_81 (by decide) ?_
          refine lv_icmp_ne (tgt := 90) S.x S.b d_Raw_immediate_83 (by decide) (fun c8 => ?_) (fun c8 => ?_)
          · have nc8 : ¬ z1.toInt = (32 : Int) := mt (i_eq (x := z1) (y := 32)).mpr c8
            refine lv_iconst (v := 0) S.x S.b d_Raw_immediate_90 (by decide) ?_
            refine px_calli (pr := [wd_Raw cs h r (fun k => if k = 2 then o2 else if k = 4 then o4 else none) f a g]) (px_runS (As := [.int p2, .int p3, .int z7, .int 0]) (rest := [.int p1, .ref h]) S (c_Raw_basic l D cs  p2 p3 z7 0   _) hT (pr := [wd_Raw cs h r (fun k => if k = 2 then o2 else if k = 4 then o4 else none) f a g]) (pcs := []) hw px_X.tt m8_222 m8_220 m8_221 m1_34 q_Raw_basic ⟨Nat.le_of_ble_eq_true rfl, Nat.le_of_ble_eq_true rfl⟩ hl.1 rfl (Nat.le_of_ble_eq_true rfl) d_Raw_immediate_91 ⟨Nat.le_of_ble_eq_true rfl, Nat.le_of_ble_eq_true rfl⟩) hw hA (fun v10 p9 H locs hp9 hw => ?_)
            subst hp9
            have lv10 := Int32.le_toInt v10
            have uv10 := Int32.toInt_lt v10
            refine px_callv (pr := []) (px_runV (As := [.int p1, .int v10]) (rest := []) S (c_Raw_setRegister l D cs h r g o2 o4 f a p1 v10   _) hT (pr := []) (pcs := [wd_Raw cs h r (fun k => if k = 2 then o2 else if k = 4 then o4 else none) f a g]) hw px_X.tt (px_recv hT hw 0 0 rfl rfl rfl) m8_181 m8_178 m8_180 ms_6_5 m1_34 q_Raw_setRegister ⟨Nat.le_of_ble_eq_true rfl, Nat.le_of_ble_eq_true rfl⟩ hl.1 rfl (Nat.le_of_ble_eq_true rfl) d_Raw_immediate_94 ⟨Nat.le_of_ble_eq_true rfl, Nat.le_of_ble_eq_true rfl⟩) hw hA (fun p13 H locs hp13 hw => ?_)
            obtain ⟨f11, a12, rfl, e15, e16, e17, e18, e19, e20, e21⟩ := hp13
            have e15 : (f11 3).toInt = (f 3).toInt := e15
            have e16 : (f11 7).toInt = (f 7).toInt := e16
            have e17 : (f11 8).toInt = (f 8).toInt := e17
            have e18 : (f11 10).toInt = (f 10).toInt := e18
            have e19 : (f11 13).toInt = (f 13).toInt := e19
            have e20 : (f11 14).toInt = (f 14).toInt := e20
            have e21 : (f11 11).toInt = (f 11).toInt := e21
            first | exact px_vret S hr hlk hAe hw (Nat.le_of_ble_eq_true rfl) (Nat.le_of_ble_eq_true rfl) (⟨f11, a12, rfl, (show (f11 3).toInt = (f 3).toInt from e15), (show (f11 7).toInt = (f 7).toInt from e16), (show (f11 8).toInt = (f 8).toInt from e17), (show (f11 10).toInt = (f 10).toInt from e18), (show (f11 13).toInt = (f 13).toInt from e19), (show (f11 14).toInt = 0 from (oz_4193540c58 e20 g0))⟩) d_Raw_immediate_97 | exact px_vret S hr hlk hAe hw (Nat.le_of_ble_eq_true rfl) (Nat.le_of_ble_eq_true rfl) (⟨f11, a12, rfl, (show (f11 3).toInt = (f 3).toInt from by first | exact e15 | omega), (show (f11 7).toInt = (f 7).toInt from by first | exact e16 | omega), (show (f11 8).toInt = (f 8).toInt from by first | exact e17 | omega), (show (f11 10).toInt = (f 10).toInt from by first | exact e18 | omega), (show (f11 13).toInt = (f 13).toInt from by first | exact e19 | omega), (show (f11 14).toInt = 0 from by first | exact oz_4193540c58 e20 g0 | omega)⟩) d_Raw_immediate_97
          · have nc8 : z1.toInt = (32 : Int) := (i_eq (x := z1) (y := 32)).mp c8
            refine lv_iconst (v := 1) S.x S.b d_Raw_immediate_86 (by decide) ?_
            refine lv_goto (tgt := 91) S.x S.b d_Raw_immediate_87 (by decide) ?_
            refine px_calli (pr := [wd_Raw cs h r (fun k => if k = 2 then o2 else if k = 4 then o4 else none) f a g]) (px_runS (As := [.int p2, .int p3, .int z7, .int 1]) (rest := [.int p1, .ref h]) S (c_Raw_basic l D cs  p2 p3 z7 1   _) hT (pr := [wd_Raw cs h r (fun k => if k = 2 then o2 else if k = 4 then o4 else none) f a g]) (pcs := []) hw px_X.tt m8_222 m8_220 m8_221 m1_34 q_Raw_basic ⟨Nat.le_of_ble_eq_true rfl, Nat.le_of_ble_eq_true rfl⟩ hl.1 rfl (Nat.le_of_ble_eq_true rfl) d_Raw_immediate_91 ⟨Nat.le_of_ble_eq_true rfl, Nat.le_of_ble_eq_true rfl⟩) hw hA (fun v23 p22 H locs hp22 hw => ?_)
            subst hp22
            have lv23 := Int32.le_toInt v23
            have uv23 := Int32.toInt_lt v23
            refine px_callv (pr := []) (px_runV (As := [.int p1, .int v23]) (rest := []) S (c_Raw_setRegister l D cs h r g o2 o4 f a p1 v23   _) hT (pr := []) (pcs := [wd_Raw cs h r (fun k => if k = 2 then o2 else if k = 4 then o4 else none) f a g]) hw px_X.tt (px_recv hT hw 0 0 rfl rfl rfl) m8_181 m8_178 m8_180 ms_6_5 m1_34 q_Raw_setRegister ⟨Nat.le_of_ble_eq_true rfl, Nat.le_of_ble_eq_true rfl⟩ hl.1 rfl (Nat.le_of_ble_eq_true rfl) d_Raw_immediate_94 ⟨Nat.le_of_ble_eq_true rfl, Nat.le_of_ble_eq_true rfl⟩) hw hA (fun p26 H locs hp26 hw => ?_)
            obtain ⟨f24, a25, rfl, e28, e29, e30, e31, e32, e33, e34⟩ := hp26
            have e28 : (f24 3).toInt = (f 3).toInt := e28
            have e29 : (f24 7).toInt = (f 7).toInt := e29
            have e30 : (f24 8).toInt = (f 8).toInt := e30
            have e31 : (f24 10).toInt = (f 10).toInt := e31
            have e32 : (f24 13).toInt = (f 13).toInt := e32
            have e33 : (f24 14).toInt = (f 14).toInt := e33
            have e34 : (f24 11).toInt = (f 11).toInt := e34
            first | exact px_vret S hr hlk hAe hw (Nat.le_of_ble_eq_true rfl) (Nat.le_of_ble_eq_true rfl) (⟨f24, a25, rfl, (show (f24 3).toInt = (f 3).toInt from e28), (show (f24 7).toInt = (f 7).toInt from e29), (show (f24 8).toInt = (f 8).toInt from e30), (show (f24 10).toInt = (f 10).toInt from e31), (show (f24 13).toInt = (f 13).toInt from e32), (show (f24 14).toInt = 0 from (oz_4193540c58 e33 g0))⟩) d_Raw_immediate_97 | exact px_vret S hr hlk hAe hw (Nat.le_of_ble_eq_true rfl) (Nat.le_of_ble_eq_true rfl) (⟨f24, a25, rfl, (show (f24 3).toInt = (f 3).toInt from by first | exact e28 | omega), (show (f24 7).toInt = (f 7).toInt from by first | exact e29 | omega), (show (f24 8).toInt = (f 8).toInt from by first | exact e30 | omega), (show (f24 10).toInt = (f 10).toInt from by first | exact e31 | omega), (show (f24 13).toInt = (f 13).toInt from by first | exact e32 | omega), (show (f24 14).toInt = 0 from by first | exact oz_4193540c58 e33 g0 | omega)⟩) d_Raw_immediate_97
      · have nc4 : ¬ z1.toInt = (0 : Int) := mt (i_eq (x := z1) (y := 0)).mpr c4
        refine lv_iload_n S.x S.b d_Raw_immediate_33 rfl (lv_at hl 5 rfl) ?_
        refine lv_iconst (v := 5) S.x S.b d_Raw_immediate_34 (by decide) ?_
        refine lv_icmp_ne (tgt := 45) S.x S.b d_Raw_immediate_35 (by decide) (fun c35 => ?_) (fun c35 => ?_)
        · have nc35 : ¬ p2.toInt = (5 : Int) := mt (i_eq (x := p2) (y := 5)).mpr c35
          refine lv_aload_n S.x S.b d_Raw_immediate_45 rfl (lv_at hl 2 rfl) ?_
          refine lv_bipush (v := 7) S.x S.b d_Raw_immediate_46 (by decide) ?_
          refine lv_iconst (v := 0) S.x S.b d_Raw_immediate_48 (by decide) ?_
          refine px_callv (pr := []) (px_runU (As := [.int 7, .int 0]) (rest := []) S (c_finish_Raw l D cs h r g o2 o4 f a 7 0   _) hT (pr := []) (pcs := [wd_Raw cs h r (fun k => if k = 2 then o2 else if k = 4 then o4 else none) f a g]) hw px_X.tt (C := "HomeSystem$RawProcess") (x := ⟨"HomeSystem$RawProcess", "finish", "(II)V"⟩) (px_recv hT hw 0 0 rfl rfl rfl) m8_89 m8_170 m8_171 m8_85 m8_173 m1_33 rfl q_HomeSystem_AnyProcess_finish ⟨Nat.le_of_ble_eq_true rfl, Nat.le_of_ble_eq_true rfl⟩ hl.1 rfl (Nat.le_of_ble_eq_true rfl) d_Raw_immediate_49 ⟨Nat.le_of_ble_eq_true rfl, Nat.le_of_ble_eq_true rfl⟩) hw hA (fun p38 H locs hp38 hw => ?_)
          obtain ⟨f36, a37, rfl, e40, e41, e42, e43, e44, e45, e46⟩ := hp38
          have e40 : (f36 3).toInt = (f 3).toInt := e40
          have e41 : (f36 7).toInt = (f 7).toInt := e41
          have e42 : (f36 8).toInt = (f 8).toInt := e42
          have e43 : (f36 10).toInt = (f 10).toInt := e43
          have e44 : (f36 13).toInt = (f 13).toInt := e44
          have e45 : (f36 14).toInt = 0 := e45
          have e46 : (f36 11).toInt = (7 : Int) := e46
          refine lv_goto (tgt := 97) S.x S.b d_Raw_immediate_52 (by decide) ?_
          first | exact px_vret S hr hlk hAe hw (Nat.le_of_ble_eq_true rfl) (Nat.le_of_ble_eq_true rfl) (⟨f36, a37, rfl, (show (f36 3).toInt = (f 3).toInt from e40), (show (f36 7).toInt = (f 7).toInt from e41), (show (f36 8).toInt = (f 8).toInt from e42), (show (f36 10).toInt = (f 10).toInt from e43), (show (f36 13).toInt = (f 13).toInt from e44), (show (f36 14).toInt = 0 from e45)⟩) d_Raw_immediate_97 | exact px_vret S hr hlk hAe hw (Nat.le_of_ble_eq_true rfl) (Nat.le_of_ble_eq_true rfl) (⟨f36, a37, rfl, (show (f36 3).toInt = (f 3).toInt from by first | exact e40 | omega), (show (f36 7).toInt = (f 7).toInt from by first | exact e41 | omega), (show (f36 8).toInt = (f 8).toInt from by first | exact e42 | omega), (show (f36 10).toInt = (f 10).toInt from by first | exact e43 | omega), (show (f36 13).toInt = (f 13).toInt from by first | exact e44 | omega), (show (f36 14).toInt = 0 from by first | exact e45 | omega)⟩) d_Raw_immediate_97
        · have nc35 : p2.toInt = (5 : Int) := (i_eq (x := p2) (y := 5)).mp c35
          refine lv_iload S.x S.b d_Raw_immediate_38 (lv_at hl 1 rfl) ?_
          refine lv_bipush (v := 32) S.x S.b d_Raw_immediate_40 (by decide) ?_
          refine lv_icmp_eq (tgt := 55) S.x S.b d_Raw_immediate_42 (by decide) (fun c47 => ?_) (fun c47 => ?_)
          · have nc47 : z1.toInt = (32 : Int) := (i_eq (x := z1) (y := 32)).mp c47
            refine lv_aload_n S.x S.b d_Raw_immediate_55 rfl (lv_at hl 2 rfl) ?_
            refine lv_iload_n S.x S.b d_Raw_immediate_56 rfl (lv_at hl 4 rfl) ?_
            refine lv_iload_n S.x S.b d_Raw_immediate_57 rfl (lv_at hl 5 rfl) ?_
            refine lv_iload S.x S.b d_Raw_immediate_58 (lv_at hl 6 rfl) ?_
            refine lv_iload S.x S.b d_Raw_immediate_60 (lv_at hl 0 rfl) ?_
            refine lv_if_eq (tgt := 75) S.x S.b d_Raw_immediate_62 (by decide) (fun c48 => ?_) (fun c48 => ?_)
            · exact absurd c48 (by decide)
            ·
              refine lv_iload_n S.x S.b d_Raw_immediate_65 rfl (lv_at hl 3 rfl) ?_
              refine lv_bipush (v := 20) S.x S.b d_Raw_immediate_66 (by decide) ?_
              refine lv_iushr S.x S.b d_Raw_immediate_68 rfl ?_
              refine lv_topi (fun z49 ez49 => ?_)
              have lz49 := Int32.le_toInt z49
              have uz49 := Int32.toInt_lt z49
              refine lv_bipush (v := 31) S.x S.b d_Raw_immediate_69 (by decide) ?_
              refine lv_iand S.x S.b d_Raw_immediate_71 ?_
              refine lv_topi (fun z50 ez50 => ?_)
              have lz50 := Int32.le_toInt z50
              have uz50 := Int32.toInt_lt z50
              have bz50 := i_andm z49 (m := 31) 5 (by decide) (by decide)
              rw [← ez50] at bz50
              have wz50 : 0 ≤ z50.toInt ∧ z50.toInt ≤ 31 := by simp only [Nat.reducePow, Int.reducePow] at bz50; omega
              refine lv_goto (tgt := 79) S.x S.b d_Raw_immediate_72 (by decide) ?_
              refine lv_iload S.x S.b d_Raw_immediate_79 (lv_at hl 1 rfl) ?_
              refine lv_bipush (v := 32) S.x S.b d_Raw_immediate_81 (by decide) ?_
              refine lv_icmp_ne (tgt := 90) S.x S.b d_Raw_immediate_83 (by decide) (fun c51 => ?_) (fun c51 => ?_)
              · have nc51 : ¬ z1.toInt = (32 : Int) := mt (i_eq (x := z1) (y := 32)).mpr c51
                refine lv_iconst (v := 0) S.x S.b d_Raw_immediate_90 (by decide) ?_
                refine px_calli (pr := [wd_Raw cs h r (fun k => if k = 2 then o2 else if k = 4 then o4 else none) f a g]) (px_runS (As := [.int p2, .int p3, .int z50, .int 0]) (rest := [.int p1, .ref h]) S (c_Raw_basic l D cs  p2 p3 z50 0   _) hT (pr := [wd_Raw cs h r (fun k => if k = 2 then o2 else if k = 4 then o4 else none) f a g]) (pcs := []) hw px_X.tt m8_222 m8_220 m8_221 m1_34 q_Raw_basic ⟨Nat.le_of_ble_eq_true rfl, Nat.le_of_ble_eq_true rfl⟩ hl.1 rfl (Nat.le_of_ble_eq_true rfl) d_Raw_immediate_91 ⟨Nat.le_of_ble_eq_true rfl, Nat.le_of_ble_eq_true rfl⟩) hw hA (fun v53 p52 H locs hp52 hw => ?_)
                subst hp52
                have lv53 := Int32.le_toInt v53
                have uv53 := Int32.toInt_lt v53
                refine px_callv (pr := []) (px_runV (As := [.int p1, .int v53]) (rest := []) S (c_Raw_setRegister l D cs h r g o2 o4 f a p1 v53   _) hT (pr := []) (pcs := [wd_Raw cs h r (fun k => if k = 2 then o2 else if k = 4 then o4 else none) f a g]) hw px_X.tt (px_recv hT hw 0 0 rfl rfl rfl) m8_181 m8_178 m8_180 ms_6_5 m1_34 q_Raw_setRegister ⟨Nat.le_of_ble_eq_true rfl, Nat.le_of_ble_eq_true rfl⟩ hl.1 rfl (Nat.le_of_ble_eq_true rfl) d_Raw_immediate_94 ⟨Nat.le_of_ble_eq_true rfl, Nat.le_of_ble_eq_true rfl⟩) hw hA (fun p56 H locs hp56 hw => ?_)
                obtain ⟨f54, a55, rfl, e58, e59, e60, e61, e62, e63, e64⟩ := hp56
                have e58 : (f54 3).toInt = (f 3).toInt := e58
                have e59 : (f54 7).toInt = (f 7).toInt := e59
                have e60 : (f54 8).toInt = (f 8).toInt := e60
                have e61 : (f54 10).toInt = (f 10).toInt := e61
                have e62 : (f54 13).toInt = (f 13).toInt := e62
                have e63 : (f54 14).toInt = (f 14).toInt := e63
                have e64 : (f54 11).toInt = (f 11).toInt := e64
                first | exact px_vret S hr hlk hAe hw (Nat.le_of_ble_eq_true rfl) (Nat.le_of_ble_eq_true rfl) (⟨f54, a55, rfl, (show (f54 3).toInt = (f 3).toInt from e58), (show (f54 7).toInt = (f 7).toInt from e59), (show (f54 8).toInt = (f 8).toInt from e60), (show (f54 10).toInt = (f 10).toInt from e61), (show (f54 13).toInt = (f 13).toInt from e62), (show (f54 14).toInt = 0 from (oz_4193540c58 e63 g0))⟩) d_Raw_immediate_97 | exact px_vret S hr hlk hAe hw (Nat.le_of_ble_eq_true rfl) (Nat.le_of_ble_eq_true rfl) (⟨f54, a55, rfl, (show (f54 3).toInt = (f 3).toInt from by first | exact e58 | omega), (show (f54 7).toInt = (f 7).toInt from by first | exact e59 | omega), (show (f54 8).toInt = (f 8).toInt from by first | exact e60 | omega), (show (f54 10).toInt = (f 10).toInt from by first | exact e61 | omega), (show (f54 13).toInt = (f 13).toInt from by first | exact e62 | omega), (show (f54 14).toInt = 0 from by first | exact oz_4193540c58 e63 g0 | omega)⟩) d_Raw_immediate_97
              · have nc51 : z1.toInt = (32 : Int) := (i_eq (x := z1) (y := 32)).mp c51
                refine lv_iconst (v := 1) S.x S.b d_Raw_immediate_86 (by decide) ?_
                refine lv_goto (tgt := 91) S.x S.b d_Raw_immediate_87 (by decide) ?_
                refine px_calli (pr := [wd_Raw cs h r (fun k => if k = 2 then o2 else if k = 4 then o4 else none) f a g]) (px_runS (As := [.int p2, .int p3, .int z50, .int 1]) (rest := [.int p1, .ref h]) S (c_Raw_basic l D cs  p2 p3 z50 1   _) hT (pr := [wd_Raw cs h r (fun k => if k = 2 then o2 else if k = 4 then o4 else none) f a g]) (pcs := []) hw px_X.tt m8_222 m8_220 m8_221 m1_34 q_Raw_basic ⟨Nat.le_of_ble_eq_true rfl, Nat.le_of_ble_eq_true rfl⟩ hl.1 rfl (Nat.le_of_ble_eq_true rfl) d_Raw_immediate_91 ⟨Nat.le_of_ble_eq_true rfl, Nat.le_of_ble_eq_true rfl⟩) hw hA (fun v66 p65 H locs hp65 hw => ?_)
                subst hp65
                have lv66 := Int32.le_toInt v66
                have uv66 := Int32.toInt_lt v66
                refine px_callv (pr := []) (px_runV (As := [.int p1, .int v66]) (rest := []) S (c_Raw_setRegister l D cs h r g o2 o4 f a p1 v66   _) hT (pr := []) (pcs := [wd_Raw cs h r (fun k => if k = 2 then o2 else if k = 4 then o4 else none) f a g]) hw px_X.tt (px_recv hT hw 0 0 rfl rfl rfl) m8_181 m8_178 m8_180 ms_6_5 m1_34 q_Raw_setRegister ⟨Nat.le_of_ble_eq_true rfl, Nat.le_of_ble_eq_true rfl⟩ hl.1 rfl (Nat.le_of_ble_eq_true rfl) d_Raw_immediate_94 ⟨Nat.le_of_ble_eq_true rfl, Nat.le_of_ble_eq_true rfl⟩) hw hA (fun p69 H locs hp69 hw => ?_)
                obtain ⟨f67, a68, rfl, e71, e72, e73, e74, e75, e76, e77⟩ := hp69
                have e71 : (f67 3).toInt = (f 3).toInt := e71
                have e72 : (f67 7).toInt = (f 7).toInt := e72
                have e73 : (f67 8).toInt = (f 8).toInt := e73
                have e74 : (f67 10).toInt = (f 10).toInt := e74
                have e75 : (f67 13).toInt = (f 13).toInt := e75
                have e76 : (f67 14).toInt = (f 14).toInt := e76
                have e77 : (f67 11).toInt = (f 11).toInt := e77
                first | exact px_vret S hr hlk hAe hw (Nat.le_of_ble_eq_true rfl) (Nat.le_of_ble_eq_true rfl) (⟨f67, a68, rfl, (show (f67 3).toInt = (f 3).toInt from e71), (show (f67 7).toInt = (f 7).toInt from e72), (show (f67 8).toInt = (f 8).toInt from e73), (show (f67 10).toInt = (f 10).toInt from e74), (show (f67 13).toInt = (f 13).toInt from e75), (show (f67 14).toInt = 0 from (oz_4193540c58 e76 g0))⟩) d_Raw_immediate_97 | exact px_vret S hr hlk hAe hw (Nat.le_of_ble_eq_true rfl) (Nat.le_of_ble_eq_true rfl) (⟨f67, a68, rfl, (show (f67 3).toInt = (f 3).toInt from by first | exact e71 | omega), (show (f67 7).toInt = (f 7).toInt from by first | exact e72 | omega), (show (f67 8).toInt = (f 8).toInt from by first | exact e73 | omega), (show (f67 10).toInt = (f 10).toInt from by first | exact e74 | omega), (show (f67 13).toInt = (f 13).toInt from by first | exact e75 | omega), (show (f67 14).toInt = 0 from by first | exact oz_4193540c58 e76 g0 | omega)⟩) d_Raw_immediate_97
          · have nc47 : ¬ z1.toInt = (32 : Int) := mt (i_eq (x := z1) (y := 32)).mpr c47
            refine lv_aload_n S.x S.b d_Raw_immediate_45 rfl (lv_at hl 2 rfl) ?_
            refine lv_bipush (v := 7) S.x S.b d_Raw_immediate_46 (by decide) ?_
            refine lv_iconst (v := 0) S.x S.b d_Raw_immediate_48 (by decide) ?_
            refine px_callv (pr := []) (px_runU (As := [.int 7, .int 0]) (rest := []) S (c_finish_Raw l D cs h r g o2 o4 f a 7 0   _) hT (pr := []) (pcs := [wd_Raw cs h r (fun k => if k = 2 then o2 else if k = 4 then o4 else none) f a g]) hw px_X.tt (C := "HomeSystem$RawProcess") (x := ⟨"HomeSystem$RawProcess", "finish", "(II)V"⟩) (px_recv hT hw 0 0 rfl rfl rfl) m8_89 m8_170 m8_171 m8_85 m8_173 m1_33 rfl q_HomeSystem_AnyProcess_finish ⟨Nat.le_of_ble_eq_true rfl, Nat.le_of_ble_eq_true rfl⟩ hl.1 rfl (Nat.le_of_ble_eq_true rfl) d_Raw_immediate_49 ⟨Nat.le_of_ble_eq_true rfl, Nat.le_of_ble_eq_true rfl⟩) hw hA (fun p80 H locs hp80 hw => ?_)
            obtain ⟨f78, a79, rfl, e82, e83, e84, e85, e86, e87, e88⟩ := hp80
            have e82 : (f78 3).toInt = (f 3).toInt := e82
            have e83 : (f78 7).toInt = (f 7).toInt := e83
            have e84 : (f78 8).toInt = (f 8).toInt := e84
            have e85 : (f78 10).toInt = (f 10).toInt := e85
            have e86 : (f78 13).toInt = (f 13).toInt := e86
            have e87 : (f78 14).toInt = 0 := e87
            have e88 : (f78 11).toInt = (7 : Int) := e88
            refine lv_goto (tgt := 97) S.x S.b d_Raw_immediate_52 (by decide) ?_
            first | exact px_vret S hr hlk hAe hw (Nat.le_of_ble_eq_true rfl) (Nat.le_of_ble_eq_true rfl) (⟨f78, a79, rfl, (show (f78 3).toInt = (f 3).toInt from e82), (show (f78 7).toInt = (f 7).toInt from e83), (show (f78 8).toInt = (f 8).toInt from e84), (show (f78 10).toInt = (f 10).toInt from e85), (show (f78 13).toInt = (f 13).toInt from e86), (show (f78 14).toInt = 0 from e87)⟩) d_Raw_immediate_97 | exact px_vret S hr hlk hAe hw (Nat.le_of_ble_eq_true rfl) (Nat.le_of_ble_eq_true rfl) (⟨f78, a79, rfl, (show (f78 3).toInt = (f 3).toInt from by first | exact e82 | omega), (show (f78 7).toInt = (f 7).toInt from by first | exact e83 | omega), (show (f78 8).toInt = (f 8).toInt from by first | exact e84 | omega), (show (f78 10).toInt = (f 10).toInt from by first | exact e85 | omega), (show (f78 13).toInt = (f 13).toInt from by first | exact e86 | omega), (show (f78 14).toInt = 0 from by first | exact e87 | omega)⟩) d_Raw_immediate_97
  · have nc2 : ¬ p2.toInt = (1 : Int) := mt (i_eq (x := p2) (y := 1)).mpr c2
    refine lv_iload_n S.x S.b d_Raw_immediate_11 rfl (lv_at hl 4 rfl) ?_
    refine lv_iconst (v := 5) S.x S.b d_Raw_immediate_12 (by decide) ?_
    refine lv_icmp_ne (tgt := 20) S.x S.b d_Raw_immediate_13 (by decide) (fun c89 => ?_) (fun c89 => ?_)
    · have nc89 : ¬ p2.toInt = (5 : Int) := mt (i_eq (x := p2) (y := 5)).mpr c89
      refine lv_iconst (v := 0) S.x S.b d_Raw_immediate_20 (by decide) ?_
      refine lv_istore (lv' := [(6, .int 0), (5, .int z1), (0, .ref h), (1, .int p0), (2, .int p1), (3, .int p2), (4, .int p3)]) S.x S.b d_Raw_immediate_21 hl (by decide) rfl (fun ls hl => ?_)
      refine lv_iload S.x S.b d_Raw_immediate_23 (lv_at hl 0 rfl) ?_
      refine lv_if_eq (tgt := 55) S.x S.b d_Raw_immediate_25 (by decide) (fun c90 => ?_) (fun c90 => ?_)
      ·
        refine lv_aload_n S.x S.b d_Raw_immediate_55 rfl (lv_at hl 2 rfl) ?_
        refine lv_iload_n S.x S.b d_Raw_immediate_56 rfl (lv_at hl 4 rfl) ?_
        refine lv_iload_n S.x S.b d_Raw_immediate_57 rfl (lv_at hl 5 rfl) ?_
        refine lv_iload S.x S.b d_Raw_immediate_58 (lv_at hl 6 rfl) ?_
        refine lv_iload S.x S.b d_Raw_immediate_60 (lv_at hl 0 rfl) ?_
        refine lv_if_eq (tgt := 75) S.x S.b d_Raw_immediate_62 (by decide) (fun c91 => ?_) (fun c91 => ?_)
        ·
          refine lv_iload_n S.x S.b d_Raw_immediate_75 rfl (lv_at hl 3 rfl) ?_
          refine lv_bipush (v := 20) S.x S.b d_Raw_immediate_76 (by decide) ?_
          refine lv_ishr S.x S.b d_Raw_immediate_78 ?_
          refine lv_topi (fun z92 ez92 => ?_)
          have tz92 : z92.toInt = p0.toInt / 1048576 := by rw [ez92]; exact i_shr p0 20 (k := 20) (d := 1048576) (by decide) (by decide)
          have lz92 := Int32.le_toInt z92
          have uz92 := Int32.toInt_lt z92
          refine lv_iload S.x S.b d_Raw_immediate_79 (lv_at hl 1 rfl) ?_
          refine lv_bipush (v := 32) S.x S.b d_Raw_immediate_81 (by decide) ?_
          refine lv_icmp_ne (tgt := 90) S.x S.b d_Raw_immediate_83 (by decide) (fun c93 => ?_) (fun c93 => ?_)
          · have nc93 : ¬ z1.toInt = (32 : Int) := mt (i_eq (x := z1) (y := 32)).mpr c93
            refine lv_iconst (v := 0) S.x S.b d_Raw_immediate_90 (by decide) ?_
            refine px_calli (pr := [wd_Raw cs h r (fun k => if k = 2 then o2 else if k = 4 then o4 else none) f a g]) (px_runS (As := [.int p2, .int p3, .int z92, .int 0]) (rest := [.int p1, .ref h]) S (c_Raw_basic l D cs  p2 p3 z92 0   _) hT (pr := [wd_Raw cs h r (fun k => if k = 2 then o2 else if k = 4 then o4 else none) f a g]) (pcs := []) hw px_X.tt m8_222 m8_220 m8_221 m1_34 q_Raw_basic ⟨Nat.le_of_ble_eq_true rfl, Nat.le_of_ble_eq_true rfl⟩ hl.1 rfl (Nat.le_of_ble_eq_true rfl) d_Raw_immediate_91 ⟨Nat.le_of_ble_eq_true rfl, Nat.le_of_ble_eq_true rfl⟩) hw hA (fun v95 p94 H locs hp94 hw => ?_)
            subst hp94
            have lv95 := Int32.le_toInt v95
            have uv95 := Int32.toInt_lt v95
            refine px_callv (pr := []) (px_runV (As := [.int p1, .int v95]) (rest := []) S (c_Raw_setRegister l D cs h r g o2 o4 f a p1 v95   _) hT (pr := []) (pcs := [wd_Raw cs h r (fun k => if k = 2 then o2 else if k = 4 then o4 else none) f a g]) hw px_X.tt (px_recv hT hw 0 0 rfl rfl rfl) m8_181 m8_178 m8_180 ms_6_5 m1_34 q_Raw_setRegister ⟨Nat.le_of_ble_eq_true rfl, Nat.le_of_ble_eq_true rfl⟩ hl.1 rfl (Nat.le_of_ble_eq_true rfl) d_Raw_immediate_94 ⟨Nat.le_of_ble_eq_true rfl, Nat.le_of_ble_eq_true rfl⟩) hw hA (fun p98 H locs hp98 hw => ?_)
            obtain ⟨f96, a97, rfl, e100, e101, e102, e103, e104, e105, e106⟩ := hp98
            have e100 : (f96 3).toInt = (f 3).toInt := e100
            have e101 : (f96 7).toInt = (f 7).toInt := e101
            have e102 : (f96 8).toInt = (f 8).toInt := e102
            have e103 : (f96 10).toInt = (f 10).toInt := e103
            have e104 : (f96 13).toInt = (f 13).toInt := e104
            have e105 : (f96 14).toInt = (f 14).toInt := e105
            have e106 : (f96 11).toInt = (f 11).toInt := e106
            first | exact px_vret S hr hlk hAe hw (Nat.le_of_ble_eq_true rfl) (Nat.le_of_ble_eq_true rfl) (⟨f96, a97, rfl, (show (f96 3).toInt = (f 3).toInt from e100), (show (f96 7).toInt = (f 7).toInt from e101), (show (f96 8).toInt = (f 8).toInt from e102), (show (f96 10).toInt = (f 10).toInt from e103), (show (f96 13).toInt = (f 13).toInt from e104), (show (f96 14).toInt = 0 from (oz_4193540c58 e105 g0))⟩) d_Raw_immediate_97 | exact px_vret S hr hlk hAe hw (Nat.le_of_ble_eq_true rfl) (Nat.le_of_ble_eq_true rfl) (⟨f96, a97, rfl, (show (f96 3).toInt = (f 3).toInt from by first | exact e100 | omega), (show (f96 7).toInt = (f 7).toInt from by first | exact e101 | omega), (show (f96 8).toInt = (f 8).toInt from by first | exact e102 | omega), (show (f96 10).toInt = (f 10).toInt from by first | exact e103 | omega), (show (f96 13).toInt = (f 13).toInt from by first | exact e104 | omega), (show (f96 14).toInt = 0 from by first | exact oz_4193540c58 e105 g0 | omega)⟩) d_Raw_immediate_97
          · have nc93 : z1.toInt = (32 : Int) := (i_eq (x := z1) (y := 32)).mp c93
            refine lv_iconst (v := 1) S.x S.b d_Raw_immediate_86 (by decide) ?_
            refine lv_goto (tgt := 91) S.x S.b d_Raw_immediate_87 (by decide) ?_
            refine px_calli (pr := [wd_Raw cs h r (fun k => if k = 2 then o2 else if k = 4 then o4 else none) f a g]) (px_runS (As := [.int p2, .int p3, .int z92, .int 1]) (rest := [.int p1, .ref h]) S (c_Raw_basic l D cs  p2 p3 z92 1   _) hT (pr := [wd_Raw cs h r (fun k => if k = 2 then o2 else if k = 4 then o4 else none) f a g]) (pcs := []) hw px_X.tt m8_222 m8_220 m8_221 m1_34 q_Raw_basic ⟨Nat.le_of_ble_eq_true rfl, Nat.le_of_ble_eq_true rfl⟩ hl.1 rfl (Nat.le_of_ble_eq_true rfl) d_Raw_immediate_91 ⟨Nat.le_of_ble_eq_true rfl, Nat.le_of_ble_eq_true rfl⟩) hw hA (fun v108 p107 H locs hp107 hw => ?_)
            subst hp107
            have lv108 := Int32.le_toInt v108
            have uv108 := Int32.toInt_lt v108
            refine px_callv (pr := []) (px_runV (As := [.int p1, .int v108]) (rest := []) S (c_Raw_setRegister l D cs h r g o2 o4 f a p1 v108   _) hT (pr := []) (pcs := [wd_Raw cs h r (fun k => if k = 2 then o2 else if k = 4 then o4 else none) f a g]) hw px_X.tt (px_recv hT hw 0 0 rfl rfl rfl) m8_181 m8_178 m8_180 ms_6_5 m1_34 q_Raw_setRegister ⟨Nat.le_of_ble_eq_true rfl, Nat.le_of_ble_eq_true rfl⟩ hl.1 rfl (Nat.le_of_ble_eq_true rfl) d_Raw_immediate_94 ⟨Nat.le_of_ble_eq_true rfl, Nat.le_of_ble_eq_true rfl⟩) hw hA (fun p111 H locs hp111 hw => ?_)
            obtain ⟨f109, a110, rfl, e113, e114, e115, e116, e117, e118, e119⟩ := hp111
            have e113 : (f109 3).toInt = (f 3).toInt := e113
            have e114 : (f109 7).toInt = (f 7).toInt := e114
            have e115 : (f109 8).toInt = (f 8).toInt := e115
            have e116 : (f109 10).toInt = (f 10).toInt := e116
            have e117 : (f109 13).toInt = (f 13).toInt := e117
            have e118 : (f109 14).toInt = (f 14).toInt := e118
            have e119 : (f109 11).toInt = (f 11).toInt := e119
            first | exact px_vret S hr hlk hAe hw (Nat.le_of_ble_eq_true rfl) (Nat.le_of_ble_eq_true rfl) (⟨f109, a110, rfl, (show (f109 3).toInt = (f 3).toInt from e113), (show (f109 7).toInt = (f 7).toInt from e114), (show (f109 8).toInt = (f 8).toInt from e115), (show (f109 10).toInt = (f 10).toInt from e116), (show (f109 13).toInt = (f 13).toInt from e117), (show (f109 14).toInt = 0 from (oz_4193540c58 e118 g0))⟩) d_Raw_immediate_97 | exact px_vret S hr hlk hAe hw (Nat.le_of_ble_eq_true rfl) (Nat.le_of_ble_eq_true rfl) (⟨f109, a110, rfl, (show (f109 3).toInt = (f 3).toInt from by first | exact e113 | omega), (show (f109 7).toInt = (f 7).toInt from by first | exact e114 | omega), (show (f109 8).toInt = (f 8).toInt from by first | exact e115 | omega), (show (f109 10).toInt = (f 10).toInt from by first | exact e116 | omega), (show (f109 13).toInt = (f 13).toInt from by first | exact e117 | omega), (show (f109 14).toInt = 0 from by first | exact oz_4193540c58 e118 g0 | omega)⟩) d_Raw_immediate_97
        · exact absurd c91 (by decide)
      · exact absurd c90 (by decide)
    · have nc89 : p2.toInt = (5 : Int) := (i_eq (x := p2) (y := 5)).mp c89
      refine lv_iconst (v := 1) S.x S.b d_Raw_immediate_16 (by decide) ?_
      refine lv_goto (tgt := 21) S.x S.b d_Raw_immediate_17 (by decide) ?_
      refine lv_istore (lv' := [(6, .int 1), (5, .int z1), (0, .ref h), (1, .int p0), (2, .int p1), (3, .int p2), (4, .int p3)]) S.x S.b d_Raw_immediate_21 hl (by decide) rfl (fun ls hl => ?_)
      refine lv_iload S.x S.b d_Raw_immediate_23 (lv_at hl 0 rfl) ?_
      refine lv_if_eq (tgt := 55) S.x S.b d_Raw_immediate_25 (by decide) (fun c120 => ?_) (fun c120 => ?_)
      · exact absurd c120 (by decide)
      ·
        refine lv_iload S.x S.b d_Raw_immediate_28 (lv_at hl 1 rfl) ?_
        refine lv_if_eq (tgt := 55) S.x S.b d_Raw_immediate_30 (by decide) (fun c121 => ?_) (fun c121 => ?_)
        · have nc121 : z1.toInt = (0 : Int) := (i_eq (x := z1) (y := 0)).mp c121
          refine lv_aload_n S.x S.b d_Raw_immediate_55 rfl (lv_at hl 2 rfl) ?_
          refine lv_iload_n S.x S.b d_Raw_immediate_56 rfl (lv_at hl 4 rfl) ?_
          refine lv_iload_n S.x S.b d_Raw_immediate_57 rfl (lv_at hl 5 rfl) ?_
          refine lv_iload S.x S.b d_Raw_immediate_58 (lv_at hl 6 rfl) ?_
          refine lv_iload S.x S.b d_Raw_immediate_60 (lv_at hl 0 rfl) ?_
          refine lv_if_eq (tgt := 75) S.x S.b d_Raw_immediate_62 (by decide) (fun c122 => ?_) (fun c122 => ?_)
          · exact absurd c122 (by decide)
          ·
            refine lv_iload_n S.x S.b d_Raw_immediate_65 rfl (lv_at hl 3 rfl) ?_
            refine lv_bipush (v := 20) S.x S.b d_Raw_immediate_66 (by decide) ?_
            refine lv_iushr S.x S.b d_Raw_immediate_68 rfl ?_
            refine lv_topi (fun z123 ez123 => ?_)
            have lz123 := Int32.le_toInt z123
            have uz123 := Int32.toInt_lt z123
            refine lv_bipush (v := 31) S.x S.b d_Raw_immediate_69 (by decide) ?_
            refine lv_iand S.x S.b d_Raw_immediate_71 ?_
            refine lv_topi (fun z124 ez124 => ?_)
            have lz124 := Int32.le_toInt z124
            have uz124 := Int32.toInt_lt z124
            have bz124 := i_andm z123 (m := 31) 5 (by decide) (by decide)
            rw [← ez124] at bz124
            have wz124 : 0 ≤ z124.toInt ∧ z124.toInt ≤ 31 := by simp only [Nat.reducePow, Int.reducePow] at bz124; omega
            refine lv_goto (tgt := 79) S.x S.b d_Raw_immediate_72 (by decide) ?_
            refine lv_iload S.x S.b d_Raw_immediate_79 (lv_at hl 1 rfl) ?_
            refine lv_bipush (v := 32) S.x S.b d_Raw_immediate_81 (by decide) ?_
            refine lv_icmp_ne (tgt := 90) S.x S.b d_Raw_immediate_83 (by decide) (fun c125 => ?_) (fun c125 => ?_)
            · have nc125 : ¬ z1.toInt = (32 : Int) := mt (i_eq (x := z1) (y := 32)).mpr c125
              refine lv_iconst (v := 0) S.x S.b d_Raw_immediate_90 (by decide) ?_
              refine px_calli (pr := [wd_Raw cs h r (fun k => if k = 2 then o2 else if k = 4 then o4 else none) f a g]) (px_runS (As := [.int p2, .int p3, .int z124, .int 0]) (rest := [.int p1, .ref h]) S (c_Raw_basic l D cs  p2 p3 z124 0   _) hT (pr := [wd_Raw cs h r (fun k => if k = 2 then o2 else if k = 4 then o4 else none) f a g]) (pcs := []) hw px_X.tt m8_222 m8_220 m8_221 m1_34 q_Raw_basic ⟨Nat.le_of_ble_eq_true rfl, Nat.le_of_ble_eq_true rfl⟩ hl.1 rfl (Nat.le_of_ble_eq_true rfl) d_Raw_immediate_91 ⟨Nat.le_of_ble_eq_true rfl, Nat.le_of_ble_eq_true rfl⟩) hw hA (fun v127 p126 H locs hp126 hw => ?_)
              subst hp126
              have lv127 := Int32.le_toInt v127
              have uv127 := Int32.toInt_lt v127
              refine px_callv (pr := []) (px_runV (As := [.int p1, .int v127]) (rest := []) S (c_Raw_setRegister l D cs h r g o2 o4 f a p1 v127   _) hT (pr := []) (pcs := [wd_Raw cs h r (fun k => if k = 2 then o2 else if k = 4 then o4 else none) f a g]) hw px_X.tt (px_recv hT hw 0 0 rfl rfl rfl) m8_181 m8_178 m8_180 ms_6_5 m1_34 q_Raw_setRegister ⟨Nat.le_of_ble_eq_true rfl, Nat.le_of_ble_eq_true rfl⟩ hl.1 rfl (Nat.le_of_ble_eq_true rfl) d_Raw_immediate_94 ⟨Nat.le_of_ble_eq_true rfl, Nat.le_of_ble_eq_true rfl⟩) hw hA (fun p130 H locs hp130 hw => ?_)
              obtain ⟨f128, a129, rfl, e132, e133, e134, e135, e136, e137, e138⟩ := hp130
              have e132 : (f128 3).toInt = (f 3).toInt := e132
              have e133 : (f128 7).toInt = (f 7).toInt := e133
              have e134 : (f128 8).toInt = (f 8).toInt := e134
              have e135 : (f128 10).toInt = (f 10).toInt := e135
              have e136 : (f128 13).toInt = (f 13).toInt := e136
              have e137 : (f128 14).toInt = (f 14).toInt := e137
              have e138 : (f128 11).toInt = (f 11).toInt := e138
              first | exact px_vret S hr hlk hAe hw (Nat.le_of_ble_eq_true rfl) (Nat.le_of_ble_eq_true rfl) (⟨f128, a129, rfl, (show (f128 3).toInt = (f 3).toInt from e132), (show (f128 7).toInt = (f 7).toInt from e133), (show (f128 8).toInt = (f 8).toInt from e134), (show (f128 10).toInt = (f 10).toInt from e135), (show (f128 13).toInt = (f 13).toInt from e136), (show (f128 14).toInt = 0 from (oz_4193540c58 e137 g0))⟩) d_Raw_immediate_97 | exact px_vret S hr hlk hAe hw (Nat.le_of_ble_eq_true rfl) (Nat.le_of_ble_eq_true rfl) (⟨f128, a129, rfl, (show (f128 3).toInt = (f 3).toInt from by first | exact e132 | omega), (show (f128 7).toInt = (f 7).toInt from by first | exact e133 | omega), (show (f128 8).toInt = (f 8).toInt from by first | exact e134 | omega), (show (f128 10).toInt = (f 10).toInt from by first | exact e135 | omega), (show (f128 13).toInt = (f 13).toInt from by first | exact e136 | omega), (show (f128 14).toInt = 0 from by first | exact oz_4193540c58 e137 g0 | omega)⟩) d_Raw_immediate_97
            · have nc125 : z1.toInt = (32 : Int) := (i_eq (x := z1) (y := 32)).mp c125
              refine lv_iconst (v := 1) S.x S.b d_Raw_immediate_86 (by decide) ?_
              refine lv_goto (tgt := 91) S.x S.b d_Raw_immediate_87 (by decide) ?_
              refine px_calli (pr := [wd_Raw cs h r (fun k => if k = 2 then o2 else if k = 4 then o4 else none) f a g]) (px_runS (As := [.int p2, .int p3, .int z124, .int 1]) (rest := [.int p1, .ref h]) S (c_Raw_basic l D cs  p2 p3 z124 1   _) hT (pr := [wd_Raw cs h r (fun k => if k = 2 then o2 else if k = 4 then o4 else none) f a g]) (pcs := []) hw px_X.tt m8_222 m8_220 m8_221 m1_34 q_Raw_basic ⟨Nat.le_of_ble_eq_true rfl, Nat.le_of_ble_eq_true rfl⟩ hl.1 rfl (Nat.le_of_ble_eq_true rfl) d_Raw_immediate_91 ⟨Nat.le_of_ble_eq_true rfl, Nat.le_of_ble_eq_true rfl⟩) hw hA (fun v140 p139 H locs hp139 hw => ?_)
              subst hp139
              have lv140 := Int32.le_toInt v140
              have uv140 := Int32.toInt_lt v140
              refine px_callv (pr := []) (px_runV (As := [.int p1, .int v140]) (rest := []) S (c_Raw_setRegister l D cs h r g o2 o4 f a p1 v140   _) hT (pr := []) (pcs := [wd_Raw cs h r (fun k => if k = 2 then o2 else if k = 4 then o4 else none) f a g]) hw px_X.tt (px_recv hT hw 0 0 rfl rfl rfl) m8_181 m8_178 m8_180 ms_6_5 m1_34 q_Raw_setRegister ⟨Nat.le_of_ble_eq_true rfl, Nat.le_of_ble_eq_true rfl⟩ hl.1 rfl (Nat.le_of_ble_eq_true rfl) d_Raw_immediate_94 ⟨Nat.le_of_ble_eq_true rfl, Nat.le_of_ble_eq_true rfl⟩) hw hA (fun p143 H locs hp143 hw => ?_)
              obtain ⟨f141, a142, rfl, e145, e146, e147, e148, e149, e150, e151⟩ := hp143
              have e145 : (f141 3).toInt = (f 3).toInt := e145
              have e146 : (f141 7).toInt = (f 7).toInt := e146
              have e147 : (f141 8).toInt = (f 8).toInt := e147
              have e148 : (f141 10).toInt = (f 10).toInt := e148
              have e149 : (f141 13).toInt = (f 13).toInt := e149
              have e150 : (f141 14).toInt = (f 14).toInt := e150
              have e151 : (f141 11).toInt = (f 11).toInt := e151
              first | exact px_vret S hr hlk hAe hw (Nat.le_of_ble_eq_true rfl) (Nat.le_of_ble_eq_true rfl) (⟨f141, a142, rfl, (show (f141 3).toInt = (f 3).toInt from e145), (show (f141 7).toInt = (f 7).toInt from e146), (show (f141 8).toInt = (f 8).toInt from e147), (show (f141 10).toInt = (f 10).toInt from e148), (show (f141 13).toInt = (f 13).toInt from e149), (show (f141 14).toInt = 0 from (oz_4193540c58 e150 g0))⟩) d_Raw_immediate_97 | exact px_vret S hr hlk hAe hw (Nat.le_of_ble_eq_true rfl) (Nat.le_of_ble_eq_true rfl) (⟨f141, a142, rfl, (show (f141 3).toInt = (f 3).toInt from by first | exact e145 | omega), (show (f141 7).toInt = (f 7).toInt from by first | exact e146 | omega), (show (f141 8).toInt = (f 8).toInt from by first | exact e147 | omega), (show (f141 10).toInt = (f 10).toInt from by first | exact e148 | omega), (show (f141 13).toInt = (f 13).toInt from by first | exact e149 | omega), (show (f141 14).toInt = 0 from by first | exact oz_4193540c58 e150 g0 | omega)⟩) d_Raw_immediate_97
        · have nc121 : ¬ z1.toInt = (0 : Int) := mt (i_eq (x := z1) (y := 0)).mpr c121
          refine lv_iload_n S.x S.b d_Raw_immediate_33 rfl (lv_at hl 5 rfl) ?_
          refine lv_iconst (v := 5) S.x S.b d_Raw_immediate_34 (by decide) ?_
          refine lv_icmp_ne (tgt := 45) S.x S.b d_Raw_immediate_35 (by decide) (fun c152 => ?_) (fun c152 => ?_)
          · have nc152 : ¬ p2.toInt = (5 : Int) := mt (i_eq (x := p2) (y := 5)).mpr c152
            refine lv_aload_n S.x S.b d_Raw_immediate_45 rfl (lv_at hl 2 rfl) ?_
            refine lv_bipush (v := 7) S.x S.b d_Raw_immediate_46 (by decide) ?_
            refine lv_iconst (v := 0) S.x S.b d_Raw_immediate_48 (by decide) ?_
            refine px_callv (pr := []) (px_runU (As := [.int 7, .int 0]) (rest := []) S (c_finish_Raw l D cs h r g o2 o4 f a 7 0   _) hT (pr := []) (pcs := [wd_Raw cs h r (fun k => if k = 2 then o2 else if k = 4 then o4 else none) f a g]) hw px_X.tt (C := "HomeSystem$RawProcess") (x := ⟨"HomeSystem$RawProcess", "finish", "(II)V"⟩) (px_recv hT hw 0 0 rfl rfl rfl) m8_89 m8_170 m8_171 m8_85 m8_173 m1_33 rfl q_HomeSystem_AnyProcess_finish ⟨Nat.le_of_ble_eq_true rfl, Nat.le_of_ble_eq_true rfl⟩ hl.1 rfl (Nat.le_of_ble_eq_true rfl) d_Raw_immediate_49 ⟨Nat.le_of_ble_eq_true rfl, Nat.le_of_ble_eq_true rfl⟩) hw hA (fun p155 H locs hp155 hw => ?_)
            obtain ⟨f153, a154, rfl, e157, e158, e159, e160, e161, e162, e163⟩ := hp155
            have e157 : (f153 3).toInt = (f 3).toInt := e157
            have e158 : (f153 7).toInt = (f 7).toInt := e158
            have e159 : (f153 8).toInt = (f 8).toInt := e159
            have e160 : (f153 10).toInt = (f 10).toInt := e160
            have e161 : (f153 13).toInt = (f 13).toInt := e161
            have e162 : (f153 14).toInt = 0 := e162
            have e163 : (f153 11).toInt = (7 : Int) := e163
            refine lv_goto (tgt := 97) S.x S.b d_Raw_immediate_52 (by decide) ?_
            first | exact px_vret S hr hlk hAe hw (Nat.le_of_ble_eq_true rfl) (Nat.le_of_ble_eq_true rfl) (⟨f153, a154, rfl, (show (f153 3).toInt = (f 3).toInt from e157), (show (f153 7).toInt = (f 7).toInt from e158), (show (f153 8).toInt = (f 8).toInt from e159), (show (f153 10).toInt = (f 10).toInt from e160), (show (f153 13).toInt = (f 13).toInt from e161), (show (f153 14).toInt = 0 from e162)⟩) d_Raw_immediate_97 | exact px_vret S hr hlk hAe hw (Nat.le_of_ble_eq_true rfl) (Nat.le_of_ble_eq_true rfl) (⟨f153, a154, rfl, (show (f153 3).toInt = (f 3).toInt from by first | exact e157 | omega), (show (f153 7).toInt = (f 7).toInt from by first | exact e158 | omega), (show (f153 8).toInt = (f 8).toInt from by first | exact e159 | omega), (show (f153 10).toInt = (f 10).toInt from by first | exact e160 | omega), (show (f153 13).toInt = (f 13).toInt from by first | exact e161 | omega), (show (f153 14).toInt = 0 from by first | exact e162 | omega)⟩) d_Raw_immediate_97
          · have nc152 : p2.toInt = (5 : Int) := (i_eq (x := p2) (y := 5)).mp c152
            refine lv_iload S.x S.b d_Raw_immediate_38 (lv_at hl 1 rfl) ?_
            refine lv_bipush (v := 32) S.x S.b d_Raw_immediate_40 (by decide) ?_
            refine lv_icmp_eq (tgt := 55) S.x S.b d_Raw_immediate_42 (by decide) (fun c164 => ?_) (fun c164 => ?_)
            · have nc164 : z1.toInt = (32 : Int) := (i_eq (x := z1) (y := 32)).mp c164
              refine lv_aload_n S.x S.b d_Raw_immediate_55 rfl (lv_at hl 2 rfl) ?_
              refine lv_iload_n S.x S.b d_Raw_immediate_56 rfl (lv_at hl 4 rfl) ?_
              refine lv_iload_n S.x S.b d_Raw_immediate_57 rfl (lv_at hl 5 rfl) ?_
              refine lv_iload S.x S.b d_Raw_immediate_58 (lv_at hl 6 rfl) ?_
              refine lv_iload S.x S.b d_Raw_immediate_60 (lv_at hl 0 rfl) ?_
              refine lv_if_eq (tgt := 75) S.x S.b d_Raw_immediate_62 (by decide) (fun c165 => ?_) (fun c165 => ?_)
              · exact absurd c165 (by decide)
              ·
                refine lv_iload_n S.x S.b d_Raw_immediate_65 rfl (lv_at hl 3 rfl) ?_
                refine lv_bipush (v := 20) S.x S.b d_Raw_immediate_66 (by decide) ?_
                refine lv_iushr S.x S.b d_Raw_immediate_68 rfl ?_
                refine lv_topi (fun z166 ez166 => ?_)
                have lz166 := Int32.le_toInt z166
                have uz166 := Int32.toInt_lt z166
                refine lv_bipush (v := 31) S.x S.b d_Raw_immediate_69 (by decide) ?_
                refine lv_iand S.x S.b d_Raw_immediate_71 ?_
                refine lv_topi (fun z167 ez167 => ?_)
                have lz167 := Int32.le_toInt z167
                have uz167 := Int32.toInt_lt z167
                have bz167 := i_andm z166 (m := 31) 5 (by decide) (by decide)
                rw [← ez167] at bz167
                have wz167 : 0 ≤ z167.toInt ∧ z167.toInt ≤ 31 := by simp only [Nat.reducePow, Int.reducePow] at bz167; omega
                refine lv_goto (tgt := 79) S.x S.b d_Raw_immediate_72 (by decide) ?_
                refine lv_iload S.x S.b d_Raw_immediate_79 (lv_at hl 1 rfl) ?_
                refine lv_bipush (v := 32) S.x S.b d_Raw_immediate_81 (by decide) ?_
                refine lv_icmp_ne (tgt := 90) S.x S.b d_Raw_immediate_83 (by decide) (fun c168 => ?_) (fun c168 => ?_)
                · have nc168 : ¬ z1.toInt = (32 : Int) := mt (i_eq (x := z1) (y := 32)).mpr c168
                  refine lv_iconst (v := 0) S.x S.b d_Raw_immediate_90 (by decide) ?_
                  refine px_calli (pr := [wd_Raw cs h r (fun k => if k = 2 then o2 else if k = 4 then o4 else none) f a g]) (px_runS (As := [.int p2, .int p3, .int z167, .int 0]) (rest := [.int p1, .ref h]) S (c_Raw_basic l D cs  p2 p3 z167 0   _) hT (pr := [wd_Raw cs h r (fun k => if k = 2 then o2 else if k = 4 then o4 else none) f a g]) (pcs := []) hw px_X.tt m8_222 m8_220 m8_221 m1_34 q_Raw_basic ⟨Nat.le_of_ble_eq_true rfl, Nat.le_of_ble_eq_true rfl⟩ hl.1 rfl (Nat.le_of_ble_eq_true rfl) d_Raw_immediate_91 ⟨Nat.le_of_ble_eq_true rfl, Nat.le_of_ble_eq_true rfl⟩) hw hA (fun v170 p169 H locs hp169 hw => ?_)
                  subst hp169
                  have lv170 := Int32.le_toInt v170
                  have uv170 := Int32.toInt_lt v170
                  refine px_callv (pr := []) (px_runV (As := [.int p1, .int v170]) (rest := []) S (c_Raw_setRegister l D cs h r g o2 o4 f a p1 v170   _) hT (pr := []) (pcs := [wd_Raw cs h r (fun k => if k = 2 then o2 else if k = 4 then o4 else none) f a g]) hw px_X.tt (px_recv hT hw 0 0 rfl rfl rfl) m8_181 m8_178 m8_180 ms_6_5 m1_34 q_Raw_setRegister ⟨Nat.le_of_ble_eq_true rfl, Nat.le_of_ble_eq_true rfl⟩ hl.1 rfl (Nat.le_of_ble_eq_true rfl) d_Raw_immediate_94 ⟨Nat.le_of_ble_eq_true rfl, Nat.le_of_ble_eq_true rfl⟩) hw hA (fun p173 H locs hp173 hw => ?_)
                  obtain ⟨f171, a172, rfl, e175, e176, e177, e178, e179, e180, e181⟩ := hp173
                  have e175 : (f171 3).toInt = (f 3).toInt := e175
                  have e176 : (f171 7).toInt = (f 7).toInt := e176
                  have e177 : (f171 8).toInt = (f 8).toInt := e177
                  have e178 : (f171 10).toInt = (f 10).toInt := e178
                  have e179 : (f171 13).toInt = (f 13).toInt := e179
                  have e180 : (f171 14).toInt = (f 14).toInt := e180
                  have e181 : (f171 11).toInt = (f 11).toInt := e181
                  first | exact px_vret S hr hlk hAe hw (Nat.le_of_ble_eq_true rfl) (Nat.le_of_ble_eq_true rfl) (⟨f171, a172, rfl, (show (f171 3).toInt = (f 3).toInt from e175), (show (f171 7).toInt = (f 7).toInt from e176), (show (f171 8).toInt = (f 8).toInt from e177), (show (f171 10).toInt = (f 10).toInt from e178), (show (f171 13).toInt = (f 13).toInt from e179), (show (f171 14).toInt = 0 from (oz_4193540c58 e180 g0))⟩) d_Raw_immediate_97 | exact px_vret S hr hlk hAe hw (Nat.le_of_ble_eq_true rfl) (Nat.le_of_ble_eq_true rfl) (⟨f171, a172, rfl, (show (f171 3).toInt = (f 3).toInt from by first | exact e175 | omega), (show (f171 7).toInt = (f 7).toInt from by first | exact e176 | omega), (show (f171 8).toInt = (f 8).toInt from by first | exact e177 | omega), (show (f171 10).toInt = (f 10).toInt from by first | exact e178 | omega), (show (f171 13).toInt = (f 13).toInt from by first | exact e179 | omega), (show (f171 14).toInt = 0 from by first | exact oz_4193540c58 e180 g0 | omega)⟩) d_Raw_immediate_97
                · have nc168 : z1.toInt = (32 : Int) := (i_eq (x := z1) (y := 32)).mp c168
                  refine lv_iconst (v := 1) S.x S.b d_Raw_immediate_86 (by decide) ?_
                  refine lv_goto (tgt := 91) S.x S.b d_Raw_immediate_87 (by decide) ?_
                  refine px_calli (pr := [wd_Raw cs h r (fun k => if k = 2 then o2 else if k = 4 then o4 else none) f a g]) (px_runS (As := [.int p2, .int p3, .int z167, .int 1]) (rest := [.int p1, .ref h]) S (c_Raw_basic l D cs  p2 p3 z167 1   _) hT (pr := [wd_Raw cs h r (fun k => if k = 2 then o2 else if k = 4 then o4 else none) f a g]) (pcs := []) hw px_X.tt m8_222 m8_220 m8_221 m1_34 q_Raw_basic ⟨Nat.le_of_ble_eq_true rfl, Nat.le_of_ble_eq_true rfl⟩ hl.1 rfl (Nat.le_of_ble_eq_true rfl) d_Raw_immediate_91 ⟨Nat.le_of_ble_eq_true rfl, Nat.le_of_ble_eq_true rfl⟩) hw hA (fun v183 p182 H locs hp182 hw => ?_)
                  subst hp182
                  have lv183 := Int32.le_toInt v183
                  have uv183 := Int32.toInt_lt v183
                  refine px_callv (pr := []) (px_runV (As := [.int p1, .int v183]) (rest := []) S (c_Raw_setRegister l D cs h r g o2 o4 f a p1 v183   _) hT (pr := []) (pcs := [wd_Raw cs h r (fun k => if k = 2 then o2 else if k = 4 then o4 else none) f a g]) hw px_X.tt (px_recv hT hw 0 0 rfl rfl rfl) m8_181 m8_178 m8_180 ms_6_5 m1_34 q_Raw_setRegister ⟨Nat.le_of_ble_eq_true rfl, Nat.le_of_ble_eq_true rfl⟩ hl.1 rfl (Nat.le_of_ble_eq_true rfl) d_Raw_immediate_94 ⟨Nat.le_of_ble_eq_true rfl, Nat.le_of_ble_eq_true rfl⟩) hw hA (fun p186 H locs hp186 hw => ?_)
                  obtain ⟨f184, a185, rfl, e188, e189, e190, e191, e192, e193, e194⟩ := hp186
                  have e188 : (f184 3).toInt = (f 3).toInt := e188
                  have e189 : (f184 7).toInt = (f 7).toInt := e189
                  have e190 : (f184 8).toInt = (f 8).toInt := e190
                  have e191 : (f184 10).toInt = (f 10).toInt := e191
                  have e192 : (f184 13).toInt = (f 13).toInt := e192
                  have e193 : (f184 14).toInt = (f 14).toInt := e193
                  have e194 : (f184 11).toInt = (f 11).toInt := e194
                  first | exact px_vret S hr hlk hAe hw (Nat.le_of_ble_eq_true rfl) (Nat.le_of_ble_eq_true rfl) (⟨f184, a185, rfl, (show (f184 3).toInt = (f 3).toInt from e188), (show (f184 7).toInt = (f 7).toInt from e189), (show (f184 8).toInt = (f 8).toInt from e190), (show (f184 10).toInt = (f 10).toInt from e191), (show (f184 13).toInt = (f 13).toInt from e192), (show (f184 14).toInt = 0 from (oz_4193540c58 e193 g0))⟩) d_Raw_immediate_97 | exact px_vret S hr hlk hAe hw (Nat.le_of_ble_eq_true rfl) (Nat.le_of_ble_eq_true rfl) (⟨f184, a185, rfl, (show (f184 3).toInt = (f 3).toInt from by first | exact e188 | omega), (show (f184 7).toInt = (f 7).toInt from by first | exact e189 | omega), (show (f184 8).toInt = (f 8).toInt from by first | exact e190 | omega), (show (f184 10).toInt = (f 10).toInt from by first | exact e191 | omega), (show (f184 13).toInt = (f 13).toInt from by first | exact e192 | omega), (show (f184 14).toInt = 0 from by first | exact oz_4193540c58 e193 g0 | omega)⟩) d_Raw_immediate_97
            · have nc164 : ¬ z1.toInt = (32 : Int) := mt (i_eq (x := z1) (y := 32)).mpr c164
              refine lv_aload_n S.x S.b d_Raw_immediate_45 rfl (lv_at hl 2 rfl) ?_
              refine lv_bipush (v := 7) S.x S.b d_Raw_immediate_46 (by decide) ?_
              refine lv_iconst (v := 0) S.x S.b d_Raw_immediate_48 (by decide) ?_
              refine px_callv (pr := []) (px_runU (As := [.int 7, .int 0]) (rest := []) S (c_finish_Raw l D cs h r g o2 o4 f a 7 0   _) hT (pr := []) (pcs := [wd_Raw cs h r (fun k => if k = 2 then o2 else if k = 4 then o4 else none) f a g]) hw px_X.tt (C := "HomeSystem$RawProcess") (x := ⟨"HomeSystem$RawProcess", "finish", "(II)V"⟩) (px_recv hT hw 0 0 rfl rfl rfl) m8_89 m8_170 m8_171 m8_85 m8_173 m1_33 rfl q_HomeSystem_AnyProcess_finish ⟨Nat.le_of_ble_eq_true rfl, Nat.le_of_ble_eq_true rfl⟩ hl.1 rfl (Nat.le_of_ble_eq_true rfl) d_Raw_immediate_49 ⟨Nat.le_of_ble_eq_true rfl, Nat.le_of_ble_eq_true rfl⟩) hw hA (fun p197 H locs hp197 hw => ?_)
              obtain ⟨f195, a196, rfl, e199, e200, e201, e202, e203, e204, e205⟩ := hp197
              have e199 : (f195 3).toInt = (f 3).toInt := e199
              have e200 : (f195 7).toInt = (f 7).toInt := e200
              have e201 : (f195 8).toInt = (f 8).toInt := e201
              have e202 : (f195 10).toInt = (f 10).toInt := e202
              have e203 : (f195 13).toInt = (f 13).toInt := e203
              have e204 : (f195 14).toInt = 0 := e204
              have e205 : (f195 11).toInt = (7 : Int) := e205
              refine lv_goto (tgt := 97) S.x S.b d_Raw_immediate_52 (by decide) ?_
              first | exact px_vret S hr hlk hAe hw (Nat.le_of_ble_eq_true rfl) (Nat.le_of_ble_eq_true rfl) (⟨f195, a196, rfl, (show (f195 3).toInt = (f 3).toInt from e199), (show (f195 7).toInt = (f 7).toInt from e200), (show (f195 8).toInt = (f 8).toInt from e201), (show (f195 10).toInt = (f 10).toInt from e202), (show (f195 13).toInt = (f 13).toInt from e203), (show (f195 14).toInt = 0 from e204)⟩) d_Raw_immediate_97 | exact px_vret S hr hlk hAe hw (Nat.le_of_ble_eq_true rfl) (Nat.le_of_ble_eq_true rfl) (⟨f195, a196, rfl, (show (f195 3).toInt = (f 3).toInt from by first | exact e199 | omega), (show (f195 7).toInt = (f 7).toInt from by first | exact e200 | omega), (show (f195 8).toInt = (f 8).toInt from by first | exact e201 | omega), (show (f195 10).toInt = (f 10).toInt from by first | exact e202 | omega), (show (f195 13).toInt = (f 13).toInt from by first | exact e203 | omega), (show (f195 14).toInt = 0 from by first | exact e204 | omega)⟩) d_Raw_immediate_97
abbrev b_Raw_system : ByteArray := prog_8_method_28_code
def y_Raw_system : MethodName := ⟨"HomeSystem$RawProcess", "system", "(I)V"⟩
theorem d_Raw_system_0 : decode b_Raw_system 0 = .ok (.aload_n 0, 1) := by decide +kernel
theorem d_Raw_system_1 : decode b_Raw_system 1 = .ok (.getfield 9, 3) := by decide +kernel
theorem d_Raw_system_4 : decode b_Raw_system 4 = .ok (.bipush 17, 2) := by decide +kernel
theorem d_Raw_system_6 : decode b_Raw_system 6 = .ok (.iaload, 1) := by decide +kernel
theorem d_Raw_system_7 : decode b_Raw_system 7 = .ok (.istore_n 2, 1) := by decide +kernel
theorem d_Raw_system_8 : decode b_Raw_system 8 = .ok (.aload_n 0, 1) := by decide +kernel
theorem d_Raw_system_9 : decode b_Raw_system 9 = .ok (.aload_n 0, 1) := by decide +kernel
theorem d_Raw_system_10 : decode b_Raw_system 10 = .ok (.getfield 9, 3) := by decide +kernel
theorem d_Raw_system_13 : decode b_Raw_system 13 = .ok (.bipush 10, 2) := by decide +kernel
theorem d_Raw_system_15 : decode b_Raw_system 15 = .ok (.iaload, 1) := by decide +kernel
theorem d_Raw_system_16 : decode b_Raw_system 16 = .ok (.putfield 160, 3) := by decide +kernel
theorem d_Raw_system_19 : decode b_Raw_system 19 = .ok (.aload_n 0, 1) := by decide +kernel
theorem d_Raw_system_20 : decode b_Raw_system 20 = .ok (.aload_n 0, 1) := by decide +kernel
theorem d_Raw_system_21 : decode b_Raw_system 21 = .ok (.getfield 9, 3) := by decide +kernel
theorem d_Raw_system_24 : decode b_Raw_system 24 = .ok (.bipush 11, 2) := by decide +kernel
theorem d_Raw_system_26 : decode b_Raw_system 26 = .ok (.iaload, 1) := by decide +kernel
theorem d_Raw_system_27 : decode b_Raw_system 27 = .ok (.putfield 163, 3) := by decide +kernel
theorem d_Raw_system_30 : decode b_Raw_system 30 = .ok (.iload_n 1, 1) := by decide +kernel
theorem d_Raw_system_31 : decode b_Raw_system 31 = .ok (.bipush 115, 2) := by decide +kernel
theorem d_Raw_system_33 : decode b_Raw_system 33 = .ok (.if_icmp .eq 13, 3) := by decide +kernel
theorem d_Raw_system_36 : decode b_Raw_system 36 = .ok (.aload_n 0, 1) := by decide +kernel
theorem d_Raw_system_37 : decode b_Raw_system 37 = .ok (.bipush 7, 2) := by decide +kernel
theorem d_Raw_system_39 : decode b_Raw_system 39 = .ok (.iconst 0, 1) := by decide +kernel
theorem d_Raw_system_40 : decode b_Raw_system 40 = .ok (.invokevirtual 56, 3) := by decide +kernel
theorem d_Raw_system_43 : decode b_Raw_system 43 = .ok (.goto 75, 3) := by decide +kernel
theorem d_Raw_system_46 : decode b_Raw_system 46 = .ok (.iload_n 2, 1) := by decide +kernel
theorem d_Raw_system_47 : decode b_Raw_system 47 = .ok (.ifCond .ne 15, 3) := by decide +kernel
theorem d_Raw_system_50 : decode b_Raw_system 50 = .ok (.aload_n 0, 1) := by decide +kernel
theorem d_Raw_system_51 : decode b_Raw_system 51 = .ok (.iconst 0, 1) := by decide +kernel
theorem d_Raw_system_52 : decode b_Raw_system 52 = .ok (.aload_n 0, 1) := by decide +kernel
theorem d_Raw_system_53 : decode b_Raw_system 53 = .ok (.getfield 160, 3) := by decide +kernel
theorem d_Raw_system_56 : decode b_Raw_system 56 = .ok (.invokevirtual 56, 3) := by decide +kernel
theorem d_Raw_system_59 : decode b_Raw_system 59 = .ok (.goto 59, 3) := by decide +kernel
theorem d_Raw_system_62 : decode b_Raw_system 62 = .ok (.iload_n 2, 1) := by decide +kernel
theorem d_Raw_system_63 : decode b_Raw_system 63 = .ok (.bipush 16, 2) := by decide +kernel
theorem d_Raw_system_65 : decode b_Raw_system 65 = .ok (.if_icmp .lt 23, 3) := by decide +kernel
theorem d_Raw_system_68 : decode b_Raw_system 68 = .ok (.iload_n 2, 1) := by decide +kernel
theorem d_Raw_system_69 : decode b_Raw_system 69 = .ok (.bipush 19, 2) := by decide +kernel
theorem d_Raw_system_71 : decode b_Raw_system 71 = .ok (.if_icmp .gt 17, 3) := by decide +kernel
theorem d_Raw_system_74 : decode b_Raw_system 74 = .ok (.aload_n 0, 1) := by decide +kernel
theorem d_Raw_system_75 : decode b_Raw_system 75 = .ok (.iconst 2, 1) := by decide +kernel
theorem d_Raw_system_76 : decode b_Raw_system 76 = .ok (.iload_n 2, 1) := by decide +kernel
theorem d_Raw_system_77 : decode b_Raw_system 77 = .ok (.iadd, 1) := by decide +kernel
theorem d_Raw_system_78 : decode b_Raw_system 78 = .ok (.bipush 16, 2) := by decide +kernel
theorem d_Raw_system_80 : decode b_Raw_system 80 = .ok (.isub, 1) := by decide +kernel
theorem d_Raw_system_81 : decode b_Raw_system 81 = .ok (.iconst 0, 1) := by decide +kernel
theorem d_Raw_system_82 : decode b_Raw_system 82 = .ok (.invokevirtual 56, 3) := by decide +kernel
theorem d_Raw_system_85 : decode b_Raw_system 85 = .ok (.goto 33, 3) := by decide +kernel
theorem d_Raw_system_88 : decode b_Raw_system 88 = .ok (.iload_n 2, 1) := by decide +kernel
theorem d_Raw_system_89 : decode b_Raw_system 89 = .ok (.ifCond .lt 9, 3) := by decide +kernel
theorem d_Raw_system_92 : decode b_Raw_system 92 = .ok (.iload_n 2, 1) := by decide +kernel
theorem d_Raw_system_93 : decode b_Raw_system 93 = .ok (.bipush 9, 2) := by decide +kernel
theorem d_Raw_system_95 : decode b_Raw_system 95 = .ok (.if_icmp .le 13, 3) := by decide +kernel
theorem d_Raw_system_98 : decode b_Raw_system 98 = .ok (.aload_n 0, 1) := by decide +kernel
theorem d_Raw_system_99 : decode b_Raw_system 99 = .ok (.bipush 7, 2) := by decide +kernel
theorem d_Raw_system_101 : decode b_Raw_system 101 = .ok (.iconst 0, 1) := by decide +kernel
theorem d_Raw_system_102 : decode b_Raw_system 102 = .ok (.invokevirtual 56, 3) := by decide +kernel
theorem d_Raw_system_105 : decode b_Raw_system 105 = .ok (.goto 13, 3) := by decide +kernel
theorem d_Raw_system_108 : decode b_Raw_system 108 = .ok (.aload_n 0, 1) := by decide +kernel
theorem d_Raw_system_109 : decode b_Raw_system 109 = .ok (.iload_n 2, 1) := by decide +kernel
theorem d_Raw_system_110 : decode b_Raw_system 110 = .ok (.putfield 74, 3) := by decide +kernel
theorem d_Raw_system_113 : decode b_Raw_system 113 = .ok (.aload_n 0, 1) := by decide +kernel
theorem d_Raw_system_114 : decode b_Raw_system 114 = .ok (.iconst 1, 1) := by decide +kernel
theorem d_Raw_system_115 : decode b_Raw_system 115 = .ok (.putfield 52, 3) := by decide +kernel
theorem d_Raw_system_118 : decode b_Raw_system 118 = .ok (.return_, 1) := by decide +kernel
theorem q_Raw_system : px_y y_Raw_system 1 := by unfold px_y; decide +kernel
set_option maxHeartbeats 4000000 in
set_option maxRecDepth 100000 in
theorem c_Raw_system (l : Launch) (D : va_G) (cs : Nat → ClassId) (h : Nat) (r : Nat → Nat) (g : Nat → Nat → Option Nat) (o2 : Option Nat) (o4 : Option Nat) (f : Nat → Int32) (a : Nat → Nat → Int32) (p0 : Int32)  (g0 : (f 14).toInt = 0) : MetV l y_Raw_system b_Raw_system 3 D cs 1 30 (0) (0) [.ref h, .int p0] [wd_Raw cs h r (fun k => if k = 2 then o2 else if k = 4 then o4 else none) f a g] (fun _ => True) (fun ps => ∃ (f' : Nat → Int32) (a' : Nat → Nat → Int32), (ps = [wd_Raw cs h r (fun k => if k = 2 then o2 else if k = 4 then o4 else none) f' a' g]) ∧ ((f' 3).toInt = (f 3).toInt) ∧ ((f' 7).toInt = (f 7).toInt) ∧ ((f' 8).toInt = (f 8).toInt) ∧ ((f' 10).toInt = (f 10).toInt) ∧ ((f' 13).toInt = (f 13).toInt) ∧ ((f' 14).toInt = 0 ∨ (f' 14).toInt = 1)) := by
  refine px_enter (by decide) (Nat.le_of_ble_eq_true rfl) ?_
  intro p e s m below meth c A ls hAe S hr hlk hnm hA hT hX hw hl
  have hl : lv_has ls 3 [(0, .ref h), (1, .int p0)] := hl
  have lp0 := Int32.le_toInt p0
  have up0 := Int32.toInt_lt p0
  have cst0 : (0 : Int32).toInt = 0 := rfl
  have cst1 : (1 : Int32).toInt = 1 := rfl
  have cst2 : (2 : Int32).toInt = 2 := rfl
  have cst7 : (7 : Int32).toInt = 7 := rfl
  have cst9 : (9 : Int32).toInt = 9 := rfl
  have cst10 : (10 : Int32).toInt = 10 := rfl
  have cst11 : (11 : Int32).toInt = 11 := rfl
  have cst16 : (16 : Int32).toInt = 16 := rfl
  have cst17 : (17 : Int32).toInt = 17 := rfl
  have cst19 : (19 : Int32).toInt = 19 := rfl
  have cst115 : (115 : Int32).toInt = 115 := rfl
  refine lv_aload_n S.x S.b d_Raw_system_0 rfl (lv_at hl 0 rfl) ?_
  refine px_get S k_Raw hT hw 0 0 0 (v := .ref (r 0)) rfl rfl rfl (by decide) m6_124 d_Raw_system_1 ?_
  refine lv_bipush (v := 17) S.x S.b d_Raw_system_4 (by decide) ?_
  refine px_iald S hT hw 0 1 (n := 32) (f := (a 0)) rfl rfl (x := 17) (vp_in_iff.mpr (by constructor <;> omega)) d_Raw_system_6 ?_
  refine lv_topi (fun z1 ez1 => ?_)
  have lz1 := Int32.le_toInt z1
  have uz1 := Int32.toInt_lt z1
  refine lv_istore_n (lv' := [(2, .int z1), (0, .ref h), (1, .int p0)]) S.x S.b d_Raw_system_7 rfl hl (by decide) rfl (fun ls hl => ?_)
  refine lv_aload_n S.x S.b d_Raw_system_8 rfl (lv_at hl 1 rfl) ?_
  refine lv_aload_n S.x S.b d_Raw_system_9 rfl (lv_at hl 1 rfl) ?_
  refine px_get S k_Raw hT hw 0 0 0 (v := .ref (r 0)) rfl rfl rfl (by decide) m6_124 d_Raw_system_10 ?_
  refine lv_bipush (v := 10) S.x S.b d_Raw_system_13 (by decide) ?_
  refine px_iald S hT hw 0 1 (n := 32) (f := (a 0)) rfl rfl (x := 10) (vp_in_iff.mpr (by constructor <;> omega)) d_Raw_system_15 ?_
  refine lv_topi (fun z2 ez2 => ?_)
  have lz2 := Int32.le_toInt z2
  have uz2 := Int32.toInt_lt z2
  refine px_putS S k_Raw hT hw 0 0 16 rfl rfl (by decide) m6_164 m6_165 rfl rfl rfl (Nat.le_of_ble_eq_true rfl) d_Raw_system_16 (w' := wd_Raw cs h r (fun k => if k = 2 then o2 else if k = 4 then o4 else none) (upd f 16 z2) a g) (ps' := [wd_Raw cs h r (fun k => if k = 2 then o2 else if k = 4 then o4 else none) (upd f 16 z2) a g]) rfl rfl (fun H locs hw => ?_)
  refine lv_aload_n S.x S.b d_Raw_system_19 rfl (lv_at hl 1 rfl) ?_
  refine lv_aload_n S.x S.b d_Raw_system_20 rfl (lv_at hl 1 rfl) ?_
  refine px_get S k_Raw hT hw 0 0 0 (v := .ref (r 0)) rfl rfl rfl (by decide) m6_124 d_Raw_system_21 ?_
  refine lv_bipush (v := 11) S.x S.b d_Raw_system_24 (by decide) ?_
  refine px_iald S hT hw 0 1 (n := 32) (f := (a 0)) rfl rfl (x := 11) (vp_in_iff.mpr (by constructor <;> omega)) d_Raw_system_26 ?_
  refine lv_topi (fun z3 ez3 => ?_)
  have lz3 := Int32.le_toInt z3
  have uz3 := Int32.toInt_lt z3
  refine px_putS S k_Raw hT hw 0 0 17 rfl rfl (by decide) m6_169 m6_170 rfl rfl rfl (Nat.le_of_ble_eq_true rfl) d_Raw_system_27 (w' := wd_Raw cs h r (fun k => if k = 2 then o2 else if k = 4 then o4 else none) (upd (upd f 16 z2) 17 z3) a g) (ps' := [wd_Raw cs h r (fun k => if k = 2 then o2 else if k = 4 then o4 else none) (upd (upd f 16 z2) 17 z3) a g]) rfl rfl (fun H locs hw => ?_)
  refine lv_iload_n S.x S.b d_Raw_system_30 rfl (lv_at hl 2 rfl) ?_
  refine lv_bipush (v := 115) S.x S.b d_Raw_system_31 (by decide) ?_
  refine lv_icmp_eq (tgt := 46) S.x S.b d_Raw_system_33 (by decide) (fun c4 => ?_) (fun c4 => ?_)
  · have nc4 : p0.toInt = (115 : Int) := (i_eq (x := p0) (y := 115)).mp c4
    refine lv_iload_n S.x S.b d_Raw_system_46 rfl (lv_at hl 0 rfl) ?_
    refine lv_if_ne (tgt := 62) S.x S.b d_Raw_system_47 (by decide) (fun c5 => ?_) (fun c5 => ?_)
    · have nc5 : ¬ z1.toInt = (0 : Int) := mt (i_eq (x := z1) (y := 0)).mpr c5
      refine lv_iload_n S.x S.b d_Raw_system_62 rfl (lv_at hl 0 rfl) ?_
      refine lv_bipush (v := 16) S.x S.b d_Raw_system_63 (by decide) ?_
      refine lv_icmp_lt (tgt := 88) S.x S.b d_Raw_system_65 (by decide) (fun c6 => ?_) (fun c6 => ?_)
      · have nc6 : z1.toInt < (16 : Int) := (i_lt (x := z1) (y := 16)).mp c6
        refine lv_iload_n S.x S.b d_Raw_system_88 rfl (lv_at hl 0 rfl) ?_
        refine lv_if_lt (tgt := 98) S.x S.b d_Raw_system_89 (by decide) (fun c7 => ?_) (fun c7 => ?_)
        · have nc7 : z1.toInt < (0 : Int) := (i_lt (x := z1) (y := 0)).mp c7
          refine lv_aload_n S.x S.b d_Raw_system_98 rfl (lv_at hl 1 rfl) ?_
          refine lv_bipush (v := 7) S.x S.b d_Raw_system_99 (by decide) ?_
          refine lv_iconst (v := 0) S.x S.b d_Raw_system_101 (by decide) ?_
          refine px_callv (pr := []) (px_runU (As := [.int 7, .int 0]) (rest := []) S (c_finish_Raw l D cs h r g o2 o4 (upd (upd f 16 z2) 17 z3) a 7 0   _) hT (pr := []) (pcs := [wd_Raw cs h r (fun k => if k = 2 then o2 else if k = 4 then o4 else none) (upd (upd f 16 z2) 17 z3) a g]) hw px_X.tt (C := "HomeSystem$RawProcess") (x := ⟨"HomeSystem$RawProcess", "finish", "(II)V"⟩) (px_recv hT hw 0 0 rfl rfl rfl) m8_89 m8_170 m8_171 m8_85 m8_173 m1_33 rfl q_HomeSystem_AnyProcess_finish ⟨Nat.le_of_ble_eq_true rfl, Nat.le_of_ble_eq_true rfl⟩ hl.1 rfl (Nat.le_of_ble_eq_true rfl) d_Raw_system_102 ⟨Nat.le_of_ble_eq_true rfl, Nat.le_of_ble_eq_true rfl⟩) hw hA (fun p10 H locs hp10 hw => ?_)
          obtain ⟨f8, a9, rfl, e12, e13, e14, e15, e16, e17, e18⟩ := hp10
          have e12 : (f8 3).toInt = (f 3).toInt := e12
          have e13 : (f8 7).toInt = (f 7).toInt := e13
          have e14 : (f8 8).toInt = (f 8).toInt := e14
          have e15 : (f8 10).toInt = (f 10).toInt := e15
          have e16 : (f8 13).toInt = (f 13).toInt := e16
          have e17 : (f8 14).toInt = 0 := e17
          have e18 : (f8 11).toInt = (7 : Int) := e18
          refine lv_goto (tgt := 118) S.x S.b d_Raw_system_105 (by decide) ?_
          first | exact px_vret S hr hlk hAe hw (Nat.le_of_ble_eq_true rfl) (Nat.le_of_ble_eq_true rfl) (⟨f8, a9, rfl, (show (f8 3).toInt = (f 3).toInt from e12), (show (f8 7).toInt = (f 7).toInt from e13), (show (f8 8).toInt = (f 8).toInt from e14), (show (f8 10).toInt = (f 10).toInt from e15), (show (f8 13).toInt = (f 13).toInt from e16), (show (f8 14).toInt = 0 ∨ (f8 14).toInt = 1 from by first | with_reducible rfl | with_reducible assumption | omega)⟩) d_Raw_system_118 | exact px_vret S hr hlk hAe hw (Nat.le_of_ble_eq_true rfl) (Nat.le_of_ble_eq_true rfl) (⟨f8, a9, rfl, (show (f8 3).toInt = (f 3).toInt from by first | exact e12 | omega), (show (f8 7).toInt = (f 7).toInt from by first | exact e13 | omega), (show (f8 8).toInt = (f 8).toInt from by first | exact e14 | omega), (show (f8 10).toInt = (f 10).toInt from by first | exact e15 | omega), (show (f8 13).toInt = (f 13).toInt from by first | exact e16 | omega), (show (f8 14).toInt = 0 ∨ (f8 14).toInt = 1 from by first | with_reducible rfl | with_reducible assumption | omega)⟩) d_Raw_system_118
        · have nc7 : ¬ z1.toInt < (0 : Int) := mt (i_lt (x := z1) (y := 0)).mpr c7
          refine lv_iload_n S.x S.b d_Raw_system_92 rfl (lv_at hl 0 rfl) ?_
          refine lv_bipush (v := 9) S.x S.b d_Raw_system_93 (by decide) ?_
          refine lv_icmp_le (tgt := 108) S.x S.b d_Raw_system_95 (by decide) (fun c19 => ?_) (fun c19 => ?_)
          · have nc19 : z1.toInt ≤ (9 : Int) := (i_le (x := z1) (y := 9)).mp c19
            refine lv_aload_n S.x S.b d_Raw_system_108 rfl (lv_at hl 1 rfl) ?_
            refine lv_iload_n S.x S.b d_Raw_system_109 rfl (lv_at hl 0 rfl) ?_
            refine px_putS S k_Raw hT hw 0 0 15 rfl rfl (by decide) m6_156 m6_157 rfl rfl rfl (Nat.le_of_ble_eq_true rfl) d_Raw_system_110 (w' := wd_Raw cs h r (fun k => if k = 2 then o2 else if k = 4 then o4 else none) (upd (upd (upd f 15 z1) 16 z2) 17 z3) a g) (ps' := [wd_Raw cs h r (fun k => if k = 2 then o2 else if k = 4 then o4 else none) (upd (upd (upd f 15 z1) 16 z2) 17 z3) a g]) rfl rfl (fun H locs hw => ?_)
            refine lv_aload_n S.x S.b d_Raw_system_113 rfl (lv_at hl 1 rfl) ?_
            refine lv_iconst (v := 1) S.x S.b d_Raw_system_114 (by decide) ?_
            refine px_putS S k_Raw hT hw 0 0 14 rfl rfl (by decide) m6_151 m6_152 rfl rfl rfl (Nat.le_of_ble_eq_true rfl) d_Raw_system_115 (w' := wd_Raw cs h r (fun k => if k = 2 then o2 else if k = 4 then o4 else none) (upd (upd (upd (upd f 14 1) 15 z1) 16 z2) 17 z3) a g) (ps' := [wd_Raw cs h r (fun k => if k = 2 then o2 else if k = 4 then o4 else none) (upd (upd (upd (upd f 14 1) 15 z1) 16 z2) 17 z3) a g]) rfl rfl (fun H locs hw => ?_)
            exact px_vret S hr hlk hAe hw (Nat.le_of_ble_eq_true rfl) (Nat.le_of_ble_eq_true rfl) (⟨(upd (upd (upd (upd f 14 1) 15 z1) 16 z2) 17 z3), a, rfl, (show (f 3).toInt = (f 3).toInt from rfl), (show (f 7).toInt = (f 7).toInt from rfl), (show (f 8).toInt = (f 8).toInt from rfl), (show (f 10).toInt = (f 10).toInt from rfl), (show (f 13).toInt = (f 13).toInt from rfl), (show (1 : Int) = 0 ∨ (1 : Int) = 1 from by first | with_reducible rfl | with_reducible assumption | omega)⟩) d_Raw_system_118
          · have nc19 : ¬ z1.toInt ≤ (9 : Int) := mt (i_le (x := z1) (y := 9)).mpr c19
            refine lv_aload_n S.x S.b d_Raw_system_98 rfl (lv_at hl 1 rfl) ?_
            refine lv_bipush (v := 7) S.x S.b d_Raw_system_99 (by decide) ?_
            refine lv_iconst (v := 0) S.x S.b d_Raw_system_101 (by decide) ?_
            refine px_callv (pr := []) (px_runU (As := [.int 7, .int 0]) (rest := []) S (c_finish_Raw l D cs h r g o2 o4 (upd (upd f 16 z2) 17 z3) a 7 0   _) hT (pr := []) (pcs := [wd_Raw cs h r (fun k => if k = 2 then o2 else if k = 4 then o4 else none) (upd (upd f 16 z2) 17 z3) a g]) hw px_X.tt (C := "HomeSystem$RawProcess") (x := ⟨"HomeSystem$RawProcess", "finish", "(II)V"⟩) (px_recv hT hw 0 0 rfl rfl rfl) m8_89 m8_170 m8_171 m8_85 m8_173 m1_33 rfl q_HomeSystem_AnyProcess_finish ⟨Nat.le_of_ble_eq_true rfl, Nat.le_of_ble_eq_true rfl⟩ hl.1 rfl (Nat.le_of_ble_eq_true rfl) d_Raw_system_102 ⟨Nat.le_of_ble_eq_true rfl, Nat.le_of_ble_eq_true rfl⟩) hw hA (fun p22 H locs hp22 hw => ?_)
            obtain ⟨f20, a21, rfl, e24, e25, e26, e27, e28, e29, e30⟩ := hp22
            have e24 : (f20 3).toInt = (f 3).toInt := e24
            have e25 : (f20 7).toInt = (f 7).toInt := e25
            have e26 : (f20 8).toInt = (f 8).toInt := e26
            have e27 : (f20 10).toInt = (f 10).toInt := e27
            have e28 : (f20 13).toInt = (f 13).toInt := e28
            have e29 : (f20 14).toInt = 0 := e29
            have e30 : (f20 11).toInt = (7 : Int) := e30
            refine lv_goto (tgt := 118) S.x S.b d_Raw_system_105 (by decide) ?_
            first | exact px_vret S hr hlk hAe hw (Nat.le_of_ble_eq_true rfl) (Nat.le_of_ble_eq_true rfl) (⟨f20, a21, rfl, (show (f20 3).toInt = (f 3).toInt from e24), (show (f20 7).toInt = (f 7).toInt from e25), (show (f20 8).toInt = (f 8).toInt from e26), (show (f20 10).toInt = (f 10).toInt from e27), (show (f20 13).toInt = (f 13).toInt from e28), (show (f20 14).toInt = 0 ∨ (f20 14).toInt = 1 from by first | with_reducible rfl | with_reducible assumption | omega)⟩) d_Raw_system_118 | exact px_vret S hr hlk hAe hw (Nat.le_of_ble_eq_true rfl) (Nat.le_of_ble_eq_true rfl) (⟨f20, a21, rfl, (show (f20 3).toInt = (f 3).toInt from by first | exact e24 | omega), (show (f20 7).toInt = (f 7).toInt from by first | exact e25 | omega), (show (f20 8).toInt = (f 8).toInt from by first | exact e26 | omega), (show (f20 10).toInt = (f 10).toInt from by first | exact e27 | omega), (show (f20 13).toInt = (f 13).toInt from by first | exact e28 | omega), (show (f20 14).toInt = 0 ∨ (f20 14).toInt = 1 from by first | with_reducible rfl | with_reducible assumption | omega)⟩) d_Raw_system_118
      · have nc6 : ¬ z1.toInt < (16 : Int) := mt (i_lt (x := z1) (y := 16)).mpr c6
        refine lv_iload_n S.x S.b d_Raw_system_68 rfl (lv_at hl 0 rfl) ?_
        refine lv_bipush (v := 19) S.x S.b d_Raw_system_69 (by decide) ?_
        refine lv_icmp_gt (tgt := 88) S.x S.b d_Raw_system_71 (by decide) (fun c31 => ?_) (fun c31 => ?_)
        · have nc31 : (19 : Int) < z1.toInt := (i_lt (x := 19) (y := z1)).mp c31
          refine lv_iload_n S.x S.b d_Raw_system_88 rfl (lv_at hl 0 rfl) ?_
          refine lv_if_lt (tgt := 98) S.x S.b d_Raw_system_89 (by decide) (fun c32 => ?_) (fun c32 => ?_)
          · have nc32 : z1.toInt < (0 : Int) := (i_lt (x := z1) (y := 0)).mp c32
            refine lv_aload_n S.x S.b d_Raw_system_98 rfl (lv_at hl 1 rfl) ?_
            refine lv_bipush (v := 7) S.x S.b d_Raw_system_99 (by decide) ?_
            refine lv_iconst (v := 0) S.x S.b d_Raw_system_101 (by decide) ?_
            refine px_callv (pr := []) (px_runU (As := [.int 7, .int 0]) (rest := []) S (c_finish_Raw l D cs h r g o2 o4 (upd (upd f 16 z2) 17 z3) a 7 0   _) hT (pr := []) (pcs := [wd_Raw cs h r (fun k => if k = 2 then o2 else if k = 4 then o4 else none) (upd (upd f 16 z2) 17 z3) a g]) hw px_X.tt (C := "HomeSystem$RawProcess") (x := ⟨"HomeSystem$RawProcess", "finish", "(II)V"⟩) (px_recv hT hw 0 0 rfl rfl rfl) m8_89 m8_170 m8_171 m8_85 m8_173 m1_33 rfl q_HomeSystem_AnyProcess_finish ⟨Nat.le_of_ble_eq_true rfl, Nat.le_of_ble_eq_true rfl⟩ hl.1 rfl (Nat.le_of_ble_eq_true rfl) d_Raw_system_102 ⟨Nat.le_of_ble_eq_true rfl, Nat.le_of_ble_eq_true rfl⟩) hw hA (fun p35 H locs hp35 hw => ?_)
            obtain ⟨f33, a34, rfl, e37, e38, e39, e40, e41, e42, e43⟩ := hp35
            have e37 : (f33 3).toInt = (f 3).toInt := e37
            have e38 : (f33 7).toInt = (f 7).toInt := e38
            have e39 : (f33 8).toInt = (f 8).toInt := e39
            have e40 : (f33 10).toInt = (f 10).toInt := e40
            have e41 : (f33 13).toInt = (f 13).toInt := e41
            have e42 : (f33 14).toInt = 0 := e42
            have e43 : (f33 11).toInt = (7 : Int) := e43
            refine lv_goto (tgt := 118) S.x S.b d_Raw_system_105 (by decide) ?_
            first | exact px_vret S hr hlk hAe hw (Nat.le_of_ble_eq_true rfl) (Nat.le_of_ble_eq_true rfl) (⟨f33, a34, rfl, (show (f33 3).toInt = (f 3).toInt from e37), (show (f33 7).toInt = (f 7).toInt from e38), (show (f33 8).toInt = (f 8).toInt from e39), (show (f33 10).toInt = (f 10).toInt from e40), (show (f33 13).toInt = (f 13).toInt from e41), (show (f33 14).toInt = 0 ∨ (f33 14).toInt = 1 from by first | with_reducible rfl | with_reducible assumption | omega)⟩) d_Raw_system_118 | exact px_vret S hr hlk hAe hw (Nat.le_of_ble_eq_true rfl) (Nat.le_of_ble_eq_true rfl) (⟨f33, a34, rfl, (show (f33 3).toInt = (f 3).toInt from by first | exact e37 | omega), (show (f33 7).toInt = (f 7).toInt from by first | exact e38 | omega), (show (f33 8).toInt = (f 8).toInt from by first | exact e39 | omega), (show (f33 10).toInt = (f 10).toInt from by first | exact e40 | omega), (show (f33 13).toInt = (f 13).toInt from by first | exact e41 | omega), (show (f33 14).toInt = 0 ∨ (f33 14).toInt = 1 from by first | with_reducible rfl | with_reducible assumption | omega)⟩) d_Raw_system_118
          · have nc32 : ¬ z1.toInt < (0 : Int) := mt (i_lt (x := z1) (y := 0)).mpr c32
            refine lv_iload_n S.x S.b d_Raw_system_92 rfl (lv_at hl 0 rfl) ?_
            refine lv_bipush (v := 9) S.x S.b d_Raw_system_93 (by decide) ?_
            refine lv_icmp_le (tgt := 108) S.x S.b d_Raw_system_95 (by decide) (fun c44 => ?_) (fun c44 => ?_)
            · have nc44 : z1.toInt ≤ (9 : Int) := (i_le (x := z1) (y := 9)).mp c44
              refine lv_aload_n S.x S.b d_Raw_system_108 rfl (lv_at hl 1 rfl) ?_
              refine lv_iload_n S.x S.b d_Raw_system_109 rfl (lv_at hl 0 rfl) ?_
              refine px_putS S k_Raw hT hw 0 0 15 rfl rfl (by decide) m6_156 m6_157 rfl rfl rfl (Nat.le_of_ble_eq_true rfl) d_Raw_system_110 (w' := wd_Raw cs h r (fun k => if k = 2 then o2 else if k = 4 then o4 else none) (upd (upd (upd f 15 z1) 16 z2) 17 z3) a g) (ps' := [wd_Raw cs h r (fun k => if k = 2 then o2 else if k = 4 then o4 else none) (upd (upd (upd f 15 z1) 16 z2) 17 z3) a g]) rfl rfl (fun H locs hw => ?_)
              refine lv_aload_n S.x S.b d_Raw_system_113 rfl (lv_at hl 1 rfl) ?_
              refine lv_iconst (v := 1) S.x S.b d_Raw_system_114 (by decide) ?_
              refine px_putS S k_Raw hT hw 0 0 14 rfl rfl (by decide) m6_151 m6_152 rfl rfl rfl (Nat.le_of_ble_eq_true rfl) d_Raw_system_115 (w' := wd_Raw cs h r (fun k => if k = 2 then o2 else if k = 4 then o4 else none) (upd (upd (upd (upd f 14 1) 15 z1) 16 z2) 17 z3) a g) (ps' := [wd_Raw cs h r (fun k => if k = 2 then o2 else if k = 4 then o4 else none) (upd (upd (upd (upd f 14 1) 15 z1) 16 z2) 17 z3) a g]) rfl rfl (fun H locs hw => ?_)
              exact px_vret S hr hlk hAe hw (Nat.le_of_ble_eq_true rfl) (Nat.le_of_ble_eq_true rfl) (⟨(upd (upd (upd (upd f 14 1) 15 z1) 16 z2) 17 z3), a, rfl, (show (f 3).toInt = (f 3).toInt from rfl), (show (f 7).toInt = (f 7).toInt from rfl), (show (f 8).toInt = (f 8).toInt from rfl), (show (f 10).toInt = (f 10).toInt from rfl), (show (f 13).toInt = (f 13).toInt from rfl), (show (1 : Int) = 0 ∨ (1 : Int) = 1 from by first | with_reducible rfl | with_reducible assumption | omega)⟩) d_Raw_system_118
            · have nc44 : ¬ z1.toInt ≤ (9 : Int) := mt (i_le (x := z1) (y := 9)).mpr c44
              refine lv_aload_n S.x S.b d_Raw_system_98 rfl (lv_at hl 1 rfl) ?_
              refine lv_bipush (v := 7) S.x S.b d_Raw_system_99 (by decide) ?_
              refine lv_iconst (v := 0) S.x S.b d_Raw_system_101 (by decide) ?_
              refine px_callv (pr := []) (px_runU (As := [.int 7, .int 0]) (rest := []) S (c_finish_Raw l D cs h r g o2 o4 (upd (upd f 16 z2) 17 z3) a 7 0   _) hT (pr := []) (pcs := [wd_Raw cs h r (fun k => if k = 2 then o2 else if k = 4 then o4 else none) (upd (upd f 16 z2) 17 z3) a g]) hw px_X.tt (C := "HomeSystem$RawProcess") (x := ⟨"HomeSystem$RawProcess", "finish", "(II)V"⟩) (px_recv hT hw 0 0 rfl rfl rfl) m8_89 m8_170 m8_171 m8_85 m8_173 m1_33 rfl q_HomeSystem_AnyProcess_finish ⟨Nat.le_of_ble_eq_true rfl, Nat.le_of_ble_eq_true rfl⟩ hl.1 rfl (Nat.le_of_ble_eq_true rfl) d_Raw_system_102 ⟨Nat.le_of_ble_eq_true rfl, Nat.le_of_ble_eq_true rfl⟩) hw hA (fun p47 H locs hp47 hw => ?_)
              obtain ⟨f45, a46, rfl, e49, e50, e51, e52, e53, e54, e55⟩ := hp47
              have e49 : (f45 3).toInt = (f 3).toInt := e49
              have e50 : (f45 7).toInt = (f 7).toInt := e50
              have e51 : (f45 8).toInt = (f 8).toInt := e51
              have e52 : (f45 10).toInt = (f 10).toInt := e52
              have e53 : (f45 13).toInt = (f 13).toInt := e53
              have e54 : (f45 14).toInt = 0 := e54
              have e55 : (f45 11).toInt = (7 : Int) := e55
              refine lv_goto (tgt := 118) S.x S.b d_Raw_system_105 (by decide) ?_
              first | exact px_vret S hr hlk hAe hw (Nat.le_of_ble_eq_true rfl) (Nat.le_of_ble_eq_true rfl) (⟨f45, a46, rfl, (show (f45 3).toInt = (f 3).toInt from e49), (show (f45 7).toInt = (f 7).toInt from e50), (show (f45 8).toInt = (f 8).toInt from e51), (show (f45 10).toInt = (f 10).toInt from e52), (show (f45 13).toInt = (f 13).toInt from e53), (show (f45 14).toInt = 0 ∨ (f45 14).toInt = 1 from by first | with_reducible rfl | with_reducible assumption | omega)⟩) d_Raw_system_118 | exact px_vret S hr hlk hAe hw (Nat.le_of_ble_eq_true rfl) (Nat.le_of_ble_eq_true rfl) (⟨f45, a46, rfl, (show (f45 3).toInt = (f 3).toInt from by first | exact e49 | omega), (show (f45 7).toInt = (f 7).toInt from by first | exact e50 | omega), (show (f45 8).toInt = (f 8).toInt from by first | exact e51 | omega), (show (f45 10).toInt = (f 10).toInt from by first | exact e52 | omega), (show (f45 13).toInt = (f 13).toInt from by first | exact e53 | omega), (show (f45 14).toInt = 0 ∨ (f45 14).toInt = 1 from by first | with_reducible rfl | with_reducible assumption | omega)⟩) d_Raw_system_118
        · have nc31 : ¬ (19 : Int) < z1.toInt := mt (i_lt (x := 19) (y := z1)).mpr c31
          refine lv_aload_n S.x S.b d_Raw_system_74 rfl (lv_at hl 1 rfl) ?_
          refine lv_iconst (v := 2) S.x S.b d_Raw_system_75 (by decide) ?_
          refine lv_iload_n S.x S.b d_Raw_system_76 rfl (lv_at hl 0 rfl) ?_
          refine lv_iadd S.x S.b d_Raw_system_77 ?_
          refine lv_topi (fun z56 ez56 => ?_)
          have tz56 : z56.toInt = ((2 : Int) + z1.toInt + 2147483648) % 4294967296 - 2147483648 := by rw [ez56]; exact i_add 2 z1
          have lz56 := Int32.le_toInt z56
          have uz56 := Int32.toInt_lt z56
          refine lv_bipush (v := 16) S.x S.b d_Raw_system_78 (by decide) ?_
          refine lv_isub S.x S.b d_Raw_system_80 ?_
          refine lv_topi (fun z57 ez57 => ?_)
          have tz57 : z57.toInt = (z56.toInt - (16 : Int) + 2147483648) % 4294967296 - 2147483648 := by rw [ez57]; exact i_sub z56 16
          have lz57 := Int32.le_toInt z57
          have uz57 := Int32.toInt_lt z57
          refine lv_iconst (v := 0) S.x S.b d_Raw_system_81 (by decide) ?_
          refine px_callv (pr := []) (px_runU (As := [.int z57, .int 0]) (rest := []) S (c_finish_Raw l D cs h r g o2 o4 (upd (upd f 16 z2) 17 z3) a z57 0   _) hT (pr := []) (pcs := [wd_Raw cs h r (fun k => if k = 2 then o2 else if k = 4 then o4 else none) (upd (upd f 16 z2) 17 z3) a g]) hw px_X.tt (C := "HomeSystem$RawProcess") (x := ⟨"HomeSystem$RawProcess", "finish", "(II)V"⟩) (px_recv hT hw 0 0 rfl rfl rfl) m8_89 m8_170 m8_171 m8_85 m8_173 m1_33 rfl q_HomeSystem_AnyProcess_finish ⟨Nat.le_of_ble_eq_true rfl, Nat.le_of_ble_eq_true rfl⟩ hl.1 rfl (Nat.le_of_ble_eq_true rfl) d_Raw_system_82 ⟨Nat.le_of_ble_eq_true rfl, Nat.le_of_ble_eq_true rfl⟩) hw hA (fun p60 H locs hp60 hw => ?_)
          obtain ⟨f58, a59, rfl, e62, e63, e64, e65, e66, e67, e68⟩ := hp60
          have e62 : (f58 3).toInt = (f 3).toInt := e62
          have e63 : (f58 7).toInt = (f 7).toInt := e63
          have e64 : (f58 8).toInt = (f 8).toInt := e64
          have e65 : (f58 10).toInt = (f 10).toInt := e65
          have e66 : (f58 13).toInt = (f 13).toInt := e66
          have e67 : (f58 14).toInt = 0 := e67
          have e68 : (f58 11).toInt = z57.toInt := e68
          refine lv_goto (tgt := 118) S.x S.b d_Raw_system_85 (by decide) ?_
          first | exact px_vret S hr hlk hAe hw (Nat.le_of_ble_eq_true rfl) (Nat.le_of_ble_eq_true rfl) (⟨f58, a59, rfl, (show (f58 3).toInt = (f 3).toInt from e62), (show (f58 7).toInt = (f 7).toInt from e63), (show (f58 8).toInt = (f 8).toInt from e64), (show (f58 10).toInt = (f 10).toInt from e65), (show (f58 13).toInt = (f 13).toInt from e66), (show (f58 14).toInt = 0 ∨ (f58 14).toInt = 1 from by first | with_reducible rfl | with_reducible assumption | omega)⟩) d_Raw_system_118 | exact px_vret S hr hlk hAe hw (Nat.le_of_ble_eq_true rfl) (Nat.le_of_ble_eq_true rfl) (⟨f58, a59, rfl, (show (f58 3).toInt = (f 3).toInt from by first | exact e62 | omega), (show (f58 7).toInt = (f 7).toInt from by first | exact e63 | omega), (show (f58 8).toInt = (f 8).toInt from by first | exact e64 | omega), (show (f58 10).toInt = (f 10).toInt from by first | exact e65 | omega), (show (f58 13).toInt = (f 13).toInt from by first | exact e66 | omega), (show (f58 14).toInt = 0 ∨ (f58 14).toInt = 1 from by first | with_reducible rfl | with_reducible assumption | omega)⟩) d_Raw_system_118
    · have nc5 : z1.toInt = (0 : Int) := (i_eq (x := z1) (y := 0)).mp c5
      refine lv_aload_n S.x S.b d_Raw_system_50 rfl (lv_at hl 1 rfl) ?_
      refine lv_iconst (v := 0) S.x S.b d_Raw_system_51 (by decide) ?_
      refine lv_aload_n S.x S.b d_Raw_system_52 rfl (lv_at hl 1 rfl) ?_
      refine px_getS S k_Raw hT hw 0 0 16 (v := .int z2) rfl rfl rfl (by decide) m6_164 m6_165 d_Raw_system_53 ?_
      refine px_callv (pr := []) (px_runU (As := [.int 0, .int z2]) (rest := []) S (c_finish_Raw l D cs h r g o2 o4 (upd (upd f 16 z2) 17 z3) a 0 z2   _) hT (pr := []) (pcs := [wd_Raw cs h r (fun k => if k = 2 then o2 else if k = 4 then o4 else none) (upd (upd f 16 z2) 17 z3) a g]) hw px_X.tt (C := "HomeSystem$RawProcess") (x := ⟨"HomeSystem$RawProcess", "finish", "(II)V"⟩) (px_recv hT hw 0 0 rfl rfl rfl) m8_89 m8_170 m8_171 m8_85 m8_173 m1_33 rfl q_HomeSystem_AnyProcess_finish ⟨Nat.le_of_ble_eq_true rfl, Nat.le_of_ble_eq_true rfl⟩ hl.1 rfl (Nat.le_of_ble_eq_true rfl) d_Raw_system_56 ⟨Nat.le_of_ble_eq_true rfl, Nat.le_of_ble_eq_true rfl⟩) hw hA (fun p71 H locs hp71 hw => ?_)
      obtain ⟨f69, a70, rfl, e73, e74, e75, e76, e77, e78, e79⟩ := hp71
      have e73 : (f69 3).toInt = (f 3).toInt := e73
      have e74 : (f69 7).toInt = (f 7).toInt := e74
      have e75 : (f69 8).toInt = (f 8).toInt := e75
      have e76 : (f69 10).toInt = (f 10).toInt := e76
      have e77 : (f69 13).toInt = (f 13).toInt := e77
      have e78 : (f69 14).toInt = 0 := e78
      have e79 : (f69 11).toInt = (0 : Int) := e79
      refine lv_goto (tgt := 118) S.x S.b d_Raw_system_59 (by decide) ?_
      first | exact px_vret S hr hlk hAe hw (Nat.le_of_ble_eq_true rfl) (Nat.le_of_ble_eq_true rfl) (⟨f69, a70, rfl, (show (f69 3).toInt = (f 3).toInt from e73), (show (f69 7).toInt = (f 7).toInt from e74), (show (f69 8).toInt = (f 8).toInt from e75), (show (f69 10).toInt = (f 10).toInt from e76), (show (f69 13).toInt = (f 13).toInt from e77), (show (f69 14).toInt = 0 ∨ (f69 14).toInt = 1 from by first | with_reducible rfl | with_reducible assumption | omega)⟩) d_Raw_system_118 | exact px_vret S hr hlk hAe hw (Nat.le_of_ble_eq_true rfl) (Nat.le_of_ble_eq_true rfl) (⟨f69, a70, rfl, (show (f69 3).toInt = (f 3).toInt from by first | exact e73 | omega), (show (f69 7).toInt = (f 7).toInt from by first | exact e74 | omega), (show (f69 8).toInt = (f 8).toInt from by first | exact e75 | omega), (show (f69 10).toInt = (f 10).toInt from by first | exact e76 | omega), (show (f69 13).toInt = (f 13).toInt from by first | exact e77 | omega), (show (f69 14).toInt = 0 ∨ (f69 14).toInt = 1 from by first | with_reducible rfl | with_reducible assumption | omega)⟩) d_Raw_system_118
  · have nc4 : ¬ p0.toInt = (115 : Int) := mt (i_eq (x := p0) (y := 115)).mpr c4
    refine lv_aload_n S.x S.b d_Raw_system_36 rfl (lv_at hl 1 rfl) ?_
    refine lv_bipush (v := 7) S.x S.b d_Raw_system_37 (by decide) ?_
    refine lv_iconst (v := 0) S.x S.b d_Raw_system_39 (by decide) ?_
    refine px_callv (pr := []) (px_runU (As := [.int 7, .int 0]) (rest := []) S (c_finish_Raw l D cs h r g o2 o4 (upd (upd f 16 z2) 17 z3) a 7 0   _) hT (pr := []) (pcs := [wd_Raw cs h r (fun k => if k = 2 then o2 else if k = 4 then o4 else none) (upd (upd f 16 z2) 17 z3) a g]) hw px_X.tt (C := "HomeSystem$RawProcess") (x := ⟨"HomeSystem$RawProcess", "finish", "(II)V"⟩) (px_recv hT hw 0 0 rfl rfl rfl) m8_89 m8_170 m8_171 m8_85 m8_173 m1_33 rfl q_HomeSystem_AnyProcess_finish ⟨Nat.le_of_ble_eq_true rfl, Nat.le_of_ble_eq_true rfl⟩ hl.1 rfl (Nat.le_of_ble_eq_true rfl) d_Raw_system_40 ⟨Nat.le_of_ble_eq_true rfl, Nat.le_of_ble_eq_true rfl⟩) hw hA (fun p82 H locs hp82 hw => ?_)
    obtain ⟨f80, a81, rfl, e84, e85, e86, e87, e88, e89, e90⟩ := hp82
    have e84 : (f80 3).toInt = (f 3).toInt := e84
    have e85 : (f80 7).toInt = (f 7).toInt := e85
    have e86 : (f80 8).toInt = (f 8).toInt := e86
    have e87 : (f80 10).toInt = (f 10).toInt := e87
    have e88 : (f80 13).toInt = (f 13).toInt := e88
    have e89 : (f80 14).toInt = 0 := e89
    have e90 : (f80 11).toInt = (7 : Int) := e90
    refine lv_goto (tgt := 118) S.x S.b d_Raw_system_43 (by decide) ?_
    first | exact px_vret S hr hlk hAe hw (Nat.le_of_ble_eq_true rfl) (Nat.le_of_ble_eq_true rfl) (⟨f80, a81, rfl, (show (f80 3).toInt = (f 3).toInt from e84), (show (f80 7).toInt = (f 7).toInt from e85), (show (f80 8).toInt = (f 8).toInt from e86), (show (f80 10).toInt = (f 10).toInt from e87), (show (f80 13).toInt = (f 13).toInt from e88), (show (f80 14).toInt = 0 ∨ (f80 14).toInt = 1 from by first | with_reducible rfl | with_reducible assumption | omega)⟩) d_Raw_system_118 | exact px_vret S hr hlk hAe hw (Nat.le_of_ble_eq_true rfl) (Nat.le_of_ble_eq_true rfl) (⟨f80, a81, rfl, (show (f80 3).toInt = (f 3).toInt from by first | exact e84 | omega), (show (f80 7).toInt = (f 7).toInt from by first | exact e85 | omega), (show (f80 8).toInt = (f 8).toInt from by first | exact e86 | omega), (show (f80 10).toInt = (f 10).toInt from by first | exact e87 | omega), (show (f80 13).toInt = (f 13).toInt from by first | exact e88 | omega), (show (f80 14).toInt = 0 ∨ (f80 14).toInt = 1 from by first | with_reducible rfl | with_reducible assumption | omega)⟩) d_Raw_system_118
abbrev b_Raw_answer : ByteArray := prog_8_method_4_code
def y_Raw_answer : MethodName := ⟨"HomeSystem$RawProcess", "answer", "(I)V"⟩
theorem d_Raw_answer_0 : decode b_Raw_answer 0 = .ok (.aload_n 0, 1) := by decide +kernel
theorem d_Raw_answer_1 : decode b_Raw_answer 1 = .ok (.iconst 0, 1) := by decide +kernel
theorem d_Raw_answer_2 : decode b_Raw_answer 2 = .ok (.putfield 52, 3) := by decide +kernel
theorem d_Raw_answer_5 : decode b_Raw_answer 5 = .ok (.aload_n 0, 1) := by decide +kernel
theorem d_Raw_answer_6 : decode b_Raw_answer 6 = .ok (.getfield 74, 3) := by decide +kernel
theorem d_Raw_answer_9 : decode b_Raw_answer 9 = .ok (.iconst 3, 1) := by decide +kernel
theorem d_Raw_answer_10 : decode b_Raw_answer 10 = .ok (.if_icmp .eq 28, 3) := by decide +kernel
theorem d_Raw_answer_13 : decode b_Raw_answer 13 = .ok (.aload_n 0, 1) := by decide +kernel
theorem d_Raw_answer_14 : decode b_Raw_answer 14 = .ok (.getfield 74, 3) := by decide +kernel
theorem d_Raw_answer_17 : decode b_Raw_answer 17 = .ok (.iconst 4, 1) := by decide +kernel
theorem d_Raw_answer_18 : decode b_Raw_answer 18 = .ok (.if_icmp .eq 20, 3) := by decide +kernel
theorem d_Raw_answer_21 : decode b_Raw_answer 21 = .ok (.aload_n 0, 1) := by decide +kernel
theorem d_Raw_answer_22 : decode b_Raw_answer 22 = .ok (.getfield 74, 3) := by decide +kernel
theorem d_Raw_answer_25 : decode b_Raw_answer 25 = .ok (.iconst 5, 1) := by decide +kernel
theorem d_Raw_answer_26 : decode b_Raw_answer 26 = .ok (.if_icmp .eq 12, 3) := by decide +kernel
theorem d_Raw_answer_29 : decode b_Raw_answer 29 = .ok (.aload_n 0, 1) := by decide +kernel
theorem d_Raw_answer_30 : decode b_Raw_answer 30 = .ok (.getfield 74, 3) := by decide +kernel
theorem d_Raw_answer_33 : decode b_Raw_answer 33 = .ok (.bipush 6, 2) := by decide +kernel
theorem d_Raw_answer_35 : decode b_Raw_answer 35 = .ok (.if_icmp .ne 11, 3) := by decide +kernel
theorem d_Raw_answer_38 : decode b_Raw_answer 38 = .ok (.aload_n 0, 1) := by decide +kernel
theorem d_Raw_answer_39 : decode b_Raw_answer 39 = .ok (.getfield 9, 3) := by decide +kernel
theorem d_Raw_answer_42 : decode b_Raw_answer 42 = .ok (.bipush 10, 2) := by decide +kernel
theorem d_Raw_answer_44 : decode b_Raw_answer 44 = .ok (.iload_n 1, 1) := by decide +kernel
theorem d_Raw_answer_45 : decode b_Raw_answer 45 = .ok (.iastore, 1) := by decide +kernel
theorem d_Raw_answer_46 : decode b_Raw_answer 46 = .ok (.aload_n 0, 1) := by decide +kernel
theorem d_Raw_answer_47 : decode b_Raw_answer 47 = .ok (.dup, 1) := by decide +kernel
theorem d_Raw_answer_48 : decode b_Raw_answer 48 = .ok (.getfield 42, 3) := by decide +kernel
theorem d_Raw_answer_51 : decode b_Raw_answer 51 = .ok (.iconst 1, 1) := by decide +kernel
theorem d_Raw_answer_52 : decode b_Raw_answer 52 = .ok (.isub, 1) := by decide +kernel
theorem d_Raw_answer_53 : decode b_Raw_answer 53 = .ok (.putfield 42, 3) := by decide +kernel
theorem d_Raw_answer_56 : decode b_Raw_answer 56 = .ok (.aload_n 0, 1) := by decide +kernel
theorem d_Raw_answer_57 : decode b_Raw_answer 57 = .ok (.dup, 1) := by decide +kernel
theorem d_Raw_answer_58 : decode b_Raw_answer 58 = .ok (.getfield 38, 3) := by decide +kernel
theorem d_Raw_answer_61 : decode b_Raw_answer 61 = .ok (.iconst 4, 1) := by decide +kernel
theorem d_Raw_answer_62 : decode b_Raw_answer 62 = .ok (.iadd, 1) := by decide +kernel
theorem d_Raw_answer_63 : decode b_Raw_answer 63 = .ok (.putfield 38, 3) := by decide +kernel
theorem d_Raw_answer_66 : decode b_Raw_answer 66 = .ok (.return_, 1) := by decide +kernel
theorem q_Raw_answer : px_y y_Raw_answer 1 := by unfold px_y; decide +kernel
set_option maxHeartbeats 4000000 in
set_option maxRecDepth 100000 in
theorem c_Raw_answer (l : Launch) (D : va_G) (cs : Nat → ClassId) (h : Nat) (r : Nat → Nat) (g : Nat → Nat → Option Nat) (o2 : Option Nat) (o4 : Option Nat) (f : Nat → Int32) (a : Nat → Nat → Int32) (p0 : Int32)  (g0 : 1 ≤ (f 7).toInt) : MetV l y_Raw_answer b_Raw_answer 2 D cs 0 0 (0) (0) [.ref h, .int p0] [wd_Raw cs h r (fun k => if k = 2 then o2 else if k = 4 then o4 else none) f a g] (fun _ => True) (fun ps => ∃ (f' : Nat → Int32) (a' : Nat → Nat → Int32), (ps = [wd_Raw cs h r (fun k => if k = 2 then o2 else if k = 4 then o4 else none) f' a' g]) ∧ ((f' 7).toInt = (f 7).toInt - 1) ∧ ((f' 8).toInt = (f 8).toInt) ∧ ((f' 10).toInt = (f 10).toInt) ∧ ((f' 13).toInt = (f 13).toInt) ∧ ((f' 14).toInt = 0) ∧ ((f' 11).toInt = (f 11).toInt)) := by
  refine px_enter (by decide) (Nat.le_of_ble_eq_true rfl) ?_
  intro p e s m below meth c A ls hAe S hr hlk hnm hA hT hX hw hl
  have hl : lv_has ls 2 [(0, .ref h), (1, .int p0)] := hl
  have lp0 := Int32.le_toInt p0
  have up0 := Int32.toInt_lt p0
  have cst0 : (0 : Int32).toInt = 0 := rfl
  have cst1 : (1 : Int32).toInt = 1 := rfl
  have cst3 : (3 : Int32).toInt = 3 := rfl
  have cst4 : (4 : Int32).toInt = 4 := rfl
  have cst5 : (5 : Int32).toInt = 5 := rfl
  have cst6 : (6 : Int32).toInt = 6 := rfl
  have cst10 : (10 : Int32).toInt = 10 := rfl
  refine lv_aload_n S.x S.b d_Raw_answer_0 rfl (lv_at hl 0 rfl) ?_
  refine lv_iconst (v := 0) S.x S.b d_Raw_answer_1 (by decide) ?_
  refine px_putS S k_Raw hT hw 0 0 14 rfl rfl (by decide) m6_151 m6_152 rfl rfl rfl (Nat.le_of_ble_eq_true rfl) d_Raw_answer_2 (w' := wd_Raw cs h r (fun k => if k = 2 then o2 else if k = 4 then o4 else none) (upd f 14 0) a g) (ps' := [wd_Raw cs h r (fun k => if k = 2 then o2 else if k = 4 then o4 else none) (upd f 14 0) a g]) rfl rfl (fun H locs hw => ?_)
  refine lv_aload_n S.x S.b d_Raw_answer_5 rfl (lv_at hl 0 rfl) ?_
  refine px_getS S k_Raw hT hw 0 0 15 (v := .int (f 15)) rfl rfl rfl (by decide) m6_156 m6_157 d_Raw_answer_6 ?_
  refine lv_iconst (v := 3) S.x S.b d_Raw_answer_9 (by decide) ?_
  refine lv_icmp_eq (tgt := 38) S.x S.b d_Raw_answer_10 (by decide) (fun c1 => ?_) (fun c1 => ?_)
  · have nc1 : (f 15).toInt = (3 : Int) := (i_eq (x := (f 15)) (y := 3)).mp c1
    refine lv_aload_n S.x S.b d_Raw_answer_38 rfl (lv_at hl 0 rfl) ?_
    refine px_get S k_Raw hT hw 0 0 0 (v := .ref (r 0)) rfl rfl rfl (by decide) m6_124 d_Raw_answer_39 ?_
    refine lv_bipush (v := 10) S.x S.b d_Raw_answer_42 (by decide) ?_
    refine lv_iload_n S.x S.b d_Raw_answer_44 rfl (lv_at hl 1 rfl) ?_
    refine px_iast S hT hw 0 1 (n := 32) (f := (a 0)) (x := 10) (y := p0) rfl rfl (vp_in_iff.mpr (by constructor <;> omega)) d_Raw_answer_45 (w' := wd_Raw cs h r (fun k => if k = 2 then o2 else if k = 4 then o4 else none) (upd f 14 0) (va_up a 0 (upd (a 0) (10 : Int32).toNatClampNeg p0)) g) (ps' := [wd_Raw cs h r (fun k => if k = 2 then o2 else if k = 4 then o4 else none) (upd f 14 0) (va_up a 0 (upd (a 0) (10 : Int32).toNatClampNeg p0)) g]) rfl rfl (fun H locs hw => ?_)
    refine lv_aload_n S.x S.b d_Raw_answer_46 rfl (lv_at hl 0 rfl) ?_
    refine lv_dup S.x S.b d_Raw_answer_47 rfl ?_
    refine px_get S k_Raw hT hw 0 0 7 (v := .int (f 7)) rfl rfl rfl (by decide) m6_131 d_Raw_answer_48 ?_
    refine lv_iconst (v := 1) S.x S.b d_Raw_answer_51 (by decide) ?_
    refine lv_isub S.x S.b d_Raw_answer_52 ?_
    have lr2 := Int32.le_toInt (f 7)
    have ur2 := Int32.toInt_lt (f 7)
    refine lv_topi (fun z3 ez3 => ?_)
    have tz3 : z3.toInt = ((f 7).toInt - (1 : Int) + 2147483648) % 4294967296 - 2147483648 := by rw [ez3]; exact i_sub (f 7) 1
    have lz3 := Int32.le_toInt z3
    have uz3 := Int32.toInt_lt z3
    refine px_put S k_Raw hT hw 0 0 7 rfl rfl (by decide) m6_131 rfl rfl rfl (Nat.le_of_ble_eq_true rfl) d_Raw_answer_53 (w' := wd_Raw cs h r (fun k => if k = 2 then o2 else if k = 4 then o4 else none) (upd (upd f 7 z3) 14 0) (va_up a 0 (upd (a 0) (10 : Int32).toNatClampNeg p0)) g) (ps' := [wd_Raw cs h r (fun k => if k = 2 then o2 else if k = 4 then o4 else none) (upd (upd f 7 z3) 14 0) (va_up a 0 (upd (a 0) (10 : Int32).toNatClampNeg p0)) g]) rfl rfl (fun H locs hw => ?_)
    refine lv_aload_n S.x S.b d_Raw_answer_56 rfl (lv_at hl 0 rfl) ?_
    refine lv_dup S.x S.b d_Raw_answer_57 rfl ?_
    refine px_get S k_Raw hT hw 0 0 5 (v := .int (f 5)) rfl rfl rfl (by decide) m6_129 d_Raw_answer_58 ?_
    refine lv_iconst (v := 4) S.x S.b d_Raw_answer_61 (by decide) ?_
    refine lv_iadd S.x S.b d_Raw_answer_62 ?_
    have lr4 := Int32.le_toInt (f 5)
    have ur4 := Int32.toInt_lt (f 5)
    refine lv_topi (fun z5 ez5 => ?_)
    have tz5 : z5.toInt = ((f 5).toInt + (4 : Int) + 2147483648) % 4294967296 - 2147483648 := by rw [ez5]; exact i_add (f 5) 4
    have lz5 := Int32.le_toInt z5
    have uz5 := Int32.toInt_lt z5
    refine px_put S k_Raw hT hw 0 0 5 rfl rfl (by decide) m6_129 rfl rfl rfl (Nat.le_of_ble_eq_true rfl) d_Raw_answer_63 (w' := wd_Raw cs h r (fun k => if k = 2 then o2 else if k = 4 then o4 else none) (upd (upd (upd f 5 z5) 7 z3) 14 0) (va_up a 0 (upd (a 0) (10 : Int32).toNatClampNeg p0)) g) (ps' := [wd_Raw cs h r (fun k => if k = 2 then o2 else if k = 4 then o4 else none) (upd (upd (upd f 5 z5) 7 z3) 14 0) (va_up a 0 (upd (a 0) (10 : Int32).toNatClampNeg p0)) g]) rfl rfl (fun H locs hw => ?_)
    exact px_vret S hr hlk hAe hw (Nat.le_of_ble_eq_true rfl) (Nat.le_of_ble_eq_true rfl) (⟨(upd (upd (upd f 5 z5) 7 z3) 14 0), (va_up a 0 (upd (a 0) (10 : Int32).toNatClampNeg p0)), rfl, (show z3.toInt = (f 7).toInt - 1 from by first | with_reducible rfl | with_reducible assumption | omega), (show (f 8).toInt = (f 8).toInt from rfl), (show (f 10).toInt = (f 10).toInt from rfl), (show (f 13).toInt = (f 13).toInt from rfl), (show (0 : Int) = 0 from by first | decide | omega), (show (f 11).toInt = (f 11).toInt from rfl)⟩) d_Raw_answer_66
  · have nc1 : ¬ (f 15).toInt = (3 : Int) := mt (i_eq (x := (f 15)) (y := 3)).mpr c1
    refine lv_aload_n S.x S.b d_Raw_answer_13 rfl (lv_at hl 0 rfl) ?_
    refine px_getS S k_Raw hT hw 0 0 15 (v := .int (f 15)) rfl rfl rfl (by decide) m6_156 m6_157 d_Raw_answer_14 ?_
    refine lv_iconst (v := 4) S.x S.b d_Raw_answer_17 (by decide) ?_
    refine lv_icmp_eq (tgt := 38) S.x S.b d_Raw_answer_18 (by decide) (fun c6 => ?_) (fun c6 => ?_)
    · have nc6 : (f 15).toInt = (4 : Int) := (i_eq (x := (f 15)) (y := 4)).mp c6
      refine lv_aload_n S.x S.b d_Raw_answer_38 rfl (lv_at hl 0 rfl) ?_
      refine px_get S k_Raw hT hw 0 0 0 (v := .ref (r 0)) rfl rfl rfl (by decide) m6_124 d_Raw_answer_39 ?_
      refine lv_bipush (v := 10) S.x S.b d_Raw_answer_42 (by decide) ?_
      refine lv_iload_n S.x S.b d_Raw_answer_44 rfl (lv_at hl 1 rfl) ?_
      refine px_iast S hT hw 0 1 (n := 32) (f := (a 0)) (x := 10) (y := p0) rfl rfl (vp_in_iff.mpr (by constructor <;> omega)) d_Raw_answer_45 (w' := wd_Raw cs h r (fun k => if k = 2 then o2 else if k = 4 then o4 else none) (upd f 14 0) (va_up a 0 (upd (a 0) (10 : Int32).toNatClampNeg p0)) g) (ps' := [wd_Raw cs h r (fun k => if k = 2 then o2 else if k = 4 then o4 else none) (upd f 14 0) (va_up a 0 (upd (a 0) (10 : Int32).toNatClampNeg p0)) g]) rfl rfl (fun H locs hw => ?_)
      refine lv_aload_n S.x S.b d_Raw_answer_46 rfl (lv_at hl 0 rfl) ?_
      refine lv_dup S.x S.b d_Raw_answer_47 rfl ?_
      refine px_get S k_Raw hT hw 0 0 7 (v := .int (f 7)) rfl rfl rfl (by decide) m6_131 d_Raw_answer_48 ?_
      refine lv_iconst (v := 1) S.x S.b d_Raw_answer_51 (by decide) ?_
      refine lv_isub S.x S.b d_Raw_answer_52 ?_
      have lr7 := Int32.le_toInt (f 7)
      have ur7 := Int32.toInt_lt (f 7)
      refine lv_topi (fun z8 ez8 => ?_)
      have tz8 : z8.toInt = ((f 7).toInt - (1 : Int) + 2147483648) % 4294967296 - 2147483648 := by rw [ez8]; exact i_sub (f 7) 1
      have lz8 := Int32.le_toInt z8
      have uz8 := Int32.toInt_lt z8
      refine px_put S k_Raw hT hw 0 0 7 rfl rfl (by decide) m6_131 rfl rfl rfl (Nat.le_of_ble_eq_true rfl) d_Raw_answer_53 (w' := wd_Raw cs h r (fun k => if k = 2 then o2 else if k = 4 then o4 else none) (upd (upd f 7 z8) 14 0) (va_up a 0 (upd (a 0) (10 : Int32).toNatClampNeg p0)) g) (ps' := [wd_Raw cs h r (fun k => if k = 2 then o2 else if k = 4 then o4 else none) (upd (upd f 7 z8) 14 0) (va_up a 0 (upd (a 0) (10 : Int32).toNatClampNeg p0)) g]) rfl rfl (fun H locs hw => ?_)
      refine lv_aload_n S.x S.b d_Raw_answer_56 rfl (lv_at hl 0 rfl) ?_
      refine lv_dup S.x S.b d_Raw_answer_57 rfl ?_
      refine px_get S k_Raw hT hw 0 0 5 (v := .int (f 5)) rfl rfl rfl (by decide) m6_129 d_Raw_answer_58 ?_
      refine lv_iconst (v := 4) S.x S.b d_Raw_answer_61 (by decide) ?_
      refine lv_iadd S.x S.b d_Raw_answer_62 ?_
      have lr9 := Int32.le_toInt (f 5)
      have ur9 := Int32.toInt_lt (f 5)
      refine lv_topi (fun z10 ez10 => ?_)
      have tz10 : z10.toInt = ((f 5).toInt + (4 : Int) + 2147483648) % 4294967296 - 2147483648 := by rw [ez10]; exact i_add (f 5) 4
      have lz10 := Int32.le_toInt z10
      have uz10 := Int32.toInt_lt z10
      refine px_put S k_Raw hT hw 0 0 5 rfl rfl (by decide) m6_129 rfl rfl rfl (Nat.le_of_ble_eq_true rfl) d_Raw_answer_63 (w' := wd_Raw cs h r (fun k => if k = 2 then o2 else if k = 4 then o4 else none) (upd (upd (upd f 5 z10) 7 z8) 14 0) (va_up a 0 (upd (a 0) (10 : Int32).toNatClampNeg p0)) g) (ps' := [wd_Raw cs h r (fun k => if k = 2 then o2 else if k = 4 then o4 else none) (upd (upd (upd f 5 z10) 7 z8) 14 0) (va_up a 0 (upd (a 0) (10 : Int32).toNatClampNeg p0)) g]) rfl rfl (fun H locs hw => ?_)
      exact px_vret S hr hlk hAe hw (Nat.le_of_ble_eq_true rfl) (Nat.le_of_ble_eq_true rfl) (⟨(upd (upd (upd f 5 z10) 7 z8) 14 0), (va_up a 0 (upd (a 0) (10 : Int32).toNatClampNeg p0)), rfl, (show z8.toInt = (f 7).toInt - 1 from by first | with_reducible rfl | with_reducible assumption | omega), (show (f 8).toInt = (f 8).toInt from rfl), (show (f 10).toInt = (f 10).toInt from rfl), (show (f 13).toInt = (f 13).toInt from rfl), (show (0 : Int) = 0 from by first | decide | omega), (show (f 11).toInt = (f 11).toInt from rfl)⟩) d_Raw_answer_66
    · have nc6 : ¬ (f 15).toInt = (4 : Int) := mt (i_eq (x := (f 15)) (y := 4)).mpr c6
      refine lv_aload_n S.x S.b d_Raw_answer_21 rfl (lv_at hl 0 rfl) ?_
      refine px_getS S k_Raw hT hw 0 0 15 (v := .int (f 15)) rfl rfl rfl (by decide) m6_156 m6_157 d_Raw_answer_22 ?_
      refine lv_iconst (v := 5) S.x S.b d_Raw_answer_25 (by decide) ?_
      refine lv_icmp_eq (tgt := 38) S.x S.b d_Raw_answer_26 (by decide) (fun c11 => ?_) (fun c11 => ?_)
      · have nc11 : (f 15).toInt = (5 : Int) := (i_eq (x := (f 15)) (y := 5)).mp c11
        refine lv_aload_n S.x S.b d_Raw_answer_38 rfl (lv_at hl 0 rfl) ?_
        refine px_get S k_Raw hT hw 0 0 0 (v := .ref (r 0)) rfl rfl rfl (by decide) m6_124 d_Raw_answer_39 ?_
        refine lv_bipush (v := 10) S.x S.b d_Raw_answer_42 (by decide) ?_
        refine lv_iload_n S.x S.b d_Raw_answer_44 rfl (lv_at hl 1 rfl) ?_
        refine px_iast S hT hw 0 1 (n := 32) (f := (a 0)) (x := 10) (y := p0) rfl rfl (vp_in_iff.mpr (by constructor <;> omega)) d_Raw_answer_45 (w' := wd_Raw cs h r (fun k => if k = 2 then o2 else if k = 4 then o4 else none) (upd f 14 0) (va_up a 0 (upd (a 0) (10 : Int32).toNatClampNeg p0)) g) (ps' := [wd_Raw cs h r (fun k => if k = 2 then o2 else if k = 4 then o4 else none) (upd f 14 0) (va_up a 0 (upd (a 0) (10 : Int32).toNatClampNeg p0)) g]) rfl rfl (fun H locs hw => ?_)
        refine lv_aload_n S.x S.b d_Raw_answer_46 rfl (lv_at hl 0 rfl) ?_
        refine lv_dup S.x S.b d_Raw_answer_47 rfl ?_
        refine px_get S k_Raw hT hw 0 0 7 (v := .int (f 7)) rfl rfl rfl (by decide) m6_131 d_Raw_answer_48 ?_
        refine lv_iconst (v := 1) S.x S.b d_Raw_answer_51 (by decide) ?_
        refine lv_isub S.x S.b d_Raw_answer_52 ?_
        have lr12 := Int32.le_toInt (f 7)
        have ur12 := Int32.toInt_lt (f 7)
        refine lv_topi (fun z13 ez13 => ?_)
        have tz13 : z13.toInt = ((f 7).toInt - (1 : Int) + 2147483648) % 4294967296 - 2147483648 := by rw [ez13]; exact i_sub (f 7) 1
        have lz13 := Int32.le_toInt z13
        have uz13 := Int32.toInt_lt z13
        refine px_put S k_Raw hT hw 0 0 7 rfl rfl (by decide) m6_131 rfl rfl rfl (Nat.le_of_ble_eq_true rfl) d_Raw_answer_53 (w' := wd_Raw cs h r (fun k => if k = 2 then o2 else if k = 4 then o4 else none) (upd (upd f 7 z13) 14 0) (va_up a 0 (upd (a 0) (10 : Int32).toNatClampNeg p0)) g) (ps' := [wd_Raw cs h r (fun k => if k = 2 then o2 else if k = 4 then o4 else none) (upd (upd f 7 z13) 14 0) (va_up a 0 (upd (a 0) (10 : Int32).toNatClampNeg p0)) g]) rfl rfl (fun H locs hw => ?_)
        refine lv_aload_n S.x S.b d_Raw_answer_56 rfl (lv_at hl 0 rfl) ?_
        refine lv_dup S.x S.b d_Raw_answer_57 rfl ?_
        refine px_get S k_Raw hT hw 0 0 5 (v := .int (f 5)) rfl rfl rfl (by decide) m6_129 d_Raw_answer_58 ?_
        refine lv_iconst (v := 4) S.x S.b d_Raw_answer_61 (by decide) ?_
        refine lv_iadd S.x S.b d_Raw_answer_62 ?_
        have lr14 := Int32.le_toInt (f 5)
        have ur14 := Int32.toInt_lt (f 5)
        refine lv_topi (fun z15 ez15 => ?_)
        have tz15 : z15.toInt = ((f 5).toInt + (4 : Int) + 2147483648) % 4294967296 - 2147483648 := by rw [ez15]; exact i_add (f 5) 4
        have lz15 := Int32.le_toInt z15
        have uz15 := Int32.toInt_lt z15
        refine px_put S k_Raw hT hw 0 0 5 rfl rfl (by decide) m6_129 rfl rfl rfl (Nat.le_of_ble_eq_true rfl) d_Raw_answer_63 (w' := wd_Raw cs h r (fun k => if k = 2 then o2 else if k = 4 then o4 else none) (upd (upd (upd f 5 z15) 7 z13) 14 0) (va_up a 0 (upd (a 0) (10 : Int32).toNatClampNeg p0)) g) (ps' := [wd_Raw cs h r (fun k => if k = 2 then o2 else if k = 4 then o4 else none) (upd (upd (upd f 5 z15) 7 z13) 14 0) (va_up a 0 (upd (a 0) (10 : Int32).toNatClampNeg p0)) g]) rfl rfl (fun H locs hw => ?_)
        exact px_vret S hr hlk hAe hw (Nat.le_of_ble_eq_true rfl) (Nat.le_of_ble_eq_true rfl) (⟨(upd (upd (upd f 5 z15) 7 z13) 14 0), (va_up a 0 (upd (a 0) (10 : Int32).toNatClampNeg p0)), rfl, (show z13.toInt = (f 7).toInt - 1 from by first | with_reducible rfl | with_reducible assumption | omega), (show (f 8).toInt = (f 8).toInt from rfl), (show (f 10).toInt = (f 10).toInt from rfl), (show (f 13).toInt = (f 13).toInt from rfl), (show (0 : Int) = 0 from by first | decide | omega), (show (f 11).toInt = (f 11).toInt from rfl)⟩) d_Raw_answer_66
      · have nc11 : ¬ (f 15).toInt = (5 : Int) := mt (i_eq (x := (f 15)) (y := 5)).mpr c11
        refine lv_aload_n S.x S.b d_Raw_answer_29 rfl (lv_at hl 0 rfl) ?_
        refine px_getS S k_Raw hT hw 0 0 15 (v := .int (f 15)) rfl rfl rfl (by decide) m6_156 m6_157 d_Raw_answer_30 ?_
        refine lv_bipush (v := 6) S.x S.b d_Raw_answer_33 (by decide) ?_
        refine lv_icmp_ne (tgt := 46) S.x S.b d_Raw_answer_35 (by decide) (fun c16 => ?_) (fun c16 => ?_)
        · have nc16 : ¬ (f 15).toInt = (6 : Int) := mt (i_eq (x := (f 15)) (y := 6)).mpr c16
          refine lv_aload_n S.x S.b d_Raw_answer_46 rfl (lv_at hl 0 rfl) ?_
          refine lv_dup S.x S.b d_Raw_answer_47 rfl ?_
          refine px_get S k_Raw hT hw 0 0 7 (v := .int (f 7)) rfl rfl rfl (by decide) m6_131 d_Raw_answer_48 ?_
          refine lv_iconst (v := 1) S.x S.b d_Raw_answer_51 (by decide) ?_
          refine lv_isub S.x S.b d_Raw_answer_52 ?_
          have lr17 := Int32.le_toInt (f 7)
          have ur17 := Int32.toInt_lt (f 7)
          refine lv_topi (fun z18 ez18 => ?_)
          have tz18 : z18.toInt = ((f 7).toInt - (1 : Int) + 2147483648) % 4294967296 - 2147483648 := by rw [ez18]; exact i_sub (f 7) 1
          have lz18 := Int32.le_toInt z18
          have uz18 := Int32.toInt_lt z18
          refine px_put S k_Raw hT hw 0 0 7 rfl rfl (by decide) m6_131 rfl rfl rfl (Nat.le_of_ble_eq_true rfl) d_Raw_answer_53 (w' := wd_Raw cs h r (fun k => if k = 2 then o2 else if k = 4 then o4 else none) (upd (upd f 7 z18) 14 0) a g) (ps' := [wd_Raw cs h r (fun k => if k = 2 then o2 else if k = 4 then o4 else none) (upd (upd f 7 z18) 14 0) a g]) rfl rfl (fun H locs hw => ?_)
          refine lv_aload_n S.x S.b d_Raw_answer_56 rfl (lv_at hl 0 rfl) ?_
          refine lv_dup S.x S.b d_Raw_answer_57 rfl ?_
          refine px_get S k_Raw hT hw 0 0 5 (v := .int (f 5)) rfl rfl rfl (by decide) m6_129 d_Raw_answer_58 ?_
          refine lv_iconst (v := 4) S.x S.b d_Raw_answer_61 (by decide) ?_
          refine lv_iadd S.x S.b d_Raw_answer_62 ?_
          have lr19 := Int32.le_toInt (f 5)
          have ur19 := Int32.toInt_lt (f 5)
          refine lv_topi (fun z20 ez20 => ?_)
          have tz20 : z20.toInt = ((f 5).toInt + (4 : Int) + 2147483648) % 4294967296 - 2147483648 := by rw [ez20]; exact i_add (f 5) 4
          have lz20 := Int32.le_toInt z20
          have uz20 := Int32.toInt_lt z20
          refine px_put S k_Raw hT hw 0 0 5 rfl rfl (by decide) m6_129 rfl rfl rfl (Nat.le_of_ble_eq_true rfl) d_Raw_answer_63 (w' := wd_Raw cs h r (fun k => if k = 2 then o2 else if k = 4 then o4 else none) (upd (upd (upd f 5 z20) 7 z18) 14 0) a g) (ps' := [wd_Raw cs h r (fun k => if k = 2 then o2 else if k = 4 then o4 else none) (upd (upd (upd f 5 z20) 7 z18) 14 0) a g]) rfl rfl (fun H locs hw => ?_)
          exact px_vret S hr hlk hAe hw (Nat.le_of_ble_eq_true rfl) (Nat.le_of_ble_eq_true rfl) (⟨(upd (upd (upd f 5 z20) 7 z18) 14 0), a, rfl, (show z18.toInt = (f 7).toInt - 1 from by first | with_reducible rfl | with_reducible assumption | omega), (show (f 8).toInt = (f 8).toInt from rfl), (show (f 10).toInt = (f 10).toInt from rfl), (show (f 13).toInt = (f 13).toInt from rfl), (show (0 : Int) = 0 from by first | decide | omega), (show (f 11).toInt = (f 11).toInt from rfl)⟩) d_Raw_answer_66
        · have nc16 : (f 15).toInt = (6 : Int) := (i_eq (x := (f 15)) (y := 6)).mp c16
          refine lv_aload_n S.x S.b d_Raw_answer_38 rfl (lv_at hl 0 rfl) ?_
          refine px_get S k_Raw hT hw 0 0 0 (v := .ref (r 0)) rfl rfl rfl (by decide) m6_124 d_Raw_answer_39 ?_
          refine lv_bipush (v := 10) S.x S.b d_Raw_answer_42 (by decide) ?_
          refine lv_iload_n S.x S.b d_Raw_answer_44 rfl (lv_at hl 1 rfl) ?_
          refine px_iast S hT hw 0 1 (n := 32) (f := (a 0)) (x := 10) (y := p0) rfl rfl (vp_in_iff.mpr (by constructor <;> omega)) d_Raw_answer_45 (w' := wd_Raw cs h r (fun k => if k = 2 then o2 else if k = 4 then o4 else none) (upd f 14 0) (va_up a 0 (upd (a 0) (10 : Int32).toNatClampNeg p0)) g) (ps' := [wd_Raw cs h r (fun k => if k = 2 then o2 else if k = 4 then o4 else none) (upd f 14 0) (va_up a 0 (upd (a 0) (10 : Int32).toNatClampNeg p0)) g]) rfl rfl (fun H locs hw => ?_)
          refine lv_aload_n S.x S.b d_Raw_answer_46 rfl (lv_at hl 0 rfl) ?_
          refine lv_dup S.x S.b d_Raw_answer_47 rfl ?_
          refine px_get S k_Raw hT hw 0 0 7 (v := .int (f 7)) rfl rfl rfl (by decide) m6_131 d_Raw_answer_48 ?_
          refine lv_iconst (v := 1) S.x S.b d_Raw_answer_51 (by decide) ?_
          refine lv_isub S.x S.b d_Raw_answer_52 ?_
          have lr21 := Int32.le_toInt (f 7)
          have ur21 := Int32.toInt_lt (f 7)
          refine lv_topi (fun z22 ez22 => ?_)
          have tz22 : z22.toInt = ((f 7).toInt - (1 : Int) + 2147483648) % 4294967296 - 2147483648 := by rw [ez22]; exact i_sub (f 7) 1
          have lz22 := Int32.le_toInt z22
          have uz22 := Int32.toInt_lt z22
          refine px_put S k_Raw hT hw 0 0 7 rfl rfl (by decide) m6_131 rfl rfl rfl (Nat.le_of_ble_eq_true rfl) d_Raw_answer_53 (w' := wd_Raw cs h r (fun k => if k = 2 then o2 else if k = 4 then o4 else none) (upd (upd f 7 z22) 14 0) (va_up a 0 (upd (a 0) (10 : Int32).toNatClampNeg p0)) g) (ps' := [wd_Raw cs h r (fun k => if k = 2 then o2 else if k = 4 then o4 else none) (upd (upd f 7 z22) 14 0) (va_up a 0 (upd (a 0) (10 : Int32).toNatClampNeg p0)) g]) rfl rfl (fun H locs hw => ?_)
          refine lv_aload_n S.x S.b d_Raw_answer_56 rfl (lv_at hl 0 rfl) ?_
          refine lv_dup S.x S.b d_Raw_answer_57 rfl ?_
          refine px_get S k_Raw hT hw 0 0 5 (v := .int (f 5)) rfl rfl rfl (by decide) m6_129 d_Raw_answer_58 ?_
          refine lv_iconst (v := 4) S.x S.b d_Raw_answer_61 (by decide) ?_
          refine lv_iadd S.x S.b d_Raw_answer_62 ?_
          have lr23 := Int32.le_toInt (f 5)
          have ur23 := Int32.toInt_lt (f 5)
          refine lv_topi (fun z24 ez24 => ?_)
          have tz24 : z24.toInt = ((f 5).toInt + (4 : Int) + 2147483648) % 4294967296 - 2147483648 := by rw [ez24]; exact i_add (f 5) 4
          have lz24 := Int32.le_toInt z24
          have uz24 := Int32.toInt_lt z24
          refine px_put S k_Raw hT hw 0 0 5 rfl rfl (by decide) m6_129 rfl rfl rfl (Nat.le_of_ble_eq_true rfl) d_Raw_answer_63 (w' := wd_Raw cs h r (fun k => if k = 2 then o2 else if k = 4 then o4 else none) (upd (upd (upd f 5 z24) 7 z22) 14 0) (va_up a 0 (upd (a 0) (10 : Int32).toNatClampNeg p0)) g) (ps' := [wd_Raw cs h r (fun k => if k = 2 then o2 else if k = 4 then o4 else none) (upd (upd (upd f 5 z24) 7 z22) 14 0) (va_up a 0 (upd (a 0) (10 : Int32).toNatClampNeg p0)) g]) rfl rfl (fun H locs hw => ?_)
          exact px_vret S hr hlk hAe hw (Nat.le_of_ble_eq_true rfl) (Nat.le_of_ble_eq_true rfl) (⟨(upd (upd (upd f 5 z24) 7 z22) 14 0), (va_up a 0 (upd (a 0) (10 : Int32).toNatClampNeg p0)), rfl, (show z22.toInt = (f 7).toInt - 1 from by first | with_reducible rfl | with_reducible assumption | omega), (show (f 8).toInt = (f 8).toInt from rfl), (show (f 10).toInt = (f 10).toInt from rfl), (show (f 13).toInt = (f 13).toInt from rfl), (show (0 : Int) = 0 from by first | decide | omega), (show (f 11).toInt = (f 11).toInt from rfl)⟩) d_Raw_answer_66
abbrev b_Raw_wordAt : ByteArray := prog_8_method_10_code
def y_Raw_wordAt : MethodName := ⟨"HomeSystem$RawProcess", "wordAt", "(I)I"⟩
theorem d_Raw_wordAt_0 : decode b_Raw_wordAt 0 = .ok (.iload_n 1, 1) := by decide +kernel
theorem d_Raw_wordAt_1 : decode b_Raw_wordAt 1 = .ok (.invokestatic 60, 3) := by decide +kernel
theorem d_Raw_wordAt_4 : decode b_Raw_wordAt 4 = .ok (.ifCond .eq 37, 3) := by decide +kernel
theorem d_Raw_wordAt_7 : decode b_Raw_wordAt 7 = .ok (.iload_n 1, 1) := by decide +kernel
theorem d_Raw_wordAt_8 : decode b_Raw_wordAt 8 = .ok (.ldc 37, 2) := by decide +kernel
theorem d_Raw_wordAt_10 : decode b_Raw_wordAt 10 = .ok (.isub, 1) := by decide +kernel
theorem d_Raw_wordAt_11 : decode b_Raw_wordAt 11 = .ok (.iconst 2, 1) := by decide +kernel
theorem d_Raw_wordAt_12 : decode b_Raw_wordAt 12 = .ok (.ishr, 1) := by decide +kernel
theorem d_Raw_wordAt_13 : decode b_Raw_wordAt 13 = .ok (.istore_n 2, 1) := by decide +kernel
theorem d_Raw_wordAt_14 : decode b_Raw_wordAt 14 = .ok (.aload_n 0, 1) := by decide +kernel
theorem d_Raw_wordAt_15 : decode b_Raw_wordAt 15 = .ok (.getfield 34, 3) := by decide +kernel
theorem d_Raw_wordAt_18 : decode b_Raw_wordAt 18 = .ok (.ifnull 21, 3) := by decide +kernel
theorem d_Raw_wordAt_21 : decode b_Raw_wordAt 21 = .ok (.iload_n 2, 1) := by decide +kernel
theorem d_Raw_wordAt_22 : decode b_Raw_wordAt 22 = .ok (.aload_n 0, 1) := by decide +kernel
theorem d_Raw_wordAt_23 : decode b_Raw_wordAt 23 = .ok (.getfield 34, 3) := by decide +kernel
theorem d_Raw_wordAt_26 : decode b_Raw_wordAt 26 = .ok (.arraylength, 1) := by decide +kernel
theorem d_Raw_wordAt_27 : decode b_Raw_wordAt 27 = .ok (.if_icmp .ge 12, 3) := by decide +kernel
theorem d_Raw_wordAt_30 : decode b_Raw_wordAt 30 = .ok (.aload_n 0, 1) := by decide +kernel
theorem d_Raw_wordAt_31 : decode b_Raw_wordAt 31 = .ok (.getfield 34, 3) := by decide +kernel
theorem d_Raw_wordAt_34 : decode b_Raw_wordAt 34 = .ok (.iload_n 2, 1) := by decide +kernel
theorem d_Raw_wordAt_35 : decode b_Raw_wordAt 35 = .ok (.iaload, 1) := by decide +kernel
theorem d_Raw_wordAt_36 : decode b_Raw_wordAt 36 = .ok (.goto 4, 3) := by decide +kernel
theorem d_Raw_wordAt_39 : decode b_Raw_wordAt 39 = .ok (.iconst 0, 1) := by decide +kernel
theorem d_Raw_wordAt_40 : decode b_Raw_wordAt 40 = .ok (.ireturn, 1) := by decide +kernel
theorem d_Raw_wordAt_41 : decode b_Raw_wordAt 41 = .ok (.iload_n 1, 1) := by decide +kernel
theorem d_Raw_wordAt_42 : decode b_Raw_wordAt 42 = .ok (.invokestatic 86, 3) := by decide +kernel
theorem d_Raw_wordAt_45 : decode b_Raw_wordAt 45 = .ok (.istore_n 2, 1) := by decide +kernel
theorem d_Raw_wordAt_46 : decode b_Raw_wordAt 46 = .ok (.iload_n 2, 1) := by decide +kernel
theorem d_Raw_wordAt_47 : decode b_Raw_wordAt 47 = .ok (.ifCond .lt 30, 3) := by decide +kernel
theorem d_Raw_wordAt_50 : decode b_Raw_wordAt 50 = .ok (.aload_n 0, 1) := by decide +kernel
theorem d_Raw_wordAt_51 : decode b_Raw_wordAt 51 = .ok (.getfield 96, 3) := by decide +kernel
theorem d_Raw_wordAt_54 : decode b_Raw_wordAt 54 = .ok (.ifnull 23, 3) := by decide +kernel
theorem d_Raw_wordAt_57 : decode b_Raw_wordAt 57 = .ok (.aload_n 0, 1) := by decide +kernel
theorem d_Raw_wordAt_58 : decode b_Raw_wordAt 58 = .ok (.getfield 15, 3) := by decide +kernel
theorem d_Raw_wordAt_61 : decode b_Raw_wordAt 61 = .ok (.iload_n 2, 1) := by decide +kernel
theorem d_Raw_wordAt_62 : decode b_Raw_wordAt 62 = .ok (.bipush 10, 2) := by decide +kernel
theorem d_Raw_wordAt_64 : decode b_Raw_wordAt 64 = .ok (.ishr, 1) := by decide +kernel
theorem d_Raw_wordAt_65 : decode b_Raw_wordAt 65 = .ok (.iaload, 1) := by decide +kernel
theorem d_Raw_wordAt_66 : decode b_Raw_wordAt 66 = .ok (.aload_n 0, 1) := by decide +kernel
theorem d_Raw_wordAt_67 : decode b_Raw_wordAt 67 = .ok (.getfield 45, 3) := by decide +kernel
theorem d_Raw_wordAt_70 : decode b_Raw_wordAt 70 = .ok (.if_icmp .ne 7, 3) := by decide +kernel
theorem d_Raw_wordAt_73 : decode b_Raw_wordAt 73 = .ok (.iconst 1, 1) := by decide +kernel
theorem d_Raw_wordAt_74 : decode b_Raw_wordAt 74 = .ok (.goto 4, 3) := by decide +kernel
theorem d_Raw_wordAt_77 : decode b_Raw_wordAt 77 = .ok (.iconst 0, 1) := by decide +kernel
theorem d_Raw_wordAt_78 : decode b_Raw_wordAt 78 = .ok (.istore_n 3, 1) := by decide +kernel
theorem d_Raw_wordAt_79 : decode b_Raw_wordAt 79 = .ok (.iload_n 3, 1) := by decide +kernel
theorem d_Raw_wordAt_80 : decode b_Raw_wordAt 80 = .ok (.ifCond .eq 12, 3) := by decide +kernel
theorem d_Raw_wordAt_83 : decode b_Raw_wordAt 83 = .ok (.aload_n 0, 1) := by decide +kernel
theorem d_Raw_wordAt_84 : decode b_Raw_wordAt 84 = .ok (.getfield 96, 3) := by decide +kernel
theorem d_Raw_wordAt_87 : decode b_Raw_wordAt 87 = .ok (.iload_n 2, 1) := by decide +kernel
theorem d_Raw_wordAt_88 : decode b_Raw_wordAt 88 = .ok (.iaload, 1) := by decide +kernel
theorem d_Raw_wordAt_89 : decode b_Raw_wordAt 89 = .ok (.goto 4, 3) := by decide +kernel
theorem d_Raw_wordAt_92 : decode b_Raw_wordAt 92 = .ok (.iconst 0, 1) := by decide +kernel
theorem d_Raw_wordAt_93 : decode b_Raw_wordAt 93 = .ok (.ireturn, 1) := by decide +kernel
theorem q_Raw_wordAt : px_y y_Raw_wordAt 1 := by unfold px_y; decide +kernel
set_option maxHeartbeats 4000000 in
set_option maxRecDepth 100000 in
theorem c_Raw_wordAt (l : Launch) (D : va_G) (cs : Nat → ClassId) (h : Nat) (r : Nat → Nat) (g : Nat → Nat → Option Nat) (o4 : Option Nat) (wn : Nat) (wc : Nat → Int32) (f : Nat → Int32) (a : Nat → Nat → Int32) (o2 : Option Nat) (ma : Nat → Int32) (i : Int32)  (g0 : wn ≤ 1000000) : MetI l y_Raw_wordAt b_Raw_wordAt 4 (.int) D cs 1 30 (0) (0) [.ref h, .int i] [wd_Raw cs h r (fun k => if k = 2 then o2 else if k = 4 then o4 else none) f a g, nA cs o2 36864 ma, nA cs o4 wn wc] (fun _ => True) (fun v ps => (ps = [wd_Raw cs h r (fun k => if k = 2 then o2 else if k = 4 then o4 else none) f a g, nA cs o2 36864 ma, nA cs o4 wn wc])) := by
  refine px_enter (by decide) (Nat.le_of_ble_eq_true rfl) ?_
  intro p e s m below meth c A ls hAe S hr hlk hnm hA hT hX hw hl
  have hl : lv_has ls 4 [(0, .ref h), (1, .int i)] := hl
  have li := Int32.le_toInt i
  have ui := Int32.toInt_lt i
  have cst0 : (0 : Int32).toInt = 0 := rfl
  have cst1 : (1 : Int32).toInt = 1 := rfl
  have cst2 : (2 : Int32).toInt = 2 := rfl
  have cst10 : (10 : Int32).toInt = 10 := rfl
  have hwn : (nI wn).toInt = (wn : Int) := nI_toInt (by omega)
  refine lv_iload_n S.x S.b d_Raw_wordAt_0 rfl (lv_at hl 1 rfl) ?_
  refine px_calli (pr := [wd_Raw cs h r (fun k => if k = 2 then o2 else if k = 4 then o4 else none) f a g, nA cs o2 36864 ma, nA cs o4 wn wc]) (px_runS (As := [.int i]) (rest := []) S (c_Raw_isCode l D cs  i   _) hT (pr := [wd_Raw cs h r (fun k => if k = 2 then o2 else if k = 4 then o4 else none) f a g, nA cs o2 36864 ma, nA cs o4 wn wc]) (pcs := []) hw px_X.tt m8_106 m8_104 m8_105 m1_34 q_Raw_isCode ⟨Nat.le_of_ble_eq_true rfl, Nat.le_of_ble_eq_true rfl⟩ hl.1 rfl (Nat.le_of_ble_eq_true rfl) d_Raw_wordAt_1 ⟨Nat.le_of_ble_eq_true rfl, Nat.le_of_ble_eq_true rfl⟩) hw hA (fun v2 p1 H locs hp1 hw => ?_)
  obtain ⟨rfl, e3, e4⟩ := hp1
  have e3 := z_int e3
  have e4 : v2.toInt = 1 → 4194304 ≤ i.toInt ∧ i.toInt < 4198400 := e4
  have lv2 := Int32.le_toInt v2
  have uv2 := Int32.toInt_lt v2
  refine lv_if_eq (tgt := 41) S.x S.b d_Raw_wordAt_4 (by decide) (fun c5 => ?_) (fun c5 => ?_)
  · have nc5 : v2.toInt = (0 : Int) := (i_eq (x := v2) (y := 0)).mp c5
    refine lv_iload_n S.x S.b d_Raw_wordAt_41 rfl (lv_at hl 1 rfl) ?_
    refine px_calli (pr := [wd_Raw cs h r (fun k => if k = 2 then o2 else if k = 4 then o4 else none) f a g, nA cs o2 36864 ma, nA cs o4 wn wc]) (px_runS (As := [.int i]) (rest := []) S (c_Raw_cellAt l D cs  i   _) hT (pr := [wd_Raw cs h r (fun k => if k = 2 then o2 else if k = 4 then o4 else none) f a g, nA cs o2 36864 ma, nA cs o4 wn wc]) (pcs := []) hw px_X.tt m8_100 m8_98 m8_99 m1_34 q_Raw_cellAt ⟨Nat.le_of_ble_eq_true rfl, Nat.le_of_ble_eq_true rfl⟩ hl.1 rfl (Nat.le_of_ble_eq_true rfl) d_Raw_wordAt_42 ⟨Nat.le_of_ble_eq_true rfl, Nat.le_of_ble_eq_true rfl⟩) hw hA (fun v7 p6 H locs hp6 hw => ?_)
    obtain ⟨rfl, e8, e9⟩ := hp6
    have e8 : -1 ≤ v7.toInt := e8
    have e9 : v7.toInt ≤ 36863 := e9
    have lv7 := Int32.le_toInt v7
    have uv7 := Int32.toInt_lt v7
    refine lv_istore_n (lv' := [(2, .int v7), (0, .ref h), (1, .int i)]) S.x S.b d_Raw_wordAt_45 rfl hl (by decide) rfl (fun ls hl => ?_)
    refine lv_iload_n S.x S.b d_Raw_wordAt_46 rfl (lv_at hl 0 rfl) ?_
    refine lv_if_lt (tgt := 77) S.x S.b d_Raw_wordAt_47 (by decide) (fun c10 => ?_) (fun c10 => ?_)
    · have nc10 : v7.toInt < (0 : Int) := (i_lt (x := v7) (y := 0)).mp c10
      refine lv_iconst (v := 0) S.x S.b d_Raw_wordAt_77 (by decide) ?_
      refine lv_istore_n (lv' := [(3, .int 0), (2, .int v7), (0, .ref h), (1, .int i)]) S.x S.b d_Raw_wordAt_78 rfl hl (by decide) rfl (fun ls hl => ?_)
      refine lv_iload_n S.x S.b d_Raw_wordAt_79 rfl (lv_at hl 0 rfl) ?_
      refine lv_if_eq (tgt := 92) S.x S.b d_Raw_wordAt_80 (by decide) (fun c11 => ?_) (fun c11 => ?_)
      ·
        refine lv_iconst (v := 0) S.x S.b d_Raw_wordAt_92 (by decide) ?_
        exact px_iret (v := 0) S hr rfl hlk hAe hw (Nat.le_of_ble_eq_true rfl) (Nat.le_of_ble_eq_true rfl) (rfl) d_Raw_wordAt_93
      · exact absurd c11 (by decide)
    · have nc10 : ¬ v7.toInt < (0 : Int) := mt (i_lt (x := v7) (y := 0)).mpr c10
      refine lv_aload_n S.x S.b d_Raw_wordAt_50 rfl (lv_at hl 1 rfl) ?_
      refine px_get S k_Raw hT hw 0 0 2 (v := va_rf o2) rfl rfl rfl (by decide) m6_126 d_Raw_wordAt_51 ?_
      refine lq_ifnull (x := o2) (tgt := 77) S.x S.b d_Raw_wordAt_54 (by decide) (fun c12 => ?_) (fun q13 c12 => ?_)
      ·
        subst c12
        refine lv_iconst (v := 0) S.x S.b d_Raw_wordAt_77 (by decide) ?_
        refine lv_istore_n (lv' := [(3, .int 0), (2, .int v7), (0, .ref h), (1, .int i)]) S.x S.b d_Raw_wordAt_78 rfl hl (by decide) rfl (fun ls hl => ?_)
        refine lv_iload_n S.x S.b d_Raw_wordAt_79 rfl (lv_at hl 0 rfl) ?_
        refine lv_if_eq (tgt := 92) S.x S.b d_Raw_wordAt_80 (by decide) (fun c14 => ?_) (fun c14 => ?_)
        ·
          refine lv_iconst (v := 0) S.x S.b d_Raw_wordAt_92 (by decide) ?_
          exact px_iret (v := 0) S hr rfl hlk hAe hw (Nat.le_of_ble_eq_true rfl) (Nat.le_of_ble_eq_true rfl) (rfl) d_Raw_wordAt_93
        · exact absurd c14 (by decide)
      ·
        subst c12
        refine lv_aload_n S.x S.b d_Raw_wordAt_57 rfl (lv_at hl 1 rfl) ?_
        refine px_get S k_Raw hT hw 0 0 1 (v := .ref (r 1)) rfl rfl rfl (by decide) m6_125 d_Raw_wordAt_58 ?_
        refine lv_iload_n S.x S.b d_Raw_wordAt_61 rfl (lv_at hl 0 rfl) ?_
        refine lv_bipush (v := 10) S.x S.b d_Raw_wordAt_62 (by decide) ?_
        refine lv_ishr S.x S.b d_Raw_wordAt_64 ?_
        refine lv_topi (fun z15 ez15 => ?_)
        have tz15 : z15.toInt = v7.toInt / 1024 := by rw [ez15]; exact i_shr v7 10 (k := 10) (d := 1024) (by decide) (by decide)
        have lz15 := Int32.le_toInt z15
        have uz15 := Int32.toInt_lt z15
        refine px_iald S hT hw 0 2 (n := 36) (f := (a 1)) rfl rfl (x := z15) (vp_in_iff.mpr (by constructor <;> omega)) d_Raw_wordAt_65 ?_
        refine lv_topi (fun z16 ez16 => ?_)
        have lz16 := Int32.le_toInt z16
        have uz16 := Int32.toInt_lt z16
        refine lv_aload_n S.x S.b d_Raw_wordAt_66 rfl (lv_at hl 1 rfl) ?_
        refine px_get S k_Raw hT hw 0 0 3 (v := .int (f 3)) rfl rfl rfl (by decide) m6_127 d_Raw_wordAt_67 ?_
        refine lv_icmp_ne (tgt := 77) S.x S.b d_Raw_wordAt_70 (by decide) (fun c17 => ?_) (fun c17 => ?_)
        · have nc17 : ¬ z16.toInt = (f 3).toInt := mt (i_eq (x := z16) (y := (f 3))).mpr c17
          refine lv_iconst (v := 0) S.x S.b d_Raw_wordAt_77 (by decide) ?_
          refine lv_istore_n (lv' := [(3, .int 0), (2, .int v7), (0, .ref h), (1, .int i)]) S.x S.b d_Raw_wordAt_78 rfl hl (by decide) rfl (fun ls hl => ?_)
          refine lv_iload_n S.x S.b d_Raw_wordAt_79 rfl (lv_at hl 0 rfl) ?_
          refine lv_if_eq (tgt := 92) S.x S.b d_Raw_wordAt_80 (by decide) (fun c18 => ?_) (fun c18 => ?_)
          ·
            refine lv_iconst (v := 0) S.x S.b d_Raw_wordAt_92 (by decide) ?_
            exact px_iret (v := 0) S hr rfl hlk hAe hw (Nat.le_of_ble_eq_true rfl) (Nat.le_of_ble_eq_true rfl) (rfl) d_Raw_wordAt_93
          · exact absurd c18 (by decide)
        · have nc17 : z16.toInt = (f 3).toInt := (i_eq (x := z16) (y := (f 3))).mp c17
          refine lv_iconst (v := 1) S.x S.b d_Raw_wordAt_73 (by decide) ?_
          refine lv_goto (tgt := 78) S.x S.b d_Raw_wordAt_74 (by decide) ?_
          refine lv_istore_n (lv' := [(3, .int 1), (2, .int v7), (0, .ref h), (1, .int i)]) S.x S.b d_Raw_wordAt_78 rfl hl (by decide) rfl (fun ls hl => ?_)
          refine lv_iload_n S.x S.b d_Raw_wordAt_79 rfl (lv_at hl 0 rfl) ?_
          refine lv_if_eq (tgt := 92) S.x S.b d_Raw_wordAt_80 (by decide) (fun c19 => ?_) (fun c19 => ?_)
          · exact absurd c19 (by decide)
          ·
            refine lv_aload_n S.x S.b d_Raw_wordAt_83 rfl (lv_at hl 2 rfl) ?_
            refine px_get S k_Raw hT hw 0 0 2 (v := .ref q13) rfl rfl rfl (by decide) m6_126 d_Raw_wordAt_84 ?_
            refine lv_iload_n S.x S.b d_Raw_wordAt_87 rfl (lv_at hl 1 rfl) ?_
            refine px_iald S hT hw 1 0 (n := 36864) (f := ma) rfl rfl (x := v7) (vp_in_iff.mpr (by first | exact oz_b37b0d235b nc10 e9 | (constructor <;> omega))) d_Raw_wordAt_88 ?_
            refine lv_topi (fun z20 ez20 => ?_)
            have lz20 := Int32.le_toInt z20
            have uz20 := Int32.toInt_lt z20
            refine lv_goto (tgt := 93) S.x S.b d_Raw_wordAt_89 (by decide) ?_
            exact px_iret (v := z20) S hr rfl hlk hAe hw (Nat.le_of_ble_eq_true rfl) (Nat.le_of_ble_eq_true rfl) (rfl) d_Raw_wordAt_93
  · have nc5 : ¬ v2.toInt = (0 : Int) := mt (i_eq (x := v2) (y := 0)).mpr c5
    refine lv_iload_n S.x S.b d_Raw_wordAt_7 rfl (lv_at hl 1 rfl) ?_
    refine lv_ldc (v := 4194304) S.x S.b S.own (S.w m7_43) d_Raw_wordAt_8 ?_
    refine lv_isub S.x S.b d_Raw_wordAt_10 ?_
    refine lv_topi (fun z21 ez21 => ?_)
    have tz21 : z21.toInt = (i.toInt - (4194304 : Int) + 2147483648) % 4294967296 - 2147483648 := by rw [ez21]; exact i_sub i 4194304
    have lz21 := Int32.le_toInt z21
    have uz21 := Int32.toInt_lt z21
    refine lv_iconst (v := 2) S.x S.b d_Raw_wordAt_11 (by decide) ?_
    refine lv_ishr S.x S.b d_Raw_wordAt_12 ?_
    refine lv_topi (fun z22 ez22 => ?_)
    have tz22 : z22.toInt = z21.toInt / 4 := by rw [ez22]; exact i_shr z21 2 (k := 2) (d := 4) (by decide) (by decide)
    have lz22 := Int32.le_toInt z22
    have uz22 := Int32.toInt_lt z22
    refine lv_istore_n (lv' := [(2, .int z22), (0, .ref h), (1, .int i)]) S.x S.b d_Raw_wordAt_13 rfl hl (by decide) rfl (fun ls hl => ?_)
    refine lv_aload_n S.x S.b d_Raw_wordAt_14 rfl (lv_at hl 1 rfl) ?_
    refine px_get S k_Raw hT hw 0 0 4 (v := va_rf o4) rfl rfl rfl (by decide) m6_128 d_Raw_wordAt_15 ?_
    refine lq_ifnull (x := o4) (tgt := 39) S.x S.b d_Raw_wordAt_18 (by decide) (fun c23 => ?_) (fun q24 c23 => ?_)
    ·
      subst c23
      refine lv_iconst (v := 0) S.x S.b d_Raw_wordAt_39 (by decide) ?_
      exact px_iret (v := 0) S hr rfl hlk hAe hw (Nat.le_of_ble_eq_true rfl) (Nat.le_of_ble_eq_true rfl) (rfl) d_Raw_wordAt_40
    ·
      subst c23
      refine lv_iload_n S.x S.b d_Raw_wordAt_21 rfl (lv_at hl 0 rfl) ?_
      refine lv_aload_n S.x S.b d_Raw_wordAt_22 rfl (lv_at hl 1 rfl) ?_
      refine px_get S k_Raw hT hw 0 0 4 (v := .ref q24) rfl rfl rfl (by decide) m6_128 d_Raw_wordAt_23 ?_
      refine px_len S hT hw 2 0 0 rfl rfl rfl (v := (nI wn)) rfl d_Raw_wordAt_26 ?_
      refine lv_icmp_ge (tgt := 39) S.x S.b d_Raw_wordAt_27 (by decide) (fun c25 => ?_) (fun c25 => ?_)
      · have nc25 : (nI wn).toInt ≤ z22.toInt := (i_le (x := (nI wn)) (y := z22)).mp c25
        refine lv_iconst (v := 0) S.x S.b d_Raw_wordAt_39 (by decide) ?_
        exact px_iret (v := 0) S hr rfl hlk hAe hw (Nat.le_of_ble_eq_true rfl) (Nat.le_of_ble_eq_true rfl) (rfl) d_Raw_wordAt_40
      · have nc25 : ¬ (nI wn).toInt ≤ z22.toInt := mt (i_le (x := (nI wn)) (y := z22)).mpr c25
        refine lv_aload_n S.x S.b d_Raw_wordAt_30 rfl (lv_at hl 1 rfl) ?_
        refine px_get S k_Raw hT hw 0 0 4 (v := .ref q24) rfl rfl rfl (by decide) m6_128 d_Raw_wordAt_31 ?_
        refine lv_iload_n S.x S.b d_Raw_wordAt_34 rfl (lv_at hl 0 rfl) ?_
        refine px_iald S hT hw 2 0 (n := wn) (f := wc) rfl rfl (x := z22) (vp_in_iff.mpr (by constructor <;> omega)) d_Raw_wordAt_35 ?_
        refine lv_topi (fun z26 ez26 => ?_)
        have lz26 := Int32.le_toInt z26
        have uz26 := Int32.toInt_lt z26
        refine lv_goto (tgt := 40) S.x S.b d_Raw_wordAt_36 (by decide) ?_
        exact px_iret (v := z26) S hr rfl hlk hAe hw (Nat.le_of_ble_eq_true rfl) (Nat.le_of_ble_eq_true rfl) (rfl) d_Raw_wordAt_40
abbrev b_Raw_setCell : ByteArray := prog_8_method_11_code
def y_Raw_setCell : MethodName := ⟨"HomeSystem$RawProcess", "setCell", "(II)V"⟩
theorem d_Raw_setCell_0 : decode b_Raw_setCell 0 = .ok (.iload_n 1, 1) := by decide +kernel
theorem d_Raw_setCell_1 : decode b_Raw_setCell 1 = .ok (.ifCond .lt 9, 3) := by decide +kernel
theorem d_Raw_setCell_4 : decode b_Raw_setCell 4 = .ok (.iload_n 1, 1) := by decide +kernel
theorem d_Raw_setCell_5 : decode b_Raw_setCell 5 = .ok (.ldc 99, 2) := by decide +kernel
theorem d_Raw_setCell_7 : decode b_Raw_setCell 7 = .ok (.if_icmp .lt 4, 3) := by decide +kernel
theorem d_Raw_setCell_10 : decode b_Raw_setCell 10 = .ok (.return_, 1) := by decide +kernel
theorem d_Raw_setCell_11 : decode b_Raw_setCell 11 = .ok (.aload_n 0, 1) := by decide +kernel
theorem d_Raw_setCell_12 : decode b_Raw_setCell 12 = .ok (.getfield 96, 3) := by decide +kernel
theorem d_Raw_setCell_15 : decode b_Raw_setCell 15 = .ok (.ifnonnull 11, 3) := by decide +kernel
theorem d_Raw_setCell_18 : decode b_Raw_setCell 18 = .ok (.aload_n 0, 1) := by decide +kernel
theorem d_Raw_setCell_19 : decode b_Raw_setCell 19 = .ok (.ldc 99, 2) := by decide +kernel
theorem d_Raw_setCell_21 : decode b_Raw_setCell 21 = .ok (.newarray .int, 2) := by decide +kernel
theorem d_Raw_setCell_23 : decode b_Raw_setCell 23 = .ok (.putfield 96, 3) := by decide +kernel
theorem d_Raw_setCell_26 : decode b_Raw_setCell 26 = .ok (.iload_n 1, 1) := by decide +kernel
theorem d_Raw_setCell_27 : decode b_Raw_setCell 27 = .ok (.bipush 10, 2) := by decide +kernel
theorem d_Raw_setCell_29 : decode b_Raw_setCell 29 = .ok (.ishr, 1) := by decide +kernel
theorem d_Raw_setCell_30 : decode b_Raw_setCell 30 = .ok (.istore_n 3, 1) := by decide +kernel
theorem d_Raw_setCell_31 : decode b_Raw_setCell 31 = .ok (.aload_n 0, 1) := by decide +kernel
theorem d_Raw_setCell_32 : decode b_Raw_setCell 32 = .ok (.getfield 15, 3) := by decide +kernel
theorem d_Raw_setCell_35 : decode b_Raw_setCell 35 = .ok (.iload_n 3, 1) := by decide +kernel
theorem d_Raw_setCell_36 : decode b_Raw_setCell 36 = .ok (.iaload, 1) := by decide +kernel
theorem d_Raw_setCell_37 : decode b_Raw_setCell 37 = .ok (.aload_n 0, 1) := by decide +kernel
theorem d_Raw_setCell_38 : decode b_Raw_setCell 38 = .ok (.getfield 45, 3) := by decide +kernel
theorem d_Raw_setCell_41 : decode b_Raw_setCell 41 = .ok (.if_icmp .eq 31, 3) := by decide +kernel
theorem d_Raw_setCell_44 : decode b_Raw_setCell 44 = .ok (.aload_n 0, 1) := by decide +kernel
theorem d_Raw_setCell_45 : decode b_Raw_setCell 45 = .ok (.getfield 15, 3) := by decide +kernel
theorem d_Raw_setCell_48 : decode b_Raw_setCell 48 = .ok (.iload_n 3, 1) := by decide +kernel
theorem d_Raw_setCell_49 : decode b_Raw_setCell 49 = .ok (.aload_n 0, 1) := by decide +kernel
theorem d_Raw_setCell_50 : decode b_Raw_setCell 50 = .ok (.getfield 45, 3) := by decide +kernel
theorem d_Raw_setCell_53 : decode b_Raw_setCell 53 = .ok (.iastore, 1) := by decide +kernel
theorem d_Raw_setCell_54 : decode b_Raw_setCell 54 = .ok (.aload_n 0, 1) := by decide +kernel
theorem d_Raw_setCell_55 : decode b_Raw_setCell 55 = .ok (.getfield 96, 3) := by decide +kernel
theorem d_Raw_setCell_58 : decode b_Raw_setCell 58 = .ok (.iload_n 3, 1) := by decide +kernel
theorem d_Raw_setCell_59 : decode b_Raw_setCell 59 = .ok (.bipush 10, 2) := by decide +kernel
theorem d_Raw_setCell_61 : decode b_Raw_setCell 61 = .ok (.ishl, 1) := by decide +kernel
theorem d_Raw_setCell_62 : decode b_Raw_setCell 62 = .ok (.iload_n 3, 1) := by decide +kernel
theorem d_Raw_setCell_63 : decode b_Raw_setCell 63 = .ok (.iconst 1, 1) := by decide +kernel
theorem d_Raw_setCell_64 : decode b_Raw_setCell 64 = .ok (.iadd, 1) := by decide +kernel
theorem d_Raw_setCell_65 : decode b_Raw_setCell 65 = .ok (.bipush 10, 2) := by decide +kernel
theorem d_Raw_setCell_67 : decode b_Raw_setCell 67 = .ok (.ishl, 1) := by decide +kernel
theorem d_Raw_setCell_68 : decode b_Raw_setCell 68 = .ok (.iconst 0, 1) := by decide +kernel
theorem d_Raw_setCell_69 : decode b_Raw_setCell 69 = .ok (.invokestatic 100, 3) := by decide +kernel
theorem d_Raw_setCell_72 : decode b_Raw_setCell 72 = .ok (.aload_n 0, 1) := by decide +kernel
theorem d_Raw_setCell_73 : decode b_Raw_setCell 73 = .ok (.getfield 96, 3) := by decide +kernel
theorem d_Raw_setCell_76 : decode b_Raw_setCell 76 = .ok (.iload_n 1, 1) := by decide +kernel
theorem d_Raw_setCell_77 : decode b_Raw_setCell 77 = .ok (.iload_n 2, 1) := by decide +kernel
theorem d_Raw_setCell_78 : decode b_Raw_setCell 78 = .ok (.iastore, 1) := by decide +kernel
theorem d_Raw_setCell_79 : decode b_Raw_setCell 79 = .ok (.return_, 1) := by decide +kernel
theorem q_Raw_setCell : px_y y_Raw_setCell 2 := by unfold px_y; decide +kernel
set_option maxHeartbeats 4000000 in
set_option maxRecDepth 100000 in
theorem c_Raw_setCell (l : Launch) (D : va_G) (cs : Nat → ClassId) (h : Nat) (r : Nat → Nat) (g : Nat → Nat → Option Nat) (o4 : Option Nat) (f : Nat → Int32) (a : Nat → Nat → Int32) (o2 : Option Nat) (ma : Nat → Int32) (p0 p1 : Int32)   : MgV l y_Raw_setCell b_Raw_setCell 4 D cs 2 60 ((nd o2)) ((36864 * nd o2)) [.ref h, .int p0, .int p1] [wd_Raw cs h r (fun k => if k = 2 then o2 else if k = 4 then o4 else none) f a g, nA cs o2 36864 ma] (fun _ => True) (fun ps => ∃ (f' : Nat → Int32) (a' : Nat → Nat → Int32) (o2' : Option Nat) (ma' : Nat → Int32), (ps.1 = [wd_Raw cs h r (fun k => if k = 2 then o2' else if k = 4 then o4 else none) f' a' g, nA cs o2' 36864 ma']) ∧ ((f' 3).toInt = (f 3).toInt) ∧ ((f' 7).toInt = (f 7).toInt) ∧ ((f' 8).toInt = (f 8).toInt) ∧ ((f' 10).toInt = (f 10).toInt) ∧ ((f' 13).toInt = (f 13).toInt) ∧ ((f' 14).toInt = (f 14).toInt) ∧ ((f' 11).toInt = (f 11).toInt) ∧ (ps.2.1 + nd o2' ≤ nd o2) ∧ (ps.2.2 + 36864 * nd o2' ≤ 36864 * nd o2)) := by
  refine pg_enter (by decide) (Nat.le_of_ble_eq_true rfl) ?_
  intro p e s m below meth c A ls hAe S hr hlk hnm hA hT hX hw hl
  have hl : lv_has ls 4 [(0, .ref h), (1, .int p0), (2, .int p1)] := hl
  have lp0 := Int32.le_toInt p0
  have up0 := Int32.toInt_lt p0
  have lp1 := Int32.le_toInt p1
  have up1 := Int32.toInt_lt p1
  have cst0 : (0 : Int32).toInt = 0 := rfl
  have cst1 : (1 : Int32).toInt = 1 := rfl
  have cst10 : (10 : Int32).toInt = 10 := rfl
  refine lv_iload_n S.x S.b d_Raw_setCell_0 rfl (lv_at hl 1 rfl) ?_
  refine lv_if_lt (tgt := 10) S.x S.b d_Raw_setCell_1 (by decide) (fun c1 => ?_) (fun c1 => ?_)
  · have nc1 : p0.toInt < (0 : Int) := (i_lt (x := p0) (y := 0)).mp c1
    first | exact pg_vret S hr hlk hAe hw (show 0 ≤ (nd o2) from oz_c4e42565ca) (show 0 ≤ (36864 * nd o2) from oz_5cdfddacaa) (⟨f, a, o2, ma, rfl, (show (f 3).toInt = (f 3).toInt from rfl), (show (f 7).toInt = (f 7).toInt from rfl), (show (f 8).toInt = (f 8).toInt from rfl), (show (f 10).toInt = (f 10).toInt from rfl), (show (f 13).toInt = (f 13).toInt from rfl), (show (f 14).toInt = (f 14).toInt from rfl), (show (f 11).toInt = (f 11).toInt from rfl), (show 0 + nd o2 ≤ nd o2 from oz_d90171b0e4), (show 0 + 36864 * nd o2 ≤ 36864 * nd o2 from oz_9c92651dc9)⟩) d_Raw_setCell_10 | exact pg_vret S hr hlk hAe hw (show 0 ≤ (nd o2) from by first | exact oz_c4e42565ca | omega) (show 0 ≤ (36864 * nd o2) from by first | exact oz_5cdfddacaa | omega) (⟨f, a, o2, ma, rfl, (show (f 3).toInt = (f 3).toInt from rfl), (show (f 7).toInt = (f 7).toInt from rfl), (show (f 8).toInt = (f 8).toInt from rfl), (show (f 10).toInt = (f 10).toInt from rfl), (show (f 13).toInt = (f 13).toInt from rfl), (show (f 14).toInt = (f 14).toInt from rfl), (show (f 11).toInt = (f 11).toInt from rfl), (show 0 + nd o2 ≤ nd o2 from by first | exact oz_d90171b0e4 | omega), (show 0 + 36864 * nd o2 ≤ 36864 * nd o2 from by first | exact oz_9c92651dc9 | omega)⟩) d_Raw_setCell_10
  · have nc1 : ¬ p0.toInt < (0 : Int) := mt (i_lt (x := p0) (y := 0)).mpr c1
    refine lv_iload_n S.x S.b d_Raw_setCell_4 rfl (lv_at hl 1 rfl) ?_
    refine lv_ldc (v := 36864) S.x S.b S.own (S.w m8_121) d_Raw_setCell_5 ?_
    refine lv_icmp_lt (tgt := 11) S.x S.b d_Raw_setCell_7 (by decide) (fun c2 => ?_) (fun c2 => ?_)
    · have nc2 : p0.toInt < (36864 : Int) := (i_lt (x := p0) (y := 36864)).mp c2
      refine lv_aload_n S.x S.b d_Raw_setCell_11 rfl (lv_at hl 0 rfl) ?_
      refine px_get S k_Raw hT hw 0 0 2 (v := va_rf o2) rfl rfl rfl (by decide) m6_126 d_Raw_setCell_12 ?_
      refine lq_ifnonnull (x := o2) (tgt := 26) S.x S.b d_Raw_setCell_15 (by decide) (fun q4 c3 => ?_) (fun c3 => ?_)
      ·
        subst c3
        have nd0_c3 := nd_1 q4
        refine lv_iload_n S.x S.b d_Raw_setCell_26 rfl (lv_at hl 1 rfl) ?_
        refine lv_bipush (v := 10) S.x S.b d_Raw_setCell_27 (by decide) ?_
        refine lv_ishr S.x S.b d_Raw_setCell_29 ?_
        refine lv_topi (fun z5 ez5 => ?_)
        have tz5 : z5.toInt = p0.toInt / 1024 := by rw [ez5]; exact i_shr p0 10 (k := 10) (d := 1024) (by decide) (by decide)
        have lz5 := Int32.le_toInt z5
        have uz5 := Int32.toInt_lt z5
        refine lv_istore_n (lv' := [(3, .int z5), (0, .ref h), (1, .int p0), (2, .int p1)]) S.x S.b d_Raw_setCell_30 rfl hl (by decide) rfl (fun ls hl => ?_)
        refine lv_aload_n S.x S.b d_Raw_setCell_31 rfl (lv_at hl 1 rfl) ?_
        refine px_get S k_Raw hT hw 0 0 1 (v := .ref (r 1)) rfl rfl rfl (by decide) m6_125 d_Raw_setCell_32 ?_
        refine lv_iload_n S.x S.b d_Raw_setCell_35 rfl (lv_at hl 0 rfl) ?_
        refine px_iald S hT hw 0 2 (n := 36) (f := (a 1)) rfl rfl (x := z5) (vp_in_iff.mpr (by constructor <;> omega)) d_Raw_setCell_36 ?_
        refine lv_topi (fun z6 ez6 => ?_)
        have lz6 := Int32.le_toInt z6
        have uz6 := Int32.toInt_lt z6
        refine lv_aload_n S.x S.b d_Raw_setCell_37 rfl (lv_at hl 1 rfl) ?_
        refine px_get S k_Raw hT hw 0 0 3 (v := .int (f 3)) rfl rfl rfl (by decide) m6_127 d_Raw_setCell_38 ?_
        refine lv_icmp_eq (tgt := 72) S.x S.b d_Raw_setCell_41 (by decide) (fun c7 => ?_) (fun c7 => ?_)
        · have nc7 : z6.toInt = (f 3).toInt := (i_eq (x := z6) (y := (f 3))).mp c7
          refine lv_aload_n S.x S.b d_Raw_setCell_72 rfl (lv_at hl 1 rfl) ?_
          refine px_get S k_Raw hT hw 0 0 2 (v := .ref q4) rfl rfl rfl (by decide) m6_126 d_Raw_setCell_73 ?_
          refine lv_iload_n S.x S.b d_Raw_setCell_76 rfl (lv_at hl 2 rfl) ?_
          refine lv_iload_n S.x S.b d_Raw_setCell_77 rfl (lv_at hl 3 rfl) ?_
          refine px_iast S hT hw 1 0 (n := 36864) (f := ma) (x := p0) (y := p1) rfl rfl (vp_in_iff.mpr (by constructor <;> omega)) d_Raw_setCell_78 (w' := nA cs (some q4) 36864 (upd ma p0.toNatClampNeg p1)) (ps' := [wd_Raw cs h r (fun k => if k = 2 then (some q4) else if k = 4 then o4 else none) f a g, nA cs (some q4) 36864 (upd ma p0.toNatClampNeg p1)]) rfl rfl (fun H locs hw => ?_)
          first | exact pg_vret S hr hlk hAe hw (show 0 ≤ (nd (some q4)) from oz_c4e42565ca) (show 0 ≤ (36864 * nd (some q4)) from oz_5cdfddacaa) (⟨f, a, (some q4), (upd ma p0.toNatClampNeg p1), rfl, (show (f 3).toInt = (f 3).toInt from rfl), (show (f 7).toInt = (f 7).toInt from rfl), (show (f 8).toInt = (f 8).toInt from rfl), (show (f 10).toInt = (f 10).toInt from rfl), (show (f 13).toInt = (f 13).toInt from rfl), (show (f 14).toInt = (f 14).toInt from rfl), (show (f 11).toInt = (f 11).toInt from rfl), (show 0 + nd (some q4) ≤ nd (some q4) from oz_d90171b0e4), (show 0 + 36864 * nd (some q4) ≤ 36864 * nd (some q4) from oz_9c92651dc9)⟩) d_Raw_setCell_79 | exact pg_vret S hr hlk hAe hw (show 0 ≤ (nd (some q4)) from by first | exact oz_c4e42565ca | omega) (show 0 ≤ (36864 * nd (some q4)) from by first | exact oz_5cdfddacaa | omega) (⟨f, a, (some q4), (upd ma p0.toNatClampNeg p1), rfl, (show (f 3).toInt = (f 3).toInt from rfl), (show (f 7).toInt = (f 7).toInt from rfl), (show (f 8).toInt = (f 8).toInt from rfl), (show (f 10).toInt = (f 10).toInt from rfl), (show (f 13).toInt = (f 13).toInt from rfl), (show (f 14).toInt = (f 14).toInt from rfl), (show (f 11).toInt = (f 11).toInt from rfl), (show 0 + nd (some q4) ≤ nd (some q4) from by first | exact oz_d90171b0e4 | omega), (show 0 + 36864 * nd (some q4) ≤ 36864 * nd (some q4) from by first | exact oz_9c92651dc9 | omega)⟩) d_Raw_setCell_79
        · have nc7 : ¬ z6.toInt = (f 3).toInt := mt (i_eq (x := z6) (y := (f 3))).mpr c7
          refine lv_aload_n S.x S.b d_Raw_setCell_44 rfl (lv_at hl 1 rfl) ?_
          refine px_get S k_Raw hT hw 0 0 1 (v := .ref (r 1)) rfl rfl rfl (by decide) m6_125 d_Raw_setCell_45 ?_
          refine lv_iload_n S.x S.b d_Raw_setCell_48 rfl (lv_at hl 0 rfl) ?_
          refine lv_aload_n S.x S.b d_Raw_setCell_49 rfl (lv_at hl 1 rfl) ?_
          refine px_get S k_Raw hT hw 0 0 3 (v := .int (f 3)) rfl rfl rfl (by decide) m6_127 d_Raw_setCell_50 ?_
          refine px_iast S hT hw 0 2 (n := 36) (f := (a 1)) (x := z5) (y := (f 3)) rfl rfl (vp_in_iff.mpr (by constructor <;> omega)) d_Raw_setCell_53 (w' := wd_Raw cs h r (fun k => if k = 2 then (some q4) else if k = 4 then o4 else none) f (va_up a 1 (upd (a 1) z5.toNatClampNeg (f 3))) g) (ps' := [wd_Raw cs h r (fun k => if k = 2 then (some q4) else if k = 4 then o4 else none) f (va_up a 1 (upd (a 1) z5.toNatClampNeg (f 3))) g, nA cs (some q4) 36864 ma]) rfl rfl (fun H locs hw => ?_)
          refine lv_aload_n S.x S.b d_Raw_setCell_54 rfl (lv_at hl 1 rfl) ?_
          refine px_get S k_Raw hT hw 0 0 2 (v := .ref q4) rfl rfl rfl (by decide) m6_126 d_Raw_setCell_55 ?_
          refine lv_iload_n S.x S.b d_Raw_setCell_58 rfl (lv_at hl 0 rfl) ?_
          refine lv_bipush (v := 10) S.x S.b d_Raw_setCell_59 (by decide) ?_
          refine lv_ishl S.x S.b d_Raw_setCell_61 ?_
          refine lv_topi (fun z8 ez8 => ?_)
          have lz8 := Int32.le_toInt z8
          have uz8 := Int32.toInt_lt z8
          have tz8 : 0 ≤ z5.toInt → z5.toInt * 1024 < 2147483648 → z8.toInt = z5.toInt * 1024 := by rw [ez8]; exact i_shl z5 10 (k := 10) (d := 1024) (by decide) (by decide)
          refine lv_iload_n S.x S.b d_Raw_setCell_62 rfl (lv_at hl 0 rfl) ?_
          refine lv_iconst (v := 1) S.x S.b d_Raw_setCell_63 (by decide) ?_
          refine lv_iadd S.x S.b d_Raw_setCell_64 ?_
          refine lv_topi (fun z9 ez9 => ?_)
          have tz9 : z9.toInt = (z5.toInt + (1 : Int) + 2147483648) % 4294967296 - 2147483648 := by rw [ez9]; exact i_add z5 1
          have lz9 := Int32.le_toInt z9
          have uz9 := Int32.toInt_lt z9
          refine lv_bipush (v := 10) S.x S.b d_Raw_setCell_65 (by decide) ?_
          refine lv_ishl S.x S.b d_Raw_setCell_67 ?_
          refine lv_topi (fun z10 ez10 => ?_)
          have lz10 := Int32.le_toInt z10
          have uz10 := Int32.toInt_lt z10
          have tz10 : 0 ≤ z9.toInt → z9.toInt * 1024 < 2147483648 → z10.toInt = z9.toInt * 1024 := by rw [ez10]; exact i_shl z9 10 (k := 10) (d := 1024) (by decide) (by decide)
          refine lv_iconst (v := 0) S.x S.b d_Raw_setCell_68 (by decide) ?_
          first | refine px_callv (pr := [wd_Raw cs h r (fun k => if k = 2 then (some q4) else if k = 4 then o4 else none) f (va_up a 1 (upd (a 1) z5.toNatClampNeg (f 3))) g]) (px_runS (As := [.ref q4, .int z8, .int z10, .int 0]) (rest := []) S (c_Arrays_fill4 l D cs q4 36864 ma z8 z10 0  (show 36864 ≤ 1000000 from by first | decide | omega) (show 0 ≤ z8.toInt from by first | with_reducible rfl | with_reducible assumption | omega) (show z8.toInt ≤ z10.toInt from by first | with_reducible rfl | with_reducible assumption | omega) (show z10.toInt ≤ (36864 : Int) from by first | with_reducible rfl | with_reducible assumption | omega) _) hT (pr := [wd_Raw cs h r (fun k => if k = 2 then (some q4) else if k = 4 then o4 else none) f (va_up a 1 (upd (a 1) z5.toNatClampNeg (f 3))) g]) (pcs := [nA cs (some q4) 36864 ma]) hw px_X.tt m7_54 m8_122 m7_53 m1_14 q_Arrays_fill2 ⟨Nat.le_of_ble_eq_true rfl, Nat.le_of_ble_eq_true rfl⟩ hl.1 rfl (Nat.le_of_ble_eq_true rfl) d_Raw_setCell_69 ⟨show 0 + 0 ≤ (nd (some q4)) from (oz_4801a4ef71), show 0 + 0 ≤ (36864 * nd (some q4)) from (oz_26949c3f46)⟩) hw hA (fun p12 H locs hp12 hw => ?_) | refine px_callv (pr := [wd_Raw cs h r (fun k => if k = 2 then (some q4) else if k = 4 then o4 else none) f (va_up a 1 (upd (a 1) z5.toNatClampNeg (f 3))) g]) (px_runS (As := [.ref q4, .int z8, .int z10, .int 0]) (rest := []) S (c_Arrays_fill4 l D cs q4 36864 ma z8 z10 0  (show 36864 ≤ 1000000 from by first | decide | omega) (show 0 ≤ z8.toInt from by first | with_reducible rfl | with_reducible assumption | omega) (show z8.toInt ≤ z10.toInt from by first | with_reducible rfl | with_reducible assumption | omega) (show z10.toInt ≤ (36864 : Int) from by first | with_reducible rfl | with_reducible assumption | omega) _) hT (pr := [wd_Raw cs h r (fun k => if k = 2 then (some q4) else if k = 4 then o4 else none) f (va_up a 1 (upd (a 1) z5.toNatClampNeg (f 3))) g]) (pcs := [nA cs (some q4) 36864 ma]) hw px_X.tt m7_54 m8_122 m7_53 m1_14 q_Arrays_fill2 ⟨Nat.le_of_ble_eq_true rfl, Nat.le_of_ble_eq_true rfl⟩ hl.1 rfl (Nat.le_of_ble_eq_true rfl) d_Raw_setCell_69 ⟨show 0 + 0 ≤ (nd (some q4)) from (by first | exact oz_4801a4ef71 | omega), show 0 + 0 ≤ (36864 * nd (some q4)) from (by first | exact oz_26949c3f46 | omega)⟩) hw hA (fun p12 H locs hp12 hw => ?_)
          obtain ⟨ca11, rfl⟩ := hp12
          refine lv_aload_n S.x S.b d_Raw_setCell_72 rfl (lv_at hl 1 rfl) ?_
          refine px_get S k_Raw hT hw 0 0 2 (v := .ref q4) rfl rfl rfl (by decide) m6_126 d_Raw_setCell_73 ?_
          refine lv_iload_n S.x S.b d_Raw_setCell_76 rfl (lv_at hl 2 rfl) ?_
          refine lv_iload_n S.x S.b d_Raw_setCell_77 rfl (lv_at hl 3 rfl) ?_
          refine px_iast S hT hw 1 0 (n := 36864) (f := ca11) (x := p0) (y := p1) rfl rfl (vp_in_iff.mpr (by constructor <;> omega)) d_Raw_setCell_78 (w' := [(q4, .inl (cs 0, 36864, .inl (upd ca11 p0.toNatClampNeg p1)))]) (ps' := [wd_Raw cs h r (fun k => if k = 2 then (some q4) else if k = 4 then o4 else none) f (va_up a 1 (upd (a 1) z5.toNatClampNeg (f 3))) g, [(q4, .inl (cs 0, 36864, .inl (upd ca11 p0.toNatClampNeg p1)))]]) rfl rfl (fun H locs hw => ?_)
          have hw : pw D A s.heap _ _ [wd_Raw cs h r (fun k => if k = 2 then (some q4) else if k = 4 then o4 else none) f (va_up a 1 (upd (a 1) z5.toNatClampNeg (f 3))) g, nA cs (some q4) 36864 (upd ca11 p0.toNatClampNeg p1)] := hw.sub [0, 1] rfl rfl
          first | exact pg_vret S hr hlk hAe hw (show 0 ≤ (nd (some q4)) from oz_c4e42565ca) (show 0 ≤ (36864 * nd (some q4)) from oz_5cdfddacaa) (⟨f, (va_up a 1 (upd (a 1) z5.toNatClampNeg (f 3))), (some q4), (upd ca11 p0.toNatClampNeg p1), rfl, (show (f 3).toInt = (f 3).toInt from rfl), (show (f 7).toInt = (f 7).toInt from rfl), (show (f 8).toInt = (f 8).toInt from rfl), (show (f 10).toInt = (f 10).toInt from rfl), (show (f 13).toInt = (f 13).toInt from rfl), (show (f 14).toInt = (f 14).toInt from rfl), (show (f 11).toInt = (f 11).toInt from rfl), (show 0 + nd (some q4) ≤ nd (some q4) from oz_d90171b0e4), (show 0 + 36864 * nd (some q4) ≤ 36864 * nd (some q4) from oz_9c92651dc9)⟩) d_Raw_setCell_79 | exact pg_vret S hr hlk hAe hw (show 0 ≤ (nd (some q4)) from by first | exact oz_c4e42565ca | omega) (show 0 ≤ (36864 * nd (some q4)) from by first | exact oz_5cdfddacaa | omega) (⟨f, (va_up a 1 (upd (a 1) z5.toNatClampNeg (f 3))), (some q4), (upd ca11 p0.toNatClampNeg p1), rfl, (show (f 3).toInt = (f 3).toInt from rfl), (show (f 7).toInt = (f 7).toInt from rfl), (show (f 8).toInt = (f 8).toInt from rfl), (show (f 10).toInt = (f 10).toInt from rfl), (show (f 13).toInt = (f 13).toInt from rfl), (show (f 14).toInt = (f 14).toInt from rfl), (show (f 11).toInt = (f 11).toInt from rfl), (show 0 + nd (some q4) ≤ nd (some q4) from by first | exact oz_d90171b0e4 | omega), (show 0 + 36864 * nd (some q4) ≤ 36864 * nd (some q4) from by first | exact oz_9c92651dc9 | omega)⟩) d_Raw_setCell_79
      ·
        subst c3
        have nd0_c3 := nd_0
        refine lv_aload_n S.x S.b d_Raw_setCell_18 rfl (lv_at hl 0 rfl) ?_
        refine lv_ldc (v := 36864) S.x S.b S.own (S.w m8_121) d_Raw_setCell_19 ?_
        first | refine px_newa S hT hw hA (atype := .int) m1_166 0 rfl rfl (a0 := (36864, .inl (fun _ => 0))) (fun _ => rfl) (by decide) (by decide +kernel) (Nat.le_of_ble_eq_true rfl) (show 0 + 1 ≤ (nd none) from (oz_817a3ca24d nd0_c3)) (show 0 + 36864 ≤ (36864 * nd none) from (oz_cafacf7cbb nd0_c3)) d_Raw_setCell_21 (fun q14 H hw => ?_) | refine px_newa S hT hw hA (atype := .int) m1_166 0 rfl rfl (a0 := (36864, .inl (fun _ => 0))) (fun _ => rfl) (by decide) (by decide +kernel) (Nat.le_of_ble_eq_true rfl) (show 0 + 1 ≤ (nd none) from by first | exact oz_817a3ca24d nd0_c3 | omega) (show 0 + 36864 ≤ (36864 * nd none) from by first | exact oz_cafacf7cbb nd0_c3 | omega) d_Raw_setCell_21 (fun q14 H hw => ?_)
        have nd_q14 := nd_1 q14
        refine px_put S k_Raw hT hw 0 0 2 rfl rfl (by decide) m6_126 rfl rfl rfl (Nat.le_of_ble_eq_true rfl) d_Raw_setCell_23 (w' := wd_Raw cs h r (fun k => if k = 2 then (some q14) else if k = 4 then o4 else none) f a g) (ps' := [wd_Raw cs h r (fun k => if k = 2 then (some q14) else if k = 4 then o4 else none) f a g, nA cs none 36864 ma, [(q14, .inl (cs 0, 36864, .inl (fun _ => 0)))]]) rfl rfl (fun H locs hw => ?_)
        refine lv_iload_n S.x S.b d_Raw_setCell_26 rfl (lv_at hl 1 rfl) ?_
        refine lv_bipush (v := 10) S.x S.b d_Raw_setCell_27 (by decide) ?_
        refine lv_ishr S.x S.b d_Raw_setCell_29 ?_
        refine lv_topi (fun z15 ez15 => ?_)
        have tz15 : z15.toInt = p0.toInt / 1024 := by rw [ez15]; exact i_shr p0 10 (k := 10) (d := 1024) (by decide) (by decide)
        have lz15 := Int32.le_toInt z15
        have uz15 := Int32.toInt_lt z15
        refine lv_istore_n (lv' := [(3, .int z15), (0, .ref h), (1, .int p0), (2, .int p1)]) S.x S.b d_Raw_setCell_30 rfl hl (by decide) rfl (fun ls hl => ?_)
        refine lv_aload_n S.x S.b d_Raw_setCell_31 rfl (lv_at hl 1 rfl) ?_
        refine px_get S k_Raw hT hw 0 0 1 (v := .ref (r 1)) rfl rfl rfl (by decide) m6_125 d_Raw_setCell_32 ?_
        refine lv_iload_n S.x S.b d_Raw_setCell_35 rfl (lv_at hl 0 rfl) ?_
        refine px_iald S hT hw 0 2 (n := 36) (f := (a 1)) rfl rfl (x := z15) (vp_in_iff.mpr (by constructor <;> omega)) d_Raw_setCell_36 ?_
        refine lv_topi (fun z16 ez16 => ?_)
        have lz16 := Int32.le_toInt z16
        have uz16 := Int32.toInt_lt z16
        refine lv_aload_n S.x S.b d_Raw_setCell_37 rfl (lv_at hl 1 rfl) ?_
        refine px_get S k_Raw hT hw 0 0 3 (v := .int (f 3)) rfl rfl rfl (by decide) m6_127 d_Raw_setCell_38 ?_
        refine lv_icmp_eq (tgt := 72) S.x S.b d_Raw_setCell_41 (by decide) (fun c17 => ?_) (fun c17 => ?_)
        · have nc17 : z16.toInt = (f 3).toInt := (i_eq (x := z16) (y := (f 3))).mp c17
          refine lv_aload_n S.x S.b d_Raw_setCell_72 rfl (lv_at hl 1 rfl) ?_
          refine px_get S k_Raw hT hw 0 0 2 (v := .ref q14) rfl rfl rfl (by decide) m6_126 d_Raw_setCell_73 ?_
          refine lv_iload_n S.x S.b d_Raw_setCell_76 rfl (lv_at hl 2 rfl) ?_
          refine lv_iload_n S.x S.b d_Raw_setCell_77 rfl (lv_at hl 3 rfl) ?_
          refine px_iast S hT hw 2 0 (n := 36864) (f := (fun _ => 0)) (x := p0) (y := p1) rfl rfl (vp_in_iff.mpr (by constructor <;> omega)) d_Raw_setCell_78 (w' := [(q14, .inl (cs 0, 36864, .inl (upd (fun _ => 0) p0.toNatClampNeg p1)))]) (ps' := [wd_Raw cs h r (fun k => if k = 2 then (some q14) else if k = 4 then o4 else none) f a g, nA cs none 36864 ma, [(q14, .inl (cs 0, 36864, .inl (upd (fun _ => 0) p0.toNatClampNeg p1)))]]) rfl rfl (fun H locs hw => ?_)
          have hw : pw D A s.heap _ _ [wd_Raw cs h r (fun k => if k = 2 then (some q14) else if k = 4 then o4 else none) f a g, nA cs (some q14) 36864 (upd (fun _ => 0) p0.toNatClampNeg p1)] := hw.sub [0, 2] rfl rfl
          first | exact pg_vret S hr hlk hAe hw (show (0 + 1) ≤ (nd none) from (oz_a71ae4c02c nd0_c3)) (show (0 + 36864) ≤ (36864 * nd none) from (oz_392452387d nd0_c3)) (⟨f, a, (some q14), (upd (fun _ => 0) p0.toNatClampNeg p1), rfl, (show (f 3).toInt = (f 3).toInt from rfl), (show (f 7).toInt = (f 7).toInt from rfl), (show (f 8).toInt = (f 8).toInt from rfl), (show (f 10).toInt = (f 10).toInt from rfl), (show (f 13).toInt = (f 13).toInt from rfl), (show (f 14).toInt = (f 14).toInt from rfl), (show (f 11).toInt = (f 11).toInt from rfl), (show (0 + 1) + nd (some q14) ≤ nd none from (oz_5e87a23678 nd0_c3 nd_q14)), (show (0 + 36864) + 36864 * nd (some q14) ≤ 36864 * nd none from (oz_63b38c6fbd nd0_c3 nd_q14))⟩) d_Raw_setCell_79 | exact pg_vret S hr hlk hAe hw (show (0 + 1) ≤ (nd none) from by first | exact oz_a71ae4c02c nd0_c3 | omega) (show (0 + 36864) ≤ (36864 * nd none) from by first | exact oz_392452387d nd0_c3 | omega) (⟨f, a, (some q14), (upd (fun _ => 0) p0.toNatClampNeg p1), rfl, (show (f 3).toInt = (f 3).toInt from rfl), (show (f 7).toInt = (f 7).toInt from rfl), (show (f 8).toInt = (f 8).toInt from rfl), (show (f 10).toInt = (f 10).toInt from rfl), (show (f 13).toInt = (f 13).toInt from rfl), (show (f 14).toInt = (f 14).toInt from rfl), (show (f 11).toInt = (f 11).toInt from rfl), (show (0 + 1) + nd (some q14) ≤ nd none from by first | exact oz_5e87a23678 nd0_c3 nd_q14 | omega), (show (0 + 36864) + 36864 * nd (some q14) ≤ 36864 * nd none from by first | exact oz_63b38c6fbd nd0_c3 nd_q14 | omega)⟩) d_Raw_setCell_79
        · have nc17 : ¬ z16.toInt = (f 3).toInt := mt (i_eq (x := z16) (y := (f 3))).mpr c17
          refine lv_aload_n S.x S.b d_Raw_setCell_44 rfl (lv_at hl 1 rfl) ?_
          refine px_get S k_Raw hT hw 0 0 1 (v := .ref (r 1)) rfl rfl rfl (by decide) m6_125 d_Raw_setCell_45 ?_
          refine lv_iload_n S.x S.b d_Raw_setCell_48 rfl (lv_at hl 0 rfl) ?_
          refine lv_aload_n S.x S.b d_Raw_setCell_49 rfl (lv_at hl 1 rfl) ?_
          refine px_get S k_Raw hT hw 0 0 3 (v := .int (f 3)) rfl rfl rfl (by decide) m6_127 d_Raw_setCell_50 ?_
          refine px_iast S hT hw 0 2 (n := 36) (f := (a 1)) (x := z15) (y := (f 3)) rfl rfl (vp_in_iff.mpr (by constructor <;> omega)) d_Raw_setCell_53 (w' := wd_Raw cs h r (fun k => if k = 2 then (some q14) else if k = 4 then o4 else none) f (va_up a 1 (upd (a 1) z15.toNatClampNeg (f 3))) g) (ps' := [wd_Raw cs h r (fun k => if k = 2 then (some q14) else if k = 4 then o4 else none) f (va_up a 1 (upd (a 1) z15.toNatClampNeg (f 3))) g, nA cs none 36864 ma, [(q14, .inl (cs 0, 36864, .inl (fun _ => 0)))]]) rfl rfl (fun H locs hw => ?_)
          refine lv_aload_n S.x S.b d_Raw_setCell_54 rfl (lv_at hl 1 rfl) ?_
          refine px_get S k_Raw hT hw 0 0 2 (v := .ref q14) rfl rfl rfl (by decide) m6_126 d_Raw_setCell_55 ?_
          refine lv_iload_n S.x S.b d_Raw_setCell_58 rfl (lv_at hl 0 rfl) ?_
          refine lv_bipush (v := 10) S.x S.b d_Raw_setCell_59 (by decide) ?_
          refine lv_ishl S.x S.b d_Raw_setCell_61 ?_
          refine lv_topi (fun z18 ez18 => ?_)
          have lz18 := Int32.le_toInt z18
          have uz18 := Int32.toInt_lt z18
          have tz18 : 0 ≤ z15.toInt → z15.toInt * 1024 < 2147483648 → z18.toInt = z15.toInt * 1024 := by rw [ez18]; exact i_shl z15 10 (k := 10) (d := 1024) (by decide) (by decide)
          refine lv_iload_n S.x S.b d_Raw_setCell_62 rfl (lv_at hl 0 rfl) ?_
          refine lv_iconst (v := 1) S.x S.b d_Raw_setCell_63 (by decide) ?_
          refine lv_iadd S.x S.b d_Raw_setCell_64 ?_
          refine lv_topi (fun z19 ez19 => ?_)
          have tz19 : z19.toInt = (z15.toInt + (1 : Int) + 2147483648) % 4294967296 - 2147483648 := by rw [ez19]; exact i_add z15 1
          have lz19 := Int32.le_toInt z19
          have uz19 := Int32.toInt_lt z19
          refine lv_bipush (v := 10) S.x S.b d_Raw_setCell_65 (by decide) ?_
          refine lv_ishl S.x S.b d_Raw_setCell_67 ?_
          refine lv_topi (fun z20 ez20 => ?_)
          have lz20 := Int32.le_toInt z20
          have uz20 := Int32.toInt_lt z20
          have tz20 : 0 ≤ z19.toInt → z19.toInt * 1024 < 2147483648 → z20.toInt = z19.toInt * 1024 := by rw [ez20]; exact i_shl z19 10 (k := 10) (d := 1024) (by decide) (by decide)
          refine lv_iconst (v := 0) S.x S.b d_Raw_setCell_68 (by decide) ?_
          first | refine px_callv (pr := [wd_Raw cs h r (fun k => if k = 2 then (some q14) else if k = 4 then o4 else none) f (va_up a 1 (upd (a 1) z15.toNatClampNeg (f 3))) g, nA cs none 36864 ma]) (px_runS (As := [.ref q14, .int z18, .int z20, .int 0]) (rest := []) S (c_Arrays_fill4 l D cs q14 36864 (fun _ => 0) z18 z20 0  (show 36864 ≤ 1000000 from by first | decide | omega) (show 0 ≤ z18.toInt from by first | with_reducible rfl | with_reducible assumption | omega) (show z18.toInt ≤ z20.toInt from by first | with_reducible rfl | with_reducible assumption | omega) (show z20.toInt ≤ (36864 : Int) from by first | with_reducible rfl | with_reducible assumption | omega) _) hT (pr := [wd_Raw cs h r (fun k => if k = 2 then (some q14) else if k = 4 then o4 else none) f (va_up a 1 (upd (a 1) z15.toNatClampNeg (f 3))) g, nA cs none 36864 ma]) (pcs := [[(q14, .inl (cs 0, 36864, .inl (fun _ => 0)))]]) hw px_X.tt m7_54 m8_122 m7_53 m1_14 q_Arrays_fill2 ⟨Nat.le_of_ble_eq_true rfl, Nat.le_of_ble_eq_true rfl⟩ hl.1 rfl (Nat.le_of_ble_eq_true rfl) d_Raw_setCell_69 ⟨show (0 + 1) + 0 ≤ (nd none) from ((oz_3fb7c53a0e nd0_c3)), show (0 + 36864) + 0 ≤ (36864 * nd none) from ((oz_f9fc5c2101 nd0_c3))⟩) hw hA (fun p22 H locs hp22 hw => ?_) | refine px_callv (pr := [wd_Raw cs h r (fun k => if k = 2 then (some q14) else if k = 4 then o4 else none) f (va_up a 1 (upd (a 1) z15.toNatClampNeg (f 3))) g, nA cs none 36864 ma]) (px_runS (As := [.ref q14, .int z18, .int z20, .int 0]) (rest := []) S (c_Arrays_fill4 l D cs q14 36864 (fun _ => 0) z18 z20 0  (show 36864 ≤ 1000000 from by first | decide | omega) (show 0 ≤ z18.toInt from by first | with_reducible rfl | with_reducible assumption | omega) (show z18.toInt ≤ z20.toInt from by first | with_reducible rfl | with_reducible assumption | omega) (show z20.toInt ≤ (36864 : Int) from by first | with_reducible rfl | with_reducible assumption | omega) _) hT (pr := [wd_Raw cs h r (fun k => if k = 2 then (some q14) else if k = 4 then o4 else none) f (va_up a 1 (upd (a 1) z15.toNatClampNeg (f 3))) g, nA cs none 36864 ma]) (pcs := [[(q14, .inl (cs 0, 36864, .inl (fun _ => 0)))]]) hw px_X.tt m7_54 m8_122 m7_53 m1_14 q_Arrays_fill2 ⟨Nat.le_of_ble_eq_true rfl, Nat.le_of_ble_eq_true rfl⟩ hl.1 rfl (Nat.le_of_ble_eq_true rfl) d_Raw_setCell_69 ⟨show (0 + 1) + 0 ≤ (nd none) from (by first | exact oz_3fb7c53a0e nd0_c3 | omega), show (0 + 36864) + 0 ≤ (36864 * nd none) from (by first | exact oz_f9fc5c2101 nd0_c3 | omega)⟩) hw hA (fun p22 H locs hp22 hw => ?_)
          obtain ⟨ca21, rfl⟩ := hp22
          refine lv_aload_n S.x S.b d_Raw_setCell_72 rfl (lv_at hl 1 rfl) ?_
          refine px_get S k_Raw hT hw 0 0 2 (v := .ref q14) rfl rfl rfl (by decide) m6_126 d_Raw_setCell_73 ?_
          refine lv_iload_n S.x S.b d_Raw_setCell_76 rfl (lv_at hl 2 rfl) ?_
          refine lv_iload_n S.x S.b d_Raw_setCell_77 rfl (lv_at hl 3 rfl) ?_
          refine px_iast S hT hw 2 0 (n := 36864) (f := ca21) (x := p0) (y := p1) rfl rfl (vp_in_iff.mpr (by constructor <;> omega)) d_Raw_setCell_78 (w' := [(q14, .inl (cs 0, 36864, .inl (upd ca21 p0.toNatClampNeg p1)))]) (ps' := [wd_Raw cs h r (fun k => if k = 2 then (some q14) else if k = 4 then o4 else none) f (va_up a 1 (upd (a 1) z15.toNatClampNeg (f 3))) g, nA cs none 36864 ma, [(q14, .inl (cs 0, 36864, .inl (upd ca21 p0.toNatClampNeg p1)))]]) rfl rfl (fun H locs hw => ?_)
          have hw : pw D A s.heap _ _ [wd_Raw cs h r (fun k => if k = 2 then (some q14) else if k = 4 then o4 else none) f (va_up a 1 (upd (a 1) z15.toNatClampNeg (f 3))) g, nA cs (some q14) 36864 (upd ca21 p0.toNatClampNeg p1)] := hw.sub [0, 2] rfl rfl
          first | exact pg_vret S hr hlk hAe hw (show (0 + 1) ≤ (nd none) from (oz_a71ae4c02c nd0_c3)) (show (0 + 36864) ≤ (36864 * nd none) from (oz_392452387d nd0_c3)) (⟨f, (va_up a 1 (upd (a 1) z15.toNatClampNeg (f 3))), (some q14), (upd ca21 p0.toNatClampNeg p1), rfl, (show (f 3).toInt = (f 3).toInt from rfl), (show (f 7).toInt = (f 7).toInt from rfl), (show (f 8).toInt = (f 8).toInt from rfl), (show (f 10).toInt = (f 10).toInt from rfl), (show (f 13).toInt = (f 13).toInt from rfl), (show (f 14).toInt = (f 14).toInt from rfl), (show (f 11).toInt = (f 11).toInt from rfl), (show (0 + 1) + nd (some q14) ≤ nd none from (oz_5e87a23678 nd0_c3 nd_q14)), (show (0 + 36864) + 36864 * nd (some q14) ≤ 36864 * nd none from (oz_63b38c6fbd nd0_c3 nd_q14))⟩) d_Raw_setCell_79 | exact pg_vret S hr hlk hAe hw (show (0 + 1) ≤ (nd none) from by first | exact oz_a71ae4c02c nd0_c3 | omega) (show (0 + 36864) ≤ (36864 * nd none) from by first | exact oz_392452387d nd0_c3 | omega) (⟨f, (va_up a 1 (upd (a 1) z15.toNatClampNeg (f 3))), (some q14), (upd ca21 p0.toNatClampNeg p1), rfl, (show (f 3).toInt = (f 3).toInt from rfl), (show (f 7).toInt = (f 7).toInt from rfl), (show (f 8).toInt = (f 8).toInt from rfl), (show (f 10).toInt = (f 10).toInt from rfl), (show (f 13).toInt = (f 13).toInt from rfl), (show (f 14).toInt = (f 14).toInt from rfl), (show (f 11).toInt = (f 11).toInt from rfl), (show (0 + 1) + nd (some q14) ≤ nd none from by first | exact oz_5e87a23678 nd0_c3 nd_q14 | omega), (show (0 + 36864) + 36864 * nd (some q14) ≤ 36864 * nd none from by first | exact oz_63b38c6fbd nd0_c3 nd_q14 | omega)⟩) d_Raw_setCell_79
    · have nc2 : ¬ p0.toInt < (36864 : Int) := mt (i_lt (x := p0) (y := 36864)).mpr c2
      first | exact pg_vret S hr hlk hAe hw (show 0 ≤ (nd o2) from oz_c4e42565ca) (show 0 ≤ (36864 * nd o2) from oz_5cdfddacaa) (⟨f, a, o2, ma, rfl, (show (f 3).toInt = (f 3).toInt from rfl), (show (f 7).toInt = (f 7).toInt from rfl), (show (f 8).toInt = (f 8).toInt from rfl), (show (f 10).toInt = (f 10).toInt from rfl), (show (f 13).toInt = (f 13).toInt from rfl), (show (f 14).toInt = (f 14).toInt from rfl), (show (f 11).toInt = (f 11).toInt from rfl), (show 0 + nd o2 ≤ nd o2 from oz_d90171b0e4), (show 0 + 36864 * nd o2 ≤ 36864 * nd o2 from oz_9c92651dc9)⟩) d_Raw_setCell_10 | exact pg_vret S hr hlk hAe hw (show 0 ≤ (nd o2) from by first | exact oz_c4e42565ca | omega) (show 0 ≤ (36864 * nd o2) from by first | exact oz_5cdfddacaa | omega) (⟨f, a, o2, ma, rfl, (show (f 3).toInt = (f 3).toInt from rfl), (show (f 7).toInt = (f 7).toInt from rfl), (show (f 8).toInt = (f 8).toInt from rfl), (show (f 10).toInt = (f 10).toInt from rfl), (show (f 13).toInt = (f 13).toInt from rfl), (show (f 14).toInt = (f 14).toInt from rfl), (show (f 11).toInt = (f 11).toInt from rfl), (show 0 + nd o2 ≤ nd o2 from by first | exact oz_d90171b0e4 | omega), (show 0 + 36864 * nd o2 ≤ 36864 * nd o2 from by first | exact oz_9c92651dc9 | omega)⟩) d_Raw_setCell_10
abbrev b_Raw_between : ByteArray := prog_8_method_24_code
def y_Raw_between : MethodName := ⟨"HomeSystem$RawProcess", "between", "(IIIII)V"⟩
theorem d_Raw_between_0 : decode b_Raw_between 0 = .ok (.iload_n 1, 1) := by decide +kernel
theorem d_Raw_between_1 : decode b_Raw_between 1 = .ok (.iconst 1, 1) := by decide +kernel
theorem d_Raw_between_2 : decode b_Raw_between 2 = .ok (.if_icmp .ne 35, 3) := by decide +kernel
theorem d_Raw_between_5 : decode b_Raw_between 5 = .ok (.aload_n 0, 1) := by decide +kernel
theorem d_Raw_between_6 : decode b_Raw_between 6 = .ok (.iload_n 2, 1) := by decide +kernel
theorem d_Raw_between_7 : decode b_Raw_between 7 = .ok (.iload_n 3, 1) := by decide +kernel
theorem d_Raw_between_8 : decode b_Raw_between 8 = .ok (.iconst 4, 1) := by decide +kernel
theorem d_Raw_between_9 : decode b_Raw_between 9 = .ok (.if_icmp .ge 14, 3) := by decide +kernel
theorem d_Raw_between_12 : decode b_Raw_between 12 = .ok (.iload_n 3, 1) := by decide +kernel
theorem d_Raw_between_13 : decode b_Raw_between 13 = .ok (.iload 4, 2) := by decide +kernel
theorem d_Raw_between_15 : decode b_Raw_between 15 = .ok (.iload 5, 2) := by decide +kernel
theorem d_Raw_between_17 : decode b_Raw_between 17 = .ok (.invokestatic 153, 3) := by decide +kernel
theorem d_Raw_between_20 : decode b_Raw_between 20 = .ok (.goto 11, 3) := by decide +kernel
theorem d_Raw_between_23 : decode b_Raw_between 23 = .ok (.iload_n 3, 1) := by decide +kernel
theorem d_Raw_between_24 : decode b_Raw_between 24 = .ok (.iload 4, 2) := by decide +kernel
theorem d_Raw_between_26 : decode b_Raw_between 26 = .ok (.iload 5, 2) := by decide +kernel
theorem d_Raw_between_28 : decode b_Raw_between 28 = .ok (.invokestatic 157, 3) := by decide +kernel
theorem d_Raw_between_31 : decode b_Raw_between 31 = .ok (.invokevirtual 103, 3) := by decide +kernel
theorem d_Raw_between_34 : decode b_Raw_between 34 = .ok (.goto 75, 3) := by decide +kernel
theorem d_Raw_between_37 : decode b_Raw_between 37 = .ok (.iload_n 1, 1) := by decide +kernel
theorem d_Raw_between_38 : decode b_Raw_between 38 = .ok (.bipush 32, 2) := by decide +kernel
theorem d_Raw_between_40 : decode b_Raw_between 40 = .ok (.if_icmp .ne 20, 3) := by decide +kernel
theorem d_Raw_between_43 : decode b_Raw_between 43 = .ok (.iload_n 3, 1) := by decide +kernel
theorem d_Raw_between_44 : decode b_Raw_between 44 = .ok (.ifCond .ne 16, 3) := by decide +kernel
theorem d_Raw_between_47 : decode b_Raw_between 47 = .ok (.aload_n 0, 1) := by decide +kernel
theorem d_Raw_between_48 : decode b_Raw_between 48 = .ok (.iload_n 2, 1) := by decide +kernel
theorem d_Raw_between_49 : decode b_Raw_between 49 = .ok (.iload 4, 2) := by decide +kernel
theorem d_Raw_between_51 : decode b_Raw_between 51 = .ok (.iload 5, 2) := by decide +kernel
theorem d_Raw_between_53 : decode b_Raw_between 53 = .ok (.isub, 1) := by decide +kernel
theorem d_Raw_between_54 : decode b_Raw_between 54 = .ok (.invokevirtual 103, 3) := by decide +kernel
theorem d_Raw_between_57 : decode b_Raw_between 57 = .ok (.goto 52, 3) := by decide +kernel
theorem d_Raw_between_60 : decode b_Raw_between 60 = .ok (.iload_n 1, 1) := by decide +kernel
theorem d_Raw_between_61 : decode b_Raw_between 61 = .ok (.ifCond .eq 14, 3) := by decide +kernel
theorem d_Raw_between_64 : decode b_Raw_between 64 = .ok (.iload_n 1, 1) := by decide +kernel
theorem d_Raw_between_65 : decode b_Raw_between 65 = .ok (.bipush 32, 2) := by decide +kernel
theorem d_Raw_between_67 : decode b_Raw_between 67 = .ok (.if_icmp .ne 35, 3) := by decide +kernel
theorem d_Raw_between_70 : decode b_Raw_between 70 = .ok (.iload_n 3, 1) := by decide +kernel
theorem d_Raw_between_71 : decode b_Raw_between 71 = .ok (.iconst 5, 1) := by decide +kernel
theorem d_Raw_between_72 : decode b_Raw_between 72 = .ok (.if_icmp .ne 30, 3) := by decide +kernel
theorem d_Raw_between_75 : decode b_Raw_between 75 = .ok (.aload_n 0, 1) := by decide +kernel
theorem d_Raw_between_76 : decode b_Raw_between 76 = .ok (.iload_n 2, 1) := by decide +kernel
theorem d_Raw_between_77 : decode b_Raw_between 77 = .ok (.iload_n 3, 1) := by decide +kernel
theorem d_Raw_between_78 : decode b_Raw_between 78 = .ok (.iload 4, 2) := by decide +kernel
theorem d_Raw_between_80 : decode b_Raw_between 80 = .ok (.iload 5, 2) := by decide +kernel
theorem d_Raw_between_82 : decode b_Raw_between 82 = .ok (.iload_n 1, 1) := by decide +kernel
theorem d_Raw_between_83 : decode b_Raw_between 83 = .ok (.bipush 32, 2) := by decide +kernel
theorem d_Raw_between_85 : decode b_Raw_between 85 = .ok (.if_icmp .ne 7, 3) := by decide +kernel
theorem d_Raw_between_88 : decode b_Raw_between 88 = .ok (.iconst 1, 1) := by decide +kernel
theorem d_Raw_between_89 : decode b_Raw_between 89 = .ok (.goto 4, 3) := by decide +kernel
theorem d_Raw_between_92 : decode b_Raw_between 92 = .ok (.iconst 0, 1) := by decide +kernel
theorem d_Raw_between_93 : decode b_Raw_between 93 = .ok (.invokestatic 149, 3) := by decide +kernel
theorem d_Raw_between_96 : decode b_Raw_between 96 = .ok (.invokevirtual 103, 3) := by decide +kernel
theorem d_Raw_between_99 : decode b_Raw_between 99 = .ok (.goto 10, 3) := by decide +kernel
theorem d_Raw_between_102 : decode b_Raw_between 102 = .ok (.aload_n 0, 1) := by decide +kernel
theorem d_Raw_between_103 : decode b_Raw_between 103 = .ok (.bipush 7, 2) := by decide +kernel
theorem d_Raw_between_105 : decode b_Raw_between 105 = .ok (.iconst 0, 1) := by decide +kernel
theorem d_Raw_between_106 : decode b_Raw_between 106 = .ok (.invokevirtual 56, 3) := by decide +kernel
theorem d_Raw_between_109 : decode b_Raw_between 109 = .ok (.return_, 1) := by decide +kernel
theorem q_Raw_between : px_y y_Raw_between 5 := by unfold px_y; decide +kernel
set_option maxHeartbeats 4000000 in
set_option maxRecDepth 100000 in
theorem c_Raw_between (l : Launch) (D : va_G) (cs : Nat → ClassId) (h : Nat) (r : Nat → Nat) (g : Nat → Nat → Option Nat) (o2 : Option Nat) (o4 : Option Nat) (f : Nat → Int32) (a : Nat → Nat → Int32) (p0 p1 p2 p3 p4 : Int32)  (g0 : (f 14).toInt = 0) : MetV l y_Raw_between b_Raw_between 6 D cs 2 70 (0) (0) [.ref h, .int p0, .int p1, .int p2, .int p3, .int p4] [wd_Raw cs h r (fun k => if k = 2 then o2 else if k = 4 then o4 else none) f a g] (fun _ => True) (fun ps => ∃ (f' : Nat → Int32) (a' : Nat → Nat → Int32), (ps = [wd_Raw cs h r (fun k => if k = 2 then o2 else if k = 4 then o4 else none) f' a' g]) ∧ ((f' 3).toInt = (f 3).toInt) ∧ ((f' 7).toInt = (f 7).toInt) ∧ ((f' 8).toInt = (f 8).toInt) ∧ ((f' 10).toInt = (f 10).toInt) ∧ ((f' 13).toInt = (f 13).toInt) ∧ ((f' 14).toInt = 0)) := by
  refine px_enter (by decide) (Nat.le_of_ble_eq_true rfl) ?_
  intro p e s m below meth c A ls hAe S hr hlk hnm hA hT hX hw hl
  have hl : lv_has ls 6 [(0, .ref h), (1, .int p0), (2, .int p1), (3, .int p2), (4, .int p3), (5, .int p4)] := hl
  have lp0 := Int32.le_toInt p0
  have up0 := Int32.toInt_lt p0
  have lp1 := Int32.le_toInt p1
  have up1 := Int32.toInt_lt p1
  have lp2 := Int32.le_toInt p2
  have up2 := Int32.toInt_lt p2
  have lp3 := Int32.le_toInt p3
  have up3 := Int32.toInt_lt p3
  have lp4 := Int32.le_toInt p4
  have up4 := Int32.toInt_lt p4
  have cst0 : (0 : Int32).toInt = 0 := rfl
  have cst1 : (1 : Int32).toInt = 1 := rfl
  have cst4 : (4 : Int32).toInt = 4 := rfl
  have cst5 : (5 : Int32).toInt = 5 := rfl
  have cst7 : (7 : Int32).toInt = 7 := rfl
  have cst32 : (32 : Int32).toInt = 32 := rfl
  refine lv_iload_n S.x S.b d_Raw_between_0 rfl (lv_at hl 1 rfl) ?_
  refine lv_iconst (v := 1) S.x S.b d_Raw_between_1 (by decide) ?_
  refine lv_icmp_ne (tgt := 37) S.x S.b d_Raw_between_2 (by decide) (fun c1 => ?_) (fun c1 => ?_)
  · have nc1 : ¬ p0.toInt = (1 : Int) := mt (i_eq (x := p0) (y := 1)).mpr c1
    refine lv_iload_n S.x S.b d_Raw_between_37 rfl (lv_at hl 1 rfl) ?_
    refine lv_bipush (v := 32) S.x S.b d_Raw_between_38 (by decide) ?_
    refine lv_icmp_ne (tgt := 60) S.x S.b d_Raw_between_40 (by decide) (fun c2 => ?_) (fun c2 => ?_)
    · have nc2 : ¬ p0.toInt = (32 : Int) := mt (i_eq (x := p0) (y := 32)).mpr c2
      refine lv_iload_n S.x S.b d_Raw_between_60 rfl (lv_at hl 1 rfl) ?_
      refine lv_if_eq (tgt := 75) S.x S.b d_Raw_between_61 (by decide) (fun c3 => ?_) (fun c3 => ?_)
      · have nc3 : p0.toInt = (0 : Int) := (i_eq (x := p0) (y := 0)).mp c3
        refine lv_aload_n S.x S.b d_Raw_between_75 rfl (lv_at hl 0 rfl) ?_
        refine lv_iload_n S.x S.b d_Raw_between_76 rfl (lv_at hl 2 rfl) ?_
        refine lv_iload_n S.x S.b d_Raw_between_77 rfl (lv_at hl 3 rfl) ?_
        refine lv_iload S.x S.b d_Raw_between_78 (lv_at hl 4 rfl) ?_
        refine lv_iload S.x S.b d_Raw_between_80 (lv_at hl 5 rfl) ?_
        refine lv_iload_n S.x S.b d_Raw_between_82 rfl (lv_at hl 1 rfl) ?_
        refine lv_bipush (v := 32) S.x S.b d_Raw_between_83 (by decide) ?_
        refine lv_icmp_ne (tgt := 92) S.x S.b d_Raw_between_85 (by decide) (fun c4 => ?_) (fun c4 => ?_)
        · have nc4 : ¬ p0.toInt = (32 : Int) := mt (i_eq (x := p0) (y := 32)).mpr c4
          refine lv_iconst (v := 0) S.x S.b d_Raw_between_92 (by decide) ?_
          refine px_calli (pr := [wd_Raw cs h r (fun k => if k = 2 then o2 else if k = 4 then o4 else none) f a g]) (px_runS (As := [.int p2, .int p3, .int p4, .int 0]) (rest := [.int p1, .ref h]) S (c_Raw_basic l D cs  p2 p3 p4 0   _) hT (pr := [wd_Raw cs h r (fun k => if k = 2 then o2 else if k = 4 then o4 else none) f a g]) (pcs := []) hw px_X.tt m8_222 m8_220 m8_221 m1_34 q_Raw_basic ⟨Nat.le_of_ble_eq_true rfl, Nat.le_of_ble_eq_true rfl⟩ hl.1 rfl (Nat.le_of_ble_eq_true rfl) d_Raw_between_93 ⟨Nat.le_of_ble_eq_true rfl, Nat.le_of_ble_eq_true rfl⟩) hw hA (fun v6 p5 H locs hp5 hw => ?_)
          subst hp5
          have lv6 := Int32.le_toInt v6
          have uv6 := Int32.toInt_lt v6
          refine px_callv (pr := []) (px_runV (As := [.int p1, .int v6]) (rest := []) S (c_Raw_setRegister l D cs h r g o2 o4 f a p1 v6   _) hT (pr := []) (pcs := [wd_Raw cs h r (fun k => if k = 2 then o2 else if k = 4 then o4 else none) f a g]) hw px_X.tt (px_recv hT hw 0 0 rfl rfl rfl) m8_181 m8_178 m8_180 ms_6_5 m1_34 q_Raw_setRegister ⟨Nat.le_of_ble_eq_true rfl, Nat.le_of_ble_eq_true rfl⟩ hl.1 rfl (Nat.le_of_ble_eq_true rfl) d_Raw_between_96 ⟨Nat.le_of_ble_eq_true rfl, Nat.le_of_ble_eq_true rfl⟩) hw hA (fun p9 H locs hp9 hw => ?_)
          obtain ⟨f7, a8, rfl, e11, e12, e13, e14, e15, e16, e17⟩ := hp9
          have e11 : (f7 3).toInt = (f 3).toInt := e11
          have e12 : (f7 7).toInt = (f 7).toInt := e12
          have e13 : (f7 8).toInt = (f 8).toInt := e13
          have e14 : (f7 10).toInt = (f 10).toInt := e14
          have e15 : (f7 13).toInt = (f 13).toInt := e15
          have e16 : (f7 14).toInt = (f 14).toInt := e16
          have e17 : (f7 11).toInt = (f 11).toInt := e17
          refine lv_goto (tgt := 109) S.x S.b d_Raw_between_99 (by decide) ?_
          first | exact px_vret S hr hlk hAe hw (Nat.le_of_ble_eq_true rfl) (Nat.le_of_ble_eq_true rfl) (⟨f7, a8, rfl, (show (f7 3).toInt = (f 3).toInt from e11), (show (f7 7).toInt = (f 7).toInt from e12), (show (f7 8).toInt = (f 8).toInt from e13), (show (f7 10).toInt = (f 10).toInt from e14), (show (f7 13).toInt = (f 13).toInt from e15), (show (f7 14).toInt = 0 from (oz_4193540c58 e16 g0))⟩) d_Raw_between_109 | exact px_vret S hr hlk hAe hw (Nat.le_of_ble_eq_true rfl) (Nat.le_of_ble_eq_true rfl) (⟨f7, a8, rfl, (show (f7 3).toInt = (f 3).toInt from by first | exact e11 | omega), (show (f7 7).toInt = (f 7).toInt from by first | exact e12 | omega), (show (f7 8).toInt = (f 8).toInt from by first | exact e13 | omega), (show (f7 10).toInt = (f 10).toInt from by first | exact e14 | omega), (show (f7 13).toInt = (f 13).toInt from by first | exact e15 | omega), (show (f7 14).toInt = 0 from by first | exact oz_4193540c58 e16 g0 | omega)⟩) d_Raw_between_109
        · have nc4 : p0.toInt = (32 : Int) := (i_eq (x := p0) (y := 32)).mp c4
          refine lv_iconst (v := 1) S.x S.b d_Raw_between_88 (by decide) ?_
          refine lv_goto (tgt := 93) S.x S.b d_Raw_between_89 (by decide) ?_
          refine px_calli (pr := [wd_Raw cs h r (fun k => if k = 2 then o2 else if k = 4 then o4 else none) f a g]) (px_runS (As := [.int p2, .int p3, .int p4, .int 1]) (rest := [.int p1, .ref h]) S (c_Raw_basic l D cs  p2 p3 p4 1   _) hT (pr := [wd_Raw cs h r (fun k => if k = 2 then o2 else if k = 4 then o4 else none) f a g]) (pcs := []) hw px_X.tt m8_222 m8_220 m8_221 m1_34 q_Raw_basic ⟨Nat.le_of_ble_eq_true rfl, Nat.le_of_ble_eq_true rfl⟩ hl.1 rfl (Nat.le_of_ble_eq_true rfl) d_Raw_between_93 ⟨Nat.le_of_ble_eq_true rfl, Nat.le_of_ble_eq_true rfl⟩) hw hA (fun v19 p18 H locs hp18 hw => ?_)
          subst hp18
          have lv19 := Int32.le_toInt v19
          have uv19 := Int32.toInt_lt v19
          refine px_callv (pr := []) (px_runV (As := [.int p1, .int v19]) (rest := []) S (c_Raw_setRegister l D cs h r g o2 o4 f a p1 v19   _) hT (pr := []) (pcs := [wd_Raw cs h r (fun k => if k = 2 then o2 else if k = 4 then o4 else none) f a g]) hw px_X.tt (px_recv hT hw 0 0 rfl rfl rfl) m8_181 m8_178 m8_180 ms_6_5 m1_34 q_Raw_setRegister ⟨Nat.le_of_ble_eq_true rfl, Nat.le_of_ble_eq_true rfl⟩ hl.1 rfl (Nat.le_of_ble_eq_true rfl) d_Raw_between_96 ⟨Nat.le_of_ble_eq_true rfl, Nat.le_of_ble_eq_true rfl⟩) hw hA (fun p22 H locs hp22 hw => ?_)
          obtain ⟨f20, a21, rfl, e24, e25, e26, e27, e28, e29, e30⟩ := hp22
          have e24 : (f20 3).toInt = (f 3).toInt := e24
          have e25 : (f20 7).toInt = (f 7).toInt := e25
          have e26 : (f20 8).toInt = (f 8).toInt := e26
          have e27 : (f20 10).toInt = (f 10).toInt := e27
          have e28 : (f20 13).toInt = (f 13).toInt := e28
          have e29 : (f20 14).toInt = (f 14).toInt := e29
          have e30 : (f20 11).toInt = (f 11).toInt := e30
          refine lv_goto (tgt := 109) S.x S.b d_Raw_between_99 (by decide) ?_
          first | exact px_vret S hr hlk hAe hw (Nat.le_of_ble_eq_true rfl) (Nat.le_of_ble_eq_true rfl) (⟨f20, a21, rfl, (show (f20 3).toInt = (f 3).toInt from e24), (show (f20 7).toInt = (f 7).toInt from e25), (show (f20 8).toInt = (f 8).toInt from e26), (show (f20 10).toInt = (f 10).toInt from e27), (show (f20 13).toInt = (f 13).toInt from e28), (show (f20 14).toInt = 0 from (oz_4193540c58 e29 g0))⟩) d_Raw_between_109 | exact px_vret S hr hlk hAe hw (Nat.le_of_ble_eq_true rfl) (Nat.le_of_ble_eq_true rfl) (⟨f20, a21, rfl, (show (f20 3).toInt = (f 3).toInt from by first | exact e24 | omega), (show (f20 7).toInt = (f 7).toInt from by first | exact e25 | omega), (show (f20 8).toInt = (f 8).toInt from by first | exact e26 | omega), (show (f20 10).toInt = (f 10).toInt from by first | exact e27 | omega), (show (f20 13).toInt = (f 13).toInt from by first | exact e28 | omega), (show (f20 14).toInt = 0 from by first | exact oz_4193540c58 e29 g0 | omega)⟩) d_Raw_between_109
      · have nc3 : ¬ p0.toInt = (0 : Int) := mt (i_eq (x := p0) (y := 0)).mpr c3
        refine lv_iload_n S.x S.b d_Raw_between_64 rfl (lv_at hl 1 rfl) ?_
        refine lv_bipush (v := 32) S.x S.b d_Raw_between_65 (by decide) ?_
        refine lv_icmp_ne (tgt := 102) S.x S.b d_Raw_between_67 (by decide) (fun c31 => ?_) (fun c31 => ?_)
        · have nc31 : ¬ p0.toInt = (32 : Int) := mt (i_eq (x := p0) (y := 32)).mpr c31
          refine lv_aload_n S.x S.b d_Raw_between_102 rfl (lv_at hl 0 rfl) ?_
          refine lv_bipush (v := 7) S.x S.b d_Raw_between_103 (by decide) ?_
          refine lv_iconst (v := 0) S.x S.b d_Raw_between_105 (by decide) ?_
          refine px_callv (pr := []) (px_runU (As := [.int 7, .int 0]) (rest := []) S (c_finish_Raw l D cs h r g o2 o4 f a 7 0   _) hT (pr := []) (pcs := [wd_Raw cs h r (fun k => if k = 2 then o2 else if k = 4 then o4 else none) f a g]) hw px_X.tt (C := "HomeSystem$RawProcess") (x := ⟨"HomeSystem$RawProcess", "finish", "(II)V"⟩) (px_recv hT hw 0 0 rfl rfl rfl) m8_89 m8_170 m8_171 m8_85 m8_173 m1_33 rfl q_HomeSystem_AnyProcess_finish ⟨Nat.le_of_ble_eq_true rfl, Nat.le_of_ble_eq_true rfl⟩ hl.1 rfl (Nat.le_of_ble_eq_true rfl) d_Raw_between_106 ⟨Nat.le_of_ble_eq_true rfl, Nat.le_of_ble_eq_true rfl⟩) hw hA (fun p34 H locs hp34 hw => ?_)
          obtain ⟨f32, a33, rfl, e36, e37, e38, e39, e40, e41, e42⟩ := hp34
          have e36 : (f32 3).toInt = (f 3).toInt := e36
          have e37 : (f32 7).toInt = (f 7).toInt := e37
          have e38 : (f32 8).toInt = (f 8).toInt := e38
          have e39 : (f32 10).toInt = (f 10).toInt := e39
          have e40 : (f32 13).toInt = (f 13).toInt := e40
          have e41 : (f32 14).toInt = 0 := e41
          have e42 : (f32 11).toInt = (7 : Int) := e42
          first | exact px_vret S hr hlk hAe hw (Nat.le_of_ble_eq_true rfl) (Nat.le_of_ble_eq_true rfl) (⟨f32, a33, rfl, (show (f32 3).toInt = (f 3).toInt from e36), (show (f32 7).toInt = (f 7).toInt from e37), (show (f32 8).toInt = (f 8).toInt from e38), (show (f32 10).toInt = (f 10).toInt from e39), (show (f32 13).toInt = (f 13).toInt from e40), (show (f32 14).toInt = 0 from e41)⟩) d_Raw_between_109 | exact px_vret S hr hlk hAe hw (Nat.le_of_ble_eq_true rfl) (Nat.le_of_ble_eq_true rfl) (⟨f32, a33, rfl, (show (f32 3).toInt = (f 3).toInt from by first | exact e36 | omega), (show (f32 7).toInt = (f 7).toInt from by first | exact e37 | omega), (show (f32 8).toInt = (f 8).toInt from by first | exact e38 | omega), (show (f32 10).toInt = (f 10).toInt from by first | exact e39 | omega), (show (f32 13).toInt = (f 13).toInt from by first | exact e40 | omega), (show (f32 14).toInt = 0 from by first | exact e41 | omega)⟩) d_Raw_between_109
        · have nc31 : p0.toInt = (32 : Int) := (i_eq (x := p0) (y := 32)).mp c31
          refine lv_iload_n S.x S.b d_Raw_between_70 rfl (lv_at hl 3 rfl) ?_
          refine lv_iconst (v := 5) S.x S.b d_Raw_between_71 (by decide) ?_
          refine lv_icmp_ne (tgt := 102) S.x S.b d_Raw_between_72 (by decide) (fun c43 => ?_) (fun c43 => ?_)
          · have nc43 : ¬ p2.toInt = (5 : Int) := mt (i_eq (x := p2) (y := 5)).mpr c43
            refine lv_aload_n S.x S.b d_Raw_between_102 rfl (lv_at hl 0 rfl) ?_
            refine lv_bipush (v := 7) S.x S.b d_Raw_between_103 (by decide) ?_
            refine lv_iconst (v := 0) S.x S.b d_Raw_between_105 (by decide) ?_
            refine px_callv (pr := []) (px_runU (As := [.int 7, .int 0]) (rest := []) S (c_finish_Raw l D cs h r g o2 o4 f a 7 0   _) hT (pr := []) (pcs := [wd_Raw cs h r (fun k => if k = 2 then o2 else if k = 4 then o4 else none) f a g]) hw px_X.tt (C := "HomeSystem$RawProcess") (x := ⟨"HomeSystem$RawProcess", "finish", "(II)V"⟩) (px_recv hT hw 0 0 rfl rfl rfl) m8_89 m8_170 m8_171 m8_85 m8_173 m1_33 rfl q_HomeSystem_AnyProcess_finish ⟨Nat.le_of_ble_eq_true rfl, Nat.le_of_ble_eq_true rfl⟩ hl.1 rfl (Nat.le_of_ble_eq_true rfl) d_Raw_between_106 ⟨Nat.le_of_ble_eq_true rfl, Nat.le_of_ble_eq_true rfl⟩) hw hA (fun p46 H locs hp46 hw => ?_)
            obtain ⟨f44, a45, rfl, e48, e49, e50, e51, e52, e53, e54⟩ := hp46
            have e48 : (f44 3).toInt = (f 3).toInt := e48
            have e49 : (f44 7).toInt = (f 7).toInt := e49
            have e50 : (f44 8).toInt = (f 8).toInt := e50
            have e51 : (f44 10).toInt = (f 10).toInt := e51
            have e52 : (f44 13).toInt = (f 13).toInt := e52
            have e53 : (f44 14).toInt = 0 := e53
            have e54 : (f44 11).toInt = (7 : Int) := e54
            first | exact px_vret S hr hlk hAe hw (Nat.le_of_ble_eq_true rfl) (Nat.le_of_ble_eq_true rfl) (⟨f44, a45, rfl, (show (f44 3).toInt = (f 3).toInt from e48), (show (f44 7).toInt = (f 7).toInt from e49), (show (f44 8).toInt = (f 8).toInt from e50), (show (f44 10).toInt = (f 10).toInt from e51), (show (f44 13).toInt = (f 13).toInt from e52), (show (f44 14).toInt = 0 from e53)⟩) d_Raw_between_109 | exact px_vret S hr hlk hAe hw (Nat.le_of_ble_eq_true rfl) (Nat.le_of_ble_eq_true rfl) (⟨f44, a45, rfl, (show (f44 3).toInt = (f 3).toInt from by first | exact e48 | omega), (show (f44 7).toInt = (f 7).toInt from by first | exact e49 | omega), (show (f44 8).toInt = (f 8).toInt from by first | exact e50 | omega), (show (f44 10).toInt = (f 10).toInt from by first | exact e51 | omega), (show (f44 13).toInt = (f 13).toInt from by first | exact e52 | omega), (show (f44 14).toInt = 0 from by first | exact e53 | omega)⟩) d_Raw_between_109
          · have nc43 : p2.toInt = (5 : Int) := (i_eq (x := p2) (y := 5)).mp c43
            refine lv_aload_n S.x S.b d_Raw_between_75 rfl (lv_at hl 0 rfl) ?_
            refine lv_iload_n S.x S.b d_Raw_between_76 rfl (lv_at hl 2 rfl) ?_
            refine lv_iload_n S.x S.b d_Raw_between_77 rfl (lv_at hl 3 rfl) ?_
            refine lv_iload S.x S.b d_Raw_between_78 (lv_at hl 4 rfl) ?_
            refine lv_iload S.x S.b d_Raw_between_80 (lv_at hl 5 rfl) ?_
            refine lv_iload_n S.x S.b d_Raw_between_82 rfl (lv_at hl 1 rfl) ?_
            refine lv_bipush (v := 32) S.x S.b d_Raw_between_83 (by decide) ?_
            refine lv_icmp_ne (tgt := 92) S.x S.b d_Raw_between_85 (by decide) (fun c55 => ?_) (fun c55 => ?_)
            · have nc55 : ¬ p0.toInt = (32 : Int) := mt (i_eq (x := p0) (y := 32)).mpr c55
              refine lv_iconst (v := 0) S.x S.b d_Raw_between_92 (by decide) ?_
              refine px_calli (pr := [wd_Raw cs h r (fun k => if k = 2 then o2 else if k = 4 then o4 else none) f a g]) (px_runS (As := [.int p2, .int p3, .int p4, .int 0]) (rest := [.int p1, .ref h]) S (c_Raw_basic l D cs  p2 p3 p4 0   _) hT (pr := [wd_Raw cs h r (fun k => if k = 2 then o2 else if k = 4 then o4 else none) f a g]) (pcs := []) hw px_X.tt m8_222 m8_220 m8_221 m1_34 q_Raw_basic ⟨Nat.le_of_ble_eq_true rfl, Nat.le_of_ble_eq_true rfl⟩ hl.1 rfl (Nat.le_of_ble_eq_true rfl) d_Raw_between_93 ⟨Nat.le_of_ble_eq_true rfl, Nat.le_of_ble_eq_true rfl⟩) hw hA (fun v57 p56 H locs hp56 hw => ?_)
              subst hp56
              have lv57 := Int32.le_toInt v57
              have uv57 := Int32.toInt_lt v57
              refine px_callv (pr := []) (px_runV (As := [.int p1, .int v57]) (rest := []) S (c_Raw_setRegister l D cs h r g o2 o4 f a p1 v57   _) hT (pr := []) (pcs := [wd_Raw cs h r (fun k => if k = 2 then o2 else if k = 4 then o4 else none) f a g]) hw px_X.tt (px_recv hT hw 0 0 rfl rfl rfl) m8_181 m8_178 m8_180 ms_6_5 m1_34 q_Raw_setRegister ⟨Nat.le_of_ble_eq_true rfl, Nat.le_of_ble_eq_true rfl⟩ hl.1 rfl (Nat.le_of_ble_eq_true rfl) d_Raw_between_96 ⟨Nat.le_of_ble_eq_true rfl, Nat.le_of_ble_eq_true rfl⟩) hw hA (fun p60 H locs hp60 hw => ?_)
              obtain ⟨f58, a59, rfl, e62, e63, e64, e65, e66, e67, e68⟩ := hp60
              have e62 : (f58 3).toInt = (f 3).toInt := e62
              have e63 : (f58 7).toInt = (f 7).toInt := e63
              have e64 : (f58 8).toInt = (f 8).toInt := e64
              have e65 : (f58 10).toInt = (f 10).toInt := e65
              have e66 : (f58 13).toInt = (f 13).toInt := e66
              have e67 : (f58 14).toInt = (f 14).toInt := e67
              have e68 : (f58 11).toInt = (f 11).toInt := e68
              refine lv_goto (tgt := 109) S.x S.b d_Raw_between_99 (by decide) ?_
              first | exact px_vret S hr hlk hAe hw (Nat.le_of_ble_eq_true rfl) (Nat.le_of_ble_eq_true rfl) (⟨f58, a59, rfl, (show (f58 3).toInt = (f 3).toInt from e62), (show (f58 7).toInt = (f 7).toInt from e63), (show (f58 8).toInt = (f 8).toInt from e64), (show (f58 10).toInt = (f 10).toInt from e65), (show (f58 13).toInt = (f 13).toInt from e66), (show (f58 14).toInt = 0 from (oz_4193540c58 e67 g0))⟩) d_Raw_between_109 | exact px_vret S hr hlk hAe hw (Nat.le_of_ble_eq_true rfl) (Nat.le_of_ble_eq_true rfl) (⟨f58, a59, rfl, (show (f58 3).toInt = (f 3).toInt from by first | exact e62 | omega), (show (f58 7).toInt = (f 7).toInt from by first | exact e63 | omega), (show (f58 8).toInt = (f 8).toInt from by first | exact e64 | omega), (show (f58 10).toInt = (f 10).toInt from by first | exact e65 | omega), (show (f58 13).toInt = (f 13).toInt from by first | exact e66 | omega), (show (f58 14).toInt = 0 from by first | exact oz_4193540c58 e67 g0 | omega)⟩) d_Raw_between_109
            · have nc55 : p0.toInt = (32 : Int) := (i_eq (x := p0) (y := 32)).mp c55
              refine lv_iconst (v := 1) S.x S.b d_Raw_between_88 (by decide) ?_
              refine lv_goto (tgt := 93) S.x S.b d_Raw_between_89 (by decide) ?_
              refine px_calli (pr := [wd_Raw cs h r (fun k => if k = 2 then o2 else if k = 4 then o4 else none) f a g]) (px_runS (As := [.int p2, .int p3, .int p4, .int 1]) (rest := [.int p1, .ref h]) S (c_Raw_basic l D cs  p2 p3 p4 1   _) hT (pr := [wd_Raw cs h r (fun k => if k = 2 then o2 else if k = 4 then o4 else none) f a g]) (pcs := []) hw px_X.tt m8_222 m8_220 m8_221 m1_34 q_Raw_basic ⟨Nat.le_of_ble_eq_true rfl, Nat.le_of_ble_eq_true rfl⟩ hl.1 rfl (Nat.le_of_ble_eq_true rfl) d_Raw_between_93 ⟨Nat.le_of_ble_eq_true rfl, Nat.le_of_ble_eq_true rfl⟩) hw hA (fun v70 p69 H locs hp69 hw => ?_)
              subst hp69
              have lv70 := Int32.le_toInt v70
              have uv70 := Int32.toInt_lt v70
              refine px_callv (pr := []) (px_runV (As := [.int p1, .int v70]) (rest := []) S (c_Raw_setRegister l D cs h r g o2 o4 f a p1 v70   _) hT (pr := []) (pcs := [wd_Raw cs h r (fun k => if k = 2 then o2 else if k = 4 then o4 else none) f a g]) hw px_X.tt (px_recv hT hw 0 0 rfl rfl rfl) m8_181 m8_178 m8_180 ms_6_5 m1_34 q_Raw_setRegister ⟨Nat.le_of_ble_eq_true rfl, Nat.le_of_ble_eq_true rfl⟩ hl.1 rfl (Nat.le_of_ble_eq_true rfl) d_Raw_between_96 ⟨Nat.le_of_ble_eq_true rfl, Nat.le_of_ble_eq_true rfl⟩) hw hA (fun p73 H locs hp73 hw => ?_)
              obtain ⟨f71, a72, rfl, e75, e76, e77, e78, e79, e80, e81⟩ := hp73
              have e75 : (f71 3).toInt = (f 3).toInt := e75
              have e76 : (f71 7).toInt = (f 7).toInt := e76
              have e77 : (f71 8).toInt = (f 8).toInt := e77
              have e78 : (f71 10).toInt = (f 10).toInt := e78
              have e79 : (f71 13).toInt = (f 13).toInt := e79
              have e80 : (f71 14).toInt = (f 14).toInt := e80
              have e81 : (f71 11).toInt = (f 11).toInt := e81
              refine lv_goto (tgt := 109) S.x S.b d_Raw_between_99 (by decide) ?_
              first | exact px_vret S hr hlk hAe hw (Nat.le_of_ble_eq_true rfl) (Nat.le_of_ble_eq_true rfl) (⟨f71, a72, rfl, (show (f71 3).toInt = (f 3).toInt from e75), (show (f71 7).toInt = (f 7).toInt from e76), (show (f71 8).toInt = (f 8).toInt from e77), (show (f71 10).toInt = (f 10).toInt from e78), (show (f71 13).toInt = (f 13).toInt from e79), (show (f71 14).toInt = 0 from (oz_4193540c58 e80 g0))⟩) d_Raw_between_109 | exact px_vret S hr hlk hAe hw (Nat.le_of_ble_eq_true rfl) (Nat.le_of_ble_eq_true rfl) (⟨f71, a72, rfl, (show (f71 3).toInt = (f 3).toInt from by first | exact e75 | omega), (show (f71 7).toInt = (f 7).toInt from by first | exact e76 | omega), (show (f71 8).toInt = (f 8).toInt from by first | exact e77 | omega), (show (f71 10).toInt = (f 10).toInt from by first | exact e78 | omega), (show (f71 13).toInt = (f 13).toInt from by first | exact e79 | omega), (show (f71 14).toInt = 0 from by first | exact oz_4193540c58 e80 g0 | omega)⟩) d_Raw_between_109
    · have nc2 : p0.toInt = (32 : Int) := (i_eq (x := p0) (y := 32)).mp c2
      refine lv_iload_n S.x S.b d_Raw_between_43 rfl (lv_at hl 3 rfl) ?_
      refine lv_if_ne (tgt := 60) S.x S.b d_Raw_between_44 (by decide) (fun c82 => ?_) (fun c82 => ?_)
      · have nc82 : ¬ p2.toInt = (0 : Int) := mt (i_eq (x := p2) (y := 0)).mpr c82
        refine lv_iload_n S.x S.b d_Raw_between_60 rfl (lv_at hl 1 rfl) ?_
        refine lv_if_eq (tgt := 75) S.x S.b d_Raw_between_61 (by decide) (fun c83 => ?_) (fun c83 => ?_)
        · have nc83 : p0.toInt = (0 : Int) := (i_eq (x := p0) (y := 0)).mp c83
          refine lv_aload_n S.x S.b d_Raw_between_75 rfl (lv_at hl 0 rfl) ?_
          refine lv_iload_n S.x S.b d_Raw_between_76 rfl (lv_at hl 2 rfl) ?_
          refine lv_iload_n S.x S.b d_Raw_between_77 rfl (lv_at hl 3 rfl) ?_
          refine lv_iload S.x S.b d_Raw_between_78 (lv_at hl 4 rfl) ?_
          refine lv_iload S.x S.b d_Raw_between_80 (lv_at hl 5 rfl) ?_
          refine lv_iload_n S.x S.b d_Raw_between_82 rfl (lv_at hl 1 rfl) ?_
          refine lv_bipush (v := 32) S.x S.b d_Raw_between_83 (by decide) ?_
          refine lv_icmp_ne (tgt := 92) S.x S.b d_Raw_between_85 (by decide) (fun c84 => ?_) (fun c84 => ?_)
          · have nc84 : ¬ p0.toInt = (32 : Int) := mt (i_eq (x := p0) (y := 32)).mpr c84
            refine lv_iconst (v := 0) S.x S.b d_Raw_between_92 (by decide) ?_
            refine px_calli (pr := [wd_Raw cs h r (fun k => if k = 2 then o2 else if k = 4 then o4 else none) f a g]) (px_runS (As := [.int p2, .int p3, .int p4, .int 0]) (rest := [.int p1, .ref h]) S (c_Raw_basic l D cs  p2 p3 p4 0   _) hT (pr := [wd_Raw cs h r (fun k => if k = 2 then o2 else if k = 4 then o4 else none) f a g]) (pcs := []) hw px_X.tt m8_222 m8_220 m8_221 m1_34 q_Raw_basic ⟨Nat.le_of_ble_eq_true rfl, Nat.le_of_ble_eq_true rfl⟩ hl.1 rfl (Nat.le_of_ble_eq_true rfl) d_Raw_between_93 ⟨Nat.le_of_ble_eq_true rfl, Nat.le_of_ble_eq_true rfl⟩) hw hA (fun v86 p85 H locs hp85 hw => ?_)
            subst hp85
            have lv86 := Int32.le_toInt v86
            have uv86 := Int32.toInt_lt v86
            refine px_callv (pr := []) (px_runV (As := [.int p1, .int v86]) (rest := []) S (c_Raw_setRegister l D cs h r g o2 o4 f a p1 v86   _) hT (pr := []) (pcs := [wd_Raw cs h r (fun k => if k = 2 then o2 else if k = 4 then o4 else none) f a g]) hw px_X.tt (px_recv hT hw 0 0 rfl rfl rfl) m8_181 m8_178 m8_180 ms_6_5 m1_34 q_Raw_setRegister ⟨Nat.le_of_ble_eq_true rfl, Nat.le_of_ble_eq_true rfl⟩ hl.1 rfl (Nat.le_of_ble_eq_true rfl) d_Raw_between_96 ⟨Nat.le_of_ble_eq_true rfl, Nat.le_of_ble_eq_true rfl⟩) hw hA (fun p89 H locs hp89 hw => ?_)
            obtain ⟨f87, a88, rfl, e91, e92, e93, e94, e95, e96, e97⟩ := hp89
            have e91 : (f87 3).toInt = (f 3).toInt := e91
            have e92 : (f87 7).toInt = (f 7).toInt := e92
            have e93 : (f87 8).toInt = (f 8).toInt := e93
            have e94 : (f87 10).toInt = (f 10).toInt := e94
            have e95 : (f87 13).toInt = (f 13).toInt := e95
            have e96 : (f87 14).toInt = (f 14).toInt := e96
            have e97 : (f87 11).toInt = (f 11).toInt := e97
            refine lv_goto (tgt := 109) S.x S.b d_Raw_between_99 (by decide) ?_
            first | exact px_vret S hr hlk hAe hw (Nat.le_of_ble_eq_true rfl) (Nat.le_of_ble_eq_true rfl) (⟨f87, a88, rfl, (show (f87 3).toInt = (f 3).toInt from e91), (show (f87 7).toInt = (f 7).toInt from e92), (show (f87 8).toInt = (f 8).toInt from e93), (show (f87 10).toInt = (f 10).toInt from e94), (show (f87 13).toInt = (f 13).toInt from e95), (show (f87 14).toInt = 0 from (oz_4193540c58 e96 g0))⟩) d_Raw_between_109 | exact px_vret S hr hlk hAe hw (Nat.le_of_ble_eq_true rfl) (Nat.le_of_ble_eq_true rfl) (⟨f87, a88, rfl, (show (f87 3).toInt = (f 3).toInt from by first | exact e91 | omega), (show (f87 7).toInt = (f 7).toInt from by first | exact e92 | omega), (show (f87 8).toInt = (f 8).toInt from by first | exact e93 | omega), (show (f87 10).toInt = (f 10).toInt from by first | exact e94 | omega), (show (f87 13).toInt = (f 13).toInt from by first | exact e95 | omega), (show (f87 14).toInt = 0 from by first | exact oz_4193540c58 e96 g0 | omega)⟩) d_Raw_between_109
          · have nc84 : p0.toInt = (32 : Int) := (i_eq (x := p0) (y := 32)).mp c84
            refine lv_iconst (v := 1) S.x S.b d_Raw_between_88 (by decide) ?_
            refine lv_goto (tgt := 93) S.x S.b d_Raw_between_89 (by decide) ?_
            refine px_calli (pr := [wd_Raw cs h r (fun k => if k = 2 then o2 else if k = 4 then o4 else none) f a g]) (px_runS (As := [.int p2, .int p3, .int p4, .int 1]) (rest := [.int p1, .ref h]) S (c_Raw_basic l D cs  p2 p3 p4 1   _) hT (pr := [wd_Raw cs h r (fun k => if k = 2 then o2 else if k = 4 then o4 else none) f a g]) (pcs := []) hw px_X.tt m8_222 m8_220 m8_221 m1_34 q_Raw_basic ⟨Nat.le_of_ble_eq_true rfl, Nat.le_of_ble_eq_true rfl⟩ hl.1 rfl (Nat.le_of_ble_eq_true rfl) d_Raw_between_93 ⟨Nat.le_of_ble_eq_true rfl, Nat.le_of_ble_eq_true rfl⟩) hw hA (fun v99 p98 H locs hp98 hw => ?_)
            subst hp98
            have lv99 := Int32.le_toInt v99
            have uv99 := Int32.toInt_lt v99
            refine px_callv (pr := []) (px_runV (As := [.int p1, .int v99]) (rest := []) S (c_Raw_setRegister l D cs h r g o2 o4 f a p1 v99   _) hT (pr := []) (pcs := [wd_Raw cs h r (fun k => if k = 2 then o2 else if k = 4 then o4 else none) f a g]) hw px_X.tt (px_recv hT hw 0 0 rfl rfl rfl) m8_181 m8_178 m8_180 ms_6_5 m1_34 q_Raw_setRegister ⟨Nat.le_of_ble_eq_true rfl, Nat.le_of_ble_eq_true rfl⟩ hl.1 rfl (Nat.le_of_ble_eq_true rfl) d_Raw_between_96 ⟨Nat.le_of_ble_eq_true rfl, Nat.le_of_ble_eq_true rfl⟩) hw hA (fun p102 H locs hp102 hw => ?_)
            obtain ⟨f100, a101, rfl, e104, e105, e106, e107, e108, e109, e110⟩ := hp102
            have e104 : (f100 3).toInt = (f 3).toInt := e104
            have e105 : (f100 7).toInt = (f 7).toInt := e105
            have e106 : (f100 8).toInt = (f 8).toInt := e106
            have e107 : (f100 10).toInt = (f 10).toInt := e107
            have e108 : (f100 13).toInt = (f 13).toInt := e108
            have e109 : (f100 14).toInt = (f 14).toInt := e109
            have e110 : (f100 11).toInt = (f 11).toInt := e110
            refine lv_goto (tgt := 109) S.x S.b d_Raw_between_99 (by decide) ?_
            first | exact px_vret S hr hlk hAe hw (Nat.le_of_ble_eq_true rfl) (Nat.le_of_ble_eq_true rfl) (⟨f100, a101, rfl, (show (f100 3).toInt = (f 3).toInt from e104), (show (f100 7).toInt = (f 7).toInt from e105), (show (f100 8).toInt = (f 8).toInt from e106), (show (f100 10).toInt = (f 10).toInt from e107), (show (f100 13).toInt = (f 13).toInt from e108), (show (f100 14).toInt = 0 from (oz_4193540c58 e109 g0))⟩) d_Raw_between_109 | exact px_vret S hr hlk hAe hw (Nat.le_of_ble_eq_true rfl) (Nat.le_of_ble_eq_true rfl) (⟨f100, a101, rfl, (show (f100 3).toInt = (f 3).toInt from by first | exact e104 | omega), (show (f100 7).toInt = (f 7).toInt from by first | exact e105 | omega), (show (f100 8).toInt = (f 8).toInt from by first | exact e106 | omega), (show (f100 10).toInt = (f 10).toInt from by first | exact e107 | omega), (show (f100 13).toInt = (f 13).toInt from by first | exact e108 | omega), (show (f100 14).toInt = 0 from by first | exact oz_4193540c58 e109 g0 | omega)⟩) d_Raw_between_109
        · have nc83 : ¬ p0.toInt = (0 : Int) := mt (i_eq (x := p0) (y := 0)).mpr c83
          refine lv_iload_n S.x S.b d_Raw_between_64 rfl (lv_at hl 1 rfl) ?_
          refine lv_bipush (v := 32) S.x S.b d_Raw_between_65 (by decide) ?_
          refine lv_icmp_ne (tgt := 102) S.x S.b d_Raw_between_67 (by decide) (fun c111 => ?_) (fun c111 => ?_)
          · have nc111 : ¬ p0.toInt = (32 : Int) := mt (i_eq (x := p0) (y := 32)).mpr c111
            refine lv_aload_n S.x S.b d_Raw_between_102 rfl (lv_at hl 0 rfl) ?_
            refine lv_bipush (v := 7) S.x S.b d_Raw_between_103 (by decide) ?_
            refine lv_iconst (v := 0) S.x S.b d_Raw_between_105 (by decide) ?_
            refine px_callv (pr := []) (px_runU (As := [.int 7, .int 0]) (rest := []) S (c_finish_Raw l D cs h r g o2 o4 f a 7 0   _) hT (pr := []) (pcs := [wd_Raw cs h r (fun k => if k = 2 then o2 else if k = 4 then o4 else none) f a g]) hw px_X.tt (C := "HomeSystem$RawProcess") (x := ⟨"HomeSystem$RawProcess", "finish", "(II)V"⟩) (px_recv hT hw 0 0 rfl rfl rfl) m8_89 m8_170 m8_171 m8_85 m8_173 m1_33 rfl q_HomeSystem_AnyProcess_finish ⟨Nat.le_of_ble_eq_true rfl, Nat.le_of_ble_eq_true rfl⟩ hl.1 rfl (Nat.le_of_ble_eq_true rfl) d_Raw_between_106 ⟨Nat.le_of_ble_eq_true rfl, Nat.le_of_ble_eq_true rfl⟩) hw hA (fun p114 H locs hp114 hw => ?_)
            obtain ⟨f112, a113, rfl, e116, e117, e118, e119, e120, e121, e122⟩ := hp114
            have e116 : (f112 3).toInt = (f 3).toInt := e116
            have e117 : (f112 7).toInt = (f 7).toInt := e117
            have e118 : (f112 8).toInt = (f 8).toInt := e118
            have e119 : (f112 10).toInt = (f 10).toInt := e119
            have e120 : (f112 13).toInt = (f 13).toInt := e120
            have e121 : (f112 14).toInt = 0 := e121
            have e122 : (f112 11).toInt = (7 : Int) := e122
            first | exact px_vret S hr hlk hAe hw (Nat.le_of_ble_eq_true rfl) (Nat.le_of_ble_eq_true rfl) (⟨f112, a113, rfl, (show (f112 3).toInt = (f 3).toInt from e116), (show (f112 7).toInt = (f 7).toInt from e117), (show (f112 8).toInt = (f 8).toInt from e118), (show (f112 10).toInt = (f 10).toInt from e119), (show (f112 13).toInt = (f 13).toInt from e120), (show (f112 14).toInt = 0 from e121)⟩) d_Raw_between_109 | exact px_vret S hr hlk hAe hw (Nat.le_of_ble_eq_true rfl) (Nat.le_of_ble_eq_true rfl) (⟨f112, a113, rfl, (show (f112 3).toInt = (f 3).toInt from by first | exact e116 | omega), (show (f112 7).toInt = (f 7).toInt from by first | exact e117 | omega), (show (f112 8).toInt = (f 8).toInt from by first | exact e118 | omega), (show (f112 10).toInt = (f 10).toInt from by first | exact e119 | omega), (show (f112 13).toInt = (f 13).toInt from by first | exact e120 | omega), (show (f112 14).toInt = 0 from by first | exact e121 | omega)⟩) d_Raw_between_109
          · have nc111 : p0.toInt = (32 : Int) := (i_eq (x := p0) (y := 32)).mp c111
            refine lv_iload_n S.x S.b d_Raw_between_70 rfl (lv_at hl 3 rfl) ?_
            refine lv_iconst (v := 5) S.x S.b d_Raw_between_71 (by decide) ?_
            refine lv_icmp_ne (tgt := 102) S.x S.b d_Raw_between_72 (by decide) (fun c123 => ?_) (fun c123 => ?_)
            · have nc123 : ¬ p2.toInt = (5 : Int) := mt (i_eq (x := p2) (y := 5)).mpr c123
              refine lv_aload_n S.x S.b d_Raw_between_102 rfl (lv_at hl 0 rfl) ?_
              refine lv_bipush (v := 7) S.x S.b d_Raw_between_103 (by decide) ?_
              refine lv_iconst (v := 0) S.x S.b d_Raw_between_105 (by decide) ?_
              refine px_callv (pr := []) (px_runU (As := [.int 7, .int 0]) (rest := []) S (c_finish_Raw l D cs h r g o2 o4 f a 7 0   _) hT (pr := []) (pcs := [wd_Raw cs h r (fun k => if k = 2 then o2 else if k = 4 then o4 else none) f a g]) hw px_X.tt (C := "HomeSystem$RawProcess") (x := ⟨"HomeSystem$RawProcess", "finish", "(II)V"⟩) (px_recv hT hw 0 0 rfl rfl rfl) m8_89 m8_170 m8_171 m8_85 m8_173 m1_33 rfl q_HomeSystem_AnyProcess_finish ⟨Nat.le_of_ble_eq_true rfl, Nat.le_of_ble_eq_true rfl⟩ hl.1 rfl (Nat.le_of_ble_eq_true rfl) d_Raw_between_106 ⟨Nat.le_of_ble_eq_true rfl, Nat.le_of_ble_eq_true rfl⟩) hw hA (fun p126 H locs hp126 hw => ?_)
              obtain ⟨f124, a125, rfl, e128, e129, e130, e131, e132, e133, e134⟩ := hp126
              have e128 : (f124 3).toInt = (f 3).toInt := e128
              have e129 : (f124 7).toInt = (f 7).toInt := e129
              have e130 : (f124 8).toInt = (f 8).toInt := e130
              have e131 : (f124 10).toInt = (f 10).toInt := e131
              have e132 : (f124 13).toInt = (f 13).toInt := e132
              have e133 : (f124 14).toInt = 0 := e133
              have e134 : (f124 11).toInt = (7 : Int) := e134
              first | exact px_vret S hr hlk hAe hw (Nat.le_of_ble_eq_true rfl) (Nat.le_of_ble_eq_true rfl) (⟨f124, a125, rfl, (show (f124 3).toInt = (f 3).toInt from e128), (show (f124 7).toInt = (f 7).toInt from e129), (show (f124 8).toInt = (f 8).toInt from e130), (show (f124 10).toInt = (f 10).toInt from e131), (show (f124 13).toInt = (f 13).toInt from e132), (show (f124 14).toInt = 0 from e133)⟩) d_Raw_between_109 | exact px_vret S hr hlk hAe hw (Nat.le_of_ble_eq_true rfl) (Nat.le_of_ble_eq_true rfl) (⟨f124, a125, rfl, (show (f124 3).toInt = (f 3).toInt from by first | exact e128 | omega), (show (f124 7).toInt = (f 7).toInt from by first | exact e129 | omega), (show (f124 8).toInt = (f 8).toInt from by first | exact e130 | omega), (show (f124 10).toInt = (f 10).toInt from by first | exact e131 | omega), (show (f124 13).toInt = (f 13).toInt from by first | exact e132 | omega), (show (f124 14).toInt = 0 from by first | exact e133 | omega)⟩) d_Raw_between_109
            · have nc123 : p2.toInt = (5 : Int) := (i_eq (x := p2) (y := 5)).mp c123
              refine lv_aload_n S.x S.b d_Raw_between_75 rfl (lv_at hl 0 rfl) ?_
              refine lv_iload_n S.x S.b d_Raw_between_76 rfl (lv_at hl 2 rfl) ?_
              refine lv_iload_n S.x S.b d_Raw_between_77 rfl (lv_at hl 3 rfl) ?_
              refine lv_iload S.x S.b d_Raw_between_78 (lv_at hl 4 rfl) ?_
              refine lv_iload S.x S.b d_Raw_between_80 (lv_at hl 5 rfl) ?_
              refine lv_iload_n S.x S.b d_Raw_between_82 rfl (lv_at hl 1 rfl) ?_
              refine lv_bipush (v := 32) S.x S.b d_Raw_between_83 (by decide) ?_
              refine lv_icmp_ne (tgt := 92) S.x S.b d_Raw_between_85 (by decide) (fun c135 => ?_) (fun c135 => ?_)
              · have nc135 : ¬ p0.toInt = (32 : Int) := mt (i_eq (x := p0) (y := 32)).mpr c135
                refine lv_iconst (v := 0) S.x S.b d_Raw_between_92 (by decide) ?_
                refine px_calli (pr := [wd_Raw cs h r (fun k => if k = 2 then o2 else if k = 4 then o4 else none) f a g]) (px_runS (As := [.int p2, .int p3, .int p4, .int 0]) (rest := [.int p1, .ref h]) S (c_Raw_basic l D cs  p2 p3 p4 0   _) hT (pr := [wd_Raw cs h r (fun k => if k = 2 then o2 else if k = 4 then o4 else none) f a g]) (pcs := []) hw px_X.tt m8_222 m8_220 m8_221 m1_34 q_Raw_basic ⟨Nat.le_of_ble_eq_true rfl, Nat.le_of_ble_eq_true rfl⟩ hl.1 rfl (Nat.le_of_ble_eq_true rfl) d_Raw_between_93 ⟨Nat.le_of_ble_eq_true rfl, Nat.le_of_ble_eq_true rfl⟩) hw hA (fun v137 p136 H locs hp136 hw => ?_)
                subst hp136
                have lv137 := Int32.le_toInt v137
                have uv137 := Int32.toInt_lt v137
                refine px_callv (pr := []) (px_runV (As := [.int p1, .int v137]) (rest := []) S (c_Raw_setRegister l D cs h r g o2 o4 f a p1 v137   _) hT (pr := []) (pcs := [wd_Raw cs h r (fun k => if k = 2 then o2 else if k = 4 then o4 else none) f a g]) hw px_X.tt (px_recv hT hw 0 0 rfl rfl rfl) m8_181 m8_178 m8_180 ms_6_5 m1_34 q_Raw_setRegister ⟨Nat.le_of_ble_eq_true rfl, Nat.le_of_ble_eq_true rfl⟩ hl.1 rfl (Nat.le_of_ble_eq_true rfl) d_Raw_between_96 ⟨Nat.le_of_ble_eq_true rfl, Nat.le_of_ble_eq_true rfl⟩) hw hA (fun p140 H locs hp140 hw => ?_)
                obtain ⟨f138, a139, rfl, e142, e143, e144, e145, e146, e147, e148⟩ := hp140
                have e142 : (f138 3).toInt = (f 3).toInt := e142
                have e143 : (f138 7).toInt = (f 7).toInt := e143
                have e144 : (f138 8).toInt = (f 8).toInt := e144
                have e145 : (f138 10).toInt = (f 10).toInt := e145
                have e146 : (f138 13).toInt = (f 13).toInt := e146
                have e147 : (f138 14).toInt = (f 14).toInt := e147
                have e148 : (f138 11).toInt = (f 11).toInt := e148
                refine lv_goto (tgt := 109) S.x S.b d_Raw_between_99 (by decide) ?_
                first | exact px_vret S hr hlk hAe hw (Nat.le_of_ble_eq_true rfl) (Nat.le_of_ble_eq_true rfl) (⟨f138, a139, rfl, (show (f138 3).toInt = (f 3).toInt from e142), (show (f138 7).toInt = (f 7).toInt from e143), (show (f138 8).toInt = (f 8).toInt from e144), (show (f138 10).toInt = (f 10).toInt from e145), (show (f138 13).toInt = (f 13).toInt from e146), (show (f138 14).toInt = 0 from (oz_4193540c58 e147 g0))⟩) d_Raw_between_109 | exact px_vret S hr hlk hAe hw (Nat.le_of_ble_eq_true rfl) (Nat.le_of_ble_eq_true rfl) (⟨f138, a139, rfl, (show (f138 3).toInt = (f 3).toInt from by first | exact e142 | omega), (show (f138 7).toInt = (f 7).toInt from by first | exact e143 | omega), (show (f138 8).toInt = (f 8).toInt from by first | exact e144 | omega), (show (f138 10).toInt = (f 10).toInt from by first | exact e145 | omega), (show (f138 13).toInt = (f 13).toInt from by first | exact e146 | omega), (show (f138 14).toInt = 0 from by first | exact oz_4193540c58 e147 g0 | omega)⟩) d_Raw_between_109
              · have nc135 : p0.toInt = (32 : Int) := (i_eq (x := p0) (y := 32)).mp c135
                refine lv_iconst (v := 1) S.x S.b d_Raw_between_88 (by decide) ?_
                refine lv_goto (tgt := 93) S.x S.b d_Raw_between_89 (by decide) ?_
                refine px_calli (pr := [wd_Raw cs h r (fun k => if k = 2 then o2 else if k = 4 then o4 else none) f a g]) (px_runS (As := [.int p2, .int p3, .int p4, .int 1]) (rest := [.int p1, .ref h]) S (c_Raw_basic l D cs  p2 p3 p4 1   _) hT (pr := [wd_Raw cs h r (fun k => if k = 2 then o2 else if k = 4 then o4 else none) f a g]) (pcs := []) hw px_X.tt m8_222 m8_220 m8_221 m1_34 q_Raw_basic ⟨Nat.le_of_ble_eq_true rfl, Nat.le_of_ble_eq_true rfl⟩ hl.1 rfl (Nat.le_of_ble_eq_true rfl) d_Raw_between_93 ⟨Nat.le_of_ble_eq_true rfl, Nat.le_of_ble_eq_true rfl⟩) hw hA (fun v150 p149 H locs hp149 hw => ?_)
                subst hp149
                have lv150 := Int32.le_toInt v150
                have uv150 := Int32.toInt_lt v150
                refine px_callv (pr := []) (px_runV (As := [.int p1, .int v150]) (rest := []) S (c_Raw_setRegister l D cs h r g o2 o4 f a p1 v150   _) hT (pr := []) (pcs := [wd_Raw cs h r (fun k => if k = 2 then o2 else if k = 4 then o4 else none) f a g]) hw px_X.tt (px_recv hT hw 0 0 rfl rfl rfl) m8_181 m8_178 m8_180 ms_6_5 m1_34 q_Raw_setRegister ⟨Nat.le_of_ble_eq_true rfl, Nat.le_of_ble_eq_true rfl⟩ hl.1 rfl (Nat.le_of_ble_eq_true rfl) d_Raw_between_96 ⟨Nat.le_of_ble_eq_true rfl, Nat.le_of_ble_eq_true rfl⟩) hw hA (fun p153 H locs hp153 hw => ?_)
                obtain ⟨f151, a152, rfl, e155, e156, e157, e158, e159, e160, e161⟩ := hp153
                have e155 : (f151 3).toInt = (f 3).toInt := e155
                have e156 : (f151 7).toInt = (f 7).toInt := e156
                have e157 : (f151 8).toInt = (f 8).toInt := e157
                have e158 : (f151 10).toInt = (f 10).toInt := e158
                have e159 : (f151 13).toInt = (f 13).toInt := e159
                have e160 : (f151 14).toInt = (f 14).toInt := e160
                have e161 : (f151 11).toInt = (f 11).toInt := e161
                refine lv_goto (tgt := 109) S.x S.b d_Raw_between_99 (by decide) ?_
                first | exact px_vret S hr hlk hAe hw (Nat.le_of_ble_eq_true rfl) (Nat.le_of_ble_eq_true rfl) (⟨f151, a152, rfl, (show (f151 3).toInt = (f 3).toInt from e155), (show (f151 7).toInt = (f 7).toInt from e156), (show (f151 8).toInt = (f 8).toInt from e157), (show (f151 10).toInt = (f 10).toInt from e158), (show (f151 13).toInt = (f 13).toInt from e159), (show (f151 14).toInt = 0 from (oz_4193540c58 e160 g0))⟩) d_Raw_between_109 | exact px_vret S hr hlk hAe hw (Nat.le_of_ble_eq_true rfl) (Nat.le_of_ble_eq_true rfl) (⟨f151, a152, rfl, (show (f151 3).toInt = (f 3).toInt from by first | exact e155 | omega), (show (f151 7).toInt = (f 7).toInt from by first | exact e156 | omega), (show (f151 8).toInt = (f 8).toInt from by first | exact e157 | omega), (show (f151 10).toInt = (f 10).toInt from by first | exact e158 | omega), (show (f151 13).toInt = (f 13).toInt from by first | exact e159 | omega), (show (f151 14).toInt = 0 from by first | exact oz_4193540c58 e160 g0 | omega)⟩) d_Raw_between_109
      · have nc82 : p2.toInt = (0 : Int) := (i_eq (x := p2) (y := 0)).mp c82
        refine lv_aload_n S.x S.b d_Raw_between_47 rfl (lv_at hl 0 rfl) ?_
        refine lv_iload_n S.x S.b d_Raw_between_48 rfl (lv_at hl 2 rfl) ?_
        refine lv_iload S.x S.b d_Raw_between_49 (lv_at hl 4 rfl) ?_
        refine lv_iload S.x S.b d_Raw_between_51 (lv_at hl 5 rfl) ?_
        refine lv_isub S.x S.b d_Raw_between_53 ?_
        refine lv_topi (fun z162 ez162 => ?_)
        have tz162 : z162.toInt = (p3.toInt - p4.toInt + 2147483648) % 4294967296 - 2147483648 := by rw [ez162]; exact i_sub p3 p4
        have lz162 := Int32.le_toInt z162
        have uz162 := Int32.toInt_lt z162
        refine px_callv (pr := []) (px_runV (As := [.int p1, .int z162]) (rest := []) S (c_Raw_setRegister l D cs h r g o2 o4 f a p1 z162   _) hT (pr := []) (pcs := [wd_Raw cs h r (fun k => if k = 2 then o2 else if k = 4 then o4 else none) f a g]) hw px_X.tt (px_recv hT hw 0 0 rfl rfl rfl) m8_181 m8_178 m8_180 ms_6_5 m1_34 q_Raw_setRegister ⟨Nat.le_of_ble_eq_true rfl, Nat.le_of_ble_eq_true rfl⟩ hl.1 rfl (Nat.le_of_ble_eq_true rfl) d_Raw_between_54 ⟨Nat.le_of_ble_eq_true rfl, Nat.le_of_ble_eq_true rfl⟩) hw hA (fun p165 H locs hp165 hw => ?_)
        obtain ⟨f163, a164, rfl, e167, e168, e169, e170, e171, e172, e173⟩ := hp165
        have e167 : (f163 3).toInt = (f 3).toInt := e167
        have e168 : (f163 7).toInt = (f 7).toInt := e168
        have e169 : (f163 8).toInt = (f 8).toInt := e169
        have e170 : (f163 10).toInt = (f 10).toInt := e170
        have e171 : (f163 13).toInt = (f 13).toInt := e171
        have e172 : (f163 14).toInt = (f 14).toInt := e172
        have e173 : (f163 11).toInt = (f 11).toInt := e173
        refine lv_goto (tgt := 109) S.x S.b d_Raw_between_57 (by decide) ?_
        first | exact px_vret S hr hlk hAe hw (Nat.le_of_ble_eq_true rfl) (Nat.le_of_ble_eq_true rfl) (⟨f163, a164, rfl, (show (f163 3).toInt = (f 3).toInt from e167), (show (f163 7).toInt = (f 7).toInt from e168), (show (f163 8).toInt = (f 8).toInt from e169), (show (f163 10).toInt = (f 10).toInt from e170), (show (f163 13).toInt = (f 13).toInt from e171), (show (f163 14).toInt = 0 from (oz_4193540c58 e172 g0))⟩) d_Raw_between_109 | exact px_vret S hr hlk hAe hw (Nat.le_of_ble_eq_true rfl) (Nat.le_of_ble_eq_true rfl) (⟨f163, a164, rfl, (show (f163 3).toInt = (f 3).toInt from by first | exact e167 | omega), (show (f163 7).toInt = (f 7).toInt from by first | exact e168 | omega), (show (f163 8).toInt = (f 8).toInt from by first | exact e169 | omega), (show (f163 10).toInt = (f 10).toInt from by first | exact e170 | omega), (show (f163 13).toInt = (f 13).toInt from by first | exact e171 | omega), (show (f163 14).toInt = 0 from by first | exact oz_4193540c58 e172 g0 | omega)⟩) d_Raw_between_109
  · have nc1 : p0.toInt = (1 : Int) := (i_eq (x := p0) (y := 1)).mp c1
    refine lv_aload_n S.x S.b d_Raw_between_5 rfl (lv_at hl 0 rfl) ?_
    refine lv_iload_n S.x S.b d_Raw_between_6 rfl (lv_at hl 2 rfl) ?_
    refine lv_iload_n S.x S.b d_Raw_between_7 rfl (lv_at hl 3 rfl) ?_
    refine lv_iconst (v := 4) S.x S.b d_Raw_between_8 (by decide) ?_
    refine lv_icmp_ge (tgt := 23) S.x S.b d_Raw_between_9 (by decide) (fun c174 => ?_) (fun c174 => ?_)
    · have nc174 : (4 : Int) ≤ p2.toInt := (i_le (x := 4) (y := p2)).mp c174
      refine lv_iload_n S.x S.b d_Raw_between_23 rfl (lv_at hl 3 rfl) ?_
      refine lv_iload S.x S.b d_Raw_between_24 (lv_at hl 4 rfl) ?_
      refine lv_iload S.x S.b d_Raw_between_26 (lv_at hl 5 rfl) ?_
      refine px_calli (pr := [wd_Raw cs h r (fun k => if k = 2 then o2 else if k = 4 then o4 else none) f a g]) (px_runS (As := [.int p2, .int p3, .int p4]) (rest := [.int p1, .ref h]) S (c_Raw_quotient l D cs  p2 p3 p4   _) hT (pr := [wd_Raw cs h r (fun k => if k = 2 then o2 else if k = 4 then o4 else none) f a g]) (pcs := []) hw px_X.tt m8_232 m8_230 m8_231 m1_34 q_Raw_quotient ⟨Nat.le_of_ble_eq_true rfl, Nat.le_of_ble_eq_true rfl⟩ hl.1 rfl (Nat.le_of_ble_eq_true rfl) d_Raw_between_28 ⟨Nat.le_of_ble_eq_true rfl, Nat.le_of_ble_eq_true rfl⟩) hw hA (fun v176 p175 H locs hp175 hw => ?_)
      subst hp175
      have lv176 := Int32.le_toInt v176
      have uv176 := Int32.toInt_lt v176
      refine px_callv (pr := []) (px_runV (As := [.int p1, .int v176]) (rest := []) S (c_Raw_setRegister l D cs h r g o2 o4 f a p1 v176   _) hT (pr := []) (pcs := [wd_Raw cs h r (fun k => if k = 2 then o2 else if k = 4 then o4 else none) f a g]) hw px_X.tt (px_recv hT hw 0 0 rfl rfl rfl) m8_181 m8_178 m8_180 ms_6_5 m1_34 q_Raw_setRegister ⟨Nat.le_of_ble_eq_true rfl, Nat.le_of_ble_eq_true rfl⟩ hl.1 rfl (Nat.le_of_ble_eq_true rfl) d_Raw_between_31 ⟨Nat.le_of_ble_eq_true rfl, Nat.le_of_ble_eq_true rfl⟩) hw hA (fun p179 H locs hp179 hw => ?_)
      obtain ⟨f177, a178, rfl, e181, e182, e183, e184, e185, e186, e187⟩ := hp179
      have e181 : (f177 3).toInt = (f 3).toInt := e181
      have e182 : (f177 7).toInt = (f 7).toInt := e182
      have e183 : (f177 8).toInt = (f 8).toInt := e183
      have e184 : (f177 10).toInt = (f 10).toInt := e184
      have e185 : (f177 13).toInt = (f 13).toInt := e185
      have e186 : (f177 14).toInt = (f 14).toInt := e186
      have e187 : (f177 11).toInt = (f 11).toInt := e187
      refine lv_goto (tgt := 109) S.x S.b d_Raw_between_34 (by decide) ?_
      first | exact px_vret S hr hlk hAe hw (Nat.le_of_ble_eq_true rfl) (Nat.le_of_ble_eq_true rfl) (⟨f177, a178, rfl, (show (f177 3).toInt = (f 3).toInt from e181), (show (f177 7).toInt = (f 7).toInt from e182), (show (f177 8).toInt = (f 8).toInt from e183), (show (f177 10).toInt = (f 10).toInt from e184), (show (f177 13).toInt = (f 13).toInt from e185), (show (f177 14).toInt = 0 from (oz_4193540c58 e186 g0))⟩) d_Raw_between_109 | exact px_vret S hr hlk hAe hw (Nat.le_of_ble_eq_true rfl) (Nat.le_of_ble_eq_true rfl) (⟨f177, a178, rfl, (show (f177 3).toInt = (f 3).toInt from by first | exact e181 | omega), (show (f177 7).toInt = (f 7).toInt from by first | exact e182 | omega), (show (f177 8).toInt = (f 8).toInt from by first | exact e183 | omega), (show (f177 10).toInt = (f 10).toInt from by first | exact e184 | omega), (show (f177 13).toInt = (f 13).toInt from by first | exact e185 | omega), (show (f177 14).toInt = 0 from by first | exact oz_4193540c58 e186 g0 | omega)⟩) d_Raw_between_109
    · have nc174 : ¬ (4 : Int) ≤ p2.toInt := mt (i_le (x := 4) (y := p2)).mpr c174
      refine lv_iload_n S.x S.b d_Raw_between_12 rfl (lv_at hl 3 rfl) ?_
      refine lv_iload S.x S.b d_Raw_between_13 (lv_at hl 4 rfl) ?_
      refine lv_iload S.x S.b d_Raw_between_15 (lv_at hl 5 rfl) ?_
      refine px_calli (pr := [wd_Raw cs h r (fun k => if k = 2 then o2 else if k = 4 then o4 else none) f a g]) (px_runS (As := [.int p2, .int p3, .int p4]) (rest := [.int p1, .ref h]) S (c_Raw_product l D cs  p2 p3 p4   _) hT (pr := [wd_Raw cs h r (fun k => if k = 2 then o2 else if k = 4 then o4 else none) f a g]) (pcs := []) hw px_X.tt m8_229 m8_227 m8_228 m1_34 q_Raw_product ⟨Nat.le_of_ble_eq_true rfl, Nat.le_of_ble_eq_true rfl⟩ hl.1 rfl (Nat.le_of_ble_eq_true rfl) d_Raw_between_17 ⟨Nat.le_of_ble_eq_true rfl, Nat.le_of_ble_eq_true rfl⟩) hw hA (fun v189 p188 H locs hp188 hw => ?_)
      subst hp188
      have lv189 := Int32.le_toInt v189
      have uv189 := Int32.toInt_lt v189
      refine lv_goto (tgt := 31) S.x S.b d_Raw_between_20 (by decide) ?_
      refine px_callv (pr := []) (px_runV (As := [.int p1, .int v189]) (rest := []) S (c_Raw_setRegister l D cs h r g o2 o4 f a p1 v189   _) hT (pr := []) (pcs := [wd_Raw cs h r (fun k => if k = 2 then o2 else if k = 4 then o4 else none) f a g]) hw px_X.tt (px_recv hT hw 0 0 rfl rfl rfl) m8_181 m8_178 m8_180 ms_6_5 m1_34 q_Raw_setRegister ⟨Nat.le_of_ble_eq_true rfl, Nat.le_of_ble_eq_true rfl⟩ hl.1 rfl (Nat.le_of_ble_eq_true rfl) d_Raw_between_31 ⟨Nat.le_of_ble_eq_true rfl, Nat.le_of_ble_eq_true rfl⟩) hw hA (fun p192 H locs hp192 hw => ?_)
      obtain ⟨f190, a191, rfl, e194, e195, e196, e197, e198, e199, e200⟩ := hp192
      have e194 : (f190 3).toInt = (f 3).toInt := e194
      have e195 : (f190 7).toInt = (f 7).toInt := e195
      have e196 : (f190 8).toInt = (f 8).toInt := e196
      have e197 : (f190 10).toInt = (f 10).toInt := e197
      have e198 : (f190 13).toInt = (f 13).toInt := e198
      have e199 : (f190 14).toInt = (f 14).toInt := e199
      have e200 : (f190 11).toInt = (f 11).toInt := e200
      refine lv_goto (tgt := 109) S.x S.b d_Raw_between_34 (by decide) ?_
      first | exact px_vret S hr hlk hAe hw (Nat.le_of_ble_eq_true rfl) (Nat.le_of_ble_eq_true rfl) (⟨f190, a191, rfl, (show (f190 3).toInt = (f 3).toInt from e194), (show (f190 7).toInt = (f 7).toInt from e195), (show (f190 8).toInt = (f 8).toInt from e196), (show (f190 10).toInt = (f 10).toInt from e197), (show (f190 13).toInt = (f 13).toInt from e198), (show (f190 14).toInt = 0 from (oz_4193540c58 e199 g0))⟩) d_Raw_between_109 | exact px_vret S hr hlk hAe hw (Nat.le_of_ble_eq_true rfl) (Nat.le_of_ble_eq_true rfl) (⟨f190, a191, rfl, (show (f190 3).toInt = (f 3).toInt from by first | exact e194 | omega), (show (f190 7).toInt = (f 7).toInt from by first | exact e195 | omega), (show (f190 8).toInt = (f 8).toInt from by first | exact e196 | omega), (show (f190 10).toInt = (f 10).toInt from by first | exact e197 | omega), (show (f190 13).toInt = (f 13).toInt from by first | exact e198 | omega), (show (f190 14).toInt = 0 from by first | exact oz_4193540c58 e199 g0 | omega)⟩) d_Raw_between_109
abbrev b_Raw_load : ByteArray := prog_8_method_21_code
def y_Raw_load : MethodName := ⟨"HomeSystem$RawProcess", "load", "(III)V"⟩
theorem d_Raw_load_0 : decode b_Raw_load 0 = .ok (.iconst 1, 1) := by decide +kernel
theorem d_Raw_load_1 : decode b_Raw_load 1 = .ok (.iload_n 2, 1) := by decide +kernel
theorem d_Raw_load_2 : decode b_Raw_load 2 = .ok (.iconst 3, 1) := by decide +kernel
theorem d_Raw_load_3 : decode b_Raw_load 3 = .ok (.iand, 1) := by decide +kernel
theorem d_Raw_load_4 : decode b_Raw_load 4 = .ok (.ishl, 1) := by decide +kernel
theorem d_Raw_load_5 : decode b_Raw_load 5 = .ok (.istore 4, 2) := by decide +kernel
theorem d_Raw_load_7 : decode b_Raw_load 7 = .ok (.iload_n 2, 1) := by decide +kernel
theorem d_Raw_load_8 : decode b_Raw_load 8 = .ok (.iconst 3, 1) := by decide +kernel
theorem d_Raw_load_9 : decode b_Raw_load 9 = .ok (.if_icmp .eq 31, 3) := by decide +kernel
theorem d_Raw_load_12 : decode b_Raw_load 12 = .ok (.iload_n 2, 1) := by decide +kernel
theorem d_Raw_load_13 : decode b_Raw_load 13 = .ok (.iconst 5, 1) := by decide +kernel
theorem d_Raw_load_14 : decode b_Raw_load 14 = .ok (.if_icmp .gt 26, 3) := by decide +kernel
theorem d_Raw_load_17 : decode b_Raw_load 17 = .ok (.iload_n 3, 1) := by decide +kernel
theorem d_Raw_load_18 : decode b_Raw_load 18 = .ok (.iload 4, 2) := by decide +kernel
theorem d_Raw_load_20 : decode b_Raw_load 20 = .ok (.invokestatic 146, 3) := by decide +kernel
theorem d_Raw_load_23 : decode b_Raw_load 23 = .ok (.ifCond .eq 17, 3) := by decide +kernel
theorem d_Raw_load_26 : decode b_Raw_load 26 = .ok (.iload_n 3, 1) := by decide +kernel
theorem d_Raw_load_27 : decode b_Raw_load 27 = .ok (.invokestatic 86, 3) := by decide +kernel
theorem d_Raw_load_30 : decode b_Raw_load 30 = .ok (.ifCond .ge 18, 3) := by decide +kernel
theorem d_Raw_load_33 : decode b_Raw_load 33 = .ok (.iload_n 3, 1) := by decide +kernel
theorem d_Raw_load_34 : decode b_Raw_load 34 = .ok (.invokestatic 60, 3) := by decide +kernel
theorem d_Raw_load_37 : decode b_Raw_load 37 = .ok (.ifCond .ne 11, 3) := by decide +kernel
theorem d_Raw_load_40 : decode b_Raw_load 40 = .ok (.aload_n 0, 1) := by decide +kernel
theorem d_Raw_load_41 : decode b_Raw_load 41 = .ok (.bipush 7, 2) := by decide +kernel
theorem d_Raw_load_43 : decode b_Raw_load 43 = .ok (.iconst 0, 1) := by decide +kernel
theorem d_Raw_load_44 : decode b_Raw_load 44 = .ok (.invokevirtual 56, 3) := by decide +kernel
theorem d_Raw_load_47 : decode b_Raw_load 47 = .ok (.return_, 1) := by decide +kernel
theorem d_Raw_load_48 : decode b_Raw_load 48 = .ok (.aload_n 0, 1) := by decide +kernel
theorem d_Raw_load_49 : decode b_Raw_load 49 = .ok (.iload_n 3, 1) := by decide +kernel
theorem d_Raw_load_50 : decode b_Raw_load 50 = .ok (.invokevirtual 67, 3) := by decide +kernel
theorem d_Raw_load_53 : decode b_Raw_load 53 = .ok (.bipush 8, 2) := by decide +kernel
theorem d_Raw_load_55 : decode b_Raw_load 55 = .ok (.iload_n 3, 1) := by decide +kernel
theorem d_Raw_load_56 : decode b_Raw_load 56 = .ok (.iconst 3, 1) := by decide +kernel
theorem d_Raw_load_57 : decode b_Raw_load 57 = .ok (.iand, 1) := by decide +kernel
theorem d_Raw_load_58 : decode b_Raw_load 58 = .ok (.imul, 1) := by decide +kernel
theorem d_Raw_load_59 : decode b_Raw_load 59 = .ok (.iushr, 1) := by decide +kernel
theorem d_Raw_load_60 : decode b_Raw_load 60 = .ok (.istore 5, 2) := by decide +kernel
theorem d_Raw_load_62 : decode b_Raw_load 62 = .ok (.bipush 32, 2) := by decide +kernel
theorem d_Raw_load_64 : decode b_Raw_load 64 = .ok (.bipush 8, 2) := by decide +kernel
theorem d_Raw_load_66 : decode b_Raw_load 66 = .ok (.iload 4, 2) := by decide +kernel
theorem d_Raw_load_68 : decode b_Raw_load 68 = .ok (.imul, 1) := by decide +kernel
theorem d_Raw_load_69 : decode b_Raw_load 69 = .ok (.isub, 1) := by decide +kernel
theorem d_Raw_load_70 : decode b_Raw_load 70 = .ok (.istore 6, 2) := by decide +kernel
theorem d_Raw_load_72 : decode b_Raw_load 72 = .ok (.aload_n 0, 1) := by decide +kernel
theorem d_Raw_load_73 : decode b_Raw_load 73 = .ok (.iload_n 1, 1) := by decide +kernel
theorem d_Raw_load_74 : decode b_Raw_load 74 = .ok (.iload_n 2, 1) := by decide +kernel
theorem d_Raw_load_75 : decode b_Raw_load 75 = .ok (.iconst 4, 1) := by decide +kernel
theorem d_Raw_load_76 : decode b_Raw_load 76 = .ok (.if_icmp .ge 14, 3) := by decide +kernel
theorem d_Raw_load_79 : decode b_Raw_load 79 = .ok (.iload 5, 2) := by decide +kernel
theorem d_Raw_load_81 : decode b_Raw_load 81 = .ok (.iload 6, 2) := by decide +kernel
theorem d_Raw_load_83 : decode b_Raw_load 83 = .ok (.ishl, 1) := by decide +kernel
theorem d_Raw_load_84 : decode b_Raw_load 84 = .ok (.iload 6, 2) := by decide +kernel
theorem d_Raw_load_86 : decode b_Raw_load 86 = .ok (.ishr, 1) := by decide +kernel
theorem d_Raw_load_87 : decode b_Raw_load 87 = .ok (.goto 11, 3) := by decide +kernel
theorem d_Raw_load_90 : decode b_Raw_load 90 = .ok (.iload 5, 2) := by decide +kernel
theorem d_Raw_load_92 : decode b_Raw_load 92 = .ok (.iload 6, 2) := by decide +kernel
theorem d_Raw_load_94 : decode b_Raw_load 94 = .ok (.ishl, 1) := by decide +kernel
theorem d_Raw_load_95 : decode b_Raw_load 95 = .ok (.iload 6, 2) := by decide +kernel
theorem d_Raw_load_97 : decode b_Raw_load 97 = .ok (.iushr, 1) := by decide +kernel
theorem d_Raw_load_98 : decode b_Raw_load 98 = .ok (.invokevirtual 103, 3) := by decide +kernel
theorem d_Raw_load_101 : decode b_Raw_load 101 = .ok (.return_, 1) := by decide +kernel
theorem q_Raw_load : px_y y_Raw_load 3 := by unfold px_y; decide +kernel
set_option maxHeartbeats 4000000 in
set_option maxRecDepth 100000 in
theorem c_Raw_load (l : Launch) (D : va_G) (cs : Nat → ClassId) (h : Nat) (r : Nat → Nat) (g : Nat → Nat → Option Nat) (o4 : Option Nat) (wn : Nat) (wc : Nat → Int32) (f : Nat → Int32) (a : Nat → Nat → Int32) (o2 : Option Nat) (ma : Nat → Int32) (p0 p1 p2 : Int32)  (g0 : (f 14).toInt = 0) (g1 : wn ≤ 1000000) : MgV l y_Raw_load b_Raw_load 7 D cs 2 70 ((nd o2)) ((36864 * nd o2)) [.ref h, .int p0, .int p1, .int p2] [wd_Raw cs h r (fun k => if k = 2 then o2 else if k = 4 then o4 else none) f a g, nA cs o2 36864 ma, nA cs o4 wn wc] (fun _ => True) (fun ps => ∃ (f' : Nat → Int32) (a' : Nat → Nat → Int32) (o2' : Option Nat) (ma' : Nat → Int32), (ps.1 = [wd_Raw cs h r (fun k => if k = 2 then o2' else if k = 4 then o4 else none) f' a' g, nA cs o2' 36864 ma', nA cs o4 wn wc]) ∧ ((f' 3).toInt = (f 3).toInt) ∧ ((f' 7).toInt = (f 7).toInt) ∧ ((f' 8).toInt = (f 8).toInt) ∧ ((f' 10).toInt = (f 10).toInt) ∧ ((f' 13).toInt = (f 13).toInt) ∧ ((f' 14).toInt = 0) ∧ (ps.2.1 + nd o2' ≤ nd o2) ∧ (ps.2.2 + 36864 * nd o2' ≤ 36864 * nd o2)) := by
  refine pg_enter (by decide) (Nat.le_of_ble_eq_true rfl) ?_
  intro p e s m below meth c A ls hAe S hr hlk hnm hA hT hX hw hl
  have hl : lv_has ls 7 [(0, .ref h), (1, .int p0), (2, .int p1), (3, .int p2)] := hl
  have lp0 := Int32.le_toInt p0
  have up0 := Int32.toInt_lt p0
  have lp1 := Int32.le_toInt p1
  have up1 := Int32.toInt_lt p1
  have lp2 := Int32.le_toInt p2
  have up2 := Int32.toInt_lt p2
  have cst0 : (0 : Int32).toInt = 0 := rfl
  have cst1 : (1 : Int32).toInt = 1 := rfl
  have cst3 : (3 : Int32).toInt = 3 := rfl
  have cst4 : (4 : Int32).toInt = 4 := rfl
  have cst5 : (5 : Int32).toInt = 5 := rfl
  have cst7 : (7 : Int32).toInt = 7 := rfl
  have cst8 : (8 : Int32).toInt = 8 := rfl
  have cst32 : (32 : Int32).toInt = 32 := rfl
  refine lv_iconst (v := 1) S.x S.b d_Raw_load_0 (by decide) ?_
  refine lv_iload_n S.x S.b d_Raw_load_1 rfl (lv_at hl 2 rfl) ?_
  refine lv_iconst (v := 3) S.x S.b d_Raw_load_2 (by decide) ?_
  refine lv_iand S.x S.b d_Raw_load_3 ?_
  refine lv_topi (fun z1 ez1 => ?_)
  have lz1 := Int32.le_toInt z1
  have uz1 := Int32.toInt_lt z1
  have bz1 := i_andm p1 (m := 3) 2 (by decide) (by decide)
  rw [← ez1] at bz1
  have wz1 : 0 ≤ z1.toInt ∧ z1.toInt ≤ 3 := by simp only [Nat.reducePow, Int.reducePow] at bz1; omega
  refine lv_ishl S.x S.b d_Raw_load_4 ?_
  refine lv_topi (fun z2 ez2 => ?_)
  have lz2 := Int32.le_toInt z2
  have uz2 := Int32.toInt_lt z2
  refine lv_istore (lv' := [(4, .int z2), (0, .ref h), (1, .int p0), (2, .int p1), (3, .int p2)]) S.x S.b d_Raw_load_5 hl (by decide) rfl (fun ls hl => ?_)
  refine lv_iload_n S.x S.b d_Raw_load_7 rfl (lv_at hl 3 rfl) ?_
  refine lv_iconst (v := 3) S.x S.b d_Raw_load_8 (by decide) ?_
  refine lv_icmp_eq (tgt := 40) S.x S.b d_Raw_load_9 (by decide) (fun c3 => ?_) (fun c3 => ?_)
  · have nc3 : p1.toInt = (3 : Int) := (i_eq (x := p1) (y := 3)).mp c3
    refine lv_aload_n S.x S.b d_Raw_load_40 rfl (lv_at hl 1 rfl) ?_
    refine lv_bipush (v := 7) S.x S.b d_Raw_load_41 (by decide) ?_
    refine lv_iconst (v := 0) S.x S.b d_Raw_load_43 (by decide) ?_
    have hw : pw D A s.heap _ _ [nA cs o2 36864 ma, nA cs o4 wn wc, wd_Raw cs h r (fun k => if k = 2 then o2 else if k = 4 then o4 else none) f a g] := hw.sub [1, 2, 0] rfl rfl
    first | refine px_callv (pr := [nA cs o2 36864 ma, nA cs o4 wn wc]) (px_runU (As := [.int 7, .int 0]) (rest := []) S (c_finish_Raw l D cs h r g o2 o4 f a 7 0   _) hT (pr := [nA cs o2 36864 ma, nA cs o4 wn wc]) (pcs := [wd_Raw cs h r (fun k => if k = 2 then o2 else if k = 4 then o4 else none) f a g]) hw px_X.tt (C := "HomeSystem$RawProcess") (x := ⟨"HomeSystem$RawProcess", "finish", "(II)V"⟩) (px_recv hT hw 2 0 rfl rfl rfl) m8_89 m8_170 m8_171 m8_85 m8_173 m1_33 rfl q_HomeSystem_AnyProcess_finish ⟨Nat.le_of_ble_eq_true rfl, Nat.le_of_ble_eq_true rfl⟩ hl.1 rfl (Nat.le_of_ble_eq_true rfl) d_Raw_load_44 ⟨show 0 + 0 ≤ (nd o2) from (oz_4801a4ef71), show 0 + 0 ≤ (36864 * nd o2) from (oz_26949c3f46)⟩) hw hA (fun p6 H locs hp6 hw => ?_) | refine px_callv (pr := [nA cs o2 36864 ma, nA cs o4 wn wc]) (px_runU (As := [.int 7, .int 0]) (rest := []) S (c_finish_Raw l D cs h r g o2 o4 f a 7 0   _) hT (pr := [nA cs o2 36864 ma, nA cs o4 wn wc]) (pcs := [wd_Raw cs h r (fun k => if k = 2 then o2 else if k = 4 then o4 else none) f a g]) hw px_X.tt (C := "HomeSystem$RawProcess") (x := ⟨"HomeSystem$RawProcess", "finish", "(II)V"⟩) (px_recv hT hw 2 0 rfl rfl rfl) m8_89 m8_170 m8_171 m8_85 m8_173 m1_33 rfl q_HomeSystem_AnyProcess_finish ⟨Nat.le_of_ble_eq_true rfl, Nat.le_of_ble_eq_true rfl⟩ hl.1 rfl (Nat.le_of_ble_eq_true rfl) d_Raw_load_44 ⟨show 0 + 0 ≤ (nd o2) from (by first | exact oz_4801a4ef71 | omega), show 0 + 0 ≤ (36864 * nd o2) from (by first | exact oz_26949c3f46 | omega)⟩) hw hA (fun p6 H locs hp6 hw => ?_)
    obtain ⟨f4, a5, rfl, e8, e9, e10, e11, e12, e13, e14⟩ := hp6
    have e8 : (f4 3).toInt = (f 3).toInt := e8
    have e9 : (f4 7).toInt = (f 7).toInt := e9
    have e10 : (f4 8).toInt = (f 8).toInt := e10
    have e11 : (f4 10).toInt = (f 10).toInt := e11
    have e12 : (f4 13).toInt = (f 13).toInt := e12
    have e13 : (f4 14).toInt = 0 := e13
    have e14 : (f4 11).toInt = (7 : Int) := e14
    have hw : pw D A s.heap _ _ [wd_Raw cs h r (fun k => if k = 2 then o2 else if k = 4 then o4 else none) f4 a5 g, nA cs o2 36864 ma, nA cs o4 wn wc] := hw.sub [2, 0, 1] rfl rfl
    first | exact pg_vret S hr hlk hAe hw (show 0 ≤ (nd o2) from oz_c4e42565ca) (show 0 ≤ (36864 * nd o2) from oz_5cdfddacaa) (⟨f4, a5, o2, ma, rfl, (show (f4 3).toInt = (f 3).toInt from e8), (show (f4 7).toInt = (f 7).toInt from e9), (show (f4 8).toInt = (f 8).toInt from e10), (show (f4 10).toInt = (f 10).toInt from e11), (show (f4 13).toInt = (f 13).toInt from e12), (show (f4 14).toInt = 0 from e13), (show 0 + nd o2 ≤ nd o2 from oz_d90171b0e4), (show 0 + 36864 * nd o2 ≤ 36864 * nd o2 from oz_9c92651dc9)⟩) d_Raw_load_47 | exact pg_vret S hr hlk hAe hw (show 0 ≤ (nd o2) from by first | exact oz_c4e42565ca | omega) (show 0 ≤ (36864 * nd o2) from by first | exact oz_5cdfddacaa | omega) (⟨f4, a5, o2, ma, rfl, (show (f4 3).toInt = (f 3).toInt from by first | exact e8 | omega), (show (f4 7).toInt = (f 7).toInt from by first | exact e9 | omega), (show (f4 8).toInt = (f 8).toInt from by first | exact e10 | omega), (show (f4 10).toInt = (f 10).toInt from by first | exact e11 | omega), (show (f4 13).toInt = (f 13).toInt from by first | exact e12 | omega), (show (f4 14).toInt = 0 from by first | exact e13 | omega), (show 0 + nd o2 ≤ nd o2 from by first | exact oz_d90171b0e4 | omega), (show 0 + 36864 * nd o2 ≤ 36864 * nd o2 from by first | exact oz_9c92651dc9 | omega)⟩) d_Raw_load_47
  · have nc3 : ¬ p1.toInt = (3 : Int) := mt (i_eq (x := p1) (y := 3)).mpr c3
    refine lv_iload_n S.x S.b d_Raw_load_12 rfl (lv_at hl 3 rfl) ?_
    refine lv_iconst (v := 5) S.x S.b d_Raw_load_13 (by decide) ?_
    refine lv_icmp_gt (tgt := 40) S.x S.b d_Raw_load_14 (by decide) (fun c15 => ?_) (fun c15 => ?_)
    · have nc15 : (5 : Int) < p1.toInt := (i_lt (x := 5) (y := p1)).mp c15
      refine lv_aload_n S.x S.b d_Raw_load_40 rfl (lv_at hl 1 rfl) ?_
      refine lv_bipush (v := 7) S.x S.b d_Raw_load_41 (by decide) ?_
      refine lv_iconst (v := 0) S.x S.b d_Raw_load_43 (by decide) ?_
      have hw : pw D A s.heap _ _ [nA cs o2 36864 ma, nA cs o4 wn wc, wd_Raw cs h r (fun k => if k = 2 then o2 else if k = 4 then o4 else none) f a g] := hw.sub [1, 2, 0] rfl rfl
      first | refine px_callv (pr := [nA cs o2 36864 ma, nA cs o4 wn wc]) (px_runU (As := [.int 7, .int 0]) (rest := []) S (c_finish_Raw l D cs h r g o2 o4 f a 7 0   _) hT (pr := [nA cs o2 36864 ma, nA cs o4 wn wc]) (pcs := [wd_Raw cs h r (fun k => if k = 2 then o2 else if k = 4 then o4 else none) f a g]) hw px_X.tt (C := "HomeSystem$RawProcess") (x := ⟨"HomeSystem$RawProcess", "finish", "(II)V"⟩) (px_recv hT hw 2 0 rfl rfl rfl) m8_89 m8_170 m8_171 m8_85 m8_173 m1_33 rfl q_HomeSystem_AnyProcess_finish ⟨Nat.le_of_ble_eq_true rfl, Nat.le_of_ble_eq_true rfl⟩ hl.1 rfl (Nat.le_of_ble_eq_true rfl) d_Raw_load_44 ⟨show 0 + 0 ≤ (nd o2) from (oz_4801a4ef71), show 0 + 0 ≤ (36864 * nd o2) from (oz_26949c3f46)⟩) hw hA (fun p18 H locs hp18 hw => ?_) | refine px_callv (pr := [nA cs o2 36864 ma, nA cs o4 wn wc]) (px_runU (As := [.int 7, .int 0]) (rest := []) S (c_finish_Raw l D cs h r g o2 o4 f a 7 0   _) hT (pr := [nA cs o2 36864 ma, nA cs o4 wn wc]) (pcs := [wd_Raw cs h r (fun k => if k = 2 then o2 else if k = 4 then o4 else none) f a g]) hw px_X.tt (C := "HomeSystem$RawProcess") (x := ⟨"HomeSystem$RawProcess", "finish", "(II)V"⟩) (px_recv hT hw 2 0 rfl rfl rfl) m8_89 m8_170 m8_171 m8_85 m8_173 m1_33 rfl q_HomeSystem_AnyProcess_finish ⟨Nat.le_of_ble_eq_true rfl, Nat.le_of_ble_eq_true rfl⟩ hl.1 rfl (Nat.le_of_ble_eq_true rfl) d_Raw_load_44 ⟨show 0 + 0 ≤ (nd o2) from (by first | exact oz_4801a4ef71 | omega), show 0 + 0 ≤ (36864 * nd o2) from (by first | exact oz_26949c3f46 | omega)⟩) hw hA (fun p18 H locs hp18 hw => ?_)
      obtain ⟨f16, a17, rfl, e20, e21, e22, e23, e24, e25, e26⟩ := hp18
      have e20 : (f16 3).toInt = (f 3).toInt := e20
      have e21 : (f16 7).toInt = (f 7).toInt := e21
      have e22 : (f16 8).toInt = (f 8).toInt := e22
      have e23 : (f16 10).toInt = (f 10).toInt := e23
      have e24 : (f16 13).toInt = (f 13).toInt := e24
      have e25 : (f16 14).toInt = 0 := e25
      have e26 : (f16 11).toInt = (7 : Int) := e26
      have hw : pw D A s.heap _ _ [wd_Raw cs h r (fun k => if k = 2 then o2 else if k = 4 then o4 else none) f16 a17 g, nA cs o2 36864 ma, nA cs o4 wn wc] := hw.sub [2, 0, 1] rfl rfl
      first | exact pg_vret S hr hlk hAe hw (show 0 ≤ (nd o2) from oz_c4e42565ca) (show 0 ≤ (36864 * nd o2) from oz_5cdfddacaa) (⟨f16, a17, o2, ma, rfl, (show (f16 3).toInt = (f 3).toInt from e20), (show (f16 7).toInt = (f 7).toInt from e21), (show (f16 8).toInt = (f 8).toInt from e22), (show (f16 10).toInt = (f 10).toInt from e23), (show (f16 13).toInt = (f 13).toInt from e24), (show (f16 14).toInt = 0 from e25), (show 0 + nd o2 ≤ nd o2 from oz_d90171b0e4), (show 0 + 36864 * nd o2 ≤ 36864 * nd o2 from oz_9c92651dc9)⟩) d_Raw_load_47 | exact pg_vret S hr hlk hAe hw (show 0 ≤ (nd o2) from by first | exact oz_c4e42565ca | omega) (show 0 ≤ (36864 * nd o2) from by first | exact oz_5cdfddacaa | omega) (⟨f16, a17, o2, ma, rfl, (show (f16 3).toInt = (f 3).toInt from by first | exact e20 | omega), (show (f16 7).toInt = (f 7).toInt from by first | exact e21 | omega), (show (f16 8).toInt = (f 8).toInt from by first | exact e22 | omega), (show (f16 10).toInt = (f 10).toInt from by first | exact e23 | omega), (show (f16 13).toInt = (f 13).toInt from by first | exact e24 | omega), (show (f16 14).toInt = 0 from by first | exact e25 | omega), (show 0 + nd o2 ≤ nd o2 from by first | exact oz_d90171b0e4 | omega), (show 0 + 36864 * nd o2 ≤ 36864 * nd o2 from by first | exact oz_9c92651dc9 | omega)⟩) d_Raw_load_47
    · have nc15 : ¬ (5 : Int) < p1.toInt := mt (i_lt (x := 5) (y := p1)).mpr c15
      refine lv_iload_n S.x S.b d_Raw_load_17 rfl (lv_at hl 4 rfl) ?_
      refine lv_iload S.x S.b d_Raw_load_18 (lv_at hl 0 rfl) ?_
      first | refine px_calli (pr := [wd_Raw cs h r (fun k => if k = 2 then o2 else if k = 4 then o4 else none) f a g, nA cs o2 36864 ma, nA cs o4 wn wc]) (px_runS (As := [.int p2, .int z2]) (rest := []) S (c_Raw_isAligned l D cs  p2 z2   _) hT (pr := [wd_Raw cs h r (fun k => if k = 2 then o2 else if k = 4 then o4 else none) f a g, nA cs o2 36864 ma, nA cs o4 wn wc]) (pcs := []) hw px_X.tt m8_211 m8_209 m8_210 m1_34 q_Raw_isAligned ⟨Nat.le_of_ble_eq_true rfl, Nat.le_of_ble_eq_true rfl⟩ hl.1 rfl (Nat.le_of_ble_eq_true rfl) d_Raw_load_20 ⟨show 0 + 0 ≤ (nd o2) from (oz_4801a4ef71), show 0 + 0 ≤ (36864 * nd o2) from (oz_26949c3f46)⟩) hw hA (fun v28 p27 H locs hp27 hw => ?_) | refine px_calli (pr := [wd_Raw cs h r (fun k => if k = 2 then o2 else if k = 4 then o4 else none) f a g, nA cs o2 36864 ma, nA cs o4 wn wc]) (px_runS (As := [.int p2, .int z2]) (rest := []) S (c_Raw_isAligned l D cs  p2 z2   _) hT (pr := [wd_Raw cs h r (fun k => if k = 2 then o2 else if k = 4 then o4 else none) f a g, nA cs o2 36864 ma, nA cs o4 wn wc]) (pcs := []) hw px_X.tt m8_211 m8_209 m8_210 m1_34 q_Raw_isAligned ⟨Nat.le_of_ble_eq_true rfl, Nat.le_of_ble_eq_true rfl⟩ hl.1 rfl (Nat.le_of_ble_eq_true rfl) d_Raw_load_20 ⟨show 0 + 0 ≤ (nd o2) from (by first | exact oz_4801a4ef71 | omega), show 0 + 0 ≤ (36864 * nd o2) from (by first | exact oz_26949c3f46 | omega)⟩) hw hA (fun v28 p27 H locs hp27 hw => ?_)
      obtain ⟨rfl, e29⟩ := hp27
      have e29 := z_int e29
      have lv28 := Int32.le_toInt v28
      have uv28 := Int32.toInt_lt v28
      refine lv_if_eq (tgt := 40) S.x S.b d_Raw_load_23 (by decide) (fun c30 => ?_) (fun c30 => ?_)
      · have nc30 : v28.toInt = (0 : Int) := (i_eq (x := v28) (y := 0)).mp c30
        refine lv_aload_n S.x S.b d_Raw_load_40 rfl (lv_at hl 1 rfl) ?_
        refine lv_bipush (v := 7) S.x S.b d_Raw_load_41 (by decide) ?_
        refine lv_iconst (v := 0) S.x S.b d_Raw_load_43 (by decide) ?_
        have hw : pw D A s.heap _ _ [nA cs o2 36864 ma, nA cs o4 wn wc, wd_Raw cs h r (fun k => if k = 2 then o2 else if k = 4 then o4 else none) f a g] := hw.sub [1, 2, 0] rfl rfl
        first | refine px_callv (pr := [nA cs o2 36864 ma, nA cs o4 wn wc]) (px_runU (As := [.int 7, .int 0]) (rest := []) S (c_finish_Raw l D cs h r g o2 o4 f a 7 0   _) hT (pr := [nA cs o2 36864 ma, nA cs o4 wn wc]) (pcs := [wd_Raw cs h r (fun k => if k = 2 then o2 else if k = 4 then o4 else none) f a g]) hw px_X.tt (C := "HomeSystem$RawProcess") (x := ⟨"HomeSystem$RawProcess", "finish", "(II)V"⟩) (px_recv hT hw 2 0 rfl rfl rfl) m8_89 m8_170 m8_171 m8_85 m8_173 m1_33 rfl q_HomeSystem_AnyProcess_finish ⟨Nat.le_of_ble_eq_true rfl, Nat.le_of_ble_eq_true rfl⟩ hl.1 rfl (Nat.le_of_ble_eq_true rfl) d_Raw_load_44 ⟨show 0 + 0 ≤ (nd o2) from (oz_4801a4ef71), show 0 + 0 ≤ (36864 * nd o2) from (oz_26949c3f46)⟩) hw hA (fun p33 H locs hp33 hw => ?_) | refine px_callv (pr := [nA cs o2 36864 ma, nA cs o4 wn wc]) (px_runU (As := [.int 7, .int 0]) (rest := []) S (c_finish_Raw l D cs h r g o2 o4 f a 7 0   _) hT (pr := [nA cs o2 36864 ma, nA cs o4 wn wc]) (pcs := [wd_Raw cs h r (fun k => if k = 2 then o2 else if k = 4 then o4 else none) f a g]) hw px_X.tt (C := "HomeSystem$RawProcess") (x := ⟨"HomeSystem$RawProcess", "finish", "(II)V"⟩) (px_recv hT hw 2 0 rfl rfl rfl) m8_89 m8_170 m8_171 m8_85 m8_173 m1_33 rfl q_HomeSystem_AnyProcess_finish ⟨Nat.le_of_ble_eq_true rfl, Nat.le_of_ble_eq_true rfl⟩ hl.1 rfl (Nat.le_of_ble_eq_true rfl) d_Raw_load_44 ⟨show 0 + 0 ≤ (nd o2) from (by first | exact oz_4801a4ef71 | omega), show 0 + 0 ≤ (36864 * nd o2) from (by first | exact oz_26949c3f46 | omega)⟩) hw hA (fun p33 H locs hp33 hw => ?_)
        obtain ⟨f31, a32, rfl, e35, e36, e37, e38, e39, e40, e41⟩ := hp33
        have e35 : (f31 3).toInt = (f 3).toInt := e35
        have e36 : (f31 7).toInt = (f 7).toInt := e36
        have e37 : (f31 8).toInt = (f 8).toInt := e37
        have e38 : (f31 10).toInt = (f 10).toInt := e38
        have e39 : (f31 13).toInt = (f 13).toInt := e39
        have e40 : (f31 14).toInt = 0 := e40
        have e41 : (f31 11).toInt = (7 : Int) := e41
        have hw : pw D A s.heap _ _ [wd_Raw cs h r (fun k => if k = 2 then o2 else if k = 4 then o4 else none) f31 a32 g, nA cs o2 36864 ma, nA cs o4 wn wc] := hw.sub [2, 0, 1] rfl rfl
        first | exact pg_vret S hr hlk hAe hw (show 0 ≤ (nd o2) from oz_c4e42565ca) (show 0 ≤ (36864 * nd o2) from oz_5cdfddacaa) (⟨f31, a32, o2, ma, rfl, (show (f31 3).toInt = (f 3).toInt from e35), (show (f31 7).toInt = (f 7).toInt from e36), (show (f31 8).toInt = (f 8).toInt from e37), (show (f31 10).toInt = (f 10).toInt from e38), (show (f31 13).toInt = (f 13).toInt from e39), (show (f31 14).toInt = 0 from e40), (show 0 + nd o2 ≤ nd o2 from oz_d90171b0e4), (show 0 + 36864 * nd o2 ≤ 36864 * nd o2 from oz_9c92651dc9)⟩) d_Raw_load_47 | exact pg_vret S hr hlk hAe hw (show 0 ≤ (nd o2) from by first | exact oz_c4e42565ca | omega) (show 0 ≤ (36864 * nd o2) from by first | exact oz_5cdfddacaa | omega) (⟨f31, a32, o2, ma, rfl, (show (f31 3).toInt = (f 3).toInt from by first | exact e35 | omega), (show (f31 7).toInt = (f 7).toInt from by first | exact e36 | omega), (show (f31 8).toInt = (f 8).toInt from by first | exact e37 | omega), (show (f31 10).toInt = (f 10).toInt from by first | exact e38 | omega), (show (f31 13).toInt = (f 13).toInt from by first | exact e39 | omega), (show (f31 14).toInt = 0 from by first | exact e40 | omega), (show 0 + nd o2 ≤ nd o2 from by first | exact oz_d90171b0e4 | omega), (show 0 + 36864 * nd o2 ≤ 36864 * nd o2 from by first | exact oz_9c92651dc9 | omega)⟩) d_Raw_load_47
      · have nc30 : ¬ v28.toInt = (0 : Int) := mt (i_eq (x := v28) (y := 0)).mpr c30
        refine lv_iload_n S.x S.b d_Raw_load_26 rfl (lv_at hl 4 rfl) ?_
        first | refine px_calli (pr := [wd_Raw cs h r (fun k => if k = 2 then o2 else if k = 4 then o4 else none) f a g, nA cs o2 36864 ma, nA cs o4 wn wc]) (px_runS (As := [.int p2]) (rest := []) S (c_Raw_cellAt l D cs  p2   _) hT (pr := [wd_Raw cs h r (fun k => if k = 2 then o2 else if k = 4 then o4 else none) f a g, nA cs o2 36864 ma, nA cs o4 wn wc]) (pcs := []) hw px_X.tt m8_100 m8_98 m8_99 m1_34 q_Raw_cellAt ⟨Nat.le_of_ble_eq_true rfl, Nat.le_of_ble_eq_true rfl⟩ hl.1 rfl (Nat.le_of_ble_eq_true rfl) d_Raw_load_27 ⟨show 0 + 0 ≤ (nd o2) from (oz_4801a4ef71), show 0 + 0 ≤ (36864 * nd o2) from (oz_26949c3f46)⟩) hw hA (fun v43 p42 H locs hp42 hw => ?_) | refine px_calli (pr := [wd_Raw cs h r (fun k => if k = 2 then o2 else if k = 4 then o4 else none) f a g, nA cs o2 36864 ma, nA cs o4 wn wc]) (px_runS (As := [.int p2]) (rest := []) S (c_Raw_cellAt l D cs  p2   _) hT (pr := [wd_Raw cs h r (fun k => if k = 2 then o2 else if k = 4 then o4 else none) f a g, nA cs o2 36864 ma, nA cs o4 wn wc]) (pcs := []) hw px_X.tt m8_100 m8_98 m8_99 m1_34 q_Raw_cellAt ⟨Nat.le_of_ble_eq_true rfl, Nat.le_of_ble_eq_true rfl⟩ hl.1 rfl (Nat.le_of_ble_eq_true rfl) d_Raw_load_27 ⟨show 0 + 0 ≤ (nd o2) from (by first | exact oz_4801a4ef71 | omega), show 0 + 0 ≤ (36864 * nd o2) from (by first | exact oz_26949c3f46 | omega)⟩) hw hA (fun v43 p42 H locs hp42 hw => ?_)
        obtain ⟨rfl, e44, e45⟩ := hp42
        have e44 : -1 ≤ v43.toInt := e44
        have e45 : v43.toInt ≤ 36863 := e45
        have lv43 := Int32.le_toInt v43
        have uv43 := Int32.toInt_lt v43
        refine lv_if_ge (tgt := 48) S.x S.b d_Raw_load_30 (by decide) (fun c46 => ?_) (fun c46 => ?_)
        · have nc46 : (0 : Int) ≤ v43.toInt := (i_le (x := 0) (y := v43)).mp c46
          refine lv_aload_n S.x S.b d_Raw_load_48 rfl (lv_at hl 1 rfl) ?_
          refine lv_iload_n S.x S.b d_Raw_load_49 rfl (lv_at hl 4 rfl) ?_
          first | refine px_calli (pr := []) (px_runV (As := [.int p2]) (rest := []) S (c_Raw_wordAt l D cs h r g o4 wn wc f a o2 ma p2  (show wn ≤ 1000000 from g1) _) hT (pr := []) (pcs := [wd_Raw cs h r (fun k => if k = 2 then o2 else if k = 4 then o4 else none) f a g, nA cs o2 36864 ma, nA cs o4 wn wc]) hw px_X.tt (px_recv hT hw 0 0 rfl rfl rfl) m8_139 m8_136 m8_138 ms_5_14 m1_34 q_Raw_wordAt ⟨Nat.le_of_ble_eq_true rfl, Nat.le_of_ble_eq_true rfl⟩ hl.1 rfl (Nat.le_of_ble_eq_true rfl) d_Raw_load_50 ⟨show 0 + 0 ≤ (nd o2) from (oz_4801a4ef71), show 0 + 0 ≤ (36864 * nd o2) from (oz_26949c3f46)⟩) hw hA (fun v48 p47 H locs hp47 hw => ?_) | refine px_calli (pr := []) (px_runV (As := [.int p2]) (rest := []) S (c_Raw_wordAt l D cs h r g o4 wn wc f a o2 ma p2  (show wn ≤ 1000000 from by first | exact g1 | omega) _) hT (pr := []) (pcs := [wd_Raw cs h r (fun k => if k = 2 then o2 else if k = 4 then o4 else none) f a g, nA cs o2 36864 ma, nA cs o4 wn wc]) hw px_X.tt (px_recv hT hw 0 0 rfl rfl rfl) m8_139 m8_136 m8_138 ms_5_14 m1_34 q_Raw_wordAt ⟨Nat.le_of_ble_eq_true rfl, Nat.le_of_ble_eq_true rfl⟩ hl.1 rfl (Nat.le_of_ble_eq_true rfl) d_Raw_load_50 ⟨show 0 + 0 ≤ (nd o2) from (by first | exact oz_4801a4ef71 | omega), show 0 + 0 ≤ (36864 * nd o2) from (by first | exact oz_26949c3f46 | omega)⟩) hw hA (fun v48 p47 H locs hp47 hw => ?_)
          subst hp47
          have lv48 := Int32.le_toInt v48
          have uv48 := Int32.toInt_lt v48
          refine lv_bipush (v := 8) S.x S.b d_Raw_load_53 (by decide) ?_
          refine lv_iload_n S.x S.b d_Raw_load_55 rfl (lv_at hl 4 rfl) ?_
          refine lv_iconst (v := 3) S.x S.b d_Raw_load_56 (by decide) ?_
          refine lv_iand S.x S.b d_Raw_load_57 ?_
          refine lv_topi (fun z49 ez49 => ?_)
          have lz49 := Int32.le_toInt z49
          have uz49 := Int32.toInt_lt z49
          have bz49 := i_andm p2 (m := 3) 2 (by decide) (by decide)
          rw [← ez49] at bz49
          have wz49 : 0 ≤ z49.toInt ∧ z49.toInt ≤ 3 := by simp only [Nat.reducePow, Int.reducePow] at bz49; omega
          refine lv_imul S.x S.b d_Raw_load_58 ?_
          refine lv_topi (fun z50 ez50 => ?_)
          have lz50 := Int32.le_toInt z50
          have uz50 := Int32.toInt_lt z50
          have tz50 : -2147483648 ≤ 8 * z49.toInt → 8 * z49.toInt < 2147483648 → z50.toInt = 8 * z49.toInt := by rw [ez50]; exact i_mulc 8 z49 (by decide)
          refine lv_iushr S.x S.b d_Raw_load_59 rfl ?_
          refine lv_topi (fun z51 ez51 => ?_)
          have lz51 := Int32.le_toInt z51
          have uz51 := Int32.toInt_lt z51
          refine lv_istore (lv' := [(5, .int z51), (4, .int z2), (0, .ref h), (1, .int p0), (2, .int p1), (3, .int p2)]) S.x S.b d_Raw_load_60 hl (by decide) rfl (fun ls hl => ?_)
          refine lv_bipush (v := 32) S.x S.b d_Raw_load_62 (by decide) ?_
          refine lv_bipush (v := 8) S.x S.b d_Raw_load_64 (by decide) ?_
          refine lv_iload S.x S.b d_Raw_load_66 (lv_at hl 1 rfl) ?_
          refine lv_imul S.x S.b d_Raw_load_68 ?_
          refine lv_topi (fun z52 ez52 => ?_)
          have lz52 := Int32.le_toInt z52
          have uz52 := Int32.toInt_lt z52
          have tz52 : -2147483648 ≤ 8 * z2.toInt → 8 * z2.toInt < 2147483648 → z52.toInt = 8 * z2.toInt := by rw [ez52]; exact i_mulc 8 z2 (by decide)
          refine lv_isub S.x S.b d_Raw_load_69 ?_
          refine lv_topi (fun z53 ez53 => ?_)
          have tz53 : z53.toInt = ((32 : Int) - z52.toInt + 2147483648) % 4294967296 - 2147483648 := by rw [ez53]; exact i_sub 32 z52
          have lz53 := Int32.le_toInt z53
          have uz53 := Int32.toInt_lt z53
          refine lv_istore (lv' := [(6, .int z53), (5, .int z51), (4, .int z2), (0, .ref h), (1, .int p0), (2, .int p1), (3, .int p2)]) S.x S.b d_Raw_load_70 hl (by decide) rfl (fun ls hl => ?_)
          refine lv_aload_n S.x S.b d_Raw_load_72 rfl (lv_at hl 3 rfl) ?_
          refine lv_iload_n S.x S.b d_Raw_load_73 rfl (lv_at hl 4 rfl) ?_
          refine lv_iload_n S.x S.b d_Raw_load_74 rfl (lv_at hl 5 rfl) ?_
          refine lv_iconst (v := 4) S.x S.b d_Raw_load_75 (by decide) ?_
          refine lv_icmp_ge (tgt := 90) S.x S.b d_Raw_load_76 (by decide) (fun c54 => ?_) (fun c54 => ?_)
          · have nc54 : (4 : Int) ≤ p1.toInt := (i_le (x := 4) (y := p1)).mp c54
            refine lv_iload S.x S.b d_Raw_load_90 (lv_at hl 1 rfl) ?_
            refine lv_iload S.x S.b d_Raw_load_92 (lv_at hl 0 rfl) ?_
            refine lv_ishl S.x S.b d_Raw_load_94 ?_
            refine lv_topi (fun z55 ez55 => ?_)
            have lz55 := Int32.le_toInt z55
            have uz55 := Int32.toInt_lt z55
            refine lv_iload S.x S.b d_Raw_load_95 (lv_at hl 0 rfl) ?_
            refine lv_iushr S.x S.b d_Raw_load_97 rfl ?_
            refine lv_topi (fun z56 ez56 => ?_)
            have lz56 := Int32.le_toInt z56
            have uz56 := Int32.toInt_lt z56
            have hw : pw D A s.heap _ _ [nA cs o2 36864 ma, nA cs o4 wn wc, wd_Raw cs h r (fun k => if k = 2 then o2 else if k = 4 then o4 else none) f a g] := hw.sub [1, 2, 0] rfl rfl
            first | refine px_callv (pr := [nA cs o2 36864 ma, nA cs o4 wn wc]) (px_runV (As := [.int p0, .int z56]) (rest := []) S (c_Raw_setRegister l D cs h r g o2 o4 f a p0 z56   _) hT (pr := [nA cs o2 36864 ma, nA cs o4 wn wc]) (pcs := [wd_Raw cs h r (fun k => if k = 2 then o2 else if k = 4 then o4 else none) f a g]) hw px_X.tt (px_recv hT hw 2 0 rfl rfl rfl) m8_181 m8_178 m8_180 ms_6_5 m1_34 q_Raw_setRegister ⟨Nat.le_of_ble_eq_true rfl, Nat.le_of_ble_eq_true rfl⟩ hl.1 rfl (Nat.le_of_ble_eq_true rfl) d_Raw_load_98 ⟨show 0 + 0 ≤ (nd o2) from (oz_4801a4ef71), show 0 + 0 ≤ (36864 * nd o2) from (oz_26949c3f46)⟩) hw hA (fun p59 H locs hp59 hw => ?_) | refine px_callv (pr := [nA cs o2 36864 ma, nA cs o4 wn wc]) (px_runV (As := [.int p0, .int z56]) (rest := []) S (c_Raw_setRegister l D cs h r g o2 o4 f a p0 z56   _) hT (pr := [nA cs o2 36864 ma, nA cs o4 wn wc]) (pcs := [wd_Raw cs h r (fun k => if k = 2 then o2 else if k = 4 then o4 else none) f a g]) hw px_X.tt (px_recv hT hw 2 0 rfl rfl rfl) m8_181 m8_178 m8_180 ms_6_5 m1_34 q_Raw_setRegister ⟨Nat.le_of_ble_eq_true rfl, Nat.le_of_ble_eq_true rfl⟩ hl.1 rfl (Nat.le_of_ble_eq_true rfl) d_Raw_load_98 ⟨show 0 + 0 ≤ (nd o2) from (by first | exact oz_4801a4ef71 | omega), show 0 + 0 ≤ (36864 * nd o2) from (by first | exact oz_26949c3f46 | omega)⟩) hw hA (fun p59 H locs hp59 hw => ?_)
            obtain ⟨f57, a58, rfl, e61, e62, e63, e64, e65, e66, e67⟩ := hp59
            have e61 : (f57 3).toInt = (f 3).toInt := e61
            have e62 : (f57 7).toInt = (f 7).toInt := e62
            have e63 : (f57 8).toInt = (f 8).toInt := e63
            have e64 : (f57 10).toInt = (f 10).toInt := e64
            have e65 : (f57 13).toInt = (f 13).toInt := e65
            have e66 : (f57 14).toInt = (f 14).toInt := e66
            have e67 : (f57 11).toInt = (f 11).toInt := e67
            have hw : pw D A s.heap _ _ [wd_Raw cs h r (fun k => if k = 2 then o2 else if k = 4 then o4 else none) f57 a58 g, nA cs o2 36864 ma, nA cs o4 wn wc] := hw.sub [2, 0, 1] rfl rfl
            first | exact pg_vret S hr hlk hAe hw (show 0 ≤ (nd o2) from oz_c4e42565ca) (show 0 ≤ (36864 * nd o2) from oz_5cdfddacaa) (⟨f57, a58, o2, ma, rfl, (show (f57 3).toInt = (f 3).toInt from e61), (show (f57 7).toInt = (f 7).toInt from e62), (show (f57 8).toInt = (f 8).toInt from e63), (show (f57 10).toInt = (f 10).toInt from e64), (show (f57 13).toInt = (f 13).toInt from e65), (show (f57 14).toInt = 0 from (oz_4193540c58 e66 g0)), (show 0 + nd o2 ≤ nd o2 from oz_d90171b0e4), (show 0 + 36864 * nd o2 ≤ 36864 * nd o2 from oz_9c92651dc9)⟩) d_Raw_load_101 | exact pg_vret S hr hlk hAe hw (show 0 ≤ (nd o2) from by first | exact oz_c4e42565ca | omega) (show 0 ≤ (36864 * nd o2) from by first | exact oz_5cdfddacaa | omega) (⟨f57, a58, o2, ma, rfl, (show (f57 3).toInt = (f 3).toInt from by first | exact e61 | omega), (show (f57 7).toInt = (f 7).toInt from by first | exact e62 | omega), (show (f57 8).toInt = (f 8).toInt from by first | exact e63 | omega), (show (f57 10).toInt = (f 10).toInt from by first | exact e64 | omega), (show (f57 13).toInt = (f 13).toInt from by first | exact e65 | omega), (show (f57 14).toInt = 0 from by first | exact oz_4193540c58 e66 g0 | omega), (show 0 + nd o2 ≤ nd o2 from by first | exact oz_d90171b0e4 | omega), (show 0 + 36864 * nd o2 ≤ 36864 * nd o2 from by first | exact oz_9c92651dc9 | omega)⟩) d_Raw_load_101
          · have nc54 : ¬ (4 : Int) ≤ p1.toInt := mt (i_le (x := 4) (y := p1)).mpr c54
            refine lv_iload S.x S.b d_Raw_load_79 (lv_at hl 1 rfl) ?_
            refine lv_iload S.x S.b d_Raw_load_81 (lv_at hl 0 rfl) ?_
            refine lv_ishl S.x S.b d_Raw_load_83 ?_
            refine lv_topi (fun z68 ez68 => ?_)
            have lz68 := Int32.le_toInt z68
            have uz68 := Int32.toInt_lt z68
            refine lv_iload S.x S.b d_Raw_load_84 (lv_at hl 0 rfl) ?_
            refine lv_ishr S.x S.b d_Raw_load_86 ?_
            refine lv_topi (fun z69 ez69 => ?_)
            have lz69 := Int32.le_toInt z69
            have uz69 := Int32.toInt_lt z69
            refine lv_goto (tgt := 98) S.x S.b d_Raw_load_87 (by decide) ?_
            have hw : pw D A s.heap _ _ [nA cs o2 36864 ma, nA cs o4 wn wc, wd_Raw cs h r (fun k => if k = 2 then o2 else if k = 4 then o4 else none) f a g] := hw.sub [1, 2, 0] rfl rfl
            first | refine px_callv (pr := [nA cs o2 36864 ma, nA cs o4 wn wc]) (px_runV (As := [.int p0, .int z69]) (rest := []) S (c_Raw_setRegister l D cs h r g o2 o4 f a p0 z69   _) hT (pr := [nA cs o2 36864 ma, nA cs o4 wn wc]) (pcs := [wd_Raw cs h r (fun k => if k = 2 then o2 else if k = 4 then o4 else none) f a g]) hw px_X.tt (px_recv hT hw 2 0 rfl rfl rfl) m8_181 m8_178 m8_180 ms_6_5 m1_34 q_Raw_setRegister ⟨Nat.le_of_ble_eq_true rfl, Nat.le_of_ble_eq_true rfl⟩ hl.1 rfl (Nat.le_of_ble_eq_true rfl) d_Raw_load_98 ⟨show 0 + 0 ≤ (nd o2) from (oz_4801a4ef71), show 0 + 0 ≤ (36864 * nd o2) from (oz_26949c3f46)⟩) hw hA (fun p72 H locs hp72 hw => ?_) | refine px_callv (pr := [nA cs o2 36864 ma, nA cs o4 wn wc]) (px_runV (As := [.int p0, .int z69]) (rest := []) S (c_Raw_setRegister l D cs h r g o2 o4 f a p0 z69   _) hT (pr := [nA cs o2 36864 ma, nA cs o4 wn wc]) (pcs := [wd_Raw cs h r (fun k => if k = 2 then o2 else if k = 4 then o4 else none) f a g]) hw px_X.tt (px_recv hT hw 2 0 rfl rfl rfl) m8_181 m8_178 m8_180 ms_6_5 m1_34 q_Raw_setRegister ⟨Nat.le_of_ble_eq_true rfl, Nat.le_of_ble_eq_true rfl⟩ hl.1 rfl (Nat.le_of_ble_eq_true rfl) d_Raw_load_98 ⟨show 0 + 0 ≤ (nd o2) from (by first | exact oz_4801a4ef71 | omega), show 0 + 0 ≤ (36864 * nd o2) from (by first | exact oz_26949c3f46 | omega)⟩) hw hA (fun p72 H locs hp72 hw => ?_)
            obtain ⟨f70, a71, rfl, e74, e75, e76, e77, e78, e79, e80⟩ := hp72
            have e74 : (f70 3).toInt = (f 3).toInt := e74
            have e75 : (f70 7).toInt = (f 7).toInt := e75
            have e76 : (f70 8).toInt = (f 8).toInt := e76
            have e77 : (f70 10).toInt = (f 10).toInt := e77
            have e78 : (f70 13).toInt = (f 13).toInt := e78
            have e79 : (f70 14).toInt = (f 14).toInt := e79
            have e80 : (f70 11).toInt = (f 11).toInt := e80
            have hw : pw D A s.heap _ _ [wd_Raw cs h r (fun k => if k = 2 then o2 else if k = 4 then o4 else none) f70 a71 g, nA cs o2 36864 ma, nA cs o4 wn wc] := hw.sub [2, 0, 1] rfl rfl
            first | exact pg_vret S hr hlk hAe hw (show 0 ≤ (nd o2) from oz_c4e42565ca) (show 0 ≤ (36864 * nd o2) from oz_5cdfddacaa) (⟨f70, a71, o2, ma, rfl, (show (f70 3).toInt = (f 3).toInt from e74), (show (f70 7).toInt = (f 7).toInt from e75), (show (f70 8).toInt = (f 8).toInt from e76), (show (f70 10).toInt = (f 10).toInt from e77), (show (f70 13).toInt = (f 13).toInt from e78), (show (f70 14).toInt = 0 from (oz_4193540c58 e79 g0)), (show 0 + nd o2 ≤ nd o2 from oz_d90171b0e4), (show 0 + 36864 * nd o2 ≤ 36864 * nd o2 from oz_9c92651dc9)⟩) d_Raw_load_101 | exact pg_vret S hr hlk hAe hw (show 0 ≤ (nd o2) from by first | exact oz_c4e42565ca | omega) (show 0 ≤ (36864 * nd o2) from by first | exact oz_5cdfddacaa | omega) (⟨f70, a71, o2, ma, rfl, (show (f70 3).toInt = (f 3).toInt from by first | exact e74 | omega), (show (f70 7).toInt = (f 7).toInt from by first | exact e75 | omega), (show (f70 8).toInt = (f 8).toInt from by first | exact e76 | omega), (show (f70 10).toInt = (f 10).toInt from by first | exact e77 | omega), (show (f70 13).toInt = (f 13).toInt from by first | exact e78 | omega), (show (f70 14).toInt = 0 from by first | exact oz_4193540c58 e79 g0 | omega), (show 0 + nd o2 ≤ nd o2 from by first | exact oz_d90171b0e4 | omega), (show 0 + 36864 * nd o2 ≤ 36864 * nd o2 from by first | exact oz_9c92651dc9 | omega)⟩) d_Raw_load_101
        · have nc46 : ¬ (0 : Int) ≤ v43.toInt := mt (i_le (x := 0) (y := v43)).mpr c46
          refine lv_iload_n S.x S.b d_Raw_load_33 rfl (lv_at hl 4 rfl) ?_
          first | refine px_calli (pr := [wd_Raw cs h r (fun k => if k = 2 then o2 else if k = 4 then o4 else none) f a g, nA cs o2 36864 ma, nA cs o4 wn wc]) (px_runS (As := [.int p2]) (rest := []) S (c_Raw_isCode l D cs  p2   _) hT (pr := [wd_Raw cs h r (fun k => if k = 2 then o2 else if k = 4 then o4 else none) f a g, nA cs o2 36864 ma, nA cs o4 wn wc]) (pcs := []) hw px_X.tt m8_106 m8_104 m8_105 m1_34 q_Raw_isCode ⟨Nat.le_of_ble_eq_true rfl, Nat.le_of_ble_eq_true rfl⟩ hl.1 rfl (Nat.le_of_ble_eq_true rfl) d_Raw_load_34 ⟨show 0 + 0 ≤ (nd o2) from (oz_4801a4ef71), show 0 + 0 ≤ (36864 * nd o2) from (oz_26949c3f46)⟩) hw hA (fun v82 p81 H locs hp81 hw => ?_) | refine px_calli (pr := [wd_Raw cs h r (fun k => if k = 2 then o2 else if k = 4 then o4 else none) f a g, nA cs o2 36864 ma, nA cs o4 wn wc]) (px_runS (As := [.int p2]) (rest := []) S (c_Raw_isCode l D cs  p2   _) hT (pr := [wd_Raw cs h r (fun k => if k = 2 then o2 else if k = 4 then o4 else none) f a g, nA cs o2 36864 ma, nA cs o4 wn wc]) (pcs := []) hw px_X.tt m8_106 m8_104 m8_105 m1_34 q_Raw_isCode ⟨Nat.le_of_ble_eq_true rfl, Nat.le_of_ble_eq_true rfl⟩ hl.1 rfl (Nat.le_of_ble_eq_true rfl) d_Raw_load_34 ⟨show 0 + 0 ≤ (nd o2) from (by first | exact oz_4801a4ef71 | omega), show 0 + 0 ≤ (36864 * nd o2) from (by first | exact oz_26949c3f46 | omega)⟩) hw hA (fun v82 p81 H locs hp81 hw => ?_)
          obtain ⟨rfl, e83, e84⟩ := hp81
          have e83 := z_int e83
          have e84 : v82.toInt = 1 → 4194304 ≤ p2.toInt ∧ p2.toInt < 4198400 := e84
          have lv82 := Int32.le_toInt v82
          have uv82 := Int32.toInt_lt v82
          refine lv_if_ne (tgt := 48) S.x S.b d_Raw_load_37 (by decide) (fun c85 => ?_) (fun c85 => ?_)
          · have nc85 : ¬ v82.toInt = (0 : Int) := mt (i_eq (x := v82) (y := 0)).mpr c85
            refine lv_aload_n S.x S.b d_Raw_load_48 rfl (lv_at hl 1 rfl) ?_
            refine lv_iload_n S.x S.b d_Raw_load_49 rfl (lv_at hl 4 rfl) ?_
            first | refine px_calli (pr := []) (px_runV (As := [.int p2]) (rest := []) S (c_Raw_wordAt l D cs h r g o4 wn wc f a o2 ma p2  (show wn ≤ 1000000 from g1) _) hT (pr := []) (pcs := [wd_Raw cs h r (fun k => if k = 2 then o2 else if k = 4 then o4 else none) f a g, nA cs o2 36864 ma, nA cs o4 wn wc]) hw px_X.tt (px_recv hT hw 0 0 rfl rfl rfl) m8_139 m8_136 m8_138 ms_5_14 m1_34 q_Raw_wordAt ⟨Nat.le_of_ble_eq_true rfl, Nat.le_of_ble_eq_true rfl⟩ hl.1 rfl (Nat.le_of_ble_eq_true rfl) d_Raw_load_50 ⟨show 0 + 0 ≤ (nd o2) from (oz_4801a4ef71), show 0 + 0 ≤ (36864 * nd o2) from (oz_26949c3f46)⟩) hw hA (fun v87 p86 H locs hp86 hw => ?_) | refine px_calli (pr := []) (px_runV (As := [.int p2]) (rest := []) S (c_Raw_wordAt l D cs h r g o4 wn wc f a o2 ma p2  (show wn ≤ 1000000 from by first | exact g1 | omega) _) hT (pr := []) (pcs := [wd_Raw cs h r (fun k => if k = 2 then o2 else if k = 4 then o4 else none) f a g, nA cs o2 36864 ma, nA cs o4 wn wc]) hw px_X.tt (px_recv hT hw 0 0 rfl rfl rfl) m8_139 m8_136 m8_138 ms_5_14 m1_34 q_Raw_wordAt ⟨Nat.le_of_ble_eq_true rfl, Nat.le_of_ble_eq_true rfl⟩ hl.1 rfl (Nat.le_of_ble_eq_true rfl) d_Raw_load_50 ⟨show 0 + 0 ≤ (nd o2) from (by first | exact oz_4801a4ef71 | omega), show 0 + 0 ≤ (36864 * nd o2) from (by first | exact oz_26949c3f46 | omega)⟩) hw hA (fun v87 p86 H locs hp86 hw => ?_)
            subst hp86
            have lv87 := Int32.le_toInt v87
            have uv87 := Int32.toInt_lt v87
            refine lv_bipush (v := 8) S.x S.b d_Raw_load_53 (by decide) ?_
            refine lv_iload_n S.x S.b d_Raw_load_55 rfl (lv_at hl 4 rfl) ?_
            refine lv_iconst (v := 3) S.x S.b d_Raw_load_56 (by decide) ?_
            refine lv_iand S.x S.b d_Raw_load_57 ?_
            refine lv_topi (fun z88 ez88 => ?_)
            have lz88 := Int32.le_toInt z88
            have uz88 := Int32.toInt_lt z88
            have bz88 := i_andm p2 (m := 3) 2 (by decide) (by decide)
            rw [← ez88] at bz88
            have wz88 : 0 ≤ z88.toInt ∧ z88.toInt ≤ 3 := by simp only [Nat.reducePow, Int.reducePow] at bz88; omega
            refine lv_imul S.x S.b d_Raw_load_58 ?_
            refine lv_topi (fun z89 ez89 => ?_)
            have lz89 := Int32.le_toInt z89
            have uz89 := Int32.toInt_lt z89
            have tz89 : -2147483648 ≤ 8 * z88.toInt → 8 * z88.toInt < 2147483648 → z89.toInt = 8 * z88.toInt := by rw [ez89]; exact i_mulc 8 z88 (by decide)
            refine lv_iushr S.x S.b d_Raw_load_59 rfl ?_
            refine lv_topi (fun z90 ez90 => ?_)
            have lz90 := Int32.le_toInt z90
            have uz90 := Int32.toInt_lt z90
            refine lv_istore (lv' := [(5, .int z90), (4, .int z2), (0, .ref h), (1, .int p0), (2, .int p1), (3, .int p2)]) S.x S.b d_Raw_load_60 hl (by decide) rfl (fun ls hl => ?_)
            refine lv_bipush (v := 32) S.x S.b d_Raw_load_62 (by decide) ?_
            refine lv_bipush (v := 8) S.x S.b d_Raw_load_64 (by decide) ?_
            refine lv_iload S.x S.b d_Raw_load_66 (lv_at hl 1 rfl) ?_
            refine lv_imul S.x S.b d_Raw_load_68 ?_
            refine lv_topi (fun z91 ez91 => ?_)
            have lz91 := Int32.le_toInt z91
            have uz91 := Int32.toInt_lt z91
            have tz91 : -2147483648 ≤ 8 * z2.toInt → 8 * z2.toInt < 2147483648 → z91.toInt = 8 * z2.toInt := by rw [ez91]; exact i_mulc 8 z2 (by decide)
            refine lv_isub S.x S.b d_Raw_load_69 ?_
            refine lv_topi (fun z92 ez92 => ?_)
            have tz92 : z92.toInt = ((32 : Int) - z91.toInt + 2147483648) % 4294967296 - 2147483648 := by rw [ez92]; exact i_sub 32 z91
            have lz92 := Int32.le_toInt z92
            have uz92 := Int32.toInt_lt z92
            refine lv_istore (lv' := [(6, .int z92), (5, .int z90), (4, .int z2), (0, .ref h), (1, .int p0), (2, .int p1), (3, .int p2)]) S.x S.b d_Raw_load_70 hl (by decide) rfl (fun ls hl => ?_)
            refine lv_aload_n S.x S.b d_Raw_load_72 rfl (lv_at hl 3 rfl) ?_
            refine lv_iload_n S.x S.b d_Raw_load_73 rfl (lv_at hl 4 rfl) ?_
            refine lv_iload_n S.x S.b d_Raw_load_74 rfl (lv_at hl 5 rfl) ?_
            refine lv_iconst (v := 4) S.x S.b d_Raw_load_75 (by decide) ?_
            refine lv_icmp_ge (tgt := 90) S.x S.b d_Raw_load_76 (by decide) (fun c93 => ?_) (fun c93 => ?_)
            · have nc93 : (4 : Int) ≤ p1.toInt := (i_le (x := 4) (y := p1)).mp c93
              refine lv_iload S.x S.b d_Raw_load_90 (lv_at hl 1 rfl) ?_
              refine lv_iload S.x S.b d_Raw_load_92 (lv_at hl 0 rfl) ?_
              refine lv_ishl S.x S.b d_Raw_load_94 ?_
              refine lv_topi (fun z94 ez94 => ?_)
              have lz94 := Int32.le_toInt z94
              have uz94 := Int32.toInt_lt z94
              refine lv_iload S.x S.b d_Raw_load_95 (lv_at hl 0 rfl) ?_
              refine lv_iushr S.x S.b d_Raw_load_97 rfl ?_
              refine lv_topi (fun z95 ez95 => ?_)
              have lz95 := Int32.le_toInt z95
              have uz95 := Int32.toInt_lt z95
              have hw : pw D A s.heap _ _ [nA cs o2 36864 ma, nA cs o4 wn wc, wd_Raw cs h r (fun k => if k = 2 then o2 else if k = 4 then o4 else none) f a g] := hw.sub [1, 2, 0] rfl rfl
              first | refine px_callv (pr := [nA cs o2 36864 ma, nA cs o4 wn wc]) (px_runV (As := [.int p0, .int z95]) (rest := []) S (c_Raw_setRegister l D cs h r g o2 o4 f a p0 z95   _) hT (pr := [nA cs o2 36864 ma, nA cs o4 wn wc]) (pcs := [wd_Raw cs h r (fun k => if k = 2 then o2 else if k = 4 then o4 else none) f a g]) hw px_X.tt (px_recv hT hw 2 0 rfl rfl rfl) m8_181 m8_178 m8_180 ms_6_5 m1_34 q_Raw_setRegister ⟨Nat.le_of_ble_eq_true rfl, Nat.le_of_ble_eq_true rfl⟩ hl.1 rfl (Nat.le_of_ble_eq_true rfl) d_Raw_load_98 ⟨show 0 + 0 ≤ (nd o2) from (oz_4801a4ef71), show 0 + 0 ≤ (36864 * nd o2) from (oz_26949c3f46)⟩) hw hA (fun p98 H locs hp98 hw => ?_) | refine px_callv (pr := [nA cs o2 36864 ma, nA cs o4 wn wc]) (px_runV (As := [.int p0, .int z95]) (rest := []) S (c_Raw_setRegister l D cs h r g o2 o4 f a p0 z95   _) hT (pr := [nA cs o2 36864 ma, nA cs o4 wn wc]) (pcs := [wd_Raw cs h r (fun k => if k = 2 then o2 else if k = 4 then o4 else none) f a g]) hw px_X.tt (px_recv hT hw 2 0 rfl rfl rfl) m8_181 m8_178 m8_180 ms_6_5 m1_34 q_Raw_setRegister ⟨Nat.le_of_ble_eq_true rfl, Nat.le_of_ble_eq_true rfl⟩ hl.1 rfl (Nat.le_of_ble_eq_true rfl) d_Raw_load_98 ⟨show 0 + 0 ≤ (nd o2) from (by first | exact oz_4801a4ef71 | omega), show 0 + 0 ≤ (36864 * nd o2) from (by first | exact oz_26949c3f46 | omega)⟩) hw hA (fun p98 H locs hp98 hw => ?_)
              obtain ⟨f96, a97, rfl, e100, e101, e102, e103, e104, e105, e106⟩ := hp98
              have e100 : (f96 3).toInt = (f 3).toInt := e100
              have e101 : (f96 7).toInt = (f 7).toInt := e101
              have e102 : (f96 8).toInt = (f 8).toInt := e102
              have e103 : (f96 10).toInt = (f 10).toInt := e103
              have e104 : (f96 13).toInt = (f 13).toInt := e104
              have e105 : (f96 14).toInt = (f 14).toInt := e105
              have e106 : (f96 11).toInt = (f 11).toInt := e106
              have hw : pw D A s.heap _ _ [wd_Raw cs h r (fun k => if k = 2 then o2 else if k = 4 then o4 else none) f96 a97 g, nA cs o2 36864 ma, nA cs o4 wn wc] := hw.sub [2, 0, 1] rfl rfl
              first | exact pg_vret S hr hlk hAe hw (show 0 ≤ (nd o2) from oz_c4e42565ca) (show 0 ≤ (36864 * nd o2) from oz_5cdfddacaa) (⟨f96, a97, o2, ma, rfl, (show (f96 3).toInt = (f 3).toInt from e100), (show (f96 7).toInt = (f 7).toInt from e101), (show (f96 8).toInt = (f 8).toInt from e102), (show (f96 10).toInt = (f 10).toInt from e103), (show (f96 13).toInt = (f 13).toInt from e104), (show (f96 14).toInt = 0 from (oz_4193540c58 e105 g0)), (show 0 + nd o2 ≤ nd o2 from oz_d90171b0e4), (show 0 + 36864 * nd o2 ≤ 36864 * nd o2 from oz_9c92651dc9)⟩) d_Raw_load_101 | exact pg_vret S hr hlk hAe hw (show 0 ≤ (nd o2) from by first | exact oz_c4e42565ca | omega) (show 0 ≤ (36864 * nd o2) from by first | exact oz_5cdfddacaa | omega) (⟨f96, a97, o2, ma, rfl, (show (f96 3).toInt = (f 3).toInt from by first | exact e100 | omega), (show (f96 7).toInt = (f 7).toInt from by first | exact e101 | omega), (show (f96 8).toInt = (f 8).toInt from by first | exact e102 | omega), (show (f96 10).toInt = (f 10).toInt from by first | exact e103 | omega), (show (f96 13).toInt = (f 13).toInt from by first | exact e104 | omega), (show (f96 14).toInt = 0 from by first | exact oz_4193540c58 e105 g0 | omega), (show 0 + nd o2 ≤ nd o2 from by first | exact oz_d90171b0e4 | omega), (show 0 + 36864 * nd o2 ≤ 36864 * nd o2 from by first | exact oz_9c92651dc9 | omega)⟩) d_Raw_load_101
            · have nc93 : ¬ (4 : Int) ≤ p1.toInt := mt (i_le (x := 4) (y := p1)).mpr c93
              refine lv_iload S.x S.b d_Raw_load_79 (lv_at hl 1 rfl) ?_
              refine lv_iload S.x S.b d_Raw_load_81 (lv_at hl 0 rfl) ?_
              refine lv_ishl S.x S.b d_Raw_load_83 ?_
              refine lv_topi (fun z107 ez107 => ?_)
              have lz107 := Int32.le_toInt z107
              have uz107 := Int32.toInt_lt z107
              refine lv_iload S.x S.b d_Raw_load_84 (lv_at hl 0 rfl) ?_
              refine lv_ishr S.x S.b d_Raw_load_86 ?_
              refine lv_topi (fun z108 ez108 => ?_)
              have lz108 := Int32.le_toInt z108
              have uz108 := Int32.toInt_lt z108
              refine lv_goto (tgt := 98) S.x S.b d_Raw_load_87 (by decide) ?_
              have hw : pw D A s.heap _ _ [nA cs o2 36864 ma, nA cs o4 wn wc, wd_Raw cs h r (fun k => if k = 2 then o2 else if k = 4 then o4 else none) f a g] := hw.sub [1, 2, 0] rfl rfl
              first | refine px_callv (pr := [nA cs o2 36864 ma, nA cs o4 wn wc]) (px_runV (As := [.int p0, .int z108]) (rest := []) S (c_Raw_setRegister l D cs h r g o2 o4 f a p0 z108   _) hT (pr := [nA cs o2 36864 ma, nA cs o4 wn wc]) (pcs := [wd_Raw cs h r (fun k => if k = 2 then o2 else if k = 4 then o4 else none) f a g]) hw px_X.tt (px_recv hT hw 2 0 rfl rfl rfl) m8_181 m8_178 m8_180 ms_6_5 m1_34 q_Raw_setRegister ⟨Nat.le_of_ble_eq_true rfl, Nat.le_of_ble_eq_true rfl⟩ hl.1 rfl (Nat.le_of_ble_eq_true rfl) d_Raw_load_98 ⟨show 0 + 0 ≤ (nd o2) from (oz_4801a4ef71), show 0 + 0 ≤ (36864 * nd o2) from (oz_26949c3f46)⟩) hw hA (fun p111 H locs hp111 hw => ?_) | refine px_callv (pr := [nA cs o2 36864 ma, nA cs o4 wn wc]) (px_runV (As := [.int p0, .int z108]) (rest := []) S (c_Raw_setRegister l D cs h r g o2 o4 f a p0 z108   _) hT (pr := [nA cs o2 36864 ma, nA cs o4 wn wc]) (pcs := [wd_Raw cs h r (fun k => if k = 2 then o2 else if k = 4 then o4 else none) f a g]) hw px_X.tt (px_recv hT hw 2 0 rfl rfl rfl) m8_181 m8_178 m8_180 ms_6_5 m1_34 q_Raw_setRegister ⟨Nat.le_of_ble_eq_true rfl, Nat.le_of_ble_eq_true rfl⟩ hl.1 rfl (Nat.le_of_ble_eq_true rfl) d_Raw_load_98 ⟨show 0 + 0 ≤ (nd o2) from (by first | exact oz_4801a4ef71 | omega), show 0 + 0 ≤ (36864 * nd o2) from (by first | exact oz_26949c3f46 | omega)⟩) hw hA (fun p111 H locs hp111 hw => ?_)
              obtain ⟨f109, a110, rfl, e113, e114, e115, e116, e117, e118, e119⟩ := hp111
              have e113 : (f109 3).toInt = (f 3).toInt := e113
              have e114 : (f109 7).toInt = (f 7).toInt := e114
              have e115 : (f109 8).toInt = (f 8).toInt := e115
              have e116 : (f109 10).toInt = (f 10).toInt := e116
              have e117 : (f109 13).toInt = (f 13).toInt := e117
              have e118 : (f109 14).toInt = (f 14).toInt := e118
              have e119 : (f109 11).toInt = (f 11).toInt := e119
              have hw : pw D A s.heap _ _ [wd_Raw cs h r (fun k => if k = 2 then o2 else if k = 4 then o4 else none) f109 a110 g, nA cs o2 36864 ma, nA cs o4 wn wc] := hw.sub [2, 0, 1] rfl rfl
              first | exact pg_vret S hr hlk hAe hw (show 0 ≤ (nd o2) from oz_c4e42565ca) (show 0 ≤ (36864 * nd o2) from oz_5cdfddacaa) (⟨f109, a110, o2, ma, rfl, (show (f109 3).toInt = (f 3).toInt from e113), (show (f109 7).toInt = (f 7).toInt from e114), (show (f109 8).toInt = (f 8).toInt from e115), (show (f109 10).toInt = (f 10).toInt from e116), (show (f109 13).toInt = (f 13).toInt from e117), (show (f109 14).toInt = 0 from (oz_4193540c58 e118 g0)), (show 0 + nd o2 ≤ nd o2 from oz_d90171b0e4), (show 0 + 36864 * nd o2 ≤ 36864 * nd o2 from oz_9c92651dc9)⟩) d_Raw_load_101 | exact pg_vret S hr hlk hAe hw (show 0 ≤ (nd o2) from by first | exact oz_c4e42565ca | omega) (show 0 ≤ (36864 * nd o2) from by first | exact oz_5cdfddacaa | omega) (⟨f109, a110, o2, ma, rfl, (show (f109 3).toInt = (f 3).toInt from by first | exact e113 | omega), (show (f109 7).toInt = (f 7).toInt from by first | exact e114 | omega), (show (f109 8).toInt = (f 8).toInt from by first | exact e115 | omega), (show (f109 10).toInt = (f 10).toInt from by first | exact e116 | omega), (show (f109 13).toInt = (f 13).toInt from by first | exact e117 | omega), (show (f109 14).toInt = 0 from by first | exact oz_4193540c58 e118 g0 | omega), (show 0 + nd o2 ≤ nd o2 from by first | exact oz_d90171b0e4 | omega), (show 0 + 36864 * nd o2 ≤ 36864 * nd o2 from by first | exact oz_9c92651dc9 | omega)⟩) d_Raw_load_101
          · have nc85 : v82.toInt = (0 : Int) := (i_eq (x := v82) (y := 0)).mp c85
            refine lv_aload_n S.x S.b d_Raw_load_40 rfl (lv_at hl 1 rfl) ?_
            refine lv_bipush (v := 7) S.x S.b d_Raw_load_41 (by decide) ?_
            refine lv_iconst (v := 0) S.x S.b d_Raw_load_43 (by decide) ?_
            have hw : pw D A s.heap _ _ [nA cs o2 36864 ma, nA cs o4 wn wc, wd_Raw cs h r (fun k => if k = 2 then o2 else if k = 4 then o4 else none) f a g] := hw.sub [1, 2, 0] rfl rfl
            first | refine px_callv (pr := [nA cs o2 36864 ma, nA cs o4 wn wc]) (px_runU (As := [.int 7, .int 0]) (rest := []) S (c_finish_Raw l D cs h r g o2 o4 f a 7 0   _) hT (pr := [nA cs o2 36864 ma, nA cs o4 wn wc]) (pcs := [wd_Raw cs h r (fun k => if k = 2 then o2 else if k = 4 then o4 else none) f a g]) hw px_X.tt (C := "HomeSystem$RawProcess") (x := ⟨"HomeSystem$RawProcess", "finish", "(II)V"⟩) (px_recv hT hw 2 0 rfl rfl rfl) m8_89 m8_170 m8_171 m8_85 m8_173 m1_33 rfl q_HomeSystem_AnyProcess_finish ⟨Nat.le_of_ble_eq_true rfl, Nat.le_of_ble_eq_true rfl⟩ hl.1 rfl (Nat.le_of_ble_eq_true rfl) d_Raw_load_44 ⟨show 0 + 0 ≤ (nd o2) from (oz_4801a4ef71), show 0 + 0 ≤ (36864 * nd o2) from (oz_26949c3f46)⟩) hw hA (fun p122 H locs hp122 hw => ?_) | refine px_callv (pr := [nA cs o2 36864 ma, nA cs o4 wn wc]) (px_runU (As := [.int 7, .int 0]) (rest := []) S (c_finish_Raw l D cs h r g o2 o4 f a 7 0   _) hT (pr := [nA cs o2 36864 ma, nA cs o4 wn wc]) (pcs := [wd_Raw cs h r (fun k => if k = 2 then o2 else if k = 4 then o4 else none) f a g]) hw px_X.tt (C := "HomeSystem$RawProcess") (x := ⟨"HomeSystem$RawProcess", "finish", "(II)V"⟩) (px_recv hT hw 2 0 rfl rfl rfl) m8_89 m8_170 m8_171 m8_85 m8_173 m1_33 rfl q_HomeSystem_AnyProcess_finish ⟨Nat.le_of_ble_eq_true rfl, Nat.le_of_ble_eq_true rfl⟩ hl.1 rfl (Nat.le_of_ble_eq_true rfl) d_Raw_load_44 ⟨show 0 + 0 ≤ (nd o2) from (by first | exact oz_4801a4ef71 | omega), show 0 + 0 ≤ (36864 * nd o2) from (by first | exact oz_26949c3f46 | omega)⟩) hw hA (fun p122 H locs hp122 hw => ?_)
            obtain ⟨f120, a121, rfl, e124, e125, e126, e127, e128, e129, e130⟩ := hp122
            have e124 : (f120 3).toInt = (f 3).toInt := e124
            have e125 : (f120 7).toInt = (f 7).toInt := e125
            have e126 : (f120 8).toInt = (f 8).toInt := e126
            have e127 : (f120 10).toInt = (f 10).toInt := e127
            have e128 : (f120 13).toInt = (f 13).toInt := e128
            have e129 : (f120 14).toInt = 0 := e129
            have e130 : (f120 11).toInt = (7 : Int) := e130
            have hw : pw D A s.heap _ _ [wd_Raw cs h r (fun k => if k = 2 then o2 else if k = 4 then o4 else none) f120 a121 g, nA cs o2 36864 ma, nA cs o4 wn wc] := hw.sub [2, 0, 1] rfl rfl
            first | exact pg_vret S hr hlk hAe hw (show 0 ≤ (nd o2) from oz_c4e42565ca) (show 0 ≤ (36864 * nd o2) from oz_5cdfddacaa) (⟨f120, a121, o2, ma, rfl, (show (f120 3).toInt = (f 3).toInt from e124), (show (f120 7).toInt = (f 7).toInt from e125), (show (f120 8).toInt = (f 8).toInt from e126), (show (f120 10).toInt = (f 10).toInt from e127), (show (f120 13).toInt = (f 13).toInt from e128), (show (f120 14).toInt = 0 from e129), (show 0 + nd o2 ≤ nd o2 from oz_d90171b0e4), (show 0 + 36864 * nd o2 ≤ 36864 * nd o2 from oz_9c92651dc9)⟩) d_Raw_load_47 | exact pg_vret S hr hlk hAe hw (show 0 ≤ (nd o2) from by first | exact oz_c4e42565ca | omega) (show 0 ≤ (36864 * nd o2) from by first | exact oz_5cdfddacaa | omega) (⟨f120, a121, o2, ma, rfl, (show (f120 3).toInt = (f 3).toInt from by first | exact e124 | omega), (show (f120 7).toInt = (f 7).toInt from by first | exact e125 | omega), (show (f120 8).toInt = (f 8).toInt from by first | exact e126 | omega), (show (f120 10).toInt = (f 10).toInt from by first | exact e127 | omega), (show (f120 13).toInt = (f 13).toInt from by first | exact e128 | omega), (show (f120 14).toInt = 0 from by first | exact e129 | omega), (show 0 + nd o2 ≤ nd o2 from by first | exact oz_d90171b0e4 | omega), (show 0 + 36864 * nd o2 ≤ 36864 * nd o2 from by first | exact oz_9c92651dc9 | omega)⟩) d_Raw_load_47
abbrev b_Raw_store : ByteArray := prog_8_method_22_code
def y_Raw_store : MethodName := ⟨"HomeSystem$RawProcess", "store", "(III)V"⟩
theorem d_Raw_store_0 : decode b_Raw_store 0 = .ok (.iload_n 2, 1) := by decide +kernel
theorem d_Raw_store_1 : decode b_Raw_store 1 = .ok (.invokestatic 86, 3) := by decide +kernel
theorem d_Raw_store_4 : decode b_Raw_store 4 = .ok (.istore 4, 2) := by decide +kernel
theorem d_Raw_store_6 : decode b_Raw_store 6 = .ok (.iload_n 1, 1) := by decide +kernel
theorem d_Raw_store_7 : decode b_Raw_store 7 = .ok (.iconst 2, 1) := by decide +kernel
theorem d_Raw_store_8 : decode b_Raw_store 8 = .ok (.if_icmp .gt 18, 3) := by decide +kernel
theorem d_Raw_store_11 : decode b_Raw_store 11 = .ok (.iload_n 2, 1) := by decide +kernel
theorem d_Raw_store_12 : decode b_Raw_store 12 = .ok (.iconst 1, 1) := by decide +kernel
theorem d_Raw_store_13 : decode b_Raw_store 13 = .ok (.iload_n 1, 1) := by decide +kernel
theorem d_Raw_store_14 : decode b_Raw_store 14 = .ok (.ishl, 1) := by decide +kernel
theorem d_Raw_store_15 : decode b_Raw_store 15 = .ok (.invokestatic 146, 3) := by decide +kernel
theorem d_Raw_store_18 : decode b_Raw_store 18 = .ok (.ifCond .eq 8, 3) := by decide +kernel
theorem d_Raw_store_21 : decode b_Raw_store 21 = .ok (.iload 4, 2) := by decide +kernel
theorem d_Raw_store_23 : decode b_Raw_store 23 = .ok (.ifCond .ge 11, 3) := by decide +kernel
theorem d_Raw_store_26 : decode b_Raw_store 26 = .ok (.aload_n 0, 1) := by decide +kernel
theorem d_Raw_store_27 : decode b_Raw_store 27 = .ok (.bipush 7, 2) := by decide +kernel
theorem d_Raw_store_29 : decode b_Raw_store 29 = .ok (.iconst 0, 1) := by decide +kernel
theorem d_Raw_store_30 : decode b_Raw_store 30 = .ok (.invokevirtual 56, 3) := by decide +kernel
theorem d_Raw_store_33 : decode b_Raw_store 33 = .ok (.return_, 1) := by decide +kernel
theorem d_Raw_store_34 : decode b_Raw_store 34 = .ok (.bipush 8, 2) := by decide +kernel
theorem d_Raw_store_36 : decode b_Raw_store 36 = .ok (.iload_n 2, 1) := by decide +kernel
theorem d_Raw_store_37 : decode b_Raw_store 37 = .ok (.iconst 3, 1) := by decide +kernel
theorem d_Raw_store_38 : decode b_Raw_store 38 = .ok (.iand, 1) := by decide +kernel
theorem d_Raw_store_39 : decode b_Raw_store 39 = .ok (.imul, 1) := by decide +kernel
theorem d_Raw_store_40 : decode b_Raw_store 40 = .ok (.istore 5, 2) := by decide +kernel
theorem d_Raw_store_42 : decode b_Raw_store 42 = .ok (.iconst (-1), 1) := by decide +kernel
theorem d_Raw_store_43 : decode b_Raw_store 43 = .ok (.bipush 32, 2) := by decide +kernel
theorem d_Raw_store_45 : decode b_Raw_store 45 = .ok (.bipush 8, 2) := by decide +kernel
theorem d_Raw_store_47 : decode b_Raw_store 47 = .ok (.iload_n 1, 1) := by decide +kernel
theorem d_Raw_store_48 : decode b_Raw_store 48 = .ok (.ishl, 1) := by decide +kernel
theorem d_Raw_store_49 : decode b_Raw_store 49 = .ok (.isub, 1) := by decide +kernel
theorem d_Raw_store_50 : decode b_Raw_store 50 = .ok (.iushr, 1) := by decide +kernel
theorem d_Raw_store_51 : decode b_Raw_store 51 = .ok (.iload 5, 2) := by decide +kernel
theorem d_Raw_store_53 : decode b_Raw_store 53 = .ok (.ishl, 1) := by decide +kernel
theorem d_Raw_store_54 : decode b_Raw_store 54 = .ok (.istore 6, 2) := by decide +kernel
theorem d_Raw_store_56 : decode b_Raw_store 56 = .ok (.aload_n 0, 1) := by decide +kernel
theorem d_Raw_store_57 : decode b_Raw_store 57 = .ok (.iload 4, 2) := by decide +kernel
theorem d_Raw_store_59 : decode b_Raw_store 59 = .ok (.aload_n 0, 1) := by decide +kernel
theorem d_Raw_store_60 : decode b_Raw_store 60 = .ok (.iload_n 2, 1) := by decide +kernel
theorem d_Raw_store_61 : decode b_Raw_store 61 = .ok (.invokevirtual 67, 3) := by decide +kernel
theorem d_Raw_store_64 : decode b_Raw_store 64 = .ok (.iload 6, 2) := by decide +kernel
theorem d_Raw_store_66 : decode b_Raw_store 66 = .ok (.iconst (-1), 1) := by decide +kernel
theorem d_Raw_store_67 : decode b_Raw_store 67 = .ok (.ixor, 1) := by decide +kernel
theorem d_Raw_store_68 : decode b_Raw_store 68 = .ok (.iand, 1) := by decide +kernel
theorem d_Raw_store_69 : decode b_Raw_store 69 = .ok (.iload_n 3, 1) := by decide +kernel
theorem d_Raw_store_70 : decode b_Raw_store 70 = .ok (.iload 5, 2) := by decide +kernel
theorem d_Raw_store_72 : decode b_Raw_store 72 = .ok (.ishl, 1) := by decide +kernel
theorem d_Raw_store_73 : decode b_Raw_store 73 = .ok (.iload 6, 2) := by decide +kernel
theorem d_Raw_store_75 : decode b_Raw_store 75 = .ok (.iand, 1) := by decide +kernel
theorem d_Raw_store_76 : decode b_Raw_store 76 = .ok (.ior, 1) := by decide +kernel
theorem d_Raw_store_77 : decode b_Raw_store 77 = .ok (.invokevirtual 89, 3) := by decide +kernel
theorem d_Raw_store_80 : decode b_Raw_store 80 = .ok (.return_, 1) := by decide +kernel
theorem q_Raw_store : px_y y_Raw_store 3 := by unfold px_y; decide +kernel
set_option maxHeartbeats 4000000 in
set_option maxRecDepth 100000 in
theorem c_Raw_store (l : Launch) (D : va_G) (cs : Nat → ClassId) (h : Nat) (r : Nat → Nat) (g : Nat → Nat → Option Nat) (o4 : Option Nat) (wn : Nat) (wc : Nat → Int32) (f : Nat → Int32) (a : Nat → Nat → Int32) (o2 : Option Nat) (ma : Nat → Int32) (p0 p1 p2 : Int32)  (g0 : (f 14).toInt = 0) (g1 : wn ≤ 1000000) : MgV l y_Raw_store b_Raw_store 7 D cs 3 100 ((nd o2)) ((36864 * nd o2)) [.ref h, .int p0, .int p1, .int p2] [wd_Raw cs h r (fun k => if k = 2 then o2 else if k = 4 then o4 else none) f a g, nA cs o2 36864 ma, nA cs o4 wn wc] (fun _ => True) (fun ps => ∃ (f' : Nat → Int32) (a' : Nat → Nat → Int32) (o2' : Option Nat) (ma' : Nat → Int32), (ps.1 = [wd_Raw cs h r (fun k => if k = 2 then o2' else if k = 4 then o4 else none) f' a' g, nA cs o2' 36864 ma', nA cs o4 wn wc]) ∧ ((f' 3).toInt = (f 3).toInt) ∧ ((f' 7).toInt = (f 7).toInt) ∧ ((f' 8).toInt = (f 8).toInt) ∧ ((f' 10).toInt = (f 10).toInt) ∧ ((f' 13).toInt = (f 13).toInt) ∧ ((f' 14).toInt = 0) ∧ (ps.2.1 + nd o2' ≤ nd o2) ∧ (ps.2.2 + 36864 * nd o2' ≤ 36864 * nd o2)) := by
  refine pg_enter (by decide) (Nat.le_of_ble_eq_true rfl) ?_
  intro p e s m below meth c A ls hAe S hr hlk hnm hA hT hX hw hl
  have hl : lv_has ls 7 [(0, .ref h), (1, .int p0), (2, .int p1), (3, .int p2)] := hl
  have lp0 := Int32.le_toInt p0
  have up0 := Int32.toInt_lt p0
  have lp1 := Int32.le_toInt p1
  have up1 := Int32.toInt_lt p1
  have lp2 := Int32.le_toInt p2
  have up2 := Int32.toInt_lt p2
  have cstm1 : ((-1) : Int32).toInt = (-1) := rfl
  have cst0 : (0 : Int32).toInt = 0 := rfl
  have cst1 : (1 : Int32).toInt = 1 := rfl
  have cst2 : (2 : Int32).toInt = 2 := rfl
  have cst3 : (3 : Int32).toInt = 3 := rfl
  have cst7 : (7 : Int32).toInt = 7 := rfl
  have cst8 : (8 : Int32).toInt = 8 := rfl
  have cst32 : (32 : Int32).toInt = 32 := rfl
  refine lv_iload_n S.x S.b d_Raw_store_0 rfl (lv_at hl 2 rfl) ?_
  first | refine px_calli (pr := [wd_Raw cs h r (fun k => if k = 2 then o2 else if k = 4 then o4 else none) f a g, nA cs o2 36864 ma, nA cs o4 wn wc]) (px_runS (As := [.int p1]) (rest := []) S (c_Raw_cellAt l D cs  p1   _) hT (pr := [wd_Raw cs h r (fun k => if k = 2 then o2 else if k = 4 then o4 else none) f a g, nA cs o2 36864 ma, nA cs o4 wn wc]) (pcs := []) hw px_X.tt m8_100 m8_98 m8_99 m1_34 q_Raw_cellAt ⟨Nat.le_of_ble_eq_true rfl, Nat.le_of_ble_eq_true rfl⟩ hl.1 rfl (Nat.le_of_ble_eq_true rfl) d_Raw_store_1 ⟨show 0 + 0 ≤ (nd o2) from (oz_4801a4ef71), show 0 + 0 ≤ (36864 * nd o2) from (oz_26949c3f46)⟩) hw hA (fun v2 p1 H locs hp1 hw => ?_) | refine px_calli (pr := [wd_Raw cs h r (fun k => if k = 2 then o2 else if k = 4 then o4 else none) f a g, nA cs o2 36864 ma, nA cs o4 wn wc]) (px_runS (As := [.int p1]) (rest := []) S (c_Raw_cellAt l D cs  p1   _) hT (pr := [wd_Raw cs h r (fun k => if k = 2 then o2 else if k = 4 then o4 else none) f a g, nA cs o2 36864 ma, nA cs o4 wn wc]) (pcs := []) hw px_X.tt m8_100 m8_98 m8_99 m1_34 q_Raw_cellAt ⟨Nat.le_of_ble_eq_true rfl, Nat.le_of_ble_eq_true rfl⟩ hl.1 rfl (Nat.le_of_ble_eq_true rfl) d_Raw_store_1 ⟨show 0 + 0 ≤ (nd o2) from (by first | exact oz_4801a4ef71 | omega), show 0 + 0 ≤ (36864 * nd o2) from (by first | exact oz_26949c3f46 | omega)⟩) hw hA (fun v2 p1 H locs hp1 hw => ?_)
  obtain ⟨rfl, e3, e4⟩ := hp1
  have e3 : -1 ≤ v2.toInt := e3
  have e4 : v2.toInt ≤ 36863 := e4
  have lv2 := Int32.le_toInt v2
  have uv2 := Int32.toInt_lt v2
  refine lv_istore (lv' := [(4, .int v2), (0, .ref h), (1, .int p0), (2, .int p1), (3, .int p2)]) S.x S.b d_Raw_store_4 hl (by decide) rfl (fun ls hl => ?_)
  refine lv_iload_n S.x S.b d_Raw_store_6 rfl (lv_at hl 2 rfl) ?_
  refine lv_iconst (v := 2) S.x S.b d_Raw_store_7 (by decide) ?_
  refine lv_icmp_gt (tgt := 26) S.x S.b d_Raw_store_8 (by decide) (fun c5 => ?_) (fun c5 => ?_)
  · have nc5 : (2 : Int) < p0.toInt := (i_lt (x := 2) (y := p0)).mp c5
    refine lv_aload_n S.x S.b d_Raw_store_26 rfl (lv_at hl 1 rfl) ?_
    refine lv_bipush (v := 7) S.x S.b d_Raw_store_27 (by decide) ?_
    refine lv_iconst (v := 0) S.x S.b d_Raw_store_29 (by decide) ?_
    have hw : pw D A s.heap _ _ [nA cs o2 36864 ma, nA cs o4 wn wc, wd_Raw cs h r (fun k => if k = 2 then o2 else if k = 4 then o4 else none) f a g] := hw.sub [1, 2, 0] rfl rfl
    first | refine px_callv (pr := [nA cs o2 36864 ma, nA cs o4 wn wc]) (px_runU (As := [.int 7, .int 0]) (rest := []) S (c_finish_Raw l D cs h r g o2 o4 f a 7 0   _) hT (pr := [nA cs o2 36864 ma, nA cs o4 wn wc]) (pcs := [wd_Raw cs h r (fun k => if k = 2 then o2 else if k = 4 then o4 else none) f a g]) hw px_X.tt (C := "HomeSystem$RawProcess") (x := ⟨"HomeSystem$RawProcess", "finish", "(II)V"⟩) (px_recv hT hw 2 0 rfl rfl rfl) m8_89 m8_170 m8_171 m8_85 m8_173 m1_33 rfl q_HomeSystem_AnyProcess_finish ⟨Nat.le_of_ble_eq_true rfl, Nat.le_of_ble_eq_true rfl⟩ hl.1 rfl (Nat.le_of_ble_eq_true rfl) d_Raw_store_30 ⟨show 0 + 0 ≤ (nd o2) from (oz_4801a4ef71), show 0 + 0 ≤ (36864 * nd o2) from (oz_26949c3f46)⟩) hw hA (fun p8 H locs hp8 hw => ?_) | refine px_callv (pr := [nA cs o2 36864 ma, nA cs o4 wn wc]) (px_runU (As := [.int 7, .int 0]) (rest := []) S (c_finish_Raw l D cs h r g o2 o4 f a 7 0   _) hT (pr := [nA cs o2 36864 ma, nA cs o4 wn wc]) (pcs := [wd_Raw cs h r (fun k => if k = 2 then o2 else if k = 4 then o4 else none) f a g]) hw px_X.tt (C := "HomeSystem$RawProcess") (x := ⟨"HomeSystem$RawProcess", "finish", "(II)V"⟩) (px_recv hT hw 2 0 rfl rfl rfl) m8_89 m8_170 m8_171 m8_85 m8_173 m1_33 rfl q_HomeSystem_AnyProcess_finish ⟨Nat.le_of_ble_eq_true rfl, Nat.le_of_ble_eq_true rfl⟩ hl.1 rfl (Nat.le_of_ble_eq_true rfl) d_Raw_store_30 ⟨show 0 + 0 ≤ (nd o2) from (by first | exact oz_4801a4ef71 | omega), show 0 + 0 ≤ (36864 * nd o2) from (by first | exact oz_26949c3f46 | omega)⟩) hw hA (fun p8 H locs hp8 hw => ?_)
    obtain ⟨f6, a7, rfl, e10, e11, e12, e13, e14, e15, e16⟩ := hp8
    have e10 : (f6 3).toInt = (f 3).toInt := e10
    have e11 : (f6 7).toInt = (f 7).toInt := e11
    have e12 : (f6 8).toInt = (f 8).toInt := e12
    have e13 : (f6 10).toInt = (f 10).toInt := e13
    have e14 : (f6 13).toInt = (f 13).toInt := e14
    have e15 : (f6 14).toInt = 0 := e15
    have e16 : (f6 11).toInt = (7 : Int) := e16
    have hw : pw D A s.heap _ _ [wd_Raw cs h r (fun k => if k = 2 then o2 else if k = 4 then o4 else none) f6 a7 g, nA cs o2 36864 ma, nA cs o4 wn wc] := hw.sub [2, 0, 1] rfl rfl
    first | exact pg_vret S hr hlk hAe hw (show 0 ≤ (nd o2) from oz_c4e42565ca) (show 0 ≤ (36864 * nd o2) from oz_5cdfddacaa) (⟨f6, a7, o2, ma, rfl, (show (f6 3).toInt = (f 3).toInt from e10), (show (f6 7).toInt = (f 7).toInt from e11), (show (f6 8).toInt = (f 8).toInt from e12), (show (f6 10).toInt = (f 10).toInt from e13), (show (f6 13).toInt = (f 13).toInt from e14), (show (f6 14).toInt = 0 from e15), (show 0 + nd o2 ≤ nd o2 from oz_d90171b0e4), (show 0 + 36864 * nd o2 ≤ 36864 * nd o2 from oz_9c92651dc9)⟩) d_Raw_store_33 | exact pg_vret S hr hlk hAe hw (show 0 ≤ (nd o2) from by first | exact oz_c4e42565ca | omega) (show 0 ≤ (36864 * nd o2) from by first | exact oz_5cdfddacaa | omega) (⟨f6, a7, o2, ma, rfl, (show (f6 3).toInt = (f 3).toInt from by first | exact e10 | omega), (show (f6 7).toInt = (f 7).toInt from by first | exact e11 | omega), (show (f6 8).toInt = (f 8).toInt from by first | exact e12 | omega), (show (f6 10).toInt = (f 10).toInt from by first | exact e13 | omega), (show (f6 13).toInt = (f 13).toInt from by first | exact e14 | omega), (show (f6 14).toInt = 0 from by first | exact e15 | omega), (show 0 + nd o2 ≤ nd o2 from by first | exact oz_d90171b0e4 | omega), (show 0 + 36864 * nd o2 ≤ 36864 * nd o2 from by first | exact oz_9c92651dc9 | omega)⟩) d_Raw_store_33
  · have nc5 : ¬ (2 : Int) < p0.toInt := mt (i_lt (x := 2) (y := p0)).mpr c5
    refine lv_iload_n S.x S.b d_Raw_store_11 rfl (lv_at hl 3 rfl) ?_
    refine lv_iconst (v := 1) S.x S.b d_Raw_store_12 (by decide) ?_
    refine lv_iload_n S.x S.b d_Raw_store_13 rfl (lv_at hl 2 rfl) ?_
    refine lv_ishl S.x S.b d_Raw_store_14 ?_
    refine lv_topi (fun z17 ez17 => ?_)
    have lz17 := Int32.le_toInt z17
    have uz17 := Int32.toInt_lt z17
    first | refine px_calli (pr := [wd_Raw cs h r (fun k => if k = 2 then o2 else if k = 4 then o4 else none) f a g, nA cs o2 36864 ma, nA cs o4 wn wc]) (px_runS (As := [.int p1, .int z17]) (rest := []) S (c_Raw_isAligned l D cs  p1 z17   _) hT (pr := [wd_Raw cs h r (fun k => if k = 2 then o2 else if k = 4 then o4 else none) f a g, nA cs o2 36864 ma, nA cs o4 wn wc]) (pcs := []) hw px_X.tt m8_211 m8_209 m8_210 m1_34 q_Raw_isAligned ⟨Nat.le_of_ble_eq_true rfl, Nat.le_of_ble_eq_true rfl⟩ hl.1 rfl (Nat.le_of_ble_eq_true rfl) d_Raw_store_15 ⟨show 0 + 0 ≤ (nd o2) from (oz_4801a4ef71), show 0 + 0 ≤ (36864 * nd o2) from (oz_26949c3f46)⟩) hw hA (fun v19 p18 H locs hp18 hw => ?_) | refine px_calli (pr := [wd_Raw cs h r (fun k => if k = 2 then o2 else if k = 4 then o4 else none) f a g, nA cs o2 36864 ma, nA cs o4 wn wc]) (px_runS (As := [.int p1, .int z17]) (rest := []) S (c_Raw_isAligned l D cs  p1 z17   _) hT (pr := [wd_Raw cs h r (fun k => if k = 2 then o2 else if k = 4 then o4 else none) f a g, nA cs o2 36864 ma, nA cs o4 wn wc]) (pcs := []) hw px_X.tt m8_211 m8_209 m8_210 m1_34 q_Raw_isAligned ⟨Nat.le_of_ble_eq_true rfl, Nat.le_of_ble_eq_true rfl⟩ hl.1 rfl (Nat.le_of_ble_eq_true rfl) d_Raw_store_15 ⟨show 0 + 0 ≤ (nd o2) from (by first | exact oz_4801a4ef71 | omega), show 0 + 0 ≤ (36864 * nd o2) from (by first | exact oz_26949c3f46 | omega)⟩) hw hA (fun v19 p18 H locs hp18 hw => ?_)
    obtain ⟨rfl, e20⟩ := hp18
    have e20 := z_int e20
    have lv19 := Int32.le_toInt v19
    have uv19 := Int32.toInt_lt v19
    refine lv_if_eq (tgt := 26) S.x S.b d_Raw_store_18 (by decide) (fun c21 => ?_) (fun c21 => ?_)
    · have nc21 : v19.toInt = (0 : Int) := (i_eq (x := v19) (y := 0)).mp c21
      refine lv_aload_n S.x S.b d_Raw_store_26 rfl (lv_at hl 1 rfl) ?_
      refine lv_bipush (v := 7) S.x S.b d_Raw_store_27 (by decide) ?_
      refine lv_iconst (v := 0) S.x S.b d_Raw_store_29 (by decide) ?_
      have hw : pw D A s.heap _ _ [nA cs o2 36864 ma, nA cs o4 wn wc, wd_Raw cs h r (fun k => if k = 2 then o2 else if k = 4 then o4 else none) f a g] := hw.sub [1, 2, 0] rfl rfl
      first | refine px_callv (pr := [nA cs o2 36864 ma, nA cs o4 wn wc]) (px_runU (As := [.int 7, .int 0]) (rest := []) S (c_finish_Raw l D cs h r g o2 o4 f a 7 0   _) hT (pr := [nA cs o2 36864 ma, nA cs o4 wn wc]) (pcs := [wd_Raw cs h r (fun k => if k = 2 then o2 else if k = 4 then o4 else none) f a g]) hw px_X.tt (C := "HomeSystem$RawProcess") (x := ⟨"HomeSystem$RawProcess", "finish", "(II)V"⟩) (px_recv hT hw 2 0 rfl rfl rfl) m8_89 m8_170 m8_171 m8_85 m8_173 m1_33 rfl q_HomeSystem_AnyProcess_finish ⟨Nat.le_of_ble_eq_true rfl, Nat.le_of_ble_eq_true rfl⟩ hl.1 rfl (Nat.le_of_ble_eq_true rfl) d_Raw_store_30 ⟨show 0 + 0 ≤ (nd o2) from (oz_4801a4ef71), show 0 + 0 ≤ (36864 * nd o2) from (oz_26949c3f46)⟩) hw hA (fun p24 H locs hp24 hw => ?_) | refine px_callv (pr := [nA cs o2 36864 ma, nA cs o4 wn wc]) (px_runU (As := [.int 7, .int 0]) (rest := []) S (c_finish_Raw l D cs h r g o2 o4 f a 7 0   _) hT (pr := [nA cs o2 36864 ma, nA cs o4 wn wc]) (pcs := [wd_Raw cs h r (fun k => if k = 2 then o2 else if k = 4 then o4 else none) f a g]) hw px_X.tt (C := "HomeSystem$RawProcess") (x := ⟨"HomeSystem$RawProcess", "finish", "(II)V"⟩) (px_recv hT hw 2 0 rfl rfl rfl) m8_89 m8_170 m8_171 m8_85 m8_173 m1_33 rfl q_HomeSystem_AnyProcess_finish ⟨Nat.le_of_ble_eq_true rfl, Nat.le_of_ble_eq_true rfl⟩ hl.1 rfl (Nat.le_of_ble_eq_true rfl) d_Raw_store_30 ⟨show 0 + 0 ≤ (nd o2) from (by first | exact oz_4801a4ef71 | omega), show 0 + 0 ≤ (36864 * nd o2) from (by first | exact oz_26949c3f46 | omega)⟩) hw hA (fun p24 H locs hp24 hw => ?_)
      obtain ⟨f22, a23, rfl, e26, e27, e28, e29, e30, e31, e32⟩ := hp24
      have e26 : (f22 3).toInt = (f 3).toInt := e26
      have e27 : (f22 7).toInt = (f 7).toInt := e27
      have e28 : (f22 8).toInt = (f 8).toInt := e28
      have e29 : (f22 10).toInt = (f 10).toInt := e29
      have e30 : (f22 13).toInt = (f 13).toInt := e30
      have e31 : (f22 14).toInt = 0 := e31
      have e32 : (f22 11).toInt = (7 : Int) := e32
      have hw : pw D A s.heap _ _ [wd_Raw cs h r (fun k => if k = 2 then o2 else if k = 4 then o4 else none) f22 a23 g, nA cs o2 36864 ma, nA cs o4 wn wc] := hw.sub [2, 0, 1] rfl rfl
      first | exact pg_vret S hr hlk hAe hw (show 0 ≤ (nd o2) from oz_c4e42565ca) (show 0 ≤ (36864 * nd o2) from oz_5cdfddacaa) (⟨f22, a23, o2, ma, rfl, (show (f22 3).toInt = (f 3).toInt from e26), (show (f22 7).toInt = (f 7).toInt from e27), (show (f22 8).toInt = (f 8).toInt from e28), (show (f22 10).toInt = (f 10).toInt from e29), (show (f22 13).toInt = (f 13).toInt from e30), (show (f22 14).toInt = 0 from e31), (show 0 + nd o2 ≤ nd o2 from oz_d90171b0e4), (show 0 + 36864 * nd o2 ≤ 36864 * nd o2 from oz_9c92651dc9)⟩) d_Raw_store_33 | exact pg_vret S hr hlk hAe hw (show 0 ≤ (nd o2) from by first | exact oz_c4e42565ca | omega) (show 0 ≤ (36864 * nd o2) from by first | exact oz_5cdfddacaa | omega) (⟨f22, a23, o2, ma, rfl, (show (f22 3).toInt = (f 3).toInt from by first | exact e26 | omega), (show (f22 7).toInt = (f 7).toInt from by first | exact e27 | omega), (show (f22 8).toInt = (f 8).toInt from by first | exact e28 | omega), (show (f22 10).toInt = (f 10).toInt from by first | exact e29 | omega), (show (f22 13).toInt = (f 13).toInt from by first | exact e30 | omega), (show (f22 14).toInt = 0 from by first | exact e31 | omega), (show 0 + nd o2 ≤ nd o2 from by first | exact oz_d90171b0e4 | omega), (show 0 + 36864 * nd o2 ≤ 36864 * nd o2 from by first | exact oz_9c92651dc9 | omega)⟩) d_Raw_store_33
    · have nc21 : ¬ v19.toInt = (0 : Int) := mt (i_eq (x := v19) (y := 0)).mpr c21
      refine lv_iload S.x S.b d_Raw_store_21 (lv_at hl 0 rfl) ?_
      refine lv_if_ge (tgt := 34) S.x S.b d_Raw_store_23 (by decide) (fun c33 => ?_) (fun c33 => ?_)
      · have nc33 : (0 : Int) ≤ v2.toInt := (i_le (x := 0) (y := v2)).mp c33
        refine lv_bipush (v := 8) S.x S.b d_Raw_store_34 (by decide) ?_
        refine lv_iload_n S.x S.b d_Raw_store_36 rfl (lv_at hl 3 rfl) ?_
        refine lv_iconst (v := 3) S.x S.b d_Raw_store_37 (by decide) ?_
        refine lv_iand S.x S.b d_Raw_store_38 ?_
        refine lv_topi (fun z34 ez34 => ?_)
        have lz34 := Int32.le_toInt z34
        have uz34 := Int32.toInt_lt z34
        have bz34 := i_andm p1 (m := 3) 2 (by decide) (by decide)
        rw [← ez34] at bz34
        have wz34 : 0 ≤ z34.toInt ∧ z34.toInt ≤ 3 := by simp only [Nat.reducePow, Int.reducePow] at bz34; omega
        refine lv_imul S.x S.b d_Raw_store_39 ?_
        refine lv_topi (fun z35 ez35 => ?_)
        have lz35 := Int32.le_toInt z35
        have uz35 := Int32.toInt_lt z35
        have tz35 : -2147483648 ≤ 8 * z34.toInt → 8 * z34.toInt < 2147483648 → z35.toInt = 8 * z34.toInt := by rw [ez35]; exact i_mulc 8 z34 (by decide)
        refine lv_istore (lv' := [(5, .int z35), (4, .int v2), (0, .ref h), (1, .int p0), (2, .int p1), (3, .int p2)]) S.x S.b d_Raw_store_40 hl (by decide) rfl (fun ls hl => ?_)
        refine lv_iconst (v := (-1)) S.x S.b d_Raw_store_42 (by decide) ?_
        refine lv_bipush (v := 32) S.x S.b d_Raw_store_43 (by decide) ?_
        refine lv_bipush (v := 8) S.x S.b d_Raw_store_45 (by decide) ?_
        refine lv_iload_n S.x S.b d_Raw_store_47 rfl (lv_at hl 3 rfl) ?_
        refine lv_ishl S.x S.b d_Raw_store_48 ?_
        refine lv_topi (fun z36 ez36 => ?_)
        have lz36 := Int32.le_toInt z36
        have uz36 := Int32.toInt_lt z36
        refine lv_isub S.x S.b d_Raw_store_49 ?_
        refine lv_topi (fun z37 ez37 => ?_)
        have tz37 : z37.toInt = ((32 : Int) - z36.toInt + 2147483648) % 4294967296 - 2147483648 := by rw [ez37]; exact i_sub 32 z36
        have lz37 := Int32.le_toInt z37
        have uz37 := Int32.toInt_lt z37
        refine lv_iushr S.x S.b d_Raw_store_50 rfl ?_
        refine lv_topi (fun z38 ez38 => ?_)
        have lz38 := Int32.le_toInt z38
        have uz38 := Int32.toInt_lt z38
        refine lv_iload S.x S.b d_Raw_store_51 (lv_at hl 0 rfl) ?_
        refine lv_ishl S.x S.b d_Raw_store_53 ?_
        refine lv_topi (fun z39 ez39 => ?_)
        have lz39 := Int32.le_toInt z39
        have uz39 := Int32.toInt_lt z39
        refine lv_istore (lv' := [(6, .int z39), (5, .int z35), (4, .int v2), (0, .ref h), (1, .int p0), (2, .int p1), (3, .int p2)]) S.x S.b d_Raw_store_54 hl (by decide) rfl (fun ls hl => ?_)
        refine lv_aload_n S.x S.b d_Raw_store_56 rfl (lv_at hl 3 rfl) ?_
        refine lv_iload S.x S.b d_Raw_store_57 (lv_at hl 2 rfl) ?_
        refine lv_aload_n S.x S.b d_Raw_store_59 rfl (lv_at hl 3 rfl) ?_
        refine lv_iload_n S.x S.b d_Raw_store_60 rfl (lv_at hl 5 rfl) ?_
        first | refine px_calli (pr := []) (px_runV (As := [.int p1]) (rest := [.int v2, .ref h]) S (c_Raw_wordAt l D cs h r g o4 wn wc f a o2 ma p1  (show wn ≤ 1000000 from g1) _) hT (pr := []) (pcs := [wd_Raw cs h r (fun k => if k = 2 then o2 else if k = 4 then o4 else none) f a g, nA cs o2 36864 ma, nA cs o4 wn wc]) hw px_X.tt (px_recv hT hw 0 0 rfl rfl rfl) m8_139 m8_136 m8_138 ms_5_14 m1_34 q_Raw_wordAt ⟨Nat.le_of_ble_eq_true rfl, Nat.le_of_ble_eq_true rfl⟩ hl.1 rfl (Nat.le_of_ble_eq_true rfl) d_Raw_store_61 ⟨show 0 + 0 ≤ (nd o2) from (oz_4801a4ef71), show 0 + 0 ≤ (36864 * nd o2) from (oz_26949c3f46)⟩) hw hA (fun v41 p40 H locs hp40 hw => ?_) | refine px_calli (pr := []) (px_runV (As := [.int p1]) (rest := [.int v2, .ref h]) S (c_Raw_wordAt l D cs h r g o4 wn wc f a o2 ma p1  (show wn ≤ 1000000 from by first | exact g1 | omega) _) hT (pr := []) (pcs := [wd_Raw cs h r (fun k => if k = 2 then o2 else if k = 4 then o4 else none) f a g, nA cs o2 36864 ma, nA cs o4 wn wc]) hw px_X.tt (px_recv hT hw 0 0 rfl rfl rfl) m8_139 m8_136 m8_138 ms_5_14 m1_34 q_Raw_wordAt ⟨Nat.le_of_ble_eq_true rfl, Nat.le_of_ble_eq_true rfl⟩ hl.1 rfl (Nat.le_of_ble_eq_true rfl) d_Raw_store_61 ⟨show 0 + 0 ≤ (nd o2) from (by first | exact oz_4801a4ef71 | omega), show 0 + 0 ≤ (36864 * nd o2) from (by first | exact oz_26949c3f46 | omega)⟩) hw hA (fun v41 p40 H locs hp40 hw => ?_)
        subst hp40
        have lv41 := Int32.le_toInt v41
        have uv41 := Int32.toInt_lt v41
        refine lv_iload S.x S.b d_Raw_store_64 (lv_at hl 0 rfl) ?_
        refine lv_iconst (v := (-1)) S.x S.b d_Raw_store_66 (by decide) ?_
        refine lv_ixor S.x S.b d_Raw_store_67 ?_
        refine lv_topi (fun z42 ez42 => ?_)
        have lz42 := Int32.le_toInt z42
        have uz42 := Int32.toInt_lt z42
        refine lv_iand S.x S.b d_Raw_store_68 ?_
        refine lv_topi (fun z43 ez43 => ?_)
        have lz43 := Int32.le_toInt z43
        have uz43 := Int32.toInt_lt z43
        refine lv_iload_n S.x S.b d_Raw_store_69 rfl (lv_at hl 6 rfl) ?_
        refine lv_iload S.x S.b d_Raw_store_70 (lv_at hl 1 rfl) ?_
        refine lv_ishl S.x S.b d_Raw_store_72 ?_
        refine lv_topi (fun z44 ez44 => ?_)
        have lz44 := Int32.le_toInt z44
        have uz44 := Int32.toInt_lt z44
        refine lv_iload S.x S.b d_Raw_store_73 (lv_at hl 0 rfl) ?_
        refine lv_iand S.x S.b d_Raw_store_75 ?_
        refine lv_topi (fun z45 ez45 => ?_)
        have lz45 := Int32.le_toInt z45
        have uz45 := Int32.toInt_lt z45
        refine lv_ior S.x S.b d_Raw_store_76 ?_
        refine lv_topi (fun z46 ez46 => ?_)
        have lz46 := Int32.le_toInt z46
        have uz46 := Int32.toInt_lt z46
        have hw : pw D A s.heap _ _ [nA cs o4 wn wc, wd_Raw cs h r (fun k => if k = 2 then o2 else if k = 4 then o4 else none) f a g, nA cs o2 36864 ma] := hw.sub [2, 0, 1] rfl rfl
        first | refine pg_callv (pr := [nA cs o4 wn wc]) (px_runV (As := [.int v2, .int z46]) (rest := []) S (c_Raw_setCell l D cs h r g o4 f a o2 ma v2 z46   _ _) hT (pr := [nA cs o4 wn wc]) (pcs := [wd_Raw cs h r (fun k => if k = 2 then o2 else if k = 4 then o4 else none) f a g, nA cs o2 36864 ma]) hw (px_X.tot px_X.tt) (px_recv hT hw 1 0 rfl rfl rfl) m8_120 m8_117 m8_119 ms_5_12 m1_34 q_Raw_setCell ⟨Nat.le_of_ble_eq_true rfl, Nat.le_of_ble_eq_true rfl⟩ hl.1 rfl (Nat.le_of_ble_eq_true rfl) d_Raw_store_77 ⟨show 0 + (nd o2) ≤ (nd o2) from (oz_06727f128b), show 0 + (36864 * nd o2) ≤ (36864 * nd o2) from (oz_59d5c717d7)⟩) hw hA (fun p51 k53 n54 H locs hp51 hw => ?_) | refine pg_callv (pr := [nA cs o4 wn wc]) (px_runV (As := [.int v2, .int z46]) (rest := []) S (c_Raw_setCell l D cs h r g o4 f a o2 ma v2 z46   _ _) hT (pr := [nA cs o4 wn wc]) (pcs := [wd_Raw cs h r (fun k => if k = 2 then o2 else if k = 4 then o4 else none) f a g, nA cs o2 36864 ma]) hw (px_X.tot px_X.tt) (px_recv hT hw 1 0 rfl rfl rfl) m8_120 m8_117 m8_119 ms_5_12 m1_34 q_Raw_setCell ⟨Nat.le_of_ble_eq_true rfl, Nat.le_of_ble_eq_true rfl⟩ hl.1 rfl (Nat.le_of_ble_eq_true rfl) d_Raw_store_77 ⟨show 0 + (nd o2) ≤ (nd o2) from (by first | exact oz_06727f128b | omega), show 0 + (36864 * nd o2) ≤ (36864 * nd o2) from (by first | exact oz_59d5c717d7 | omega)⟩) hw hA (fun p51 k53 n54 H locs hp51 hw => ?_)
        dsimp only at hp51
        obtain ⟨f47, a48, o249, ma50, rfl, e55, e56, e57, e58, e59, e60, e61, e62, e63⟩ := hp51
        have e55 : (f47 3).toInt = (f 3).toInt := e55
        have e56 : (f47 7).toInt = (f 7).toInt := e56
        have e57 : (f47 8).toInt = (f 8).toInt := e57
        have e58 : (f47 10).toInt = (f 10).toInt := e58
        have e59 : (f47 13).toInt = (f 13).toInt := e59
        have e60 : (f47 14).toInt = (f 14).toInt := e60
        have e61 : (f47 11).toInt = (f 11).toInt := e61
        have e62 : k53 + nd o249 ≤ nd o2 := e62
        have e63 : n54 + 36864 * nd o249 ≤ 36864 * nd o2 := e63
        have hw : pw D A s.heap _ _ [wd_Raw cs h r (fun k => if k = 2 then o249 else if k = 4 then o4 else none) f47 a48 g, nA cs o249 36864 ma50, nA cs o4 wn wc] := hw.sub [1, 2, 0] rfl rfl
        first | exact pg_vret S hr hlk hAe hw (show (0 + k53) ≤ (nd o2) from (oz_cb01867abd e62)) (show (0 + n54) ≤ (36864 * nd o2) from (oz_9e82047430 e63)) (⟨f47, a48, o249, ma50, rfl, (show (f47 3).toInt = (f 3).toInt from e55), (show (f47 7).toInt = (f 7).toInt from e56), (show (f47 8).toInt = (f 8).toInt from e57), (show (f47 10).toInt = (f 10).toInt from e58), (show (f47 13).toInt = (f 13).toInt from e59), (show (f47 14).toInt = 0 from (oz_4193540c58 e60 g0)), (show (0 + k53) + nd o249 ≤ nd o2 from (oz_aa274e400b e62)), (show (0 + n54) + 36864 * nd o249 ≤ 36864 * nd o2 from (oz_093c094757 e63))⟩) d_Raw_store_80 | exact pg_vret S hr hlk hAe hw (show (0 + k53) ≤ (nd o2) from by first | exact oz_cb01867abd e62 | omega) (show (0 + n54) ≤ (36864 * nd o2) from by first | exact oz_9e82047430 e63 | omega) (⟨f47, a48, o249, ma50, rfl, (show (f47 3).toInt = (f 3).toInt from by first | exact e55 | omega), (show (f47 7).toInt = (f 7).toInt from by first | exact e56 | omega), (show (f47 8).toInt = (f 8).toInt from by first | exact e57 | omega), (show (f47 10).toInt = (f 10).toInt from by first | exact e58 | omega), (show (f47 13).toInt = (f 13).toInt from by first | exact e59 | omega), (show (f47 14).toInt = 0 from by first | exact oz_4193540c58 e60 g0 | omega), (show (0 + k53) + nd o249 ≤ nd o2 from by first | exact oz_aa274e400b e62 | omega), (show (0 + n54) + 36864 * nd o249 ≤ 36864 * nd o2 from by first | exact oz_093c094757 e63 | omega)⟩) d_Raw_store_80
      · have nc33 : ¬ (0 : Int) ≤ v2.toInt := mt (i_le (x := 0) (y := v2)).mpr c33
        refine lv_aload_n S.x S.b d_Raw_store_26 rfl (lv_at hl 1 rfl) ?_
        refine lv_bipush (v := 7) S.x S.b d_Raw_store_27 (by decide) ?_
        refine lv_iconst (v := 0) S.x S.b d_Raw_store_29 (by decide) ?_
        have hw : pw D A s.heap _ _ [nA cs o2 36864 ma, nA cs o4 wn wc, wd_Raw cs h r (fun k => if k = 2 then o2 else if k = 4 then o4 else none) f a g] := hw.sub [1, 2, 0] rfl rfl
        first | refine px_callv (pr := [nA cs o2 36864 ma, nA cs o4 wn wc]) (px_runU (As := [.int 7, .int 0]) (rest := []) S (c_finish_Raw l D cs h r g o2 o4 f a 7 0   _) hT (pr := [nA cs o2 36864 ma, nA cs o4 wn wc]) (pcs := [wd_Raw cs h r (fun k => if k = 2 then o2 else if k = 4 then o4 else none) f a g]) hw px_X.tt (C := "HomeSystem$RawProcess") (x := ⟨"HomeSystem$RawProcess", "finish", "(II)V"⟩) (px_recv hT hw 2 0 rfl rfl rfl) m8_89 m8_170 m8_171 m8_85 m8_173 m1_33 rfl q_HomeSystem_AnyProcess_finish ⟨Nat.le_of_ble_eq_true rfl, Nat.le_of_ble_eq_true rfl⟩ hl.1 rfl (Nat.le_of_ble_eq_true rfl) d_Raw_store_30 ⟨show 0 + 0 ≤ (nd o2) from (oz_4801a4ef71), show 0 + 0 ≤ (36864 * nd o2) from (oz_26949c3f46)⟩) hw hA (fun p66 H locs hp66 hw => ?_) | refine px_callv (pr := [nA cs o2 36864 ma, nA cs o4 wn wc]) (px_runU (As := [.int 7, .int 0]) (rest := []) S (c_finish_Raw l D cs h r g o2 o4 f a 7 0   _) hT (pr := [nA cs o2 36864 ma, nA cs o4 wn wc]) (pcs := [wd_Raw cs h r (fun k => if k = 2 then o2 else if k = 4 then o4 else none) f a g]) hw px_X.tt (C := "HomeSystem$RawProcess") (x := ⟨"HomeSystem$RawProcess", "finish", "(II)V"⟩) (px_recv hT hw 2 0 rfl rfl rfl) m8_89 m8_170 m8_171 m8_85 m8_173 m1_33 rfl q_HomeSystem_AnyProcess_finish ⟨Nat.le_of_ble_eq_true rfl, Nat.le_of_ble_eq_true rfl⟩ hl.1 rfl (Nat.le_of_ble_eq_true rfl) d_Raw_store_30 ⟨show 0 + 0 ≤ (nd o2) from (by first | exact oz_4801a4ef71 | omega), show 0 + 0 ≤ (36864 * nd o2) from (by first | exact oz_26949c3f46 | omega)⟩) hw hA (fun p66 H locs hp66 hw => ?_)
        obtain ⟨f64, a65, rfl, e68, e69, e70, e71, e72, e73, e74⟩ := hp66
        have e68 : (f64 3).toInt = (f 3).toInt := e68
        have e69 : (f64 7).toInt = (f 7).toInt := e69
        have e70 : (f64 8).toInt = (f 8).toInt := e70
        have e71 : (f64 10).toInt = (f 10).toInt := e71
        have e72 : (f64 13).toInt = (f 13).toInt := e72
        have e73 : (f64 14).toInt = 0 := e73
        have e74 : (f64 11).toInt = (7 : Int) := e74
        have hw : pw D A s.heap _ _ [wd_Raw cs h r (fun k => if k = 2 then o2 else if k = 4 then o4 else none) f64 a65 g, nA cs o2 36864 ma, nA cs o4 wn wc] := hw.sub [2, 0, 1] rfl rfl
        first | exact pg_vret S hr hlk hAe hw (show 0 ≤ (nd o2) from oz_c4e42565ca) (show 0 ≤ (36864 * nd o2) from oz_5cdfddacaa) (⟨f64, a65, o2, ma, rfl, (show (f64 3).toInt = (f 3).toInt from e68), (show (f64 7).toInt = (f 7).toInt from e69), (show (f64 8).toInt = (f 8).toInt from e70), (show (f64 10).toInt = (f 10).toInt from e71), (show (f64 13).toInt = (f 13).toInt from e72), (show (f64 14).toInt = 0 from e73), (show 0 + nd o2 ≤ nd o2 from oz_d90171b0e4), (show 0 + 36864 * nd o2 ≤ 36864 * nd o2 from oz_9c92651dc9)⟩) d_Raw_store_33 | exact pg_vret S hr hlk hAe hw (show 0 ≤ (nd o2) from by first | exact oz_c4e42565ca | omega) (show 0 ≤ (36864 * nd o2) from by first | exact oz_5cdfddacaa | omega) (⟨f64, a65, o2, ma, rfl, (show (f64 3).toInt = (f 3).toInt from by first | exact e68 | omega), (show (f64 7).toInt = (f 7).toInt from by first | exact e69 | omega), (show (f64 8).toInt = (f 8).toInt from by first | exact e70 | omega), (show (f64 10).toInt = (f 10).toInt from by first | exact e71 | omega), (show (f64 13).toInt = (f 13).toInt from by first | exact e72 | omega), (show (f64 14).toInt = 0 from by first | exact e73 | omega), (show 0 + nd o2 ≤ nd o2 from by first | exact oz_d90171b0e4 | omega), (show 0 + 36864 * nd o2 ≤ 36864 * nd o2 from by first | exact oz_9c92651dc9 | omega)⟩) d_Raw_store_33
abbrev b_Raw_perform : ByteArray := prog_8_method_13_code
def y_Raw_perform : MethodName := ⟨"HomeSystem$RawProcess", "perform", "(I)V"⟩
theorem d_Raw_perform_0 : decode b_Raw_perform 0 = .ok (.iload_n 1, 1) := by decide +kernel
theorem d_Raw_perform_1 : decode b_Raw_perform 1 = .ok (.bipush 7, 2) := by decide +kernel
theorem d_Raw_perform_3 : decode b_Raw_perform 3 = .ok (.iushr, 1) := by decide +kernel
theorem d_Raw_perform_4 : decode b_Raw_perform 4 = .ok (.bipush 31, 2) := by decide +kernel
theorem d_Raw_perform_6 : decode b_Raw_perform 6 = .ok (.iand, 1) := by decide +kernel
theorem d_Raw_perform_7 : decode b_Raw_perform 7 = .ok (.istore_n 2, 1) := by decide +kernel
theorem d_Raw_perform_8 : decode b_Raw_perform 8 = .ok (.iload_n 1, 1) := by decide +kernel
theorem d_Raw_perform_9 : decode b_Raw_perform 9 = .ok (.bipush 12, 2) := by decide +kernel
theorem d_Raw_perform_11 : decode b_Raw_perform 11 = .ok (.iushr, 1) := by decide +kernel
theorem d_Raw_perform_12 : decode b_Raw_perform 12 = .ok (.bipush 7, 2) := by decide +kernel
theorem d_Raw_perform_14 : decode b_Raw_perform 14 = .ok (.iand, 1) := by decide +kernel
theorem d_Raw_perform_15 : decode b_Raw_perform 15 = .ok (.istore_n 3, 1) := by decide +kernel
theorem d_Raw_perform_16 : decode b_Raw_perform 16 = .ok (.aload_n 0, 1) := by decide +kernel
theorem d_Raw_perform_17 : decode b_Raw_perform 17 = .ok (.getfield 9, 3) := by decide +kernel
theorem d_Raw_perform_20 : decode b_Raw_perform 20 = .ok (.iload_n 1, 1) := by decide +kernel
theorem d_Raw_perform_21 : decode b_Raw_perform 21 = .ok (.bipush 15, 2) := by decide +kernel
theorem d_Raw_perform_23 : decode b_Raw_perform 23 = .ok (.iushr, 1) := by decide +kernel
theorem d_Raw_perform_24 : decode b_Raw_perform 24 = .ok (.bipush 31, 2) := by decide +kernel
theorem d_Raw_perform_26 : decode b_Raw_perform 26 = .ok (.iand, 1) := by decide +kernel
theorem d_Raw_perform_27 : decode b_Raw_perform 27 = .ok (.iaload, 1) := by decide +kernel
theorem d_Raw_perform_28 : decode b_Raw_perform 28 = .ok (.istore 4, 2) := by decide +kernel
theorem d_Raw_perform_30 : decode b_Raw_perform 30 = .ok (.aload_n 0, 1) := by decide +kernel
theorem d_Raw_perform_31 : decode b_Raw_perform 31 = .ok (.getfield 9, 3) := by decide +kernel
theorem d_Raw_perform_34 : decode b_Raw_perform 34 = .ok (.iload_n 1, 1) := by decide +kernel
theorem d_Raw_perform_35 : decode b_Raw_perform 35 = .ok (.bipush 20, 2) := by decide +kernel
theorem d_Raw_perform_37 : decode b_Raw_perform 37 = .ok (.iushr, 1) := by decide +kernel
theorem d_Raw_perform_38 : decode b_Raw_perform 38 = .ok (.bipush 31, 2) := by decide +kernel
theorem d_Raw_perform_40 : decode b_Raw_perform 40 = .ok (.iand, 1) := by decide +kernel
theorem d_Raw_perform_41 : decode b_Raw_perform 41 = .ok (.iaload, 1) := by decide +kernel
theorem d_Raw_perform_42 : decode b_Raw_perform 42 = .ok (.istore 5, 2) := by decide +kernel
theorem d_Raw_perform_44 : decode b_Raw_perform 44 = .ok (.iload_n 1, 1) := by decide +kernel
theorem d_Raw_perform_45 : decode b_Raw_perform 45 = .ok (.bipush 127, 2) := by decide +kernel
theorem d_Raw_perform_47 : decode b_Raw_perform 47 = .ok (.iand, 1) := by decide +kernel
theorem d_Raw_perform_48 : decode b_Raw_perform 48 = .ok (.lookupswitch 257 #[(3, 177), (15, 243), (19, 214), (23, 105), (35, 193), (51, 226), (55, 92), (99, 156), (103, 140), (111, 123)], 92) := by decide +kernel
theorem d_Raw_perform_140 : decode b_Raw_perform 140 = .ok (.aload_n 0, 1) := by decide +kernel
theorem d_Raw_perform_141 : decode b_Raw_perform 141 = .ok (.iload_n 2, 1) := by decide +kernel
theorem d_Raw_perform_142 : decode b_Raw_perform 142 = .ok (.iload_n 1, 1) := by decide +kernel
theorem d_Raw_perform_143 : decode b_Raw_perform 143 = .ok (.sipush (-4096), 3) := by decide +kernel
theorem d_Raw_perform_146 : decode b_Raw_perform 146 = .ok (.iand, 1) := by decide +kernel
theorem d_Raw_perform_147 : decode b_Raw_perform 147 = .ok (.invokevirtual 103, 3) := by decide +kernel
theorem d_Raw_perform_150 : decode b_Raw_perform 150 = .ok (.goto 160, 3) := by decide +kernel
theorem d_Raw_perform_153 : decode b_Raw_perform 153 = .ok (.aload_n 0, 1) := by decide +kernel
theorem d_Raw_perform_154 : decode b_Raw_perform 154 = .ok (.iload_n 2, 1) := by decide +kernel
theorem d_Raw_perform_155 : decode b_Raw_perform 155 = .ok (.aload_n 0, 1) := by decide +kernel
theorem d_Raw_perform_156 : decode b_Raw_perform 156 = .ok (.getfield 38, 3) := by decide +kernel
theorem d_Raw_perform_159 : decode b_Raw_perform 159 = .ok (.iload_n 1, 1) := by decide +kernel
theorem d_Raw_perform_160 : decode b_Raw_perform 160 = .ok (.sipush (-4096), 3) := by decide +kernel
theorem d_Raw_perform_163 : decode b_Raw_perform 163 = .ok (.iand, 1) := by decide +kernel
theorem d_Raw_perform_164 : decode b_Raw_perform 164 = .ok (.iadd, 1) := by decide +kernel
theorem d_Raw_perform_165 : decode b_Raw_perform 165 = .ok (.invokevirtual 103, 3) := by decide +kernel
theorem d_Raw_perform_168 : decode b_Raw_perform 168 = .ok (.goto 142, 3) := by decide +kernel
theorem d_Raw_perform_171 : decode b_Raw_perform 171 = .ok (.aload_n 0, 1) := by decide +kernel
theorem d_Raw_perform_172 : decode b_Raw_perform 172 = .ok (.iload_n 2, 1) := by decide +kernel
theorem d_Raw_perform_173 : decode b_Raw_perform 173 = .ok (.aload_n 0, 1) := by decide +kernel
theorem d_Raw_perform_174 : decode b_Raw_perform 174 = .ok (.getfield 38, 3) := by decide +kernel
theorem d_Raw_perform_177 : decode b_Raw_perform 177 = .ok (.iload_n 1, 1) := by decide +kernel
theorem d_Raw_perform_178 : decode b_Raw_perform 178 = .ok (.invokestatic 106, 3) := by decide +kernel
theorem d_Raw_perform_181 : decode b_Raw_perform 181 = .ok (.iadd, 1) := by decide +kernel
theorem d_Raw_perform_182 : decode b_Raw_perform 182 = .ok (.invokevirtual 109, 3) := by decide +kernel
theorem d_Raw_perform_185 : decode b_Raw_perform 185 = .ok (.goto 125, 3) := by decide +kernel
theorem d_Raw_perform_188 : decode b_Raw_perform 188 = .ok (.aload_n 0, 1) := by decide +kernel
theorem d_Raw_perform_189 : decode b_Raw_perform 189 = .ok (.iload_n 2, 1) := by decide +kernel
theorem d_Raw_perform_190 : decode b_Raw_perform 190 = .ok (.iload_n 3, 1) := by decide +kernel
theorem d_Raw_perform_191 : decode b_Raw_perform 191 = .ok (.iload 4, 2) := by decide +kernel
theorem d_Raw_perform_193 : decode b_Raw_perform 193 = .ok (.iload_n 1, 1) := by decide +kernel
theorem d_Raw_perform_194 : decode b_Raw_perform 194 = .ok (.bipush 20, 2) := by decide +kernel
theorem d_Raw_perform_196 : decode b_Raw_perform 196 = .ok (.ishr, 1) := by decide +kernel
theorem d_Raw_perform_197 : decode b_Raw_perform 197 = .ok (.iadd, 1) := by decide +kernel
theorem d_Raw_perform_198 : decode b_Raw_perform 198 = .ok (.invokevirtual 112, 3) := by decide +kernel
theorem d_Raw_perform_201 : decode b_Raw_perform 201 = .ok (.goto 109, 3) := by decide +kernel
theorem d_Raw_perform_204 : decode b_Raw_perform 204 = .ok (.aload_n 0, 1) := by decide +kernel
theorem d_Raw_perform_205 : decode b_Raw_perform 205 = .ok (.iload_n 3, 1) := by decide +kernel
theorem d_Raw_perform_206 : decode b_Raw_perform 206 = .ok (.iload 4, 2) := by decide +kernel
theorem d_Raw_perform_208 : decode b_Raw_perform 208 = .ok (.iload 5, 2) := by decide +kernel
theorem d_Raw_perform_210 : decode b_Raw_perform 210 = .ok (.aload_n 0, 1) := by decide +kernel
theorem d_Raw_perform_211 : decode b_Raw_perform 211 = .ok (.getfield 38, 3) := by decide +kernel
theorem d_Raw_perform_214 : decode b_Raw_perform 214 = .ok (.iload_n 1, 1) := by decide +kernel
theorem d_Raw_perform_215 : decode b_Raw_perform 215 = .ok (.invokestatic 116, 3) := by decide +kernel
theorem d_Raw_perform_218 : decode b_Raw_perform 218 = .ok (.iadd, 1) := by decide +kernel
theorem d_Raw_perform_219 : decode b_Raw_perform 219 = .ok (.invokevirtual 119, 3) := by decide +kernel
theorem d_Raw_perform_222 : decode b_Raw_perform 222 = .ok (.goto 88, 3) := by decide +kernel
theorem d_Raw_perform_225 : decode b_Raw_perform 225 = .ok (.aload_n 0, 1) := by decide +kernel
theorem d_Raw_perform_226 : decode b_Raw_perform 226 = .ok (.iload_n 2, 1) := by decide +kernel
theorem d_Raw_perform_227 : decode b_Raw_perform 227 = .ok (.iload_n 3, 1) := by decide +kernel
theorem d_Raw_perform_228 : decode b_Raw_perform 228 = .ok (.iload 4, 2) := by decide +kernel
theorem d_Raw_perform_230 : decode b_Raw_perform 230 = .ok (.iload_n 1, 1) := by decide +kernel
theorem d_Raw_perform_231 : decode b_Raw_perform 231 = .ok (.bipush 20, 2) := by decide +kernel
theorem d_Raw_perform_233 : decode b_Raw_perform 233 = .ok (.ishr, 1) := by decide +kernel
theorem d_Raw_perform_234 : decode b_Raw_perform 234 = .ok (.iadd, 1) := by decide +kernel
theorem d_Raw_perform_235 : decode b_Raw_perform 235 = .ok (.invokevirtual 123, 3) := by decide +kernel
theorem d_Raw_perform_238 : decode b_Raw_perform 238 = .ok (.goto 72, 3) := by decide +kernel
theorem d_Raw_perform_241 : decode b_Raw_perform 241 = .ok (.aload_n 0, 1) := by decide +kernel
theorem d_Raw_perform_242 : decode b_Raw_perform 242 = .ok (.iload_n 3, 1) := by decide +kernel
theorem d_Raw_perform_243 : decode b_Raw_perform 243 = .ok (.iload 4, 2) := by decide +kernel
theorem d_Raw_perform_245 : decode b_Raw_perform 245 = .ok (.iload_n 1, 1) := by decide +kernel
theorem d_Raw_perform_246 : decode b_Raw_perform 246 = .ok (.bipush 25, 2) := by decide +kernel
theorem d_Raw_perform_248 : decode b_Raw_perform 248 = .ok (.ishr, 1) := by decide +kernel
theorem d_Raw_perform_249 : decode b_Raw_perform 249 = .ok (.iconst 5, 1) := by decide +kernel
theorem d_Raw_perform_250 : decode b_Raw_perform 250 = .ok (.ishl, 1) := by decide +kernel
theorem d_Raw_perform_251 : decode b_Raw_perform 251 = .ok (.iload_n 2, 1) := by decide +kernel
theorem d_Raw_perform_252 : decode b_Raw_perform 252 = .ok (.ior, 1) := by decide +kernel
theorem d_Raw_perform_253 : decode b_Raw_perform 253 = .ok (.iadd, 1) := by decide +kernel
theorem d_Raw_perform_254 : decode b_Raw_perform 254 = .ok (.iload 5, 2) := by decide +kernel
theorem d_Raw_perform_256 : decode b_Raw_perform 256 = .ok (.invokevirtual 126, 3) := by decide +kernel
theorem d_Raw_perform_259 : decode b_Raw_perform 259 = .ok (.goto 51, 3) := by decide +kernel
theorem d_Raw_perform_262 : decode b_Raw_perform 262 = .ok (.aload_n 0, 1) := by decide +kernel
theorem d_Raw_perform_263 : decode b_Raw_perform 263 = .ok (.iload_n 1, 1) := by decide +kernel
theorem d_Raw_perform_264 : decode b_Raw_perform 264 = .ok (.iload_n 2, 1) := by decide +kernel
theorem d_Raw_perform_265 : decode b_Raw_perform 265 = .ok (.iload_n 3, 1) := by decide +kernel
theorem d_Raw_perform_266 : decode b_Raw_perform 266 = .ok (.iload 4, 2) := by decide +kernel
theorem d_Raw_perform_268 : decode b_Raw_perform 268 = .ok (.invokevirtual 129, 3) := by decide +kernel
theorem d_Raw_perform_271 : decode b_Raw_perform 271 = .ok (.goto 39, 3) := by decide +kernel
theorem d_Raw_perform_274 : decode b_Raw_perform 274 = .ok (.aload_n 0, 1) := by decide +kernel
theorem d_Raw_perform_275 : decode b_Raw_perform 275 = .ok (.iload_n 1, 1) := by decide +kernel
theorem d_Raw_perform_276 : decode b_Raw_perform 276 = .ok (.bipush 25, 2) := by decide +kernel
theorem d_Raw_perform_278 : decode b_Raw_perform 278 = .ok (.iushr, 1) := by decide +kernel
theorem d_Raw_perform_279 : decode b_Raw_perform 279 = .ok (.iload_n 2, 1) := by decide +kernel
theorem d_Raw_perform_280 : decode b_Raw_perform 280 = .ok (.iload_n 3, 1) := by decide +kernel
theorem d_Raw_perform_281 : decode b_Raw_perform 281 = .ok (.iload 4, 2) := by decide +kernel
theorem d_Raw_perform_283 : decode b_Raw_perform 283 = .ok (.iload 5, 2) := by decide +kernel
theorem d_Raw_perform_285 : decode b_Raw_perform 285 = .ok (.invokevirtual 132, 3) := by decide +kernel
theorem d_Raw_perform_288 : decode b_Raw_perform 288 = .ok (.goto 22, 3) := by decide +kernel
theorem d_Raw_perform_291 : decode b_Raw_perform 291 = .ok (.iload_n 3, 1) := by decide +kernel
theorem d_Raw_perform_292 : decode b_Raw_perform 292 = .ok (.ifCond .eq 18, 3) := by decide +kernel
theorem d_Raw_perform_295 : decode b_Raw_perform 295 = .ok (.aload_n 0, 1) := by decide +kernel
theorem d_Raw_perform_296 : decode b_Raw_perform 296 = .ok (.bipush 7, 2) := by decide +kernel
theorem d_Raw_perform_298 : decode b_Raw_perform 298 = .ok (.iconst 0, 1) := by decide +kernel
theorem d_Raw_perform_299 : decode b_Raw_perform 299 = .ok (.invokevirtual 56, 3) := by decide +kernel
theorem d_Raw_perform_302 : decode b_Raw_perform 302 = .ok (.goto 8, 3) := by decide +kernel
theorem d_Raw_perform_305 : decode b_Raw_perform 305 = .ok (.aload_n 0, 1) := by decide +kernel
theorem d_Raw_perform_306 : decode b_Raw_perform 306 = .ok (.iload_n 1, 1) := by decide +kernel
theorem d_Raw_perform_307 : decode b_Raw_perform 307 = .ok (.invokevirtual 136, 3) := by decide +kernel
theorem d_Raw_perform_310 : decode b_Raw_perform 310 = .ok (.return_, 1) := by decide +kernel
theorem q_Raw_perform : px_y y_Raw_perform 1 := by unfold px_y; decide +kernel
set_option maxHeartbeats 4000000 in
set_option maxRecDepth 100000 in
theorem c_Raw_perform (l : Launch) (D : va_G) (cs : Nat → ClassId) (h : Nat) (r : Nat → Nat) (g : Nat → Nat → Option Nat) (o4 : Option Nat) (wn : Nat) (wc : Nat → Int32) (f : Nat → Int32) (a : Nat → Nat → Int32) (o2 : Option Nat) (ma : Nat → Int32) (p0 : Int32)  (g0 : (f 14).toInt = 0) (g1 : wn ≤ 1000000) : MgV l y_Raw_perform b_Raw_perform 6 D cs 4 150 ((nd o2)) ((36864 * nd o2)) [.ref h, .int p0] [wd_Raw cs h r (fun k => if k = 2 then o2 else if k = 4 then o4 else none) f a g, nA cs o2 36864 ma, nA cs o4 wn wc] (fun _ => True) (fun ps => ∃ (f' : Nat → Int32) (a' : Nat → Nat → Int32) (o2' : Option Nat) (ma' : Nat → Int32), (ps.1 = [wd_Raw cs h r (fun k => if k = 2 then o2' else if k = 4 then o4 else none) f' a' g, nA cs o2' 36864 ma', nA cs o4 wn wc]) ∧ ((f' 3).toInt = (f 3).toInt) ∧ ((f' 7).toInt = (f 7).toInt) ∧ ((f' 8).toInt = (f 8).toInt) ∧ ((f' 10).toInt = (f 10).toInt) ∧ ((f' 13).toInt = (f 13).toInt) ∧ ((f' 14).toInt = 0 ∨ (f' 14).toInt = 1) ∧ (ps.2.1 + nd o2' ≤ nd o2) ∧ (ps.2.2 + 36864 * nd o2' ≤ 36864 * nd o2)) := by
  refine pg_enter (by decide) (Nat.le_of_ble_eq_true rfl) ?_
  intro p e s m below meth c A ls hAe S hr hlk hnm hA hT hX hw hl
  have hl : lv_has ls 6 [(0, .ref h), (1, .int p0)] := hl
  have lp0 := Int32.le_toInt p0
  have up0 := Int32.toInt_lt p0
  have cstm4096 : ((-4096) : Int32).toInt = (-4096) := rfl
  have cst0 : (0 : Int32).toInt = 0 := rfl
  have cst5 : (5 : Int32).toInt = 5 := rfl
  have cst7 : (7 : Int32).toInt = 7 := rfl
  have cst12 : (12 : Int32).toInt = 12 := rfl
  have cst15 : (15 : Int32).toInt = 15 := rfl
  have cst20 : (20 : Int32).toInt = 20 := rfl
  have cst25 : (25 : Int32).toInt = 25 := rfl
  have cst31 : (31 : Int32).toInt = 31 := rfl
  have cst127 : (127 : Int32).toInt = 127 := rfl
  refine lv_iload_n S.x S.b d_Raw_perform_0 rfl (lv_at hl 1 rfl) ?_
  refine lv_bipush (v := 7) S.x S.b d_Raw_perform_1 (by decide) ?_
  refine lv_iushr S.x S.b d_Raw_perform_3 rfl ?_
  refine lv_topi (fun z1 ez1 => ?_)
  have lz1 := Int32.le_toInt z1
  have uz1 := Int32.toInt_lt z1
  refine lv_bipush (v := 31) S.x S.b d_Raw_perform_4 (by decide) ?_
  refine lv_iand S.x S.b d_Raw_perform_6 ?_
  refine lv_topi (fun z2 ez2 => ?_)
  have lz2 := Int32.le_toInt z2
  have uz2 := Int32.toInt_lt z2
  have bz2 := i_andm z1 (m := 31) 5 (by decide) (by decide)
  rw [← ez2] at bz2
  have wz2 : 0 ≤ z2.toInt ∧ z2.toInt ≤ 31 := by simp only [Nat.reducePow, Int.reducePow] at bz2; omega
  refine lv_istore_n (lv' := [(2, .int z2), (0, .ref h), (1, .int p0)]) S.x S.b d_Raw_perform_7 rfl hl (by decide) rfl (fun ls hl => ?_)
  refine lv_iload_n S.x S.b d_Raw_perform_8 rfl (lv_at hl 2 rfl) ?_
  refine lv_bipush (v := 12) S.x S.b d_Raw_perform_9 (by decide) ?_
  refine lv_iushr S.x S.b d_Raw_perform_11 rfl ?_
  refine lv_topi (fun z3 ez3 => ?_)
  have lz3 := Int32.le_toInt z3
  have uz3 := Int32.toInt_lt z3
  refine lv_bipush (v := 7) S.x S.b d_Raw_perform_12 (by decide) ?_
  refine lv_iand S.x S.b d_Raw_perform_14 ?_
  refine lv_topi (fun z4 ez4 => ?_)
  have lz4 := Int32.le_toInt z4
  have uz4 := Int32.toInt_lt z4
  have bz4 := i_andm z3 (m := 7) 3 (by decide) (by decide)
  rw [← ez4] at bz4
  have wz4 : 0 ≤ z4.toInt ∧ z4.toInt ≤ 7 := by simp only [Nat.reducePow, Int.reducePow] at bz4; omega
  refine lv_istore_n (lv' := [(3, .int z4), (2, .int z2), (0, .ref h), (1, .int p0)]) S.x S.b d_Raw_perform_15 rfl hl (by decide) rfl (fun ls hl => ?_)
  refine lv_aload_n S.x S.b d_Raw_perform_16 rfl (lv_at hl 2 rfl) ?_
  refine px_get S k_Raw hT hw 0 0 0 (v := .ref (r 0)) rfl rfl rfl (by decide) m6_124 d_Raw_perform_17 ?_
  refine lv_iload_n S.x S.b d_Raw_perform_20 rfl (lv_at hl 3 rfl) ?_
  refine lv_bipush (v := 15) S.x S.b d_Raw_perform_21 (by decide) ?_
  refine lv_iushr S.x S.b d_Raw_perform_23 rfl ?_
  refine lv_topi (fun z5 ez5 => ?_)
  have lz5 := Int32.le_toInt z5
  have uz5 := Int32.toInt_lt z5
  refine lv_bipush (v := 31) S.x S.b d_Raw_perform_24 (by decide) ?_
  refine lv_iand S.x S.b d_Raw_perform_26 ?_
  refine lv_topi (fun z6 ez6 => ?_)
  have lz6 := Int32.le_toInt z6
  have uz6 := Int32.toInt_lt z6
  have bz6 := i_andm z5 (m := 31) 5 (by decide) (by decide)
  rw [← ez6] at bz6
  have wz6 : 0 ≤ z6.toInt ∧ z6.toInt ≤ 31 := by simp only [Nat.reducePow, Int.reducePow] at bz6; omega
  refine px_iald S hT hw 0 1 (n := 32) (f := (a 0)) rfl rfl (x := z6) (vp_in_iff.mpr (by first | exact oz_0f96c12a68 wz6.1 wz6.2 | (constructor <;> omega))) d_Raw_perform_27 ?_
  refine lv_topi (fun z7 ez7 => ?_)
  have lz7 := Int32.le_toInt z7
  have uz7 := Int32.toInt_lt z7
  refine lv_istore (lv' := [(4, .int z7), (3, .int z4), (2, .int z2), (0, .ref h), (1, .int p0)]) S.x S.b d_Raw_perform_28 hl (by decide) rfl (fun ls hl => ?_)
  refine lv_aload_n S.x S.b d_Raw_perform_30 rfl (lv_at hl 3 rfl) ?_
  refine px_get S k_Raw hT hw 0 0 0 (v := .ref (r 0)) rfl rfl rfl (by decide) m6_124 d_Raw_perform_31 ?_
  refine lv_iload_n S.x S.b d_Raw_perform_34 rfl (lv_at hl 4 rfl) ?_
  refine lv_bipush (v := 20) S.x S.b d_Raw_perform_35 (by decide) ?_
  refine lv_iushr S.x S.b d_Raw_perform_37 rfl ?_
  refine lv_topi (fun z8 ez8 => ?_)
  have lz8 := Int32.le_toInt z8
  have uz8 := Int32.toInt_lt z8
  refine lv_bipush (v := 31) S.x S.b d_Raw_perform_38 (by decide) ?_
  refine lv_iand S.x S.b d_Raw_perform_40 ?_
  refine lv_topi (fun z9 ez9 => ?_)
  have lz9 := Int32.le_toInt z9
  have uz9 := Int32.toInt_lt z9
  have bz9 := i_andm z8 (m := 31) 5 (by decide) (by decide)
  rw [← ez9] at bz9
  have wz9 : 0 ≤ z9.toInt ∧ z9.toInt ≤ 31 := by simp only [Nat.reducePow, Int.reducePow] at bz9; omega
  refine px_iald S hT hw 0 1 (n := 32) (f := (a 0)) rfl rfl (x := z9) (vp_in_iff.mpr (by first | exact oz_0f96c12a68 wz9.1 wz9.2 | (constructor <;> omega))) d_Raw_perform_41 ?_
  refine lv_topi (fun z10 ez10 => ?_)
  have lz10 := Int32.le_toInt z10
  have uz10 := Int32.toInt_lt z10
  refine lv_istore (lv' := [(5, .int z10), (4, .int z7), (3, .int z4), (2, .int z2), (0, .ref h), (1, .int p0)]) S.x S.b d_Raw_perform_42 hl (by decide) rfl (fun ls hl => ?_)
  refine lv_iload_n S.x S.b d_Raw_perform_44 rfl (lv_at hl 5 rfl) ?_
  refine lv_bipush (v := 127) S.x S.b d_Raw_perform_45 (by decide) ?_
  refine lv_iand S.x S.b d_Raw_perform_47 ?_
  refine lv_topi (fun z11 ez11 => ?_)
  have lz11 := Int32.le_toInt z11
  have uz11 := Int32.toInt_lt z11
  refine px_lookup S (tgts := [225, 291, 262, 153, 241, 274, 140, 204, 188, 171, 305]) d_Raw_perform_48 (by decide +kernel) (by decide +kernel) ?_
  refine List.forall_mem_cons.mpr ⟨?_, List.forall_mem_cons.mpr ⟨?_, List.forall_mem_cons.mpr ⟨?_, List.forall_mem_cons.mpr ⟨?_, List.forall_mem_cons.mpr ⟨?_, List.forall_mem_cons.mpr ⟨?_, List.forall_mem_cons.mpr ⟨?_, List.forall_mem_cons.mpr ⟨?_, List.forall_mem_cons.mpr ⟨?_, List.forall_mem_cons.mpr ⟨?_, List.forall_mem_cons.mpr ⟨?_, fun _ h => absurd h List.not_mem_nil⟩⟩⟩⟩⟩⟩⟩⟩⟩⟩⟩
  ·
    refine lv_aload_n S.x S.b d_Raw_perform_225 rfl (lv_at hl 4 rfl) ?_
    refine lv_iload_n S.x S.b d_Raw_perform_226 rfl (lv_at hl 3 rfl) ?_
    refine lv_iload_n S.x S.b d_Raw_perform_227 rfl (lv_at hl 2 rfl) ?_
    refine lv_iload S.x S.b d_Raw_perform_228 (lv_at hl 1 rfl) ?_
    refine lv_iload_n S.x S.b d_Raw_perform_230 rfl (lv_at hl 5 rfl) ?_
    refine lv_bipush (v := 20) S.x S.b d_Raw_perform_231 (by decide) ?_
    refine lv_ishr S.x S.b d_Raw_perform_233 ?_
    refine lv_topi (fun z12 ez12 => ?_)
    have tz12 : z12.toInt = p0.toInt / 1048576 := by rw [ez12]; exact i_shr p0 20 (k := 20) (d := 1048576) (by decide) (by decide)
    have lz12 := Int32.le_toInt z12
    have uz12 := Int32.toInt_lt z12
    refine lv_iadd S.x S.b d_Raw_perform_234 ?_
    refine lv_topi (fun z13 ez13 => ?_)
    have tz13 : z13.toInt = (z7.toInt + z12.toInt + 2147483648) % 4294967296 - 2147483648 := by rw [ez13]; exact i_add z7 z12
    have lz13 := Int32.le_toInt z13
    have uz13 := Int32.toInt_lt z13
    first | refine pg_callv (pr := []) (px_runV (As := [.int z2, .int z4, .int z13]) (rest := []) S (c_Raw_load l D cs h r g o4 wn wc f a o2 ma z2 z4 z13  (show (f 14).toInt = 0 from g0) (show wn ≤ 1000000 from g1) _ _) hT (pr := []) (pcs := [wd_Raw cs h r (fun k => if k = 2 then o2 else if k = 4 then o4 else none) f a g, nA cs o2 36864 ma, nA cs o4 wn wc]) hw (px_X.tot px_X.tt) (px_recv hT hw 0 0 rfl rfl rfl) m8_208 m8_205 m8_207 ms_6_9 m1_34 q_Raw_load ⟨Nat.le_of_ble_eq_true rfl, Nat.le_of_ble_eq_true rfl⟩ hl.1 rfl (Nat.le_of_ble_eq_true rfl) d_Raw_perform_235 ⟨show 0 + (nd o2) ≤ (nd o2) from (oz_06727f128b), show 0 + (36864 * nd o2) ≤ (36864 * nd o2) from (oz_59d5c717d7)⟩) hw hA (fun p18 k20 n21 H locs hp18 hw => ?_) | refine pg_callv (pr := []) (px_runV (As := [.int z2, .int z4, .int z13]) (rest := []) S (c_Raw_load l D cs h r g o4 wn wc f a o2 ma z2 z4 z13  (show (f 14).toInt = 0 from by first | exact g0 | omega) (show wn ≤ 1000000 from by first | exact g1 | omega) _ _) hT (pr := []) (pcs := [wd_Raw cs h r (fun k => if k = 2 then o2 else if k = 4 then o4 else none) f a g, nA cs o2 36864 ma, nA cs o4 wn wc]) hw (px_X.tot px_X.tt) (px_recv hT hw 0 0 rfl rfl rfl) m8_208 m8_205 m8_207 ms_6_9 m1_34 q_Raw_load ⟨Nat.le_of_ble_eq_true rfl, Nat.le_of_ble_eq_true rfl⟩ hl.1 rfl (Nat.le_of_ble_eq_true rfl) d_Raw_perform_235 ⟨show 0 + (nd o2) ≤ (nd o2) from (by first | exact oz_06727f128b | omega), show 0 + (36864 * nd o2) ≤ (36864 * nd o2) from (by first | exact oz_59d5c717d7 | omega)⟩) hw hA (fun p18 k20 n21 H locs hp18 hw => ?_)
    dsimp only at hp18
    obtain ⟨f14, a15, o216, ma17, rfl, e22, e23, e24, e25, e26, e27, e28, e29⟩ := hp18
    have e22 : (f14 3).toInt = (f 3).toInt := e22
    have e23 : (f14 7).toInt = (f 7).toInt := e23
    have e24 : (f14 8).toInt = (f 8).toInt := e24
    have e25 : (f14 10).toInt = (f 10).toInt := e25
    have e26 : (f14 13).toInt = (f 13).toInt := e26
    have e27 : (f14 14).toInt = 0 := e27
    have e28 : k20 + nd o216 ≤ nd o2 := e28
    have e29 : n21 + 36864 * nd o216 ≤ 36864 * nd o2 := e29
    refine lv_goto (tgt := 310) S.x S.b d_Raw_perform_238 (by decide) ?_
    first | exact pg_vret S hr hlk hAe hw (show (0 + k20) ≤ (nd o2) from (oz_cb01867abd e28)) (show (0 + n21) ≤ (36864 * nd o2) from (oz_9e82047430 e29)) (⟨f14, a15, o216, ma17, rfl, (show (f14 3).toInt = (f 3).toInt from e22), (show (f14 7).toInt = (f 7).toInt from e23), (show (f14 8).toInt = (f 8).toInt from e24), (show (f14 10).toInt = (f 10).toInt from e25), (show (f14 13).toInt = (f 13).toInt from e26), (show (f14 14).toInt = 0 ∨ (f14 14).toInt = 1 from by first | with_reducible rfl | with_reducible assumption | omega), (show (0 + k20) + nd o216 ≤ nd o2 from (oz_aa274e400b e28)), (show (0 + n21) + 36864 * nd o216 ≤ 36864 * nd o2 from (oz_093c094757 e29))⟩) d_Raw_perform_310 | exact pg_vret S hr hlk hAe hw (show (0 + k20) ≤ (nd o2) from by first | exact oz_cb01867abd e28 | omega) (show (0 + n21) ≤ (36864 * nd o2) from by first | exact oz_9e82047430 e29 | omega) (⟨f14, a15, o216, ma17, rfl, (show (f14 3).toInt = (f 3).toInt from by first | exact e22 | omega), (show (f14 7).toInt = (f 7).toInt from by first | exact e23 | omega), (show (f14 8).toInt = (f 8).toInt from by first | exact e24 | omega), (show (f14 10).toInt = (f 10).toInt from by first | exact e25 | omega), (show (f14 13).toInt = (f 13).toInt from by first | exact e26 | omega), (show (f14 14).toInt = 0 ∨ (f14 14).toInt = 1 from by first | with_reducible rfl | with_reducible assumption | omega), (show (0 + k20) + nd o216 ≤ nd o2 from by first | exact oz_aa274e400b e28 | omega), (show (0 + n21) + 36864 * nd o216 ≤ 36864 * nd o2 from by first | exact oz_093c094757 e29 | omega)⟩) d_Raw_perform_310
  ·
    refine lv_iload_n S.x S.b d_Raw_perform_291 rfl (lv_at hl 2 rfl) ?_
    refine lv_if_eq (tgt := 310) S.x S.b d_Raw_perform_292 (by decide) (fun c30 => ?_) (fun c30 => ?_)
    · have nc30 : z4.toInt = (0 : Int) := (i_eq (x := z4) (y := 0)).mp c30
      first | exact pg_vret S hr hlk hAe hw (show 0 ≤ (nd o2) from oz_c4e42565ca) (show 0 ≤ (36864 * nd o2) from oz_5cdfddacaa) (⟨f, a, o2, ma, rfl, (show (f 3).toInt = (f 3).toInt from rfl), (show (f 7).toInt = (f 7).toInt from rfl), (show (f 8).toInt = (f 8).toInt from rfl), (show (f 10).toInt = (f 10).toInt from rfl), (show (f 13).toInt = (f 13).toInt from rfl), (show (f 14).toInt = 0 ∨ (f 14).toInt = 1 from by first | with_reducible rfl | with_reducible assumption | omega), (show 0 + nd o2 ≤ nd o2 from oz_d90171b0e4), (show 0 + 36864 * nd o2 ≤ 36864 * nd o2 from oz_9c92651dc9)⟩) d_Raw_perform_310 | exact pg_vret S hr hlk hAe hw (show 0 ≤ (nd o2) from by first | exact oz_c4e42565ca | omega) (show 0 ≤ (36864 * nd o2) from by first | exact oz_5cdfddacaa | omega) (⟨f, a, o2, ma, rfl, (show (f 3).toInt = (f 3).toInt from rfl), (show (f 7).toInt = (f 7).toInt from rfl), (show (f 8).toInt = (f 8).toInt from rfl), (show (f 10).toInt = (f 10).toInt from rfl), (show (f 13).toInt = (f 13).toInt from rfl), (show (f 14).toInt = 0 ∨ (f 14).toInt = 1 from by first | with_reducible rfl | with_reducible assumption | omega), (show 0 + nd o2 ≤ nd o2 from by first | exact oz_d90171b0e4 | omega), (show 0 + 36864 * nd o2 ≤ 36864 * nd o2 from by first | exact oz_9c92651dc9 | omega)⟩) d_Raw_perform_310
    · have nc30 : ¬ z4.toInt = (0 : Int) := mt (i_eq (x := z4) (y := 0)).mpr c30
      refine lv_aload_n S.x S.b d_Raw_perform_295 rfl (lv_at hl 4 rfl) ?_
      refine lv_bipush (v := 7) S.x S.b d_Raw_perform_296 (by decide) ?_
      refine lv_iconst (v := 0) S.x S.b d_Raw_perform_298 (by decide) ?_
      have hw : pw D A s.heap _ _ [nA cs o2 36864 ma, nA cs o4 wn wc, wd_Raw cs h r (fun k => if k = 2 then o2 else if k = 4 then o4 else none) f a g] := hw.sub [1, 2, 0] rfl rfl
      first | refine px_callv (pr := [nA cs o2 36864 ma, nA cs o4 wn wc]) (px_runU (As := [.int 7, .int 0]) (rest := []) S (c_finish_Raw l D cs h r g o2 o4 f a 7 0   _) hT (pr := [nA cs o2 36864 ma, nA cs o4 wn wc]) (pcs := [wd_Raw cs h r (fun k => if k = 2 then o2 else if k = 4 then o4 else none) f a g]) hw px_X.tt (C := "HomeSystem$RawProcess") (x := ⟨"HomeSystem$RawProcess", "finish", "(II)V"⟩) (px_recv hT hw 2 0 rfl rfl rfl) m8_89 m8_170 m8_171 m8_85 m8_173 m1_33 rfl q_HomeSystem_AnyProcess_finish ⟨Nat.le_of_ble_eq_true rfl, Nat.le_of_ble_eq_true rfl⟩ hl.1 rfl (Nat.le_of_ble_eq_true rfl) d_Raw_perform_299 ⟨show 0 + 0 ≤ (nd o2) from (oz_4801a4ef71), show 0 + 0 ≤ (36864 * nd o2) from (oz_26949c3f46)⟩) hw hA (fun p33 H locs hp33 hw => ?_) | refine px_callv (pr := [nA cs o2 36864 ma, nA cs o4 wn wc]) (px_runU (As := [.int 7, .int 0]) (rest := []) S (c_finish_Raw l D cs h r g o2 o4 f a 7 0   _) hT (pr := [nA cs o2 36864 ma, nA cs o4 wn wc]) (pcs := [wd_Raw cs h r (fun k => if k = 2 then o2 else if k = 4 then o4 else none) f a g]) hw px_X.tt (C := "HomeSystem$RawProcess") (x := ⟨"HomeSystem$RawProcess", "finish", "(II)V"⟩) (px_recv hT hw 2 0 rfl rfl rfl) m8_89 m8_170 m8_171 m8_85 m8_173 m1_33 rfl q_HomeSystem_AnyProcess_finish ⟨Nat.le_of_ble_eq_true rfl, Nat.le_of_ble_eq_true rfl⟩ hl.1 rfl (Nat.le_of_ble_eq_true rfl) d_Raw_perform_299 ⟨show 0 + 0 ≤ (nd o2) from (by first | exact oz_4801a4ef71 | omega), show 0 + 0 ≤ (36864 * nd o2) from (by first | exact oz_26949c3f46 | omega)⟩) hw hA (fun p33 H locs hp33 hw => ?_)
      obtain ⟨f31, a32, rfl, e35, e36, e37, e38, e39, e40, e41⟩ := hp33
      have e35 : (f31 3).toInt = (f 3).toInt := e35
      have e36 : (f31 7).toInt = (f 7).toInt := e36
      have e37 : (f31 8).toInt = (f 8).toInt := e37
      have e38 : (f31 10).toInt = (f 10).toInt := e38
      have e39 : (f31 13).toInt = (f 13).toInt := e39
      have e40 : (f31 14).toInt = 0 := e40
      have e41 : (f31 11).toInt = (7 : Int) := e41
      refine lv_goto (tgt := 310) S.x S.b d_Raw_perform_302 (by decide) ?_
      have hw : pw D A s.heap _ _ [wd_Raw cs h r (fun k => if k = 2 then o2 else if k = 4 then o4 else none) f31 a32 g, nA cs o2 36864 ma, nA cs o4 wn wc] := hw.sub [2, 0, 1] rfl rfl
      first | exact pg_vret S hr hlk hAe hw (show 0 ≤ (nd o2) from oz_c4e42565ca) (show 0 ≤ (36864 * nd o2) from oz_5cdfddacaa) (⟨f31, a32, o2, ma, rfl, (show (f31 3).toInt = (f 3).toInt from e35), (show (f31 7).toInt = (f 7).toInt from e36), (show (f31 8).toInt = (f 8).toInt from e37), (show (f31 10).toInt = (f 10).toInt from e38), (show (f31 13).toInt = (f 13).toInt from e39), (show (f31 14).toInt = 0 ∨ (f31 14).toInt = 1 from by first | with_reducible rfl | with_reducible assumption | omega), (show 0 + nd o2 ≤ nd o2 from oz_d90171b0e4), (show 0 + 36864 * nd o2 ≤ 36864 * nd o2 from oz_9c92651dc9)⟩) d_Raw_perform_310 | exact pg_vret S hr hlk hAe hw (show 0 ≤ (nd o2) from by first | exact oz_c4e42565ca | omega) (show 0 ≤ (36864 * nd o2) from by first | exact oz_5cdfddacaa | omega) (⟨f31, a32, o2, ma, rfl, (show (f31 3).toInt = (f 3).toInt from by first | exact e35 | omega), (show (f31 7).toInt = (f 7).toInt from by first | exact e36 | omega), (show (f31 8).toInt = (f 8).toInt from by first | exact e37 | omega), (show (f31 10).toInt = (f 10).toInt from by first | exact e38 | omega), (show (f31 13).toInt = (f 13).toInt from by first | exact e39 | omega), (show (f31 14).toInt = 0 ∨ (f31 14).toInt = 1 from by first | with_reducible rfl | with_reducible assumption | omega), (show 0 + nd o2 ≤ nd o2 from by first | exact oz_d90171b0e4 | omega), (show 0 + 36864 * nd o2 ≤ 36864 * nd o2 from by first | exact oz_9c92651dc9 | omega)⟩) d_Raw_perform_310
  ·
    refine lv_aload_n S.x S.b d_Raw_perform_262 rfl (lv_at hl 4 rfl) ?_
    refine lv_iload_n S.x S.b d_Raw_perform_263 rfl (lv_at hl 5 rfl) ?_
    refine lv_iload_n S.x S.b d_Raw_perform_264 rfl (lv_at hl 3 rfl) ?_
    refine lv_iload_n S.x S.b d_Raw_perform_265 rfl (lv_at hl 2 rfl) ?_
    refine lv_iload S.x S.b d_Raw_perform_266 (lv_at hl 1 rfl) ?_
    have hw : pw D A s.heap _ _ [nA cs o2 36864 ma, nA cs o4 wn wc, wd_Raw cs h r (fun k => if k = 2 then o2 else if k = 4 then o4 else none) f a g] := hw.sub [1, 2, 0] rfl rfl
    first | refine px_callv (pr := [nA cs o2 36864 ma, nA cs o4 wn wc]) (px_runV (As := [.int p0, .int z2, .int z4, .int z7]) (rest := []) S (c_Raw_immediate l D cs h r g o2 o4 f a p0 z2 z4 z7  (show (f 14).toInt = 0 from g0) _) hT (pr := [nA cs o2 36864 ma, nA cs o4 wn wc]) (pcs := [wd_Raw cs h r (fun k => if k = 2 then o2 else if k = 4 then o4 else none) f a g]) hw px_X.tt (px_recv hT hw 2 0 rfl rfl rfl) m8_219 m8_216 m8_218 ms_6_11 m1_34 q_Raw_immediate ⟨Nat.le_of_ble_eq_true rfl, Nat.le_of_ble_eq_true rfl⟩ hl.1 rfl (Nat.le_of_ble_eq_true rfl) d_Raw_perform_268 ⟨show 0 + 0 ≤ (nd o2) from (oz_4801a4ef71), show 0 + 0 ≤ (36864 * nd o2) from (oz_26949c3f46)⟩) hw hA (fun p44 H locs hp44 hw => ?_) | refine px_callv (pr := [nA cs o2 36864 ma, nA cs o4 wn wc]) (px_runV (As := [.int p0, .int z2, .int z4, .int z7]) (rest := []) S (c_Raw_immediate l D cs h r g o2 o4 f a p0 z2 z4 z7  (show (f 14).toInt = 0 from by first | exact g0 | omega) _) hT (pr := [nA cs o2 36864 ma, nA cs o4 wn wc]) (pcs := [wd_Raw cs h r (fun k => if k = 2 then o2 else if k = 4 then o4 else none) f a g]) hw px_X.tt (px_recv hT hw 2 0 rfl rfl rfl) m8_219 m8_216 m8_218 ms_6_11 m1_34 q_Raw_immediate ⟨Nat.le_of_ble_eq_true rfl, Nat.le_of_ble_eq_true rfl⟩ hl.1 rfl (Nat.le_of_ble_eq_true rfl) d_Raw_perform_268 ⟨show 0 + 0 ≤ (nd o2) from (by first | exact oz_4801a4ef71 | omega), show 0 + 0 ≤ (36864 * nd o2) from (by first | exact oz_26949c3f46 | omega)⟩) hw hA (fun p44 H locs hp44 hw => ?_)
    obtain ⟨f42, a43, rfl, e46, e47, e48, e49, e50, e51⟩ := hp44
    have e46 : (f42 3).toInt = (f 3).toInt := e46
    have e47 : (f42 7).toInt = (f 7).toInt := e47
    have e48 : (f42 8).toInt = (f 8).toInt := e48
    have e49 : (f42 10).toInt = (f 10).toInt := e49
    have e50 : (f42 13).toInt = (f 13).toInt := e50
    have e51 : (f42 14).toInt = 0 := e51
    refine lv_goto (tgt := 310) S.x S.b d_Raw_perform_271 (by decide) ?_
    have hw : pw D A s.heap _ _ [wd_Raw cs h r (fun k => if k = 2 then o2 else if k = 4 then o4 else none) f42 a43 g, nA cs o2 36864 ma, nA cs o4 wn wc] := hw.sub [2, 0, 1] rfl rfl
    first | exact pg_vret S hr hlk hAe hw (show 0 ≤ (nd o2) from oz_c4e42565ca) (show 0 ≤ (36864 * nd o2) from oz_5cdfddacaa) (⟨f42, a43, o2, ma, rfl, (show (f42 3).toInt = (f 3).toInt from e46), (show (f42 7).toInt = (f 7).toInt from e47), (show (f42 8).toInt = (f 8).toInt from e48), (show (f42 10).toInt = (f 10).toInt from e49), (show (f42 13).toInt = (f 13).toInt from e50), (show (f42 14).toInt = 0 ∨ (f42 14).toInt = 1 from by first | with_reducible rfl | with_reducible assumption | omega), (show 0 + nd o2 ≤ nd o2 from oz_d90171b0e4), (show 0 + 36864 * nd o2 ≤ 36864 * nd o2 from oz_9c92651dc9)⟩) d_Raw_perform_310 | exact pg_vret S hr hlk hAe hw (show 0 ≤ (nd o2) from by first | exact oz_c4e42565ca | omega) (show 0 ≤ (36864 * nd o2) from by first | exact oz_5cdfddacaa | omega) (⟨f42, a43, o2, ma, rfl, (show (f42 3).toInt = (f 3).toInt from by first | exact e46 | omega), (show (f42 7).toInt = (f 7).toInt from by first | exact e47 | omega), (show (f42 8).toInt = (f 8).toInt from by first | exact e48 | omega), (show (f42 10).toInt = (f 10).toInt from by first | exact e49 | omega), (show (f42 13).toInt = (f 13).toInt from by first | exact e50 | omega), (show (f42 14).toInt = 0 ∨ (f42 14).toInt = 1 from by first | with_reducible rfl | with_reducible assumption | omega), (show 0 + nd o2 ≤ nd o2 from by first | exact oz_d90171b0e4 | omega), (show 0 + 36864 * nd o2 ≤ 36864 * nd o2 from by first | exact oz_9c92651dc9 | omega)⟩) d_Raw_perform_310
  ·
    refine lv_aload_n S.x S.b d_Raw_perform_153 rfl (lv_at hl 4 rfl) ?_
    refine lv_iload_n S.x S.b d_Raw_perform_154 rfl (lv_at hl 3 rfl) ?_
    refine lv_aload_n S.x S.b d_Raw_perform_155 rfl (lv_at hl 4 rfl) ?_
    refine px_get S k_Raw hT hw 0 0 5 (v := .int (f 5)) rfl rfl rfl (by decide) m6_129 d_Raw_perform_156 ?_
    refine lv_iload_n S.x S.b d_Raw_perform_159 rfl (lv_at hl 5 rfl) ?_
    refine lv_sipush (v := (-4096)) S.x S.b d_Raw_perform_160 (by decide) ?_
    refine lv_iand S.x S.b d_Raw_perform_163 ?_
    refine lv_topi (fun z52 ez52 => ?_)
    have lz52 := Int32.le_toInt z52
    have uz52 := Int32.toInt_lt z52
    refine lv_iadd S.x S.b d_Raw_perform_164 ?_
    have lr53 := Int32.le_toInt (f 5)
    have ur53 := Int32.toInt_lt (f 5)
    refine lv_topi (fun z54 ez54 => ?_)
    have tz54 : z54.toInt = ((f 5).toInt + z52.toInt + 2147483648) % 4294967296 - 2147483648 := by rw [ez54]; exact i_add (f 5) z52
    have lz54 := Int32.le_toInt z54
    have uz54 := Int32.toInt_lt z54
    have hw : pw D A s.heap _ _ [nA cs o2 36864 ma, nA cs o4 wn wc, wd_Raw cs h r (fun k => if k = 2 then o2 else if k = 4 then o4 else none) f a g] := hw.sub [1, 2, 0] rfl rfl
    first | refine px_callv (pr := [nA cs o2 36864 ma, nA cs o4 wn wc]) (px_runV (As := [.int z2, .int z54]) (rest := []) S (c_Raw_setRegister l D cs h r g o2 o4 f a z2 z54   _) hT (pr := [nA cs o2 36864 ma, nA cs o4 wn wc]) (pcs := [wd_Raw cs h r (fun k => if k = 2 then o2 else if k = 4 then o4 else none) f a g]) hw px_X.tt (px_recv hT hw 2 0 rfl rfl rfl) m8_181 m8_178 m8_180 ms_6_5 m1_34 q_Raw_setRegister ⟨Nat.le_of_ble_eq_true rfl, Nat.le_of_ble_eq_true rfl⟩ hl.1 rfl (Nat.le_of_ble_eq_true rfl) d_Raw_perform_165 ⟨show 0 + 0 ≤ (nd o2) from (oz_4801a4ef71), show 0 + 0 ≤ (36864 * nd o2) from (oz_26949c3f46)⟩) hw hA (fun p57 H locs hp57 hw => ?_) | refine px_callv (pr := [nA cs o2 36864 ma, nA cs o4 wn wc]) (px_runV (As := [.int z2, .int z54]) (rest := []) S (c_Raw_setRegister l D cs h r g o2 o4 f a z2 z54   _) hT (pr := [nA cs o2 36864 ma, nA cs o4 wn wc]) (pcs := [wd_Raw cs h r (fun k => if k = 2 then o2 else if k = 4 then o4 else none) f a g]) hw px_X.tt (px_recv hT hw 2 0 rfl rfl rfl) m8_181 m8_178 m8_180 ms_6_5 m1_34 q_Raw_setRegister ⟨Nat.le_of_ble_eq_true rfl, Nat.le_of_ble_eq_true rfl⟩ hl.1 rfl (Nat.le_of_ble_eq_true rfl) d_Raw_perform_165 ⟨show 0 + 0 ≤ (nd o2) from (by first | exact oz_4801a4ef71 | omega), show 0 + 0 ≤ (36864 * nd o2) from (by first | exact oz_26949c3f46 | omega)⟩) hw hA (fun p57 H locs hp57 hw => ?_)
    obtain ⟨f55, a56, rfl, e59, e60, e61, e62, e63, e64, e65⟩ := hp57
    have e59 : (f55 3).toInt = (f 3).toInt := e59
    have e60 : (f55 7).toInt = (f 7).toInt := e60
    have e61 : (f55 8).toInt = (f 8).toInt := e61
    have e62 : (f55 10).toInt = (f 10).toInt := e62
    have e63 : (f55 13).toInt = (f 13).toInt := e63
    have e64 : (f55 14).toInt = (f 14).toInt := e64
    have e65 : (f55 11).toInt = (f 11).toInt := e65
    refine lv_goto (tgt := 310) S.x S.b d_Raw_perform_168 (by decide) ?_
    have hw : pw D A s.heap _ _ [wd_Raw cs h r (fun k => if k = 2 then o2 else if k = 4 then o4 else none) f55 a56 g, nA cs o2 36864 ma, nA cs o4 wn wc] := hw.sub [2, 0, 1] rfl rfl
    first | exact pg_vret S hr hlk hAe hw (show 0 ≤ (nd o2) from oz_c4e42565ca) (show 0 ≤ (36864 * nd o2) from oz_5cdfddacaa) (⟨f55, a56, o2, ma, rfl, (show (f55 3).toInt = (f 3).toInt from e59), (show (f55 7).toInt = (f 7).toInt from e60), (show (f55 8).toInt = (f 8).toInt from e61), (show (f55 10).toInt = (f 10).toInt from e62), (show (f55 13).toInt = (f 13).toInt from e63), (show (f55 14).toInt = 0 ∨ (f55 14).toInt = 1 from by first | with_reducible rfl | with_reducible assumption | omega), (show 0 + nd o2 ≤ nd o2 from oz_d90171b0e4), (show 0 + 36864 * nd o2 ≤ 36864 * nd o2 from oz_9c92651dc9)⟩) d_Raw_perform_310 | exact pg_vret S hr hlk hAe hw (show 0 ≤ (nd o2) from by first | exact oz_c4e42565ca | omega) (show 0 ≤ (36864 * nd o2) from by first | exact oz_5cdfddacaa | omega) (⟨f55, a56, o2, ma, rfl, (show (f55 3).toInt = (f 3).toInt from by first | exact e59 | omega), (show (f55 7).toInt = (f 7).toInt from by first | exact e60 | omega), (show (f55 8).toInt = (f 8).toInt from by first | exact e61 | omega), (show (f55 10).toInt = (f 10).toInt from by first | exact e62 | omega), (show (f55 13).toInt = (f 13).toInt from by first | exact e63 | omega), (show (f55 14).toInt = 0 ∨ (f55 14).toInt = 1 from by first | with_reducible rfl | with_reducible assumption | omega), (show 0 + nd o2 ≤ nd o2 from by first | exact oz_d90171b0e4 | omega), (show 0 + 36864 * nd o2 ≤ 36864 * nd o2 from by first | exact oz_9c92651dc9 | omega)⟩) d_Raw_perform_310
  ·
    refine lv_aload_n S.x S.b d_Raw_perform_241 rfl (lv_at hl 4 rfl) ?_
    refine lv_iload_n S.x S.b d_Raw_perform_242 rfl (lv_at hl 2 rfl) ?_
    refine lv_iload S.x S.b d_Raw_perform_243 (lv_at hl 1 rfl) ?_
    refine lv_iload_n S.x S.b d_Raw_perform_245 rfl (lv_at hl 5 rfl) ?_
    refine lv_bipush (v := 25) S.x S.b d_Raw_perform_246 (by decide) ?_
    refine lv_ishr S.x S.b d_Raw_perform_248 ?_
    refine lv_topi (fun z66 ez66 => ?_)
    have tz66 : z66.toInt = p0.toInt / 33554432 := by rw [ez66]; exact i_shr p0 25 (k := 25) (d := 33554432) (by decide) (by decide)
    have lz66 := Int32.le_toInt z66
    have uz66 := Int32.toInt_lt z66
    refine lv_iconst (v := 5) S.x S.b d_Raw_perform_249 (by decide) ?_
    refine lv_ishl S.x S.b d_Raw_perform_250 ?_
    refine lv_topi (fun z67 ez67 => ?_)
    have lz67 := Int32.le_toInt z67
    have uz67 := Int32.toInt_lt z67
    have tz67 : 0 ≤ z66.toInt → z66.toInt * 32 < 2147483648 → z67.toInt = z66.toInt * 32 := by rw [ez67]; exact i_shl z66 5 (k := 5) (d := 32) (by decide) (by decide)
    refine lv_iload_n S.x S.b d_Raw_perform_251 rfl (lv_at hl 3 rfl) ?_
    refine lv_ior S.x S.b d_Raw_perform_252 ?_
    refine lv_topi (fun z68 ez68 => ?_)
    have lz68 := Int32.le_toInt z68
    have uz68 := Int32.toInt_lt z68
    refine lv_iadd S.x S.b d_Raw_perform_253 ?_
    refine lv_topi (fun z69 ez69 => ?_)
    have tz69 : z69.toInt = (z7.toInt + z68.toInt + 2147483648) % 4294967296 - 2147483648 := by rw [ez69]; exact i_add z7 z68
    have lz69 := Int32.le_toInt z69
    have uz69 := Int32.toInt_lt z69
    refine lv_iload S.x S.b d_Raw_perform_254 (lv_at hl 0 rfl) ?_
    first | refine pg_callv (pr := []) (px_runV (As := [.int z4, .int z69, .int z10]) (rest := []) S (c_Raw_store l D cs h r g o4 wn wc f a o2 ma z4 z69 z10  (show (f 14).toInt = 0 from g0) (show wn ≤ 1000000 from g1) _ _) hT (pr := []) (pcs := [wd_Raw cs h r (fun k => if k = 2 then o2 else if k = 4 then o4 else none) f a g, nA cs o2 36864 ma, nA cs o4 wn wc]) hw (px_X.tot px_X.tt) (px_recv hT hw 0 0 rfl rfl rfl) m8_215 m8_212 m8_214 ms_6_10 m1_34 q_Raw_store ⟨Nat.le_of_ble_eq_true rfl, Nat.le_of_ble_eq_true rfl⟩ hl.1 rfl (Nat.le_of_ble_eq_true rfl) d_Raw_perform_256 ⟨show 0 + (nd o2) ≤ (nd o2) from (oz_06727f128b), show 0 + (36864 * nd o2) ≤ (36864 * nd o2) from (oz_59d5c717d7)⟩) hw hA (fun p74 k76 n77 H locs hp74 hw => ?_) | refine pg_callv (pr := []) (px_runV (As := [.int z4, .int z69, .int z10]) (rest := []) S (c_Raw_store l D cs h r g o4 wn wc f a o2 ma z4 z69 z10  (show (f 14).toInt = 0 from by first | exact g0 | omega) (show wn ≤ 1000000 from by first | exact g1 | omega) _ _) hT (pr := []) (pcs := [wd_Raw cs h r (fun k => if k = 2 then o2 else if k = 4 then o4 else none) f a g, nA cs o2 36864 ma, nA cs o4 wn wc]) hw (px_X.tot px_X.tt) (px_recv hT hw 0 0 rfl rfl rfl) m8_215 m8_212 m8_214 ms_6_10 m1_34 q_Raw_store ⟨Nat.le_of_ble_eq_true rfl, Nat.le_of_ble_eq_true rfl⟩ hl.1 rfl (Nat.le_of_ble_eq_true rfl) d_Raw_perform_256 ⟨show 0 + (nd o2) ≤ (nd o2) from (by first | exact oz_06727f128b | omega), show 0 + (36864 * nd o2) ≤ (36864 * nd o2) from (by first | exact oz_59d5c717d7 | omega)⟩) hw hA (fun p74 k76 n77 H locs hp74 hw => ?_)
    dsimp only at hp74
    obtain ⟨f70, a71, o272, ma73, rfl, e78, e79, e80, e81, e82, e83, e84, e85⟩ := hp74
    have e78 : (f70 3).toInt = (f 3).toInt := e78
    have e79 : (f70 7).toInt = (f 7).toInt := e79
    have e80 : (f70 8).toInt = (f 8).toInt := e80
    have e81 : (f70 10).toInt = (f 10).toInt := e81
    have e82 : (f70 13).toInt = (f 13).toInt := e82
    have e83 : (f70 14).toInt = 0 := e83
    have e84 : k76 + nd o272 ≤ nd o2 := e84
    have e85 : n77 + 36864 * nd o272 ≤ 36864 * nd o2 := e85
    refine lv_goto (tgt := 310) S.x S.b d_Raw_perform_259 (by decide) ?_
    first | exact pg_vret S hr hlk hAe hw (show (0 + k76) ≤ (nd o2) from (oz_cb01867abd e84)) (show (0 + n77) ≤ (36864 * nd o2) from (oz_9e82047430 e85)) (⟨f70, a71, o272, ma73, rfl, (show (f70 3).toInt = (f 3).toInt from e78), (show (f70 7).toInt = (f 7).toInt from e79), (show (f70 8).toInt = (f 8).toInt from e80), (show (f70 10).toInt = (f 10).toInt from e81), (show (f70 13).toInt = (f 13).toInt from e82), (show (f70 14).toInt = 0 ∨ (f70 14).toInt = 1 from by first | with_reducible rfl | with_reducible assumption | omega), (show (0 + k76) + nd o272 ≤ nd o2 from (oz_aa274e400b e84)), (show (0 + n77) + 36864 * nd o272 ≤ 36864 * nd o2 from (oz_093c094757 e85))⟩) d_Raw_perform_310 | exact pg_vret S hr hlk hAe hw (show (0 + k76) ≤ (nd o2) from by first | exact oz_cb01867abd e84 | omega) (show (0 + n77) ≤ (36864 * nd o2) from by first | exact oz_9e82047430 e85 | omega) (⟨f70, a71, o272, ma73, rfl, (show (f70 3).toInt = (f 3).toInt from by first | exact e78 | omega), (show (f70 7).toInt = (f 7).toInt from by first | exact e79 | omega), (show (f70 8).toInt = (f 8).toInt from by first | exact e80 | omega), (show (f70 10).toInt = (f 10).toInt from by first | exact e81 | omega), (show (f70 13).toInt = (f 13).toInt from by first | exact e82 | omega), (show (f70 14).toInt = 0 ∨ (f70 14).toInt = 1 from by first | with_reducible rfl | with_reducible assumption | omega), (show (0 + k76) + nd o272 ≤ nd o2 from by first | exact oz_aa274e400b e84 | omega), (show (0 + n77) + 36864 * nd o272 ≤ 36864 * nd o2 from by first | exact oz_093c094757 e85 | omega)⟩) d_Raw_perform_310
  ·
    refine lv_aload_n S.x S.b d_Raw_perform_274 rfl (lv_at hl 4 rfl) ?_
    refine lv_iload_n S.x S.b d_Raw_perform_275 rfl (lv_at hl 5 rfl) ?_
    refine lv_bipush (v := 25) S.x S.b d_Raw_perform_276 (by decide) ?_
    refine lv_iushr S.x S.b d_Raw_perform_278 rfl ?_
    refine lv_topi (fun z86 ez86 => ?_)
    have lz86 := Int32.le_toInt z86
    have uz86 := Int32.toInt_lt z86
    refine lv_iload_n S.x S.b d_Raw_perform_279 rfl (lv_at hl 3 rfl) ?_
    refine lv_iload_n S.x S.b d_Raw_perform_280 rfl (lv_at hl 2 rfl) ?_
    refine lv_iload S.x S.b d_Raw_perform_281 (lv_at hl 1 rfl) ?_
    refine lv_iload S.x S.b d_Raw_perform_283 (lv_at hl 0 rfl) ?_
    have hw : pw D A s.heap _ _ [nA cs o2 36864 ma, nA cs o4 wn wc, wd_Raw cs h r (fun k => if k = 2 then o2 else if k = 4 then o4 else none) f a g] := hw.sub [1, 2, 0] rfl rfl
    first | refine px_callv (pr := [nA cs o2 36864 ma, nA cs o4 wn wc]) (px_runV (As := [.int z86, .int z2, .int z4, .int z7, .int z10]) (rest := []) S (c_Raw_between l D cs h r g o2 o4 f a z86 z2 z4 z7 z10  (show (f 14).toInt = 0 from g0) _) hT (pr := [nA cs o2 36864 ma, nA cs o4 wn wc]) (pcs := [wd_Raw cs h r (fun k => if k = 2 then o2 else if k = 4 then o4 else none) f a g]) hw px_X.tt (px_recv hT hw 2 0 rfl rfl rfl) m8_226 m8_223 m8_225 ms_6_12 m1_34 q_Raw_between ⟨Nat.le_of_ble_eq_true rfl, Nat.le_of_ble_eq_true rfl⟩ hl.1 rfl (Nat.le_of_ble_eq_true rfl) d_Raw_perform_285 ⟨show 0 + 0 ≤ (nd o2) from (oz_4801a4ef71), show 0 + 0 ≤ (36864 * nd o2) from (oz_26949c3f46)⟩) hw hA (fun p89 H locs hp89 hw => ?_) | refine px_callv (pr := [nA cs o2 36864 ma, nA cs o4 wn wc]) (px_runV (As := [.int z86, .int z2, .int z4, .int z7, .int z10]) (rest := []) S (c_Raw_between l D cs h r g o2 o4 f a z86 z2 z4 z7 z10  (show (f 14).toInt = 0 from by first | exact g0 | omega) _) hT (pr := [nA cs o2 36864 ma, nA cs o4 wn wc]) (pcs := [wd_Raw cs h r (fun k => if k = 2 then o2 else if k = 4 then o4 else none) f a g]) hw px_X.tt (px_recv hT hw 2 0 rfl rfl rfl) m8_226 m8_223 m8_225 ms_6_12 m1_34 q_Raw_between ⟨Nat.le_of_ble_eq_true rfl, Nat.le_of_ble_eq_true rfl⟩ hl.1 rfl (Nat.le_of_ble_eq_true rfl) d_Raw_perform_285 ⟨show 0 + 0 ≤ (nd o2) from (by first | exact oz_4801a4ef71 | omega), show 0 + 0 ≤ (36864 * nd o2) from (by first | exact oz_26949c3f46 | omega)⟩) hw hA (fun p89 H locs hp89 hw => ?_)
    obtain ⟨f87, a88, rfl, e91, e92, e93, e94, e95, e96⟩ := hp89
    have e91 : (f87 3).toInt = (f 3).toInt := e91
    have e92 : (f87 7).toInt = (f 7).toInt := e92
    have e93 : (f87 8).toInt = (f 8).toInt := e93
    have e94 : (f87 10).toInt = (f 10).toInt := e94
    have e95 : (f87 13).toInt = (f 13).toInt := e95
    have e96 : (f87 14).toInt = 0 := e96
    refine lv_goto (tgt := 310) S.x S.b d_Raw_perform_288 (by decide) ?_
    have hw : pw D A s.heap _ _ [wd_Raw cs h r (fun k => if k = 2 then o2 else if k = 4 then o4 else none) f87 a88 g, nA cs o2 36864 ma, nA cs o4 wn wc] := hw.sub [2, 0, 1] rfl rfl
    first | exact pg_vret S hr hlk hAe hw (show 0 ≤ (nd o2) from oz_c4e42565ca) (show 0 ≤ (36864 * nd o2) from oz_5cdfddacaa) (⟨f87, a88, o2, ma, rfl, (show (f87 3).toInt = (f 3).toInt from e91), (show (f87 7).toInt = (f 7).toInt from e92), (show (f87 8).toInt = (f 8).toInt from e93), (show (f87 10).toInt = (f 10).toInt from e94), (show (f87 13).toInt = (f 13).toInt from e95), (show (f87 14).toInt = 0 ∨ (f87 14).toInt = 1 from by first | with_reducible rfl | with_reducible assumption | omega), (show 0 + nd o2 ≤ nd o2 from oz_d90171b0e4), (show 0 + 36864 * nd o2 ≤ 36864 * nd o2 from oz_9c92651dc9)⟩) d_Raw_perform_310 | exact pg_vret S hr hlk hAe hw (show 0 ≤ (nd o2) from by first | exact oz_c4e42565ca | omega) (show 0 ≤ (36864 * nd o2) from by first | exact oz_5cdfddacaa | omega) (⟨f87, a88, o2, ma, rfl, (show (f87 3).toInt = (f 3).toInt from by first | exact e91 | omega), (show (f87 7).toInt = (f 7).toInt from by first | exact e92 | omega), (show (f87 8).toInt = (f 8).toInt from by first | exact e93 | omega), (show (f87 10).toInt = (f 10).toInt from by first | exact e94 | omega), (show (f87 13).toInt = (f 13).toInt from by first | exact e95 | omega), (show (f87 14).toInt = 0 ∨ (f87 14).toInt = 1 from by first | with_reducible rfl | with_reducible assumption | omega), (show 0 + nd o2 ≤ nd o2 from by first | exact oz_d90171b0e4 | omega), (show 0 + 36864 * nd o2 ≤ 36864 * nd o2 from by first | exact oz_9c92651dc9 | omega)⟩) d_Raw_perform_310
  ·
    refine lv_aload_n S.x S.b d_Raw_perform_140 rfl (lv_at hl 4 rfl) ?_
    refine lv_iload_n S.x S.b d_Raw_perform_141 rfl (lv_at hl 3 rfl) ?_
    refine lv_iload_n S.x S.b d_Raw_perform_142 rfl (lv_at hl 5 rfl) ?_
    refine lv_sipush (v := (-4096)) S.x S.b d_Raw_perform_143 (by decide) ?_
    refine lv_iand S.x S.b d_Raw_perform_146 ?_
    refine lv_topi (fun z97 ez97 => ?_)
    have lz97 := Int32.le_toInt z97
    have uz97 := Int32.toInt_lt z97
    have hw : pw D A s.heap _ _ [nA cs o2 36864 ma, nA cs o4 wn wc, wd_Raw cs h r (fun k => if k = 2 then o2 else if k = 4 then o4 else none) f a g] := hw.sub [1, 2, 0] rfl rfl
    first | refine px_callv (pr := [nA cs o2 36864 ma, nA cs o4 wn wc]) (px_runV (As := [.int z2, .int z97]) (rest := []) S (c_Raw_setRegister l D cs h r g o2 o4 f a z2 z97   _) hT (pr := [nA cs o2 36864 ma, nA cs o4 wn wc]) (pcs := [wd_Raw cs h r (fun k => if k = 2 then o2 else if k = 4 then o4 else none) f a g]) hw px_X.tt (px_recv hT hw 2 0 rfl rfl rfl) m8_181 m8_178 m8_180 ms_6_5 m1_34 q_Raw_setRegister ⟨Nat.le_of_ble_eq_true rfl, Nat.le_of_ble_eq_true rfl⟩ hl.1 rfl (Nat.le_of_ble_eq_true rfl) d_Raw_perform_147 ⟨show 0 + 0 ≤ (nd o2) from (oz_4801a4ef71), show 0 + 0 ≤ (36864 * nd o2) from (oz_26949c3f46)⟩) hw hA (fun p100 H locs hp100 hw => ?_) | refine px_callv (pr := [nA cs o2 36864 ma, nA cs o4 wn wc]) (px_runV (As := [.int z2, .int z97]) (rest := []) S (c_Raw_setRegister l D cs h r g o2 o4 f a z2 z97   _) hT (pr := [nA cs o2 36864 ma, nA cs o4 wn wc]) (pcs := [wd_Raw cs h r (fun k => if k = 2 then o2 else if k = 4 then o4 else none) f a g]) hw px_X.tt (px_recv hT hw 2 0 rfl rfl rfl) m8_181 m8_178 m8_180 ms_6_5 m1_34 q_Raw_setRegister ⟨Nat.le_of_ble_eq_true rfl, Nat.le_of_ble_eq_true rfl⟩ hl.1 rfl (Nat.le_of_ble_eq_true rfl) d_Raw_perform_147 ⟨show 0 + 0 ≤ (nd o2) from (by first | exact oz_4801a4ef71 | omega), show 0 + 0 ≤ (36864 * nd o2) from (by first | exact oz_26949c3f46 | omega)⟩) hw hA (fun p100 H locs hp100 hw => ?_)
    obtain ⟨f98, a99, rfl, e102, e103, e104, e105, e106, e107, e108⟩ := hp100
    have e102 : (f98 3).toInt = (f 3).toInt := e102
    have e103 : (f98 7).toInt = (f 7).toInt := e103
    have e104 : (f98 8).toInt = (f 8).toInt := e104
    have e105 : (f98 10).toInt = (f 10).toInt := e105
    have e106 : (f98 13).toInt = (f 13).toInt := e106
    have e107 : (f98 14).toInt = (f 14).toInt := e107
    have e108 : (f98 11).toInt = (f 11).toInt := e108
    refine lv_goto (tgt := 310) S.x S.b d_Raw_perform_150 (by decide) ?_
    have hw : pw D A s.heap _ _ [wd_Raw cs h r (fun k => if k = 2 then o2 else if k = 4 then o4 else none) f98 a99 g, nA cs o2 36864 ma, nA cs o4 wn wc] := hw.sub [2, 0, 1] rfl rfl
    first | exact pg_vret S hr hlk hAe hw (show 0 ≤ (nd o2) from oz_c4e42565ca) (show 0 ≤ (36864 * nd o2) from oz_5cdfddacaa) (⟨f98, a99, o2, ma, rfl, (show (f98 3).toInt = (f 3).toInt from e102), (show (f98 7).toInt = (f 7).toInt from e103), (show (f98 8).toInt = (f 8).toInt from e104), (show (f98 10).toInt = (f 10).toInt from e105), (show (f98 13).toInt = (f 13).toInt from e106), (show (f98 14).toInt = 0 ∨ (f98 14).toInt = 1 from by first | with_reducible rfl | with_reducible assumption | omega), (show 0 + nd o2 ≤ nd o2 from oz_d90171b0e4), (show 0 + 36864 * nd o2 ≤ 36864 * nd o2 from oz_9c92651dc9)⟩) d_Raw_perform_310 | exact pg_vret S hr hlk hAe hw (show 0 ≤ (nd o2) from by first | exact oz_c4e42565ca | omega) (show 0 ≤ (36864 * nd o2) from by first | exact oz_5cdfddacaa | omega) (⟨f98, a99, o2, ma, rfl, (show (f98 3).toInt = (f 3).toInt from by first | exact e102 | omega), (show (f98 7).toInt = (f 7).toInt from by first | exact e103 | omega), (show (f98 8).toInt = (f 8).toInt from by first | exact e104 | omega), (show (f98 10).toInt = (f 10).toInt from by first | exact e105 | omega), (show (f98 13).toInt = (f 13).toInt from by first | exact e106 | omega), (show (f98 14).toInt = 0 ∨ (f98 14).toInt = 1 from by first | with_reducible rfl | with_reducible assumption | omega), (show 0 + nd o2 ≤ nd o2 from by first | exact oz_d90171b0e4 | omega), (show 0 + 36864 * nd o2 ≤ 36864 * nd o2 from by first | exact oz_9c92651dc9 | omega)⟩) d_Raw_perform_310
  ·
    refine lv_aload_n S.x S.b d_Raw_perform_204 rfl (lv_at hl 4 rfl) ?_
    refine lv_iload_n S.x S.b d_Raw_perform_205 rfl (lv_at hl 2 rfl) ?_
    refine lv_iload S.x S.b d_Raw_perform_206 (lv_at hl 1 rfl) ?_
    refine lv_iload S.x S.b d_Raw_perform_208 (lv_at hl 0 rfl) ?_
    refine lv_aload_n S.x S.b d_Raw_perform_210 rfl (lv_at hl 4 rfl) ?_
    refine px_get S k_Raw hT hw 0 0 5 (v := .int (f 5)) rfl rfl rfl (by decide) m6_129 d_Raw_perform_211 ?_
    refine lv_iload_n S.x S.b d_Raw_perform_214 rfl (lv_at hl 5 rfl) ?_
    first | refine px_calli (pr := [wd_Raw cs h r (fun k => if k = 2 then o2 else if k = 4 then o4 else none) f a g, nA cs o2 36864 ma, nA cs o4 wn wc]) (px_runS (As := [.int p0]) (rest := [.int (f 5), .int z10, .int z7, .int z4, .ref h]) S (c_Raw_branchDistance l D cs  p0   _) hT (pr := [wd_Raw cs h r (fun k => if k = 2 then o2 else if k = 4 then o4 else none) f a g, nA cs o2 36864 ma, nA cs o4 wn wc]) (pcs := []) hw px_X.tt m8_196 m8_194 m8_195 m1_34 q_Raw_branchDistance ⟨Nat.le_of_ble_eq_true rfl, Nat.le_of_ble_eq_true rfl⟩ hl.1 rfl (Nat.le_of_ble_eq_true rfl) d_Raw_perform_215 ⟨show 0 + 0 ≤ (nd o2) from (oz_4801a4ef71), show 0 + 0 ≤ (36864 * nd o2) from (oz_26949c3f46)⟩) hw hA (fun v110 p109 H locs hp109 hw => ?_) | refine px_calli (pr := [wd_Raw cs h r (fun k => if k = 2 then o2 else if k = 4 then o4 else none) f a g, nA cs o2 36864 ma, nA cs o4 wn wc]) (px_runS (As := [.int p0]) (rest := [.int (f 5), .int z10, .int z7, .int z4, .ref h]) S (c_Raw_branchDistance l D cs  p0   _) hT (pr := [wd_Raw cs h r (fun k => if k = 2 then o2 else if k = 4 then o4 else none) f a g, nA cs o2 36864 ma, nA cs o4 wn wc]) (pcs := []) hw px_X.tt m8_196 m8_194 m8_195 m1_34 q_Raw_branchDistance ⟨Nat.le_of_ble_eq_true rfl, Nat.le_of_ble_eq_true rfl⟩ hl.1 rfl (Nat.le_of_ble_eq_true rfl) d_Raw_perform_215 ⟨show 0 + 0 ≤ (nd o2) from (by first | exact oz_4801a4ef71 | omega), show 0 + 0 ≤ (36864 * nd o2) from (by first | exact oz_26949c3f46 | omega)⟩) hw hA (fun v110 p109 H locs hp109 hw => ?_)
    subst hp109
    have lv110 := Int32.le_toInt v110
    have uv110 := Int32.toInt_lt v110
    refine lv_iadd S.x S.b d_Raw_perform_218 ?_
    have lr111 := Int32.le_toInt (f 5)
    have ur111 := Int32.toInt_lt (f 5)
    refine lv_topi (fun z112 ez112 => ?_)
    have tz112 : z112.toInt = ((f 5).toInt + v110.toInt + 2147483648) % 4294967296 - 2147483648 := by rw [ez112]; exact i_add (f 5) v110
    have lz112 := Int32.le_toInt z112
    have uz112 := Int32.toInt_lt z112
    have hw : pw D A s.heap _ _ [nA cs o2 36864 ma, nA cs o4 wn wc, wd_Raw cs h r (fun k => if k = 2 then o2 else if k = 4 then o4 else none) f a g] := hw.sub [1, 2, 0] rfl rfl
    first | refine px_callv (pr := [nA cs o2 36864 ma, nA cs o4 wn wc]) (px_runV (As := [.int z4, .int z7, .int z10, .int z112]) (rest := []) S (c_Raw_branch l D cs h r g o2 o4 f a z4 z7 z10 z112  (show (f 14).toInt = 0 from g0) _) hT (pr := [nA cs o2 36864 ma, nA cs o4 wn wc]) (pcs := [wd_Raw cs h r (fun k => if k = 2 then o2 else if k = 4 then o4 else none) f a g]) hw px_X.tt (px_recv hT hw 2 0 rfl rfl rfl) m8_200 m8_197 m8_199 ms_6_8 m1_34 q_Raw_branch ⟨Nat.le_of_ble_eq_true rfl, Nat.le_of_ble_eq_true rfl⟩ hl.1 rfl (Nat.le_of_ble_eq_true rfl) d_Raw_perform_219 ⟨show 0 + 0 ≤ (nd o2) from (oz_4801a4ef71), show 0 + 0 ≤ (36864 * nd o2) from (oz_26949c3f46)⟩) hw hA (fun p115 H locs hp115 hw => ?_) | refine px_callv (pr := [nA cs o2 36864 ma, nA cs o4 wn wc]) (px_runV (As := [.int z4, .int z7, .int z10, .int z112]) (rest := []) S (c_Raw_branch l D cs h r g o2 o4 f a z4 z7 z10 z112  (show (f 14).toInt = 0 from by first | exact g0 | omega) _) hT (pr := [nA cs o2 36864 ma, nA cs o4 wn wc]) (pcs := [wd_Raw cs h r (fun k => if k = 2 then o2 else if k = 4 then o4 else none) f a g]) hw px_X.tt (px_recv hT hw 2 0 rfl rfl rfl) m8_200 m8_197 m8_199 ms_6_8 m1_34 q_Raw_branch ⟨Nat.le_of_ble_eq_true rfl, Nat.le_of_ble_eq_true rfl⟩ hl.1 rfl (Nat.le_of_ble_eq_true rfl) d_Raw_perform_219 ⟨show 0 + 0 ≤ (nd o2) from (by first | exact oz_4801a4ef71 | omega), show 0 + 0 ≤ (36864 * nd o2) from (by first | exact oz_26949c3f46 | omega)⟩) hw hA (fun p115 H locs hp115 hw => ?_)
    obtain ⟨f113, a114, rfl, e117, e118, e119, e120, e121, e122⟩ := hp115
    have e117 : (f113 3).toInt = (f 3).toInt := e117
    have e118 : (f113 7).toInt = (f 7).toInt := e118
    have e119 : (f113 8).toInt = (f 8).toInt := e119
    have e120 : (f113 10).toInt = (f 10).toInt := e120
    have e121 : (f113 13).toInt = (f 13).toInt := e121
    have e122 : (f113 14).toInt = 0 := e122
    refine lv_goto (tgt := 310) S.x S.b d_Raw_perform_222 (by decide) ?_
    have hw : pw D A s.heap _ _ [wd_Raw cs h r (fun k => if k = 2 then o2 else if k = 4 then o4 else none) f113 a114 g, nA cs o2 36864 ma, nA cs o4 wn wc] := hw.sub [2, 0, 1] rfl rfl
    first | exact pg_vret S hr hlk hAe hw (show 0 ≤ (nd o2) from oz_c4e42565ca) (show 0 ≤ (36864 * nd o2) from oz_5cdfddacaa) (⟨f113, a114, o2, ma, rfl, (show (f113 3).toInt = (f 3).toInt from e117), (show (f113 7).toInt = (f 7).toInt from e118), (show (f113 8).toInt = (f 8).toInt from e119), (show (f113 10).toInt = (f 10).toInt from e120), (show (f113 13).toInt = (f 13).toInt from e121), (show (f113 14).toInt = 0 ∨ (f113 14).toInt = 1 from by first | with_reducible rfl | with_reducible assumption | omega), (show 0 + nd o2 ≤ nd o2 from oz_d90171b0e4), (show 0 + 36864 * nd o2 ≤ 36864 * nd o2 from oz_9c92651dc9)⟩) d_Raw_perform_310 | exact pg_vret S hr hlk hAe hw (show 0 ≤ (nd o2) from by first | exact oz_c4e42565ca | omega) (show 0 ≤ (36864 * nd o2) from by first | exact oz_5cdfddacaa | omega) (⟨f113, a114, o2, ma, rfl, (show (f113 3).toInt = (f 3).toInt from by first | exact e117 | omega), (show (f113 7).toInt = (f 7).toInt from by first | exact e118 | omega), (show (f113 8).toInt = (f 8).toInt from by first | exact e119 | omega), (show (f113 10).toInt = (f 10).toInt from by first | exact e120 | omega), (show (f113 13).toInt = (f 13).toInt from by first | exact e121 | omega), (show (f113 14).toInt = 0 ∨ (f113 14).toInt = 1 from by first | with_reducible rfl | with_reducible assumption | omega), (show 0 + nd o2 ≤ nd o2 from by first | exact oz_d90171b0e4 | omega), (show 0 + 36864 * nd o2 ≤ 36864 * nd o2 from by first | exact oz_9c92651dc9 | omega)⟩) d_Raw_perform_310
  ·
    refine lv_aload_n S.x S.b d_Raw_perform_188 rfl (lv_at hl 4 rfl) ?_
    refine lv_iload_n S.x S.b d_Raw_perform_189 rfl (lv_at hl 3 rfl) ?_
    refine lv_iload_n S.x S.b d_Raw_perform_190 rfl (lv_at hl 2 rfl) ?_
    refine lv_iload S.x S.b d_Raw_perform_191 (lv_at hl 1 rfl) ?_
    refine lv_iload_n S.x S.b d_Raw_perform_193 rfl (lv_at hl 5 rfl) ?_
    refine lv_bipush (v := 20) S.x S.b d_Raw_perform_194 (by decide) ?_
    refine lv_ishr S.x S.b d_Raw_perform_196 ?_
    refine lv_topi (fun z123 ez123 => ?_)
    have tz123 : z123.toInt = p0.toInt / 1048576 := by rw [ez123]; exact i_shr p0 20 (k := 20) (d := 1048576) (by decide) (by decide)
    have lz123 := Int32.le_toInt z123
    have uz123 := Int32.toInt_lt z123
    refine lv_iadd S.x S.b d_Raw_perform_197 ?_
    refine lv_topi (fun z124 ez124 => ?_)
    have tz124 : z124.toInt = (z7.toInt + z123.toInt + 2147483648) % 4294967296 - 2147483648 := by rw [ez124]; exact i_add z7 z123
    have lz124 := Int32.le_toInt z124
    have uz124 := Int32.toInt_lt z124
    have hw : pw D A s.heap _ _ [nA cs o2 36864 ma, nA cs o4 wn wc, wd_Raw cs h r (fun k => if k = 2 then o2 else if k = 4 then o4 else none) f a g] := hw.sub [1, 2, 0] rfl rfl
    first | refine px_callv (pr := [nA cs o2 36864 ma, nA cs o4 wn wc]) (px_runV (As := [.int z2, .int z4, .int z124]) (rest := []) S (c_Raw_jumpIndirect l D cs h r g o2 o4 f a z2 z4 z124  (show (f 14).toInt = 0 from g0) _) hT (pr := [nA cs o2 36864 ma, nA cs o4 wn wc]) (pcs := [wd_Raw cs h r (fun k => if k = 2 then o2 else if k = 4 then o4 else none) f a g]) hw px_X.tt (px_recv hT hw 2 0 rfl rfl rfl) m8_193 m8_190 m8_192 ms_6_7 m1_34 q_Raw_jumpIndirect ⟨Nat.le_of_ble_eq_true rfl, Nat.le_of_ble_eq_true rfl⟩ hl.1 rfl (Nat.le_of_ble_eq_true rfl) d_Raw_perform_198 ⟨show 0 + 0 ≤ (nd o2) from (oz_4801a4ef71), show 0 + 0 ≤ (36864 * nd o2) from (oz_26949c3f46)⟩) hw hA (fun p127 H locs hp127 hw => ?_) | refine px_callv (pr := [nA cs o2 36864 ma, nA cs o4 wn wc]) (px_runV (As := [.int z2, .int z4, .int z124]) (rest := []) S (c_Raw_jumpIndirect l D cs h r g o2 o4 f a z2 z4 z124  (show (f 14).toInt = 0 from by first | exact g0 | omega) _) hT (pr := [nA cs o2 36864 ma, nA cs o4 wn wc]) (pcs := [wd_Raw cs h r (fun k => if k = 2 then o2 else if k = 4 then o4 else none) f a g]) hw px_X.tt (px_recv hT hw 2 0 rfl rfl rfl) m8_193 m8_190 m8_192 ms_6_7 m1_34 q_Raw_jumpIndirect ⟨Nat.le_of_ble_eq_true rfl, Nat.le_of_ble_eq_true rfl⟩ hl.1 rfl (Nat.le_of_ble_eq_true rfl) d_Raw_perform_198 ⟨show 0 + 0 ≤ (nd o2) from (by first | exact oz_4801a4ef71 | omega), show 0 + 0 ≤ (36864 * nd o2) from (by first | exact oz_26949c3f46 | omega)⟩) hw hA (fun p127 H locs hp127 hw => ?_)
    obtain ⟨f125, a126, rfl, e129, e130, e131, e132, e133, e134⟩ := hp127
    have e129 : (f125 3).toInt = (f 3).toInt := e129
    have e130 : (f125 7).toInt = (f 7).toInt := e130
    have e131 : (f125 8).toInt = (f 8).toInt := e131
    have e132 : (f125 10).toInt = (f 10).toInt := e132
    have e133 : (f125 13).toInt = (f 13).toInt := e133
    have e134 : (f125 14).toInt = 0 := e134
    refine lv_goto (tgt := 310) S.x S.b d_Raw_perform_201 (by decide) ?_
    have hw : pw D A s.heap _ _ [wd_Raw cs h r (fun k => if k = 2 then o2 else if k = 4 then o4 else none) f125 a126 g, nA cs o2 36864 ma, nA cs o4 wn wc] := hw.sub [2, 0, 1] rfl rfl
    first | exact pg_vret S hr hlk hAe hw (show 0 ≤ (nd o2) from oz_c4e42565ca) (show 0 ≤ (36864 * nd o2) from oz_5cdfddacaa) (⟨f125, a126, o2, ma, rfl, (show (f125 3).toInt = (f 3).toInt from e129), (show (f125 7).toInt = (f 7).toInt from e130), (show (f125 8).toInt = (f 8).toInt from e131), (show (f125 10).toInt = (f 10).toInt from e132), (show (f125 13).toInt = (f 13).toInt from e133), (show (f125 14).toInt = 0 ∨ (f125 14).toInt = 1 from by first | with_reducible rfl | with_reducible assumption | omega), (show 0 + nd o2 ≤ nd o2 from oz_d90171b0e4), (show 0 + 36864 * nd o2 ≤ 36864 * nd o2 from oz_9c92651dc9)⟩) d_Raw_perform_310 | exact pg_vret S hr hlk hAe hw (show 0 ≤ (nd o2) from by first | exact oz_c4e42565ca | omega) (show 0 ≤ (36864 * nd o2) from by first | exact oz_5cdfddacaa | omega) (⟨f125, a126, o2, ma, rfl, (show (f125 3).toInt = (f 3).toInt from by first | exact e129 | omega), (show (f125 7).toInt = (f 7).toInt from by first | exact e130 | omega), (show (f125 8).toInt = (f 8).toInt from by first | exact e131 | omega), (show (f125 10).toInt = (f 10).toInt from by first | exact e132 | omega), (show (f125 13).toInt = (f 13).toInt from by first | exact e133 | omega), (show (f125 14).toInt = 0 ∨ (f125 14).toInt = 1 from by first | with_reducible rfl | with_reducible assumption | omega), (show 0 + nd o2 ≤ nd o2 from by first | exact oz_d90171b0e4 | omega), (show 0 + 36864 * nd o2 ≤ 36864 * nd o2 from by first | exact oz_9c92651dc9 | omega)⟩) d_Raw_perform_310
  ·
    refine lv_aload_n S.x S.b d_Raw_perform_171 rfl (lv_at hl 4 rfl) ?_
    refine lv_iload_n S.x S.b d_Raw_perform_172 rfl (lv_at hl 3 rfl) ?_
    refine lv_aload_n S.x S.b d_Raw_perform_173 rfl (lv_at hl 4 rfl) ?_
    refine px_get S k_Raw hT hw 0 0 5 (v := .int (f 5)) rfl rfl rfl (by decide) m6_129 d_Raw_perform_174 ?_
    refine lv_iload_n S.x S.b d_Raw_perform_177 rfl (lv_at hl 5 rfl) ?_
    first | refine px_calli (pr := [wd_Raw cs h r (fun k => if k = 2 then o2 else if k = 4 then o4 else none) f a g, nA cs o2 36864 ma, nA cs o4 wn wc]) (px_runS (As := [.int p0]) (rest := [.int (f 5), .int z2, .ref h]) S (c_Raw_jumpDistance l D cs  p0   _) hT (pr := [wd_Raw cs h r (fun k => if k = 2 then o2 else if k = 4 then o4 else none) f a g, nA cs o2 36864 ma, nA cs o4 wn wc]) (pcs := []) hw px_X.tt m8_184 m8_182 m8_183 m1_34 q_Raw_jumpDistance ⟨Nat.le_of_ble_eq_true rfl, Nat.le_of_ble_eq_true rfl⟩ hl.1 rfl (Nat.le_of_ble_eq_true rfl) d_Raw_perform_178 ⟨show 0 + 0 ≤ (nd o2) from (oz_4801a4ef71), show 0 + 0 ≤ (36864 * nd o2) from (oz_26949c3f46)⟩) hw hA (fun v136 p135 H locs hp135 hw => ?_) | refine px_calli (pr := [wd_Raw cs h r (fun k => if k = 2 then o2 else if k = 4 then o4 else none) f a g, nA cs o2 36864 ma, nA cs o4 wn wc]) (px_runS (As := [.int p0]) (rest := [.int (f 5), .int z2, .ref h]) S (c_Raw_jumpDistance l D cs  p0   _) hT (pr := [wd_Raw cs h r (fun k => if k = 2 then o2 else if k = 4 then o4 else none) f a g, nA cs o2 36864 ma, nA cs o4 wn wc]) (pcs := []) hw px_X.tt m8_184 m8_182 m8_183 m1_34 q_Raw_jumpDistance ⟨Nat.le_of_ble_eq_true rfl, Nat.le_of_ble_eq_true rfl⟩ hl.1 rfl (Nat.le_of_ble_eq_true rfl) d_Raw_perform_178 ⟨show 0 + 0 ≤ (nd o2) from (by first | exact oz_4801a4ef71 | omega), show 0 + 0 ≤ (36864 * nd o2) from (by first | exact oz_26949c3f46 | omega)⟩) hw hA (fun v136 p135 H locs hp135 hw => ?_)
    subst hp135
    have lv136 := Int32.le_toInt v136
    have uv136 := Int32.toInt_lt v136
    refine lv_iadd S.x S.b d_Raw_perform_181 ?_
    have lr137 := Int32.le_toInt (f 5)
    have ur137 := Int32.toInt_lt (f 5)
    refine lv_topi (fun z138 ez138 => ?_)
    have tz138 : z138.toInt = ((f 5).toInt + v136.toInt + 2147483648) % 4294967296 - 2147483648 := by rw [ez138]; exact i_add (f 5) v136
    have lz138 := Int32.le_toInt z138
    have uz138 := Int32.toInt_lt z138
    have hw : pw D A s.heap _ _ [nA cs o2 36864 ma, nA cs o4 wn wc, wd_Raw cs h r (fun k => if k = 2 then o2 else if k = 4 then o4 else none) f a g] := hw.sub [1, 2, 0] rfl rfl
    first | refine px_callv (pr := [nA cs o2 36864 ma, nA cs o4 wn wc]) (px_runV (As := [.int z2, .int z138]) (rest := []) S (c_Raw_jump l D cs h r g o2 o4 f a z2 z138  (show (f 14).toInt = 0 from g0) _) hT (pr := [nA cs o2 36864 ma, nA cs o4 wn wc]) (pcs := [wd_Raw cs h r (fun k => if k = 2 then o2 else if k = 4 then o4 else none) f a g]) hw px_X.tt (px_recv hT hw 2 0 rfl rfl rfl) m8_189 m8_186 m8_188 ms_6_6 m1_34 q_Raw_jump ⟨Nat.le_of_ble_eq_true rfl, Nat.le_of_ble_eq_true rfl⟩ hl.1 rfl (Nat.le_of_ble_eq_true rfl) d_Raw_perform_182 ⟨show 0 + 0 ≤ (nd o2) from (oz_4801a4ef71), show 0 + 0 ≤ (36864 * nd o2) from (oz_26949c3f46)⟩) hw hA (fun p141 H locs hp141 hw => ?_) | refine px_callv (pr := [nA cs o2 36864 ma, nA cs o4 wn wc]) (px_runV (As := [.int z2, .int z138]) (rest := []) S (c_Raw_jump l D cs h r g o2 o4 f a z2 z138  (show (f 14).toInt = 0 from by first | exact g0 | omega) _) hT (pr := [nA cs o2 36864 ma, nA cs o4 wn wc]) (pcs := [wd_Raw cs h r (fun k => if k = 2 then o2 else if k = 4 then o4 else none) f a g]) hw px_X.tt (px_recv hT hw 2 0 rfl rfl rfl) m8_189 m8_186 m8_188 ms_6_6 m1_34 q_Raw_jump ⟨Nat.le_of_ble_eq_true rfl, Nat.le_of_ble_eq_true rfl⟩ hl.1 rfl (Nat.le_of_ble_eq_true rfl) d_Raw_perform_182 ⟨show 0 + 0 ≤ (nd o2) from (by first | exact oz_4801a4ef71 | omega), show 0 + 0 ≤ (36864 * nd o2) from (by first | exact oz_26949c3f46 | omega)⟩) hw hA (fun p141 H locs hp141 hw => ?_)
    obtain ⟨f139, a140, rfl, e143, e144, e145, e146, e147, e148⟩ := hp141
    have e143 : (f139 3).toInt = (f 3).toInt := e143
    have e144 : (f139 7).toInt = (f 7).toInt := e144
    have e145 : (f139 8).toInt = (f 8).toInt := e145
    have e146 : (f139 10).toInt = (f 10).toInt := e146
    have e147 : (f139 13).toInt = (f 13).toInt := e147
    have e148 : (f139 14).toInt = 0 := e148
    refine lv_goto (tgt := 310) S.x S.b d_Raw_perform_185 (by decide) ?_
    have hw : pw D A s.heap _ _ [wd_Raw cs h r (fun k => if k = 2 then o2 else if k = 4 then o4 else none) f139 a140 g, nA cs o2 36864 ma, nA cs o4 wn wc] := hw.sub [2, 0, 1] rfl rfl
    first | exact pg_vret S hr hlk hAe hw (show 0 ≤ (nd o2) from oz_c4e42565ca) (show 0 ≤ (36864 * nd o2) from oz_5cdfddacaa) (⟨f139, a140, o2, ma, rfl, (show (f139 3).toInt = (f 3).toInt from e143), (show (f139 7).toInt = (f 7).toInt from e144), (show (f139 8).toInt = (f 8).toInt from e145), (show (f139 10).toInt = (f 10).toInt from e146), (show (f139 13).toInt = (f 13).toInt from e147), (show (f139 14).toInt = 0 ∨ (f139 14).toInt = 1 from by first | with_reducible rfl | with_reducible assumption | omega), (show 0 + nd o2 ≤ nd o2 from oz_d90171b0e4), (show 0 + 36864 * nd o2 ≤ 36864 * nd o2 from oz_9c92651dc9)⟩) d_Raw_perform_310 | exact pg_vret S hr hlk hAe hw (show 0 ≤ (nd o2) from by first | exact oz_c4e42565ca | omega) (show 0 ≤ (36864 * nd o2) from by first | exact oz_5cdfddacaa | omega) (⟨f139, a140, o2, ma, rfl, (show (f139 3).toInt = (f 3).toInt from by first | exact e143 | omega), (show (f139 7).toInt = (f 7).toInt from by first | exact e144 | omega), (show (f139 8).toInt = (f 8).toInt from by first | exact e145 | omega), (show (f139 10).toInt = (f 10).toInt from by first | exact e146 | omega), (show (f139 13).toInt = (f 13).toInt from by first | exact e147 | omega), (show (f139 14).toInt = 0 ∨ (f139 14).toInt = 1 from by first | with_reducible rfl | with_reducible assumption | omega), (show 0 + nd o2 ≤ nd o2 from by first | exact oz_d90171b0e4 | omega), (show 0 + 36864 * nd o2 ≤ 36864 * nd o2 from by first | exact oz_9c92651dc9 | omega)⟩) d_Raw_perform_310
  ·
    refine lv_aload_n S.x S.b d_Raw_perform_305 rfl (lv_at hl 4 rfl) ?_
    refine lv_iload_n S.x S.b d_Raw_perform_306 rfl (lv_at hl 5 rfl) ?_
    have hw : pw D A s.heap _ _ [nA cs o2 36864 ma, nA cs o4 wn wc, wd_Raw cs h r (fun k => if k = 2 then o2 else if k = 4 then o4 else none) f a g] := hw.sub [1, 2, 0] rfl rfl
    first | refine px_callv (pr := [nA cs o2 36864 ma, nA cs o4 wn wc]) (px_runV (As := [.int p0]) (rest := []) S (c_Raw_system l D cs h r g o2 o4 f a p0  (show (f 14).toInt = 0 from g0) _) hT (pr := [nA cs o2 36864 ma, nA cs o4 wn wc]) (pcs := [wd_Raw cs h r (fun k => if k = 2 then o2 else if k = 4 then o4 else none) f a g]) hw px_X.tt (px_recv hT hw 2 0 rfl rfl rfl) m8_236 m8_233 m8_235 ms_6_13 m1_34 q_Raw_system ⟨Nat.le_of_ble_eq_true rfl, Nat.le_of_ble_eq_true rfl⟩ hl.1 rfl (Nat.le_of_ble_eq_true rfl) d_Raw_perform_307 ⟨show 0 + 0 ≤ (nd o2) from (oz_4801a4ef71), show 0 + 0 ≤ (36864 * nd o2) from (oz_26949c3f46)⟩) hw hA (fun p151 H locs hp151 hw => ?_) | refine px_callv (pr := [nA cs o2 36864 ma, nA cs o4 wn wc]) (px_runV (As := [.int p0]) (rest := []) S (c_Raw_system l D cs h r g o2 o4 f a p0  (show (f 14).toInt = 0 from by first | exact g0 | omega) _) hT (pr := [nA cs o2 36864 ma, nA cs o4 wn wc]) (pcs := [wd_Raw cs h r (fun k => if k = 2 then o2 else if k = 4 then o4 else none) f a g]) hw px_X.tt (px_recv hT hw 2 0 rfl rfl rfl) m8_236 m8_233 m8_235 ms_6_13 m1_34 q_Raw_system ⟨Nat.le_of_ble_eq_true rfl, Nat.le_of_ble_eq_true rfl⟩ hl.1 rfl (Nat.le_of_ble_eq_true rfl) d_Raw_perform_307 ⟨show 0 + 0 ≤ (nd o2) from (by first | exact oz_4801a4ef71 | omega), show 0 + 0 ≤ (36864 * nd o2) from (by first | exact oz_26949c3f46 | omega)⟩) hw hA (fun p151 H locs hp151 hw => ?_)
    obtain ⟨f149, a150, rfl, e153, e154, e155, e156, e157, e158⟩ := hp151
    have e153 : (f149 3).toInt = (f 3).toInt := e153
    have e154 : (f149 7).toInt = (f 7).toInt := e154
    have e155 : (f149 8).toInt = (f 8).toInt := e155
    have e156 : (f149 10).toInt = (f 10).toInt := e156
    have e157 : (f149 13).toInt = (f 13).toInt := e157
    have e158 : (f149 14).toInt = 0 ∨ (f149 14).toInt = 1 := e158
    have hw : pw D A s.heap _ _ [wd_Raw cs h r (fun k => if k = 2 then o2 else if k = 4 then o4 else none) f149 a150 g, nA cs o2 36864 ma, nA cs o4 wn wc] := hw.sub [2, 0, 1] rfl rfl
    first | exact pg_vret S hr hlk hAe hw (show 0 ≤ (nd o2) from oz_c4e42565ca) (show 0 ≤ (36864 * nd o2) from oz_5cdfddacaa) (⟨f149, a150, o2, ma, rfl, (show (f149 3).toInt = (f 3).toInt from e153), (show (f149 7).toInt = (f 7).toInt from e154), (show (f149 8).toInt = (f 8).toInt from e155), (show (f149 10).toInt = (f 10).toInt from e156), (show (f149 13).toInt = (f 13).toInt from e157), (show (f149 14).toInt = 0 ∨ (f149 14).toInt = 1 from e158), (show 0 + nd o2 ≤ nd o2 from oz_d90171b0e4), (show 0 + 36864 * nd o2 ≤ 36864 * nd o2 from oz_9c92651dc9)⟩) d_Raw_perform_310 | exact pg_vret S hr hlk hAe hw (show 0 ≤ (nd o2) from by first | exact oz_c4e42565ca | omega) (show 0 ≤ (36864 * nd o2) from by first | exact oz_5cdfddacaa | omega) (⟨f149, a150, o2, ma, rfl, (show (f149 3).toInt = (f 3).toInt from by first | exact e153 | omega), (show (f149 7).toInt = (f 7).toInt from by first | exact e154 | omega), (show (f149 8).toInt = (f 8).toInt from by first | exact e155 | omega), (show (f149 10).toInt = (f 10).toInt from by first | exact e156 | omega), (show (f149 13).toInt = (f 13).toInt from by first | exact e157 | omega), (show (f149 14).toInt = 0 ∨ (f149 14).toInt = 1 from by first | exact e158 | omega), (show 0 + nd o2 ≤ nd o2 from by first | exact oz_d90171b0e4 | omega), (show 0 + 36864 * nd o2 ≤ 36864 * nd o2 from by first | exact oz_9c92651dc9 | omega)⟩) d_Raw_perform_310
abbrev b_Raw_go : ByteArray := prog_8_method_3_code
def y_Raw_go : MethodName := ⟨"HomeSystem$RawProcess", "go", "()V"⟩
theorem d_Raw_go_0 : decode b_Raw_go 0 = .ok (.iconst 0, 1) := by decide +kernel
theorem d_Raw_go_1 : decode b_Raw_go 1 = .ok (.istore_n 1, 1) := by decide +kernel
theorem d_Raw_go_2 : decode b_Raw_go 2 = .ok (.iload_n 1, 1) := by decide +kernel
theorem d_Raw_go_3 : decode b_Raw_go 3 = .ok (.ldc 48, 2) := by decide +kernel
theorem d_Raw_go_5 : decode b_Raw_go 5 = .ok (.if_icmp .ge 117, 3) := by decide +kernel
theorem d_Raw_go_8 : decode b_Raw_go 8 = .ok (.aload_n 0, 1) := by decide +kernel
theorem d_Raw_go_9 : decode b_Raw_go 9 = .ok (.getfield 49, 3) := by decide +kernel
theorem d_Raw_go_12 : decode b_Raw_go 12 = .ok (.bipush (-2), 2) := by decide +kernel
theorem d_Raw_go_14 : decode b_Raw_go 14 = .ok (.if_icmp .ne 108, 3) := by decide +kernel
theorem d_Raw_go_17 : decode b_Raw_go 17 = .ok (.aload_n 0, 1) := by decide +kernel
theorem d_Raw_go_18 : decode b_Raw_go 18 = .ok (.getfield 52, 3) := by decide +kernel
theorem d_Raw_go_21 : decode b_Raw_go 21 = .ok (.ifCond .ne 101, 3) := by decide +kernel
theorem d_Raw_go_24 : decode b_Raw_go 24 = .ok (.aload_n 0, 1) := by decide +kernel
theorem d_Raw_go_25 : decode b_Raw_go 25 = .ok (.getfield 42, 3) := by decide +kernel
theorem d_Raw_go_28 : decode b_Raw_go 28 = .ok (.ifCond .gt 12, 3) := by decide +kernel
theorem d_Raw_go_31 : decode b_Raw_go 31 = .ok (.aload_n 0, 1) := by decide +kernel
theorem d_Raw_go_32 : decode b_Raw_go 32 = .ok (.iconst 5, 1) := by decide +kernel
theorem d_Raw_go_33 : decode b_Raw_go 33 = .ok (.iconst 0, 1) := by decide +kernel
theorem d_Raw_go_34 : decode b_Raw_go 34 = .ok (.invokevirtual 56, 3) := by decide +kernel
theorem d_Raw_go_37 : decode b_Raw_go 37 = .ok (.goto 45, 3) := by decide +kernel
theorem d_Raw_go_40 : decode b_Raw_go 40 = .ok (.aload_n 0, 1) := by decide +kernel
theorem d_Raw_go_41 : decode b_Raw_go 41 = .ok (.getfield 38, 3) := by decide +kernel
theorem d_Raw_go_44 : decode b_Raw_go 44 = .ok (.invokestatic 60, 3) := by decide +kernel
theorem d_Raw_go_47 : decode b_Raw_go 47 = .ok (.ifCond .eq 28, 3) := by decide +kernel
theorem d_Raw_go_50 : decode b_Raw_go 50 = .ok (.aload_n 0, 1) := by decide +kernel
theorem d_Raw_go_51 : decode b_Raw_go 51 = .ok (.aload_n 0, 1) := by decide +kernel
theorem d_Raw_go_52 : decode b_Raw_go 52 = .ok (.getfield 38, 3) := by decide +kernel
theorem d_Raw_go_55 : decode b_Raw_go 55 = .ok (.iconst 4, 1) := by decide +kernel
theorem d_Raw_go_56 : decode b_Raw_go 56 = .ok (.iadd, 1) := by decide +kernel
theorem d_Raw_go_57 : decode b_Raw_go 57 = .ok (.putfield 64, 3) := by decide +kernel
theorem d_Raw_go_60 : decode b_Raw_go 60 = .ok (.aload_n 0, 1) := by decide +kernel
theorem d_Raw_go_61 : decode b_Raw_go 61 = .ok (.aload_n 0, 1) := by decide +kernel
theorem d_Raw_go_62 : decode b_Raw_go 62 = .ok (.aload_n 0, 1) := by decide +kernel
theorem d_Raw_go_63 : decode b_Raw_go 63 = .ok (.getfield 38, 3) := by decide +kernel
theorem d_Raw_go_66 : decode b_Raw_go 66 = .ok (.invokevirtual 67, 3) := by decide +kernel
theorem d_Raw_go_69 : decode b_Raw_go 69 = .ok (.invokevirtual 71, 3) := by decide +kernel
theorem d_Raw_go_72 : decode b_Raw_go 72 = .ok (.goto 10, 3) := by decide +kernel
theorem d_Raw_go_75 : decode b_Raw_go 75 = .ok (.aload_n 0, 1) := by decide +kernel
theorem d_Raw_go_76 : decode b_Raw_go 76 = .ok (.bipush 7, 2) := by decide +kernel
theorem d_Raw_go_78 : decode b_Raw_go 78 = .ok (.iconst 0, 1) := by decide +kernel
theorem d_Raw_go_79 : decode b_Raw_go 79 = .ok (.invokevirtual 56, 3) := by decide +kernel
theorem d_Raw_go_82 : decode b_Raw_go 82 = .ok (.aload_n 0, 1) := by decide +kernel
theorem d_Raw_go_83 : decode b_Raw_go 83 = .ok (.getfield 49, 3) := by decide +kernel
theorem d_Raw_go_86 : decode b_Raw_go 86 = .ok (.bipush (-2), 2) := by decide +kernel
theorem d_Raw_go_88 : decode b_Raw_go 88 = .ok (.if_icmp .ne 28, 3) := by decide +kernel
theorem d_Raw_go_91 : decode b_Raw_go 91 = .ok (.aload_n 0, 1) := by decide +kernel
theorem d_Raw_go_92 : decode b_Raw_go 92 = .ok (.getfield 52, 3) := by decide +kernel
theorem d_Raw_go_95 : decode b_Raw_go 95 = .ok (.ifCond .ne 21, 3) := by decide +kernel
theorem d_Raw_go_98 : decode b_Raw_go 98 = .ok (.aload_n 0, 1) := by decide +kernel
theorem d_Raw_go_99 : decode b_Raw_go 99 = .ok (.dup, 1) := by decide +kernel
theorem d_Raw_go_100 : decode b_Raw_go 100 = .ok (.getfield 42, 3) := by decide +kernel
theorem d_Raw_go_103 : decode b_Raw_go 103 = .ok (.iconst 1, 1) := by decide +kernel
theorem d_Raw_go_104 : decode b_Raw_go 104 = .ok (.isub, 1) := by decide +kernel
theorem d_Raw_go_105 : decode b_Raw_go 105 = .ok (.putfield 42, 3) := by decide +kernel
theorem d_Raw_go_108 : decode b_Raw_go 108 = .ok (.aload_n 0, 1) := by decide +kernel
theorem d_Raw_go_109 : decode b_Raw_go 109 = .ok (.aload_n 0, 1) := by decide +kernel
theorem d_Raw_go_110 : decode b_Raw_go 110 = .ok (.getfield 64, 3) := by decide +kernel
theorem d_Raw_go_113 : decode b_Raw_go 113 = .ok (.putfield 38, 3) := by decide +kernel
theorem d_Raw_go_116 : decode b_Raw_go 116 = .ok (.iinc 1 1, 3) := by decide +kernel
theorem d_Raw_go_119 : decode b_Raw_go 119 = .ok (.goto (-117), 3) := by decide +kernel
theorem d_Raw_go_122 : decode b_Raw_go 122 = .ok (.return_, 1) := by decide +kernel
theorem q_Raw_go : px_y y_Raw_go 0 := by unfold px_y; decide +kernel
set_option maxHeartbeats 4000000 in
set_option maxRecDepth 100000 in
theorem c_Raw_go (l : Launch) (D : va_G) (cs : Nat → ClassId) (h : Nat) (r : Nat → Nat) (g : Nat → Nat → Option Nat) (o4 : Option Nat) (wn : Nat) (wc : Nat → Int32) (f : Nat → Int32) (a : Nat → Nat → Int32) (o2 : Option Nat) (ma : Nat → Int32)  (g0 : 0 ≤ (f 7).toInt) (g1 : (f 7).toInt ≤ 1600) (g2 : 0 ≤ (f 10).toInt) (g3 : (f 10).toInt + (f 7).toInt ≤ 1600) (g4 : (f 14).toInt = 0 ∨ (f 14).toInt = 1) (g5 : (f 14).toInt = 1 → 1 ≤ (f 7).toInt) (g6 : wn ≤ 1000000) : MgV l y_Raw_go b_Raw_go 2 D cs 5 190 ((nd o2)) ((36864 * nd o2)) [.ref h] [wd_Raw cs h r (fun k => if k = 2 then o2 else if k = 4 then o4 else none) f a g, nA cs o2 36864 ma, nA cs o4 wn wc] (fun _ => True) (fun ps => ∃ (f' : Nat → Int32) (a' : Nat → Nat → Int32) (o2' : Option Nat) (ma' : Nat → Int32), (ps.1 = [wd_Raw cs h r (fun k => if k = 2 then o2' else if k = 4 then o4 else none) f' a' g, nA cs o2' 36864 ma', nA cs o4 wn wc]) ∧ (0 ≤ (f' 7).toInt) ∧ ((f' 7).toInt ≤ 1600) ∧ (0 ≤ (f' 10).toInt) ∧ ((f' 10).toInt + (f' 7).toInt ≤ 1600) ∧ ((f' 14).toInt = 0 ∨ (f' 14).toInt = 1) ∧ ((f' 14).toInt = 1 → 1 ≤ (f' 7).toInt) ∧ ((f' 8).toInt = (f 8).toInt) ∧ ((f' 10).toInt = (f 10).toInt) ∧ ((f' 13).toInt = (f 13).toInt) ∧ (ps.2.1 + nd o2' ≤ nd o2) ∧ (ps.2.2 + 36864 * nd o2' ≤ 36864 * nd o2)) := by
  refine pg_enter (by decide) (Nat.le_of_ble_eq_true rfl) ?_
  intro p e s m below meth c A ls hAe S hr hlk hnm hA hT hX hw hl
  have hl : lv_has ls 2 [(0, .ref h)] := hl
  have cstm2 : ((-2) : Int32).toInt = (-2) := rfl
  have cst0 : (0 : Int32).toInt = 0 := rfl
  have cst1 : (1 : Int32).toInt = 1 := rfl
  have cst4 : (4 : Int32).toInt = 4 := rfl
  have cst5 : (5 : Int32).toInt = 5 := rfl
  have cst7 : (7 : Int32).toInt = 7 := rfl
  have J2 : ∀ (n : Nat) (ce_2 sl_2 : Nat) (f_2 : Nat → Int32) (a_2 : Nat → Nat → Int32) (o2_2 : Option Nat) (ma_2 : Nat → Int32) (x2_1 : Int32) (H : Heap) (locs : List Loc) (ls : Array Slot), (0 ≤ (f_2 7).toInt) → ((f_2 7).toInt ≤ 1600) → (0 ≤ (f_2 10).toInt) → ((f_2 10).toInt + (f_2 7).toInt ≤ 1600) → ((f_2 14).toInt = 0 ∨ (f_2 14).toInt = 1) → ((f_2 14).toInt = 1 → 1 ≤ (f_2 7).toInt) → ((f_2 8).toInt = (f 8).toInt) → ((f_2 10).toInt = (f 10).toInt) → ((f_2 13).toInt = (f 13).toInt) → (0 ≤ x2_1.toInt) → (x2_1.toInt ≤ 1000000) → (ce_2 + nd o2_2 ≤ nd o2) → (sl_2 + 36864 * nd o2_2 ≤ 36864 * nd o2) → 1000001-x2_1.toInt < (n : Int) → pw D A s.heap H locs [wd_Raw cs h r (fun k => if k = 2 then o2_2 else if k = 4 then o4 else none) f_2 a_2 g, nA cs o2_2 36864 ma_2, nA cs o4 wn wc] → lv_has ls 2 [(0, .ref h), (1, .int x2_1)] → W p l e { frames := 5, cells := (nd o2), slots := (36864 * nd o2), locals := 190 } s m [.ref h].toArray below meth c H locs ce_2 sl_2 (MQ below (va_Qv (fun ps => ∃ (f' : Nat → Int32) (a' : Nat → Nat → Int32) (o2' : Option Nat) (ma' : Nat → Int32), (ps.1 = [wd_Raw cs h r (fun k => if k = 2 then o2' else if k = 4 then o4 else none) f' a' g, nA cs o2' 36864 ma', nA cs o4 wn wc]) ∧ (0 ≤ (f' 7).toInt) ∧ ((f' 7).toInt ≤ 1600) ∧ (0 ≤ (f' 10).toInt) ∧ ((f' 10).toInt + (f' 7).toInt ≤ 1600) ∧ ((f' 14).toInt = 0 ∨ (f' 14).toInt = 1) ∧ ((f' 14).toInt = 1 → 1 ≤ (f' 7).toInt) ∧ ((f' 8).toInt = (f 8).toInt) ∧ ((f' 10).toInt = (f 10).toInt) ∧ ((f' 13).toInt = (f 13).toInt) ∧ (ps.2.1 + nd o2' ≤ nd o2) ∧ (ps.2.2 + 36864 * nd o2' ≤ 36864 * nd o2)) (pg_B D (va_A ([wd_Raw cs h r (fun k => if k = 2 then o2 else if k = 4 then o4 else none) f a g, nA cs o2 36864 ma, nA cs o4 wn wc] : List va_W).flatten s.heap.size) s.heap.size (tot s.heap)) (va_A ([wd_Raw cs h r (fun k => if k = 2 then o2 else if k = 4 then o4 else none) f a g, nA cs o2 36864 ma, nA cs o4 wn wc] : List va_W).flatten s.heap.size)) [.ref h].toArray s (nd o2) (36864 * nd o2) A) (F0 m 2 ls []) := by
    intro n
    induction n with
    | zero =>
      intro ce_2 sl_2 f_2 a_2 o2_2 ma_2 x2_1 H locs ls k2_0 k2_1 k2_2 k2_3 k2_4 k2_5 k2_6 k2_7 k2_8 k2_9 k2_10 k2_11 k2_12 hm hw hl
      have lx2_1 := Int32.le_toInt x2_1
      have ux2_1 := Int32.toInt_lt x2_1
      exact absurd hm (by omega)
    | succ n ih =>
      intro ce_2 sl_2 f_2 a_2 o2_2 ma_2 x2_1 H locs ls k2_0 k2_1 k2_2 k2_3 k2_4 k2_5 k2_6 k2_7 k2_8 k2_9 k2_10 k2_11 k2_12 hm hw hl
      have lx2_1 := Int32.le_toInt x2_1
      have ux2_1 := Int32.toInt_lt x2_1
      refine lv_iload_n S.x S.b d_Raw_go_2 rfl (lv_at hl 1 rfl) ?_
      refine lv_ldc (v := 1000000) S.x S.b S.own (S.w m8_169) d_Raw_go_3 ?_
      refine lv_icmp_ge (tgt := 122) S.x S.b d_Raw_go_5 (by decide) (fun c1 => ?_) (fun c1 => ?_)
      · have nc1 : (1000000 : Int) ≤ x2_1.toInt := (i_le (x := 1000000) (y := x2_1)).mp c1
        first | exact pg_vret S hr hlk hAe hw (show ce_2 ≤ (nd o2) from (oz_a67883325c k2_11)) (show sl_2 ≤ (36864 * nd o2) from (oz_36dcdec57f k2_12)) (⟨f_2, a_2, o2_2, ma_2, rfl, (show 0 ≤ (f_2 7).toInt from k2_0), (show (f_2 7).toInt ≤ 1600 from k2_1), (show 0 ≤ (f_2 10).toInt from k2_2), (show (f_2 10).toInt + (f_2 7).toInt ≤ 1600 from k2_3), (show (f_2 14).toInt = 0 ∨ (f_2 14).toInt = 1 from k2_4), (show (f_2 14).toInt = 1 → 1 ≤ (f_2 7).toInt from k2_5), (show (f_2 8).toInt = (f 8).toInt from k2_6), (show (f_2 10).toInt = (f 10).toInt from k2_7), (show (f_2 13).toInt = (f 13).toInt from k2_8), (show ce_2 + nd o2_2 ≤ nd o2 from k2_11), (show sl_2 + 36864 * nd o2_2 ≤ 36864 * nd o2 from k2_12)⟩) d_Raw_go_122 | exact pg_vret S hr hlk hAe hw (show ce_2 ≤ (nd o2) from by first | exact oz_a67883325c k2_11 | omega) (show sl_2 ≤ (36864 * nd o2) from by first | exact oz_36dcdec57f k2_12 | omega) (⟨f_2, a_2, o2_2, ma_2, rfl, (show 0 ≤ (f_2 7).toInt from by first | exact k2_0 | omega), (show (f_2 7).toInt ≤ 1600 from by first | exact k2_1 | omega), (show 0 ≤ (f_2 10).toInt from by first | exact k2_2 | omega), (show (f_2 10).toInt + (f_2 7).toInt ≤ 1600 from by first | exact k2_3 | omega), (show (f_2 14).toInt = 0 ∨ (f_2 14).toInt = 1 from by first | exact k2_4 | omega), (show (f_2 14).toInt = 1 → 1 ≤ (f_2 7).toInt from by first | exact k2_5 | omega), (show (f_2 8).toInt = (f 8).toInt from by first | exact k2_6 | omega), (show (f_2 10).toInt = (f 10).toInt from by first | exact k2_7 | omega), (show (f_2 13).toInt = (f 13).toInt from by first | exact k2_8 | omega), (show ce_2 + nd o2_2 ≤ nd o2 from by first | exact k2_11 | omega), (show sl_2 + 36864 * nd o2_2 ≤ 36864 * nd o2 from by first | exact k2_12 | omega)⟩) d_Raw_go_122
      · have nc1 : ¬ (1000000 : Int) ≤ x2_1.toInt := mt (i_le (x := 1000000) (y := x2_1)).mpr c1
        refine lv_aload_n S.x S.b d_Raw_go_8 rfl (lv_at hl 0 rfl) ?_
        refine px_getS S k_Raw hT hw 0 0 11 (v := .int (f_2 11)) rfl rfl rfl (by decide) m6_140 m6_141 d_Raw_go_9 ?_
        refine lv_bipush (v := (-2)) S.x S.b d_Raw_go_12 (by decide) ?_
        refine lv_icmp_ne (tgt := 122) S.x S.b d_Raw_go_14 (by decide) (fun c2 => ?_) (fun c2 => ?_)
        · have nc2 : ¬ (f_2 11).toInt = (-2 : Int) := mt (i_eq (x := (f_2 11)) (y := (-2))).mpr c2
          first | exact pg_vret S hr hlk hAe hw (show ce_2 ≤ (nd o2) from (oz_a67883325c k2_11)) (show sl_2 ≤ (36864 * nd o2) from (oz_36dcdec57f k2_12)) (⟨f_2, a_2, o2_2, ma_2, rfl, (show 0 ≤ (f_2 7).toInt from k2_0), (show (f_2 7).toInt ≤ 1600 from k2_1), (show 0 ≤ (f_2 10).toInt from k2_2), (show (f_2 10).toInt + (f_2 7).toInt ≤ 1600 from k2_3), (show (f_2 14).toInt = 0 ∨ (f_2 14).toInt = 1 from k2_4), (show (f_2 14).toInt = 1 → 1 ≤ (f_2 7).toInt from k2_5), (show (f_2 8).toInt = (f 8).toInt from k2_6), (show (f_2 10).toInt = (f 10).toInt from k2_7), (show (f_2 13).toInt = (f 13).toInt from k2_8), (show ce_2 + nd o2_2 ≤ nd o2 from k2_11), (show sl_2 + 36864 * nd o2_2 ≤ 36864 * nd o2 from k2_12)⟩) d_Raw_go_122 | exact pg_vret S hr hlk hAe hw (show ce_2 ≤ (nd o2) from by first | exact oz_a67883325c k2_11 | omega) (show sl_2 ≤ (36864 * nd o2) from by first | exact oz_36dcdec57f k2_12 | omega) (⟨f_2, a_2, o2_2, ma_2, rfl, (show 0 ≤ (f_2 7).toInt from by first | exact k2_0 | omega), (show (f_2 7).toInt ≤ 1600 from by first | exact k2_1 | omega), (show 0 ≤ (f_2 10).toInt from by first | exact k2_2 | omega), (show (f_2 10).toInt + (f_2 7).toInt ≤ 1600 from by first | exact k2_3 | omega), (show (f_2 14).toInt = 0 ∨ (f_2 14).toInt = 1 from by first | exact k2_4 | omega), (show (f_2 14).toInt = 1 → 1 ≤ (f_2 7).toInt from by first | exact k2_5 | omega), (show (f_2 8).toInt = (f 8).toInt from by first | exact k2_6 | omega), (show (f_2 10).toInt = (f 10).toInt from by first | exact k2_7 | omega), (show (f_2 13).toInt = (f 13).toInt from by first | exact k2_8 | omega), (show ce_2 + nd o2_2 ≤ nd o2 from by first | exact k2_11 | omega), (show sl_2 + 36864 * nd o2_2 ≤ 36864 * nd o2 from by first | exact k2_12 | omega)⟩) d_Raw_go_122
        · have nc2 : (f_2 11).toInt = (-2 : Int) := (i_eq (x := (f_2 11)) (y := (-2))).mp c2
          refine lv_aload_n S.x S.b d_Raw_go_17 rfl (lv_at hl 0 rfl) ?_
          refine px_getS S k_Raw hT hw 0 0 14 (v := .int (f_2 14)) rfl rfl rfl (by decide) m6_151 m6_152 d_Raw_go_18 ?_
          refine lv_if_ne (tgt := 122) S.x S.b d_Raw_go_21 (by decide) (fun c3 => ?_) (fun c3 => ?_)
          · have nc3 : ¬ (f_2 14).toInt = (0 : Int) := mt (i_eq (x := (f_2 14)) (y := 0)).mpr c3
            first | exact pg_vret S hr hlk hAe hw (show ce_2 ≤ (nd o2) from (oz_a67883325c k2_11)) (show sl_2 ≤ (36864 * nd o2) from (oz_36dcdec57f k2_12)) (⟨f_2, a_2, o2_2, ma_2, rfl, (show 0 ≤ (f_2 7).toInt from k2_0), (show (f_2 7).toInt ≤ 1600 from k2_1), (show 0 ≤ (f_2 10).toInt from k2_2), (show (f_2 10).toInt + (f_2 7).toInt ≤ 1600 from k2_3), (show (f_2 14).toInt = 0 ∨ (f_2 14).toInt = 1 from k2_4), (show (f_2 14).toInt = 1 → 1 ≤ (f_2 7).toInt from k2_5), (show (f_2 8).toInt = (f 8).toInt from k2_6), (show (f_2 10).toInt = (f 10).toInt from k2_7), (show (f_2 13).toInt = (f 13).toInt from k2_8), (show ce_2 + nd o2_2 ≤ nd o2 from k2_11), (show sl_2 + 36864 * nd o2_2 ≤ 36864 * nd o2 from k2_12)⟩) d_Raw_go_122 | exact pg_vret S hr hlk hAe hw (show ce_2 ≤ (nd o2) from by first | exact oz_a67883325c k2_11 | omega) (show sl_2 ≤ (36864 * nd o2) from by first | exact oz_36dcdec57f k2_12 | omega) (⟨f_2, a_2, o2_2, ma_2, rfl, (show 0 ≤ (f_2 7).toInt from by first | exact k2_0 | omega), (show (f_2 7).toInt ≤ 1600 from by first | exact k2_1 | omega), (show 0 ≤ (f_2 10).toInt from by first | exact k2_2 | omega), (show (f_2 10).toInt + (f_2 7).toInt ≤ 1600 from by first | exact k2_3 | omega), (show (f_2 14).toInt = 0 ∨ (f_2 14).toInt = 1 from by first | exact k2_4 | omega), (show (f_2 14).toInt = 1 → 1 ≤ (f_2 7).toInt from by first | exact k2_5 | omega), (show (f_2 8).toInt = (f 8).toInt from by first | exact k2_6 | omega), (show (f_2 10).toInt = (f 10).toInt from by first | exact k2_7 | omega), (show (f_2 13).toInt = (f 13).toInt from by first | exact k2_8 | omega), (show ce_2 + nd o2_2 ≤ nd o2 from by first | exact k2_11 | omega), (show sl_2 + 36864 * nd o2_2 ≤ 36864 * nd o2 from by first | exact k2_12 | omega)⟩) d_Raw_go_122
          · have nc3 : (f_2 14).toInt = (0 : Int) := (i_eq (x := (f_2 14)) (y := 0)).mp c3
            refine lv_aload_n S.x S.b d_Raw_go_24 rfl (lv_at hl 0 rfl) ?_
            refine px_get S k_Raw hT hw 0 0 7 (v := .int (f_2 7)) rfl rfl rfl (by decide) m6_131 d_Raw_go_25 ?_
            refine lv_if_gt (tgt := 40) S.x S.b d_Raw_go_28 (by decide) (fun c4 => ?_) (fun c4 => ?_)
            · have nc4 : (0 : Int) < (f_2 7).toInt := (i_lt (x := 0) (y := (f_2 7))).mp c4
              refine lv_aload_n S.x S.b d_Raw_go_40 rfl (lv_at hl 0 rfl) ?_
              refine px_get S k_Raw hT hw 0 0 5 (v := .int (f_2 5)) rfl rfl rfl (by decide) m6_129 d_Raw_go_41 ?_
              first | refine px_calli (pr := [wd_Raw cs h r (fun k => if k = 2 then o2_2 else if k = 4 then o4 else none) f_2 a_2 g, nA cs o2_2 36864 ma_2, nA cs o4 wn wc]) (px_runS (As := [.int (f_2 5)]) (rest := []) S (c_Raw_isCode l D cs  (f_2 5)   _) hT (pr := [wd_Raw cs h r (fun k => if k = 2 then o2_2 else if k = 4 then o4 else none) f_2 a_2 g, nA cs o2_2 36864 ma_2, nA cs o4 wn wc]) (pcs := []) hw px_X.tt m8_106 m8_104 m8_105 m1_34 q_Raw_isCode ⟨Nat.le_of_ble_eq_true rfl, Nat.le_of_ble_eq_true rfl⟩ hl.1 rfl (Nat.le_of_ble_eq_true rfl) d_Raw_go_44 ⟨show ce_2 + 0 ≤ (nd o2) from ((oz_5cc5a47d1c k2_11)), show sl_2 + 0 ≤ (36864 * nd o2) from ((oz_abaf2d8cf0 k2_12))⟩) hw hA (fun v6 p5 H locs hp5 hw => ?_) | refine px_calli (pr := [wd_Raw cs h r (fun k => if k = 2 then o2_2 else if k = 4 then o4 else none) f_2 a_2 g, nA cs o2_2 36864 ma_2, nA cs o4 wn wc]) (px_runS (As := [.int (f_2 5)]) (rest := []) S (c_Raw_isCode l D cs  (f_2 5)   _) hT (pr := [wd_Raw cs h r (fun k => if k = 2 then o2_2 else if k = 4 then o4 else none) f_2 a_2 g, nA cs o2_2 36864 ma_2, nA cs o4 wn wc]) (pcs := []) hw px_X.tt m8_106 m8_104 m8_105 m1_34 q_Raw_isCode ⟨Nat.le_of_ble_eq_true rfl, Nat.le_of_ble_eq_true rfl⟩ hl.1 rfl (Nat.le_of_ble_eq_true rfl) d_Raw_go_44 ⟨show ce_2 + 0 ≤ (nd o2) from (by first | exact oz_5cc5a47d1c k2_11 | omega), show sl_2 + 0 ≤ (36864 * nd o2) from (by first | exact oz_abaf2d8cf0 k2_12 | omega)⟩) hw hA (fun v6 p5 H locs hp5 hw => ?_)
              obtain ⟨rfl, e7, e8⟩ := hp5
              have e7 := z_int e7
              have e8 : v6.toInt = 1 → 4194304 ≤ (f_2 5).toInt ∧ (f_2 5).toInt < 4198400 := e8
              have lv6 := Int32.le_toInt v6
              have uv6 := Int32.toInt_lt v6
              refine lv_if_eq (tgt := 75) S.x S.b d_Raw_go_47 (by decide) (fun c9 => ?_) (fun c9 => ?_)
              · have nc9 : v6.toInt = (0 : Int) := (i_eq (x := v6) (y := 0)).mp c9
                refine lv_aload_n S.x S.b d_Raw_go_75 rfl (lv_at hl 0 rfl) ?_
                refine lv_bipush (v := 7) S.x S.b d_Raw_go_76 (by decide) ?_
                refine lv_iconst (v := 0) S.x S.b d_Raw_go_78 (by decide) ?_
                have hw : pw D A s.heap _ _ [nA cs o2_2 36864 ma_2, nA cs o4 wn wc, wd_Raw cs h r (fun k => if k = 2 then o2_2 else if k = 4 then o4 else none) f_2 a_2 g] := hw.sub [1, 2, 0] rfl rfl
                first | refine px_callv (pr := [nA cs o2_2 36864 ma_2, nA cs o4 wn wc]) (px_runU (As := [.int 7, .int 0]) (rest := []) S (c_finish_Raw l D cs h r g o2_2 o4 f_2 a_2 7 0   _) hT (pr := [nA cs o2_2 36864 ma_2, nA cs o4 wn wc]) (pcs := [wd_Raw cs h r (fun k => if k = 2 then o2_2 else if k = 4 then o4 else none) f_2 a_2 g]) hw px_X.tt (C := "HomeSystem$RawProcess") (x := ⟨"HomeSystem$RawProcess", "finish", "(II)V"⟩) (px_recv hT hw 2 0 rfl rfl rfl) m8_89 m8_170 m8_171 m8_85 m8_173 m1_33 rfl q_HomeSystem_AnyProcess_finish ⟨Nat.le_of_ble_eq_true rfl, Nat.le_of_ble_eq_true rfl⟩ hl.1 rfl (Nat.le_of_ble_eq_true rfl) d_Raw_go_79 ⟨show ce_2 + 0 ≤ (nd o2) from ((oz_5cc5a47d1c k2_11)), show sl_2 + 0 ≤ (36864 * nd o2) from ((oz_abaf2d8cf0 k2_12))⟩) hw hA (fun p12 H locs hp12 hw => ?_) | refine px_callv (pr := [nA cs o2_2 36864 ma_2, nA cs o4 wn wc]) (px_runU (As := [.int 7, .int 0]) (rest := []) S (c_finish_Raw l D cs h r g o2_2 o4 f_2 a_2 7 0   _) hT (pr := [nA cs o2_2 36864 ma_2, nA cs o4 wn wc]) (pcs := [wd_Raw cs h r (fun k => if k = 2 then o2_2 else if k = 4 then o4 else none) f_2 a_2 g]) hw px_X.tt (C := "HomeSystem$RawProcess") (x := ⟨"HomeSystem$RawProcess", "finish", "(II)V"⟩) (px_recv hT hw 2 0 rfl rfl rfl) m8_89 m8_170 m8_171 m8_85 m8_173 m1_33 rfl q_HomeSystem_AnyProcess_finish ⟨Nat.le_of_ble_eq_true rfl, Nat.le_of_ble_eq_true rfl⟩ hl.1 rfl (Nat.le_of_ble_eq_true rfl) d_Raw_go_79 ⟨show ce_2 + 0 ≤ (nd o2) from (by first | exact oz_5cc5a47d1c k2_11 | omega), show sl_2 + 0 ≤ (36864 * nd o2) from (by first | exact oz_abaf2d8cf0 k2_12 | omega)⟩) hw hA (fun p12 H locs hp12 hw => ?_)
                obtain ⟨f10, a11, rfl, e14, e15, e16, e17, e18, e19, e20⟩ := hp12
                have e14 : (f10 3).toInt = (f_2 3).toInt := e14
                have e15 : (f10 7).toInt = (f_2 7).toInt := e15
                have e16 : (f10 8).toInt = (f_2 8).toInt := e16
                have e17 : (f10 10).toInt = (f_2 10).toInt := e17
                have e18 : (f10 13).toInt = (f_2 13).toInt := e18
                have e19 : (f10 14).toInt = 0 := e19
                have e20 : (f10 11).toInt = (7 : Int) := e20
                refine lv_aload_n S.x S.b d_Raw_go_82 rfl (lv_at hl 0 rfl) ?_
                refine px_getS S k_Raw hT hw 2 0 11 (v := .int (f10 11)) rfl rfl rfl (by decide) m6_140 m6_141 d_Raw_go_83 ?_
                refine lv_bipush (v := (-2)) S.x S.b d_Raw_go_86 (by decide) ?_
                refine lv_icmp_ne (tgt := 116) S.x S.b d_Raw_go_88 (by decide) (fun c21 => ?_) (fun c21 => ?_)
                · have nc21 : ¬ (f10 11).toInt = (-2 : Int) := mt (i_eq (x := (f10 11)) (y := (-2))).mpr c21
                  obtain ⟨z22, ez22⟩ : ∃ y : Int32, y = x2_1 + 1 := ⟨_, rfl⟩
                  have tz22 : z22.toInt = (x2_1.toInt + 1 + 2147483648) % 4294967296 - 2147483648 := by rw [ez22]; exact i_add x2_1 1
                  have lz22 := Int32.le_toInt z22
                  have uz22 := Int32.toInt_lt z22
                  refine lv_iinc (v := z22) (lv' := [(1, .int z22), (0, .ref h)]) S.x S.b d_Raw_go_116 hl (k := 1) rfl (by rw [ez22]; rfl) (by decide) rfl (fun ls hl => ?_)
                  refine lv_goto (tgt := 2) S.x S.b d_Raw_go_119 (by decide) ?_
                  have hw : pw D A s.heap _ _ [wd_Raw cs h r (fun k => if k = 2 then o2_2 else if k = 4 then o4 else none) f10 a11 g, nA cs o2_2 36864 ma_2, nA cs o4 wn wc] := hw.sub [2, 0, 1] rfl rfl
                  first | exact ih ce_2 sl_2 f10 a11 o2_2 ma_2 z22 _ _ ls (show 0 ≤ (f10 7).toInt from (oz_ed6b1a2b55 e15 nc4)) (show (f10 7).toInt ≤ 1600 from (oz_b9c93daaaa e15 k2_1)) (show 0 ≤ (f10 10).toInt from (oz_f3ebed1ad0 e17 k2_2)) (show (f10 10).toInt + (f10 7).toInt ≤ 1600 from (oz_d790e69b3d e15 e17 k2_3)) (show (f10 14).toInt = 0 ∨ (f10 14).toInt = 1 from by first | with_reducible rfl | with_reducible assumption | omega) (show (f10 14).toInt = 1 → 1 ≤ (f10 7).toInt from (fun q9 => oz_40e4cf67f2 e15 nc4)) (show (f10 8).toInt = (f 8).toInt from (oz_1687f4cc65 k2_6 e16)) (show (f10 10).toInt = (f 10).toInt from (oz_1687f4cc65 k2_7 e17)) (show (f10 13).toInt = (f 13).toInt from (oz_1687f4cc65 k2_8 e18)) (show 0 ≤ z22.toInt from by first | with_reducible rfl | with_reducible assumption | omega) (show z22.toInt ≤ 1000000 from by first | with_reducible rfl | with_reducible assumption | omega) (show ce_2 + nd o2_2 ≤ nd o2 from k2_11) (show sl_2 + 36864 * nd o2_2 ≤ 36864 * nd o2 from k2_12) (show 1000001-z22.toInt < (n : Int) from by first | with_reducible rfl | with_reducible assumption | omega) hw (lv_sub hl [1, 0] rfl) | exact ih ce_2 sl_2 f10 a11 o2_2 ma_2 z22 _ _ ls (show 0 ≤ (f10 7).toInt from by first | exact oz_ed6b1a2b55 e15 nc4 | omega) (show (f10 7).toInt ≤ 1600 from by first | exact oz_b9c93daaaa e15 k2_1 | omega) (show 0 ≤ (f10 10).toInt from by first | exact oz_f3ebed1ad0 e17 k2_2 | omega) (show (f10 10).toInt + (f10 7).toInt ≤ 1600 from by first | exact oz_d790e69b3d e15 e17 k2_3 | omega) (show (f10 14).toInt = 0 ∨ (f10 14).toInt = 1 from by first | with_reducible rfl | with_reducible assumption | omega) (show (f10 14).toInt = 1 → 1 ≤ (f10 7).toInt from by first | exact fun q9 => oz_40e4cf67f2 e15 nc4 | omega) (show (f10 8).toInt = (f 8).toInt from by first | exact oz_1687f4cc65 k2_6 e16 | omega) (show (f10 10).toInt = (f 10).toInt from by first | exact oz_1687f4cc65 k2_7 e17 | omega) (show (f10 13).toInt = (f 13).toInt from by first | exact oz_1687f4cc65 k2_8 e18 | omega) (show 0 ≤ z22.toInt from by first | with_reducible rfl | with_reducible assumption | omega) (show z22.toInt ≤ 1000000 from by first | with_reducible rfl | with_reducible assumption | omega) (show ce_2 + nd o2_2 ≤ nd o2 from by first | exact k2_11 | omega) (show sl_2 + 36864 * nd o2_2 ≤ 36864 * nd o2 from by first | exact k2_12 | omega) (show 1000001-z22.toInt < (n : Int) from by first | with_reducible rfl | with_reducible assumption | omega) hw (lv_sub hl [1, 0] rfl)
                · have nc21 : (f10 11).toInt = (-2 : Int) := (i_eq (x := (f10 11)) (y := (-2))).mp c21
                  refine lv_aload_n S.x S.b d_Raw_go_91 rfl (lv_at hl 0 rfl) ?_
                  refine px_getS S k_Raw hT hw 2 0 14 (v := .int (f10 14)) rfl rfl rfl (by decide) m6_151 m6_152 d_Raw_go_92 ?_
                  refine lv_if_ne (tgt := 116) S.x S.b d_Raw_go_95 (by decide) (fun c23 => ?_) (fun c23 => ?_)
                  · have nc23 : ¬ (f10 14).toInt = (0 : Int) := mt (i_eq (x := (f10 14)) (y := 0)).mpr c23
                    obtain ⟨z24, ez24⟩ : ∃ y : Int32, y = x2_1 + 1 := ⟨_, rfl⟩
                    have tz24 : z24.toInt = (x2_1.toInt + 1 + 2147483648) % 4294967296 - 2147483648 := by rw [ez24]; exact i_add x2_1 1
                    have lz24 := Int32.le_toInt z24
                    have uz24 := Int32.toInt_lt z24
                    refine lv_iinc (v := z24) (lv' := [(1, .int z24), (0, .ref h)]) S.x S.b d_Raw_go_116 hl (k := 1) rfl (by rw [ez24]; rfl) (by decide) rfl (fun ls hl => ?_)
                    refine lv_goto (tgt := 2) S.x S.b d_Raw_go_119 (by decide) ?_
                    have hw : pw D A s.heap _ _ [wd_Raw cs h r (fun k => if k = 2 then o2_2 else if k = 4 then o4 else none) f10 a11 g, nA cs o2_2 36864 ma_2, nA cs o4 wn wc] := hw.sub [2, 0, 1] rfl rfl
                    first | exact ih ce_2 sl_2 f10 a11 o2_2 ma_2 z24 _ _ ls (show 0 ≤ (f10 7).toInt from (oz_ed6b1a2b55 e15 nc4)) (show (f10 7).toInt ≤ 1600 from (oz_b9c93daaaa e15 k2_1)) (show 0 ≤ (f10 10).toInt from (oz_f3ebed1ad0 e17 k2_2)) (show (f10 10).toInt + (f10 7).toInt ≤ 1600 from (oz_d790e69b3d e15 e17 k2_3)) (show (f10 14).toInt = 0 ∨ (f10 14).toInt = 1 from by first | with_reducible rfl | with_reducible assumption | omega) (show (f10 14).toInt = 1 → 1 ≤ (f10 7).toInt from (fun q9 => oz_40e4cf67f2 e15 nc4)) (show (f10 8).toInt = (f 8).toInt from (oz_1687f4cc65 k2_6 e16)) (show (f10 10).toInt = (f 10).toInt from (oz_1687f4cc65 k2_7 e17)) (show (f10 13).toInt = (f 13).toInt from (oz_1687f4cc65 k2_8 e18)) (show 0 ≤ z24.toInt from by first | with_reducible rfl | with_reducible assumption | omega) (show z24.toInt ≤ 1000000 from by first | with_reducible rfl | with_reducible assumption | omega) (show ce_2 + nd o2_2 ≤ nd o2 from k2_11) (show sl_2 + 36864 * nd o2_2 ≤ 36864 * nd o2 from k2_12) (show 1000001-z24.toInt < (n : Int) from by first | with_reducible rfl | with_reducible assumption | omega) hw (lv_sub hl [1, 0] rfl) | exact ih ce_2 sl_2 f10 a11 o2_2 ma_2 z24 _ _ ls (show 0 ≤ (f10 7).toInt from by first | exact oz_ed6b1a2b55 e15 nc4 | omega) (show (f10 7).toInt ≤ 1600 from by first | exact oz_b9c93daaaa e15 k2_1 | omega) (show 0 ≤ (f10 10).toInt from by first | exact oz_f3ebed1ad0 e17 k2_2 | omega) (show (f10 10).toInt + (f10 7).toInt ≤ 1600 from by first | exact oz_d790e69b3d e15 e17 k2_3 | omega) (show (f10 14).toInt = 0 ∨ (f10 14).toInt = 1 from by first | with_reducible rfl | with_reducible assumption | omega) (show (f10 14).toInt = 1 → 1 ≤ (f10 7).toInt from by first | exact fun q9 => oz_40e4cf67f2 e15 nc4 | omega) (show (f10 8).toInt = (f 8).toInt from by first | exact oz_1687f4cc65 k2_6 e16 | omega) (show (f10 10).toInt = (f 10).toInt from by first | exact oz_1687f4cc65 k2_7 e17 | omega) (show (f10 13).toInt = (f 13).toInt from by first | exact oz_1687f4cc65 k2_8 e18 | omega) (show 0 ≤ z24.toInt from by first | with_reducible rfl | with_reducible assumption | omega) (show z24.toInt ≤ 1000000 from by first | with_reducible rfl | with_reducible assumption | omega) (show ce_2 + nd o2_2 ≤ nd o2 from by first | exact k2_11 | omega) (show sl_2 + 36864 * nd o2_2 ≤ 36864 * nd o2 from by first | exact k2_12 | omega) (show 1000001-z24.toInt < (n : Int) from by first | with_reducible rfl | with_reducible assumption | omega) hw (lv_sub hl [1, 0] rfl)
                  · have nc23 : (f10 14).toInt = (0 : Int) := (i_eq (x := (f10 14)) (y := 0)).mp c23
                    refine lv_aload_n S.x S.b d_Raw_go_98 rfl (lv_at hl 0 rfl) ?_
                    refine lv_dup S.x S.b d_Raw_go_99 rfl ?_
                    refine px_get S k_Raw hT hw 2 0 7 (v := .int (f10 7)) rfl rfl rfl (by decide) m6_131 d_Raw_go_100 ?_
                    refine lv_iconst (v := 1) S.x S.b d_Raw_go_103 (by decide) ?_
                    refine lv_isub S.x S.b d_Raw_go_104 ?_
                    have lr25 := Int32.le_toInt (f10 7)
                    have ur25 := Int32.toInt_lt (f10 7)
                    refine lv_topi (fun z26 ez26 => ?_)
                    have tz26 : z26.toInt = ((f10 7).toInt - (1 : Int) + 2147483648) % 4294967296 - 2147483648 := by rw [ez26]; exact i_sub (f10 7) 1
                    have lz26 := Int32.le_toInt z26
                    have uz26 := Int32.toInt_lt z26
                    refine px_put S k_Raw hT hw 2 0 7 rfl rfl (by decide) m6_131 rfl rfl rfl (Nat.le_of_ble_eq_true rfl) d_Raw_go_105 (w' := wd_Raw cs h r (fun k => if k = 2 then o2_2 else if k = 4 then o4 else none) (upd f10 7 z26) a11 g) (ps' := [nA cs o2_2 36864 ma_2, nA cs o4 wn wc, wd_Raw cs h r (fun k => if k = 2 then o2_2 else if k = 4 then o4 else none) (upd f10 7 z26) a11 g]) rfl rfl (fun H locs hw => ?_)
                    refine lv_aload_n S.x S.b d_Raw_go_108 rfl (lv_at hl 0 rfl) ?_
                    refine lv_aload_n S.x S.b d_Raw_go_109 rfl (lv_at hl 0 rfl) ?_
                    refine px_get S k_Raw hT hw 2 0 6 (v := .int (f10 6)) rfl rfl rfl (by decide) m6_130 d_Raw_go_110 ?_
                    refine px_put S k_Raw hT hw 2 0 5 rfl rfl (by decide) m6_129 rfl rfl rfl (Nat.le_of_ble_eq_true rfl) d_Raw_go_113 (w' := wd_Raw cs h r (fun k => if k = 2 then o2_2 else if k = 4 then o4 else none) (upd (upd f10 5 (f10 6)) 7 z26) a11 g) (ps' := [nA cs o2_2 36864 ma_2, nA cs o4 wn wc, wd_Raw cs h r (fun k => if k = 2 then o2_2 else if k = 4 then o4 else none) (upd (upd f10 5 (f10 6)) 7 z26) a11 g]) rfl rfl (fun H locs hw => ?_)
                    obtain ⟨z27, ez27⟩ : ∃ y : Int32, y = x2_1 + 1 := ⟨_, rfl⟩
                    have tz27 : z27.toInt = (x2_1.toInt + 1 + 2147483648) % 4294967296 - 2147483648 := by rw [ez27]; exact i_add x2_1 1
                    have lz27 := Int32.le_toInt z27
                    have uz27 := Int32.toInt_lt z27
                    refine lv_iinc (v := z27) (lv' := [(1, .int z27), (0, .ref h)]) S.x S.b d_Raw_go_116 hl (k := 1) rfl (by rw [ez27]; rfl) (by decide) rfl (fun ls hl => ?_)
                    refine lv_goto (tgt := 2) S.x S.b d_Raw_go_119 (by decide) ?_
                    have hw : pw D A s.heap _ _ [wd_Raw cs h r (fun k => if k = 2 then o2_2 else if k = 4 then o4 else none) (upd (upd f10 5 (f10 6)) 7 z26) a11 g, nA cs o2_2 36864 ma_2, nA cs o4 wn wc] := hw.sub [2, 0, 1] rfl rfl
                    first | exact ih ce_2 sl_2 (upd (upd f10 5 (f10 6)) 7 z26) a11 o2_2 ma_2 z27 _ _ ls (show 0 ≤ z26.toInt from by first | with_reducible rfl | with_reducible assumption | omega) (show z26.toInt ≤ 1600 from by first | with_reducible rfl | with_reducible assumption | omega) (show 0 ≤ (f10 10).toInt from (oz_f3ebed1ad0 e17 k2_2)) (show (f10 10).toInt + z26.toInt ≤ 1600 from by first | with_reducible rfl | with_reducible assumption | omega) (show (f10 14).toInt = 0 ∨ (f10 14).toInt = 1 from by first | with_reducible rfl | with_reducible assumption | omega) (show (f10 14).toInt = 1 → 1 ≤ z26.toInt from by first | with_reducible rfl | with_reducible assumption | omega) (show (f10 8).toInt = (f 8).toInt from (oz_1687f4cc65 k2_6 e16)) (show (f10 10).toInt = (f 10).toInt from (oz_1687f4cc65 k2_7 e17)) (show (f10 13).toInt = (f 13).toInt from (oz_1687f4cc65 k2_8 e18)) (show 0 ≤ z27.toInt from by first | with_reducible rfl | with_reducible assumption | omega) (show z27.toInt ≤ 1000000 from by first | with_reducible rfl | with_reducible assumption | omega) (show ce_2 + nd o2_2 ≤ nd o2 from k2_11) (show sl_2 + 36864 * nd o2_2 ≤ 36864 * nd o2 from k2_12) (show 1000001-z27.toInt < (n : Int) from by first | with_reducible rfl | with_reducible assumption | omega) hw (lv_sub hl [1, 0] rfl) | exact ih ce_2 sl_2 (upd (upd f10 5 (f10 6)) 7 z26) a11 o2_2 ma_2 z27 _ _ ls (show 0 ≤ z26.toInt from by first | with_reducible rfl | with_reducible assumption | omega) (show z26.toInt ≤ 1600 from by first | with_reducible rfl | with_reducible assumption | omega) (show 0 ≤ (f10 10).toInt from by first | exact oz_f3ebed1ad0 e17 k2_2 | omega) (show (f10 10).toInt + z26.toInt ≤ 1600 from by first | with_reducible rfl | with_reducible assumption | omega) (show (f10 14).toInt = 0 ∨ (f10 14).toInt = 1 from by first | with_reducible rfl | with_reducible assumption | omega) (show (f10 14).toInt = 1 → 1 ≤ z26.toInt from by first | with_reducible rfl | with_reducible assumption | omega) (show (f10 8).toInt = (f 8).toInt from by first | exact oz_1687f4cc65 k2_6 e16 | omega) (show (f10 10).toInt = (f 10).toInt from by first | exact oz_1687f4cc65 k2_7 e17 | omega) (show (f10 13).toInt = (f 13).toInt from by first | exact oz_1687f4cc65 k2_8 e18 | omega) (show 0 ≤ z27.toInt from by first | with_reducible rfl | with_reducible assumption | omega) (show z27.toInt ≤ 1000000 from by first | with_reducible rfl | with_reducible assumption | omega) (show ce_2 + nd o2_2 ≤ nd o2 from by first | exact k2_11 | omega) (show sl_2 + 36864 * nd o2_2 ≤ 36864 * nd o2 from by first | exact k2_12 | omega) (show 1000001-z27.toInt < (n : Int) from by first | with_reducible rfl | with_reducible assumption | omega) hw (lv_sub hl [1, 0] rfl)
              · have nc9 : ¬ v6.toInt = (0 : Int) := mt (i_eq (x := v6) (y := 0)).mpr c9
                refine lv_aload_n S.x S.b d_Raw_go_50 rfl (lv_at hl 0 rfl) ?_
                refine lv_aload_n S.x S.b d_Raw_go_51 rfl (lv_at hl 0 rfl) ?_
                refine px_get S k_Raw hT hw 0 0 5 (v := .int (f_2 5)) rfl rfl rfl (by decide) m6_129 d_Raw_go_52 ?_
                refine lv_iconst (v := 4) S.x S.b d_Raw_go_55 (by decide) ?_
                refine lv_iadd S.x S.b d_Raw_go_56 ?_
                have lr28 := Int32.le_toInt (f_2 5)
                have ur28 := Int32.toInt_lt (f_2 5)
                refine lv_topi (fun z29 ez29 => ?_)
                have tz29 : z29.toInt = ((f_2 5).toInt + (4 : Int) + 2147483648) % 4294967296 - 2147483648 := by rw [ez29]; exact i_add (f_2 5) 4
                have lz29 := Int32.le_toInt z29
                have uz29 := Int32.toInt_lt z29
                refine px_put S k_Raw hT hw 0 0 6 rfl rfl (by decide) m6_130 rfl rfl rfl (Nat.le_of_ble_eq_true rfl) d_Raw_go_57 (w' := wd_Raw cs h r (fun k => if k = 2 then o2_2 else if k = 4 then o4 else none) (upd f_2 6 z29) a_2 g) (ps' := [wd_Raw cs h r (fun k => if k = 2 then o2_2 else if k = 4 then o4 else none) (upd f_2 6 z29) a_2 g, nA cs o2_2 36864 ma_2, nA cs o4 wn wc]) rfl rfl (fun H locs hw => ?_)
                refine lv_aload_n S.x S.b d_Raw_go_60 rfl (lv_at hl 0 rfl) ?_
                refine lv_aload_n S.x S.b d_Raw_go_61 rfl (lv_at hl 0 rfl) ?_
                refine lv_aload_n S.x S.b d_Raw_go_62 rfl (lv_at hl 0 rfl) ?_
                refine px_get S k_Raw hT hw 0 0 5 (v := .int (f_2 5)) rfl rfl rfl (by decide) m6_129 d_Raw_go_63 ?_
                first | refine px_calli (pr := []) (px_runV (As := [.int (f_2 5)]) (rest := [.ref h]) S (c_Raw_wordAt l D cs h r g o4 wn wc (upd f_2 6 z29) a_2 o2_2 ma_2 (f_2 5)  (show wn ≤ 1000000 from g6) _) hT (pr := []) (pcs := [wd_Raw cs h r (fun k => if k = 2 then o2_2 else if k = 4 then o4 else none) (upd f_2 6 z29) a_2 g, nA cs o2_2 36864 ma_2, nA cs o4 wn wc]) hw px_X.tt (px_recv hT hw 0 0 rfl rfl rfl) m8_139 m8_136 m8_138 ms_5_14 m1_34 q_Raw_wordAt ⟨Nat.le_of_ble_eq_true rfl, Nat.le_of_ble_eq_true rfl⟩ hl.1 rfl (Nat.le_of_ble_eq_true rfl) d_Raw_go_66 ⟨show ce_2 + 0 ≤ (nd o2) from ((oz_5cc5a47d1c k2_11)), show sl_2 + 0 ≤ (36864 * nd o2) from ((oz_abaf2d8cf0 k2_12))⟩) hw hA (fun v31 p30 H locs hp30 hw => ?_) | refine px_calli (pr := []) (px_runV (As := [.int (f_2 5)]) (rest := [.ref h]) S (c_Raw_wordAt l D cs h r g o4 wn wc (upd f_2 6 z29) a_2 o2_2 ma_2 (f_2 5)  (show wn ≤ 1000000 from by first | exact g6 | omega) _) hT (pr := []) (pcs := [wd_Raw cs h r (fun k => if k = 2 then o2_2 else if k = 4 then o4 else none) (upd f_2 6 z29) a_2 g, nA cs o2_2 36864 ma_2, nA cs o4 wn wc]) hw px_X.tt (px_recv hT hw 0 0 rfl rfl rfl) m8_139 m8_136 m8_138 ms_5_14 m1_34 q_Raw_wordAt ⟨Nat.le_of_ble_eq_true rfl, Nat.le_of_ble_eq_true rfl⟩ hl.1 rfl (Nat.le_of_ble_eq_true rfl) d_Raw_go_66 ⟨show ce_2 + 0 ≤ (nd o2) from (by first | exact oz_5cc5a47d1c k2_11 | omega), show sl_2 + 0 ≤ (36864 * nd o2) from (by first | exact oz_abaf2d8cf0 k2_12 | omega)⟩) hw hA (fun v31 p30 H locs hp30 hw => ?_)
                subst hp30
                have lv31 := Int32.le_toInt v31
                have uv31 := Int32.toInt_lt v31
                first | refine pg_callv (pr := []) (px_runV (As := [.int v31]) (rest := []) S (c_Raw_perform l D cs h r g o4 wn wc (upd f_2 6 z29) a_2 o2_2 ma_2 v31  (show (f_2 14).toInt = 0 from (oz_bd42429e38 nc3)) (show wn ≤ 1000000 from g6) _ _) hT (pr := []) (pcs := [wd_Raw cs h r (fun k => if k = 2 then o2_2 else if k = 4 then o4 else none) (upd f_2 6 z29) a_2 g, nA cs o2_2 36864 ma_2, nA cs o4 wn wc]) hw (px_X.tot px_X.tt) (px_recv hT hw 0 0 rfl rfl rfl) m8_177 m8_174 m8_176 ms_6_4 m1_34 q_Raw_perform ⟨Nat.le_of_ble_eq_true rfl, Nat.le_of_ble_eq_true rfl⟩ hl.1 rfl (Nat.le_of_ble_eq_true rfl) d_Raw_go_69 ⟨show ce_2 + (nd o2_2) ≤ (nd o2) from ((oz_82da742b77 k2_11)), show sl_2 + (36864 * nd o2_2) ≤ (36864 * nd o2) from ((oz_ce64fae190 k2_12))⟩) hw hA (fun p36 k38 n39 H locs hp36 hw => ?_) | refine pg_callv (pr := []) (px_runV (As := [.int v31]) (rest := []) S (c_Raw_perform l D cs h r g o4 wn wc (upd f_2 6 z29) a_2 o2_2 ma_2 v31  (show (f_2 14).toInt = 0 from by first | exact oz_bd42429e38 nc3 | omega) (show wn ≤ 1000000 from by first | exact g6 | omega) _ _) hT (pr := []) (pcs := [wd_Raw cs h r (fun k => if k = 2 then o2_2 else if k = 4 then o4 else none) (upd f_2 6 z29) a_2 g, nA cs o2_2 36864 ma_2, nA cs o4 wn wc]) hw (px_X.tot px_X.tt) (px_recv hT hw 0 0 rfl rfl rfl) m8_177 m8_174 m8_176 ms_6_4 m1_34 q_Raw_perform ⟨Nat.le_of_ble_eq_true rfl, Nat.le_of_ble_eq_true rfl⟩ hl.1 rfl (Nat.le_of_ble_eq_true rfl) d_Raw_go_69 ⟨show ce_2 + (nd o2_2) ≤ (nd o2) from (by first | exact oz_82da742b77 k2_11 | omega), show sl_2 + (36864 * nd o2_2) ≤ (36864 * nd o2) from (by first | exact oz_ce64fae190 k2_12 | omega)⟩) hw hA (fun p36 k38 n39 H locs hp36 hw => ?_)
                dsimp only at hp36
                obtain ⟨f32, a33, o234, ma35, rfl, e40, e41, e42, e43, e44, e45, e46, e47⟩ := hp36
                have e40 : (f32 3).toInt = (f_2 3).toInt := e40
                have e41 : (f32 7).toInt = (f_2 7).toInt := e41
                have e42 : (f32 8).toInt = (f_2 8).toInt := e42
                have e43 : (f32 10).toInt = (f_2 10).toInt := e43
                have e44 : (f32 13).toInt = (f_2 13).toInt := e44
                have e45 : (f32 14).toInt = 0 ∨ (f32 14).toInt = 1 := e45
                have e46 : k38 + nd o234 ≤ nd o2_2 := e46
                have e47 : n39 + 36864 * nd o234 ≤ 36864 * nd o2_2 := e47
                refine lv_goto (tgt := 82) S.x S.b d_Raw_go_72 (by decide) ?_
                refine lv_aload_n S.x S.b d_Raw_go_82 rfl (lv_at hl 0 rfl) ?_
                refine px_getS S k_Raw hT hw 0 0 11 (v := .int (f32 11)) rfl rfl rfl (by decide) m6_140 m6_141 d_Raw_go_83 ?_
                refine lv_bipush (v := (-2)) S.x S.b d_Raw_go_86 (by decide) ?_
                refine lv_icmp_ne (tgt := 116) S.x S.b d_Raw_go_88 (by decide) (fun c48 => ?_) (fun c48 => ?_)
                · have nc48 : ¬ (f32 11).toInt = (-2 : Int) := mt (i_eq (x := (f32 11)) (y := (-2))).mpr c48
                  obtain ⟨z49, ez49⟩ : ∃ y : Int32, y = x2_1 + 1 := ⟨_, rfl⟩
                  have tz49 : z49.toInt = (x2_1.toInt + 1 + 2147483648) % 4294967296 - 2147483648 := by rw [ez49]; exact i_add x2_1 1
                  have lz49 := Int32.le_toInt z49
                  have uz49 := Int32.toInt_lt z49
                  refine lv_iinc (v := z49) (lv' := [(1, .int z49), (0, .ref h)]) S.x S.b d_Raw_go_116 hl (k := 1) rfl (by rw [ez49]; rfl) (by decide) rfl (fun ls hl => ?_)
                  refine lv_goto (tgt := 2) S.x S.b d_Raw_go_119 (by decide) ?_
                  first | exact ih (ce_2 + k38) (sl_2 + n39) f32 a33 o234 ma35 z49 _ _ ls (show 0 ≤ (f32 7).toInt from (oz_ed6b1a2b55 e41 nc4)) (show (f32 7).toInt ≤ 1600 from (oz_b9c93daaaa e41 k2_1)) (show 0 ≤ (f32 10).toInt from (oz_f3ebed1ad0 e43 k2_2)) (show (f32 10).toInt + (f32 7).toInt ≤ 1600 from (oz_d790e69b3d e41 e43 k2_3)) (show (f32 14).toInt = 0 ∨ (f32 14).toInt = 1 from e45) (show (f32 14).toInt = 1 → 1 ≤ (f32 7).toInt from (fun q9 => oz_40e4cf67f2 e41 nc4)) (show (f32 8).toInt = (f 8).toInt from (oz_1687f4cc65 k2_6 e42)) (show (f32 10).toInt = (f 10).toInt from (oz_1687f4cc65 k2_7 e43)) (show (f32 13).toInt = (f 13).toInt from (oz_1687f4cc65 k2_8 e44)) (show 0 ≤ z49.toInt from by first | with_reducible rfl | with_reducible assumption | omega) (show z49.toInt ≤ 1000000 from by first | with_reducible rfl | with_reducible assumption | omega) (show (ce_2 + k38) + nd o234 ≤ nd o2 from (oz_75577a19d3 k2_11 e46)) (show (sl_2 + n39) + 36864 * nd o234 ≤ 36864 * nd o2 from (oz_9ab1dfc28b k2_12 e47)) (show 1000001-z49.toInt < (n : Int) from by first | with_reducible rfl | with_reducible assumption | omega) hw (lv_sub hl [1, 0] rfl) | exact ih (ce_2 + k38) (sl_2 + n39) f32 a33 o234 ma35 z49 _ _ ls (show 0 ≤ (f32 7).toInt from by first | exact oz_ed6b1a2b55 e41 nc4 | omega) (show (f32 7).toInt ≤ 1600 from by first | exact oz_b9c93daaaa e41 k2_1 | omega) (show 0 ≤ (f32 10).toInt from by first | exact oz_f3ebed1ad0 e43 k2_2 | omega) (show (f32 10).toInt + (f32 7).toInt ≤ 1600 from by first | exact oz_d790e69b3d e41 e43 k2_3 | omega) (show (f32 14).toInt = 0 ∨ (f32 14).toInt = 1 from by first | exact e45 | omega) (show (f32 14).toInt = 1 → 1 ≤ (f32 7).toInt from by first | exact fun q9 => oz_40e4cf67f2 e41 nc4 | omega) (show (f32 8).toInt = (f 8).toInt from by first | exact oz_1687f4cc65 k2_6 e42 | omega) (show (f32 10).toInt = (f 10).toInt from by first | exact oz_1687f4cc65 k2_7 e43 | omega) (show (f32 13).toInt = (f 13).toInt from by first | exact oz_1687f4cc65 k2_8 e44 | omega) (show 0 ≤ z49.toInt from by first | with_reducible rfl | with_reducible assumption | omega) (show z49.toInt ≤ 1000000 from by first | with_reducible rfl | with_reducible assumption | omega) (show (ce_2 + k38) + nd o234 ≤ nd o2 from by first | exact oz_75577a19d3 k2_11 e46 | omega) (show (sl_2 + n39) + 36864 * nd o234 ≤ 36864 * nd o2 from by first | exact oz_9ab1dfc28b k2_12 e47 | omega) (show 1000001-z49.toInt < (n : Int) from by first | with_reducible rfl | with_reducible assumption | omega) hw (lv_sub hl [1, 0] rfl)
                · have nc48 : (f32 11).toInt = (-2 : Int) := (i_eq (x := (f32 11)) (y := (-2))).mp c48
                  refine lv_aload_n S.x S.b d_Raw_go_91 rfl (lv_at hl 0 rfl) ?_
                  refine px_getS S k_Raw hT hw 0 0 14 (v := .int (f32 14)) rfl rfl rfl (by decide) m6_151 m6_152 d_Raw_go_92 ?_
                  refine lv_if_ne (tgt := 116) S.x S.b d_Raw_go_95 (by decide) (fun c50 => ?_) (fun c50 => ?_)
                  · have nc50 : ¬ (f32 14).toInt = (0 : Int) := mt (i_eq (x := (f32 14)) (y := 0)).mpr c50
                    obtain ⟨z51, ez51⟩ : ∃ y : Int32, y = x2_1 + 1 := ⟨_, rfl⟩
                    have tz51 : z51.toInt = (x2_1.toInt + 1 + 2147483648) % 4294967296 - 2147483648 := by rw [ez51]; exact i_add x2_1 1
                    have lz51 := Int32.le_toInt z51
                    have uz51 := Int32.toInt_lt z51
                    refine lv_iinc (v := z51) (lv' := [(1, .int z51), (0, .ref h)]) S.x S.b d_Raw_go_116 hl (k := 1) rfl (by rw [ez51]; rfl) (by decide) rfl (fun ls hl => ?_)
                    refine lv_goto (tgt := 2) S.x S.b d_Raw_go_119 (by decide) ?_
                    first | exact ih (ce_2 + k38) (sl_2 + n39) f32 a33 o234 ma35 z51 _ _ ls (show 0 ≤ (f32 7).toInt from (oz_ed6b1a2b55 e41 nc4)) (show (f32 7).toInt ≤ 1600 from (oz_b9c93daaaa e41 k2_1)) (show 0 ≤ (f32 10).toInt from (oz_f3ebed1ad0 e43 k2_2)) (show (f32 10).toInt + (f32 7).toInt ≤ 1600 from (oz_d790e69b3d e41 e43 k2_3)) (show (f32 14).toInt = 0 ∨ (f32 14).toInt = 1 from e45) (show (f32 14).toInt = 1 → 1 ≤ (f32 7).toInt from (fun q9 => oz_40e4cf67f2 e41 nc4)) (show (f32 8).toInt = (f 8).toInt from (oz_1687f4cc65 k2_6 e42)) (show (f32 10).toInt = (f 10).toInt from (oz_1687f4cc65 k2_7 e43)) (show (f32 13).toInt = (f 13).toInt from (oz_1687f4cc65 k2_8 e44)) (show 0 ≤ z51.toInt from by first | with_reducible rfl | with_reducible assumption | omega) (show z51.toInt ≤ 1000000 from by first | with_reducible rfl | with_reducible assumption | omega) (show (ce_2 + k38) + nd o234 ≤ nd o2 from (oz_75577a19d3 k2_11 e46)) (show (sl_2 + n39) + 36864 * nd o234 ≤ 36864 * nd o2 from (oz_9ab1dfc28b k2_12 e47)) (show 1000001-z51.toInt < (n : Int) from by first | with_reducible rfl | with_reducible assumption | omega) hw (lv_sub hl [1, 0] rfl) | exact ih (ce_2 + k38) (sl_2 + n39) f32 a33 o234 ma35 z51 _ _ ls (show 0 ≤ (f32 7).toInt from by first | exact oz_ed6b1a2b55 e41 nc4 | omega) (show (f32 7).toInt ≤ 1600 from by first | exact oz_b9c93daaaa e41 k2_1 | omega) (show 0 ≤ (f32 10).toInt from by first | exact oz_f3ebed1ad0 e43 k2_2 | omega) (show (f32 10).toInt + (f32 7).toInt ≤ 1600 from by first | exact oz_d790e69b3d e41 e43 k2_3 | omega) (show (f32 14).toInt = 0 ∨ (f32 14).toInt = 1 from by first | exact e45 | omega) (show (f32 14).toInt = 1 → 1 ≤ (f32 7).toInt from by first | exact fun q9 => oz_40e4cf67f2 e41 nc4 | omega) (show (f32 8).toInt = (f 8).toInt from by first | exact oz_1687f4cc65 k2_6 e42 | omega) (show (f32 10).toInt = (f 10).toInt from by first | exact oz_1687f4cc65 k2_7 e43 | omega) (show (f32 13).toInt = (f 13).toInt from by first | exact oz_1687f4cc65 k2_8 e44 | omega) (show 0 ≤ z51.toInt from by first | with_reducible rfl | with_reducible assumption | omega) (show z51.toInt ≤ 1000000 from by first | with_reducible rfl | with_reducible assumption | omega) (show (ce_2 + k38) + nd o234 ≤ nd o2 from by first | exact oz_75577a19d3 k2_11 e46 | omega) (show (sl_2 + n39) + 36864 * nd o234 ≤ 36864 * nd o2 from by first | exact oz_9ab1dfc28b k2_12 e47 | omega) (show 1000001-z51.toInt < (n : Int) from by first | with_reducible rfl | with_reducible assumption | omega) hw (lv_sub hl [1, 0] rfl)
                  · have nc50 : (f32 14).toInt = (0 : Int) := (i_eq (x := (f32 14)) (y := 0)).mp c50
                    refine lv_aload_n S.x S.b d_Raw_go_98 rfl (lv_at hl 0 rfl) ?_
                    refine lv_dup S.x S.b d_Raw_go_99 rfl ?_
                    refine px_get S k_Raw hT hw 0 0 7 (v := .int (f32 7)) rfl rfl rfl (by decide) m6_131 d_Raw_go_100 ?_
                    refine lv_iconst (v := 1) S.x S.b d_Raw_go_103 (by decide) ?_
                    refine lv_isub S.x S.b d_Raw_go_104 ?_
                    have lr52 := Int32.le_toInt (f32 7)
                    have ur52 := Int32.toInt_lt (f32 7)
                    refine lv_topi (fun z53 ez53 => ?_)
                    have tz53 : z53.toInt = ((f32 7).toInt - (1 : Int) + 2147483648) % 4294967296 - 2147483648 := by rw [ez53]; exact i_sub (f32 7) 1
                    have lz53 := Int32.le_toInt z53
                    have uz53 := Int32.toInt_lt z53
                    refine px_put S k_Raw hT hw 0 0 7 rfl rfl (by decide) m6_131 rfl rfl rfl (Nat.le_of_ble_eq_true rfl) d_Raw_go_105 (w' := wd_Raw cs h r (fun k => if k = 2 then o234 else if k = 4 then o4 else none) (upd f32 7 z53) a33 g) (ps' := [wd_Raw cs h r (fun k => if k = 2 then o234 else if k = 4 then o4 else none) (upd f32 7 z53) a33 g, nA cs o234 36864 ma35, nA cs o4 wn wc]) rfl rfl (fun H locs hw => ?_)
                    refine lv_aload_n S.x S.b d_Raw_go_108 rfl (lv_at hl 0 rfl) ?_
                    refine lv_aload_n S.x S.b d_Raw_go_109 rfl (lv_at hl 0 rfl) ?_
                    refine px_get S k_Raw hT hw 0 0 6 (v := .int (f32 6)) rfl rfl rfl (by decide) m6_130 d_Raw_go_110 ?_
                    refine px_put S k_Raw hT hw 0 0 5 rfl rfl (by decide) m6_129 rfl rfl rfl (Nat.le_of_ble_eq_true rfl) d_Raw_go_113 (w' := wd_Raw cs h r (fun k => if k = 2 then o234 else if k = 4 then o4 else none) (upd (upd f32 5 (f32 6)) 7 z53) a33 g) (ps' := [wd_Raw cs h r (fun k => if k = 2 then o234 else if k = 4 then o4 else none) (upd (upd f32 5 (f32 6)) 7 z53) a33 g, nA cs o234 36864 ma35, nA cs o4 wn wc]) rfl rfl (fun H locs hw => ?_)
                    obtain ⟨z54, ez54⟩ : ∃ y : Int32, y = x2_1 + 1 := ⟨_, rfl⟩
                    have tz54 : z54.toInt = (x2_1.toInt + 1 + 2147483648) % 4294967296 - 2147483648 := by rw [ez54]; exact i_add x2_1 1
                    have lz54 := Int32.le_toInt z54
                    have uz54 := Int32.toInt_lt z54
                    refine lv_iinc (v := z54) (lv' := [(1, .int z54), (0, .ref h)]) S.x S.b d_Raw_go_116 hl (k := 1) rfl (by rw [ez54]; rfl) (by decide) rfl (fun ls hl => ?_)
                    refine lv_goto (tgt := 2) S.x S.b d_Raw_go_119 (by decide) ?_
                    first | exact ih (ce_2 + k38) (sl_2 + n39) (upd (upd f32 5 (f32 6)) 7 z53) a33 o234 ma35 z54 _ _ ls (show 0 ≤ z53.toInt from by first | with_reducible rfl | with_reducible assumption | omega) (show z53.toInt ≤ 1600 from by first | with_reducible rfl | with_reducible assumption | omega) (show 0 ≤ (f32 10).toInt from (oz_f3ebed1ad0 e43 k2_2)) (show (f32 10).toInt + z53.toInt ≤ 1600 from by first | with_reducible rfl | with_reducible assumption | omega) (show (f32 14).toInt = 0 ∨ (f32 14).toInt = 1 from e45) (show (f32 14).toInt = 1 → 1 ≤ z53.toInt from by first | with_reducible rfl | with_reducible assumption | omega) (show (f32 8).toInt = (f 8).toInt from (oz_1687f4cc65 k2_6 e42)) (show (f32 10).toInt = (f 10).toInt from (oz_1687f4cc65 k2_7 e43)) (show (f32 13).toInt = (f 13).toInt from (oz_1687f4cc65 k2_8 e44)) (show 0 ≤ z54.toInt from by first | with_reducible rfl | with_reducible assumption | omega) (show z54.toInt ≤ 1000000 from by first | with_reducible rfl | with_reducible assumption | omega) (show (ce_2 + k38) + nd o234 ≤ nd o2 from (oz_75577a19d3 k2_11 e46)) (show (sl_2 + n39) + 36864 * nd o234 ≤ 36864 * nd o2 from (oz_9ab1dfc28b k2_12 e47)) (show 1000001-z54.toInt < (n : Int) from by first | with_reducible rfl | with_reducible assumption | omega) hw (lv_sub hl [1, 0] rfl) | exact ih (ce_2 + k38) (sl_2 + n39) (upd (upd f32 5 (f32 6)) 7 z53) a33 o234 ma35 z54 _ _ ls (show 0 ≤ z53.toInt from by first | with_reducible rfl | with_reducible assumption | omega) (show z53.toInt ≤ 1600 from by first | with_reducible rfl | with_reducible assumption | omega) (show 0 ≤ (f32 10).toInt from by first | exact oz_f3ebed1ad0 e43 k2_2 | omega) (show (f32 10).toInt + z53.toInt ≤ 1600 from by first | with_reducible rfl | with_reducible assumption | omega) (show (f32 14).toInt = 0 ∨ (f32 14).toInt = 1 from by first | exact e45 | omega) (show (f32 14).toInt = 1 → 1 ≤ z53.toInt from by first | with_reducible rfl | with_reducible assumption | omega) (show (f32 8).toInt = (f 8).toInt from by first | exact oz_1687f4cc65 k2_6 e42 | omega) (show (f32 10).toInt = (f 10).toInt from by first | exact oz_1687f4cc65 k2_7 e43 | omega) (show (f32 13).toInt = (f 13).toInt from by first | exact oz_1687f4cc65 k2_8 e44 | omega) (show 0 ≤ z54.toInt from by first | with_reducible rfl | with_reducible assumption | omega) (show z54.toInt ≤ 1000000 from by first | with_reducible rfl | with_reducible assumption | omega) (show (ce_2 + k38) + nd o234 ≤ nd o2 from by first | exact oz_75577a19d3 k2_11 e46 | omega) (show (sl_2 + n39) + 36864 * nd o234 ≤ 36864 * nd o2 from by first | exact oz_9ab1dfc28b k2_12 e47 | omega) (show 1000001-z54.toInt < (n : Int) from by first | with_reducible rfl | with_reducible assumption | omega) hw (lv_sub hl [1, 0] rfl)
            · have nc4 : ¬ (0 : Int) < (f_2 7).toInt := mt (i_lt (x := 0) (y := (f_2 7))).mpr c4
              refine lv_aload_n S.x S.b d_Raw_go_31 rfl (lv_at hl 0 rfl) ?_
              refine lv_iconst (v := 5) S.x S.b d_Raw_go_32 (by decide) ?_
              refine lv_iconst (v := 0) S.x S.b d_Raw_go_33 (by decide) ?_
              have hw : pw D A s.heap _ _ [nA cs o2_2 36864 ma_2, nA cs o4 wn wc, wd_Raw cs h r (fun k => if k = 2 then o2_2 else if k = 4 then o4 else none) f_2 a_2 g] := hw.sub [1, 2, 0] rfl rfl
              first | refine px_callv (pr := [nA cs o2_2 36864 ma_2, nA cs o4 wn wc]) (px_runU (As := [.int 5, .int 0]) (rest := []) S (c_finish_Raw l D cs h r g o2_2 o4 f_2 a_2 5 0   _) hT (pr := [nA cs o2_2 36864 ma_2, nA cs o4 wn wc]) (pcs := [wd_Raw cs h r (fun k => if k = 2 then o2_2 else if k = 4 then o4 else none) f_2 a_2 g]) hw px_X.tt (C := "HomeSystem$RawProcess") (x := ⟨"HomeSystem$RawProcess", "finish", "(II)V"⟩) (px_recv hT hw 2 0 rfl rfl rfl) m8_89 m8_170 m8_171 m8_85 m8_173 m1_33 rfl q_HomeSystem_AnyProcess_finish ⟨Nat.le_of_ble_eq_true rfl, Nat.le_of_ble_eq_true rfl⟩ hl.1 rfl (Nat.le_of_ble_eq_true rfl) d_Raw_go_34 ⟨show ce_2 + 0 ≤ (nd o2) from ((oz_5cc5a47d1c k2_11)), show sl_2 + 0 ≤ (36864 * nd o2) from ((oz_abaf2d8cf0 k2_12))⟩) hw hA (fun p57 H locs hp57 hw => ?_) | refine px_callv (pr := [nA cs o2_2 36864 ma_2, nA cs o4 wn wc]) (px_runU (As := [.int 5, .int 0]) (rest := []) S (c_finish_Raw l D cs h r g o2_2 o4 f_2 a_2 5 0   _) hT (pr := [nA cs o2_2 36864 ma_2, nA cs o4 wn wc]) (pcs := [wd_Raw cs h r (fun k => if k = 2 then o2_2 else if k = 4 then o4 else none) f_2 a_2 g]) hw px_X.tt (C := "HomeSystem$RawProcess") (x := ⟨"HomeSystem$RawProcess", "finish", "(II)V"⟩) (px_recv hT hw 2 0 rfl rfl rfl) m8_89 m8_170 m8_171 m8_85 m8_173 m1_33 rfl q_HomeSystem_AnyProcess_finish ⟨Nat.le_of_ble_eq_true rfl, Nat.le_of_ble_eq_true rfl⟩ hl.1 rfl (Nat.le_of_ble_eq_true rfl) d_Raw_go_34 ⟨show ce_2 + 0 ≤ (nd o2) from (by first | exact oz_5cc5a47d1c k2_11 | omega), show sl_2 + 0 ≤ (36864 * nd o2) from (by first | exact oz_abaf2d8cf0 k2_12 | omega)⟩) hw hA (fun p57 H locs hp57 hw => ?_)
              obtain ⟨f55, a56, rfl, e59, e60, e61, e62, e63, e64, e65⟩ := hp57
              have e59 : (f55 3).toInt = (f_2 3).toInt := e59
              have e60 : (f55 7).toInt = (f_2 7).toInt := e60
              have e61 : (f55 8).toInt = (f_2 8).toInt := e61
              have e62 : (f55 10).toInt = (f_2 10).toInt := e62
              have e63 : (f55 13).toInt = (f_2 13).toInt := e63
              have e64 : (f55 14).toInt = 0 := e64
              have e65 : (f55 11).toInt = (5 : Int) := e65
              refine lv_goto (tgt := 82) S.x S.b d_Raw_go_37 (by decide) ?_
              refine lv_aload_n S.x S.b d_Raw_go_82 rfl (lv_at hl 0 rfl) ?_
              refine px_getS S k_Raw hT hw 2 0 11 (v := .int (f55 11)) rfl rfl rfl (by decide) m6_140 m6_141 d_Raw_go_83 ?_
              refine lv_bipush (v := (-2)) S.x S.b d_Raw_go_86 (by decide) ?_
              refine lv_icmp_ne (tgt := 116) S.x S.b d_Raw_go_88 (by decide) (fun c66 => ?_) (fun c66 => ?_)
              · have nc66 : ¬ (f55 11).toInt = (-2 : Int) := mt (i_eq (x := (f55 11)) (y := (-2))).mpr c66
                obtain ⟨z67, ez67⟩ : ∃ y : Int32, y = x2_1 + 1 := ⟨_, rfl⟩
                have tz67 : z67.toInt = (x2_1.toInt + 1 + 2147483648) % 4294967296 - 2147483648 := by rw [ez67]; exact i_add x2_1 1
                have lz67 := Int32.le_toInt z67
                have uz67 := Int32.toInt_lt z67
                refine lv_iinc (v := z67) (lv' := [(1, .int z67), (0, .ref h)]) S.x S.b d_Raw_go_116 hl (k := 1) rfl (by rw [ez67]; rfl) (by decide) rfl (fun ls hl => ?_)
                refine lv_goto (tgt := 2) S.x S.b d_Raw_go_119 (by decide) ?_
                have hw : pw D A s.heap _ _ [wd_Raw cs h r (fun k => if k = 2 then o2_2 else if k = 4 then o4 else none) f55 a56 g, nA cs o2_2 36864 ma_2, nA cs o4 wn wc] := hw.sub [2, 0, 1] rfl rfl
                first | exact ih ce_2 sl_2 f55 a56 o2_2 ma_2 z67 _ _ ls (show 0 ≤ (f55 7).toInt from (oz_f3ebed1ad0 e60 k2_0)) (show (f55 7).toInt ≤ 1600 from (oz_5c3cf53afe e60 nc4)) (show 0 ≤ (f55 10).toInt from (oz_f3ebed1ad0 e62 k2_2)) (show (f55 10).toInt + (f55 7).toInt ≤ 1600 from (oz_d790e69b3d e60 e62 k2_3)) (show (f55 14).toInt = 0 ∨ (f55 14).toInt = 1 from by first | with_reducible rfl | with_reducible assumption | omega) (show (f55 14).toInt = 1 → 1 ≤ (f55 7).toInt from by first | with_reducible rfl | with_reducible assumption | omega) (show (f55 8).toInt = (f 8).toInt from (oz_1687f4cc65 k2_6 e61)) (show (f55 10).toInt = (f 10).toInt from (oz_1687f4cc65 k2_7 e62)) (show (f55 13).toInt = (f 13).toInt from (oz_1687f4cc65 k2_8 e63)) (show 0 ≤ z67.toInt from by first | with_reducible rfl | with_reducible assumption | omega) (show z67.toInt ≤ 1000000 from by first | with_reducible rfl | with_reducible assumption | omega) (show ce_2 + nd o2_2 ≤ nd o2 from k2_11) (show sl_2 + 36864 * nd o2_2 ≤ 36864 * nd o2 from k2_12) (show 1000001-z67.toInt < (n : Int) from by first | with_reducible rfl | with_reducible assumption | omega) hw (lv_sub hl [1, 0] rfl) | exact ih ce_2 sl_2 f55 a56 o2_2 ma_2 z67 _ _ ls (show 0 ≤ (f55 7).toInt from by first | exact oz_f3ebed1ad0 e60 k2_0 | omega) (show (f55 7).toInt ≤ 1600 from by first | exact oz_5c3cf53afe e60 nc4 | omega) (show 0 ≤ (f55 10).toInt from by first | exact oz_f3ebed1ad0 e62 k2_2 | omega) (show (f55 10).toInt + (f55 7).toInt ≤ 1600 from by first | exact oz_d790e69b3d e60 e62 k2_3 | omega) (show (f55 14).toInt = 0 ∨ (f55 14).toInt = 1 from by first | with_reducible rfl | with_reducible assumption | omega) (show (f55 14).toInt = 1 → 1 ≤ (f55 7).toInt from by first | with_reducible rfl | with_reducible assumption | omega) (show (f55 8).toInt = (f 8).toInt from by first | exact oz_1687f4cc65 k2_6 e61 | omega) (show (f55 10).toInt = (f 10).toInt from by first | exact oz_1687f4cc65 k2_7 e62 | omega) (show (f55 13).toInt = (f 13).toInt from by first | exact oz_1687f4cc65 k2_8 e63 | omega) (show 0 ≤ z67.toInt from by first | with_reducible rfl | with_reducible assumption | omega) (show z67.toInt ≤ 1000000 from by first | with_reducible rfl | with_reducible assumption | omega) (show ce_2 + nd o2_2 ≤ nd o2 from by first | exact k2_11 | omega) (show sl_2 + 36864 * nd o2_2 ≤ 36864 * nd o2 from by first | exact k2_12 | omega) (show 1000001-z67.toInt < (n : Int) from by first | with_reducible rfl | with_reducible assumption | omega) hw (lv_sub hl [1, 0] rfl)
              · have nc66 : (f55 11).toInt = (-2 : Int) := (i_eq (x := (f55 11)) (y := (-2))).mp c66
                refine lv_aload_n S.x S.b d_Raw_go_91 rfl (lv_at hl 0 rfl) ?_
                refine px_getS S k_Raw hT hw 2 0 14 (v := .int (f55 14)) rfl rfl rfl (by decide) m6_151 m6_152 d_Raw_go_92 ?_
                refine lv_if_ne (tgt := 116) S.x S.b d_Raw_go_95 (by decide) (fun c68 => ?_) (fun c68 => ?_)
                · have nc68 : ¬ (f55 14).toInt = (0 : Int) := mt (i_eq (x := (f55 14)) (y := 0)).mpr c68
                  obtain ⟨z69, ez69⟩ : ∃ y : Int32, y = x2_1 + 1 := ⟨_, rfl⟩
                  have tz69 : z69.toInt = (x2_1.toInt + 1 + 2147483648) % 4294967296 - 2147483648 := by rw [ez69]; exact i_add x2_1 1
                  have lz69 := Int32.le_toInt z69
                  have uz69 := Int32.toInt_lt z69
                  refine lv_iinc (v := z69) (lv' := [(1, .int z69), (0, .ref h)]) S.x S.b d_Raw_go_116 hl (k := 1) rfl (by rw [ez69]; rfl) (by decide) rfl (fun ls hl => ?_)
                  refine lv_goto (tgt := 2) S.x S.b d_Raw_go_119 (by decide) ?_
                  have hw : pw D A s.heap _ _ [wd_Raw cs h r (fun k => if k = 2 then o2_2 else if k = 4 then o4 else none) f55 a56 g, nA cs o2_2 36864 ma_2, nA cs o4 wn wc] := hw.sub [2, 0, 1] rfl rfl
                  first | exact ih ce_2 sl_2 f55 a56 o2_2 ma_2 z69 _ _ ls (show 0 ≤ (f55 7).toInt from (oz_f3ebed1ad0 e60 k2_0)) (show (f55 7).toInt ≤ 1600 from (oz_5c3cf53afe e60 nc4)) (show 0 ≤ (f55 10).toInt from (oz_f3ebed1ad0 e62 k2_2)) (show (f55 10).toInt + (f55 7).toInt ≤ 1600 from (oz_d790e69b3d e60 e62 k2_3)) (show (f55 14).toInt = 0 ∨ (f55 14).toInt = 1 from by first | with_reducible rfl | with_reducible assumption | omega) (show (f55 14).toInt = 1 → 1 ≤ (f55 7).toInt from by first | with_reducible rfl | with_reducible assumption | omega) (show (f55 8).toInt = (f 8).toInt from (oz_1687f4cc65 k2_6 e61)) (show (f55 10).toInt = (f 10).toInt from (oz_1687f4cc65 k2_7 e62)) (show (f55 13).toInt = (f 13).toInt from (oz_1687f4cc65 k2_8 e63)) (show 0 ≤ z69.toInt from by first | with_reducible rfl | with_reducible assumption | omega) (show z69.toInt ≤ 1000000 from by first | with_reducible rfl | with_reducible assumption | omega) (show ce_2 + nd o2_2 ≤ nd o2 from k2_11) (show sl_2 + 36864 * nd o2_2 ≤ 36864 * nd o2 from k2_12) (show 1000001-z69.toInt < (n : Int) from by first | with_reducible rfl | with_reducible assumption | omega) hw (lv_sub hl [1, 0] rfl) | exact ih ce_2 sl_2 f55 a56 o2_2 ma_2 z69 _ _ ls (show 0 ≤ (f55 7).toInt from by first | exact oz_f3ebed1ad0 e60 k2_0 | omega) (show (f55 7).toInt ≤ 1600 from by first | exact oz_5c3cf53afe e60 nc4 | omega) (show 0 ≤ (f55 10).toInt from by first | exact oz_f3ebed1ad0 e62 k2_2 | omega) (show (f55 10).toInt + (f55 7).toInt ≤ 1600 from by first | exact oz_d790e69b3d e60 e62 k2_3 | omega) (show (f55 14).toInt = 0 ∨ (f55 14).toInt = 1 from by first | with_reducible rfl | with_reducible assumption | omega) (show (f55 14).toInt = 1 → 1 ≤ (f55 7).toInt from by first | with_reducible rfl | with_reducible assumption | omega) (show (f55 8).toInt = (f 8).toInt from by first | exact oz_1687f4cc65 k2_6 e61 | omega) (show (f55 10).toInt = (f 10).toInt from by first | exact oz_1687f4cc65 k2_7 e62 | omega) (show (f55 13).toInt = (f 13).toInt from by first | exact oz_1687f4cc65 k2_8 e63 | omega) (show 0 ≤ z69.toInt from by first | with_reducible rfl | with_reducible assumption | omega) (show z69.toInt ≤ 1000000 from by first | with_reducible rfl | with_reducible assumption | omega) (show ce_2 + nd o2_2 ≤ nd o2 from by first | exact k2_11 | omega) (show sl_2 + 36864 * nd o2_2 ≤ 36864 * nd o2 from by first | exact k2_12 | omega) (show 1000001-z69.toInt < (n : Int) from by first | with_reducible rfl | with_reducible assumption | omega) hw (lv_sub hl [1, 0] rfl)
                · have nc68 : (f55 14).toInt = (0 : Int) := (i_eq (x := (f55 14)) (y := 0)).mp c68
                  refine lv_aload_n S.x S.b d_Raw_go_98 rfl (lv_at hl 0 rfl) ?_
                  refine lv_dup S.x S.b d_Raw_go_99 rfl ?_
                  refine px_get S k_Raw hT hw 2 0 7 (v := .int (f55 7)) rfl rfl rfl (by decide) m6_131 d_Raw_go_100 ?_
                  refine lv_iconst (v := 1) S.x S.b d_Raw_go_103 (by decide) ?_
                  refine lv_isub S.x S.b d_Raw_go_104 ?_
                  have lr70 := Int32.le_toInt (f55 7)
                  have ur70 := Int32.toInt_lt (f55 7)
                  refine lv_topi (fun z71 ez71 => ?_)
                  have tz71 : z71.toInt = ((f55 7).toInt - (1 : Int) + 2147483648) % 4294967296 - 2147483648 := by rw [ez71]; exact i_sub (f55 7) 1
                  have lz71 := Int32.le_toInt z71
                  have uz71 := Int32.toInt_lt z71
                  refine px_put S k_Raw hT hw 2 0 7 rfl rfl (by decide) m6_131 rfl rfl rfl (Nat.le_of_ble_eq_true rfl) d_Raw_go_105 (w' := wd_Raw cs h r (fun k => if k = 2 then o2_2 else if k = 4 then o4 else none) (upd f55 7 z71) a56 g) (ps' := [nA cs o2_2 36864 ma_2, nA cs o4 wn wc, wd_Raw cs h r (fun k => if k = 2 then o2_2 else if k = 4 then o4 else none) (upd f55 7 z71) a56 g]) rfl rfl (fun H locs hw => ?_)
                  refine lv_aload_n S.x S.b d_Raw_go_108 rfl (lv_at hl 0 rfl) ?_
                  refine lv_aload_n S.x S.b d_Raw_go_109 rfl (lv_at hl 0 rfl) ?_
                  refine px_get S k_Raw hT hw 2 0 6 (v := .int (f55 6)) rfl rfl rfl (by decide) m6_130 d_Raw_go_110 ?_
                  refine px_put S k_Raw hT hw 2 0 5 rfl rfl (by decide) m6_129 rfl rfl rfl (Nat.le_of_ble_eq_true rfl) d_Raw_go_113 (w' := wd_Raw cs h r (fun k => if k = 2 then o2_2 else if k = 4 then o4 else none) (upd (upd f55 5 (f55 6)) 7 z71) a56 g) (ps' := [nA cs o2_2 36864 ma_2, nA cs o4 wn wc, wd_Raw cs h r (fun k => if k = 2 then o2_2 else if k = 4 then o4 else none) (upd (upd f55 5 (f55 6)) 7 z71) a56 g]) rfl rfl (fun H locs hw => ?_)
                  obtain ⟨z72, ez72⟩ : ∃ y : Int32, y = x2_1 + 1 := ⟨_, rfl⟩
                  have tz72 : z72.toInt = (x2_1.toInt + 1 + 2147483648) % 4294967296 - 2147483648 := by rw [ez72]; exact i_add x2_1 1
                  have lz72 := Int32.le_toInt z72
                  have uz72 := Int32.toInt_lt z72
                  refine lv_iinc (v := z72) (lv' := [(1, .int z72), (0, .ref h)]) S.x S.b d_Raw_go_116 hl (k := 1) rfl (by rw [ez72]; rfl) (by decide) rfl (fun ls hl => ?_)
                  refine lv_goto (tgt := 2) S.x S.b d_Raw_go_119 (by decide) ?_
                  have hw : pw D A s.heap _ _ [wd_Raw cs h r (fun k => if k = 2 then o2_2 else if k = 4 then o4 else none) (upd (upd f55 5 (f55 6)) 7 z71) a56 g, nA cs o2_2 36864 ma_2, nA cs o4 wn wc] := hw.sub [2, 0, 1] rfl rfl
                  first | exact ih ce_2 sl_2 (upd (upd f55 5 (f55 6)) 7 z71) a56 o2_2 ma_2 z72 _ _ ls (show 0 ≤ z71.toInt from by first | with_reducible rfl | with_reducible assumption | omega) (show z71.toInt ≤ 1600 from by first | with_reducible rfl | with_reducible assumption | omega) (show 0 ≤ (f55 10).toInt from (oz_f3ebed1ad0 e62 k2_2)) (show (f55 10).toInt + z71.toInt ≤ 1600 from by first | with_reducible rfl | with_reducible assumption | omega) (show (f55 14).toInt = 0 ∨ (f55 14).toInt = 1 from by first | with_reducible rfl | with_reducible assumption | omega) (show (f55 14).toInt = 1 → 1 ≤ z71.toInt from by first | with_reducible rfl | with_reducible assumption | omega) (show (f55 8).toInt = (f 8).toInt from (oz_1687f4cc65 k2_6 e61)) (show (f55 10).toInt = (f 10).toInt from (oz_1687f4cc65 k2_7 e62)) (show (f55 13).toInt = (f 13).toInt from (oz_1687f4cc65 k2_8 e63)) (show 0 ≤ z72.toInt from by first | with_reducible rfl | with_reducible assumption | omega) (show z72.toInt ≤ 1000000 from by first | with_reducible rfl | with_reducible assumption | omega) (show ce_2 + nd o2_2 ≤ nd o2 from k2_11) (show sl_2 + 36864 * nd o2_2 ≤ 36864 * nd o2 from k2_12) (show 1000001-z72.toInt < (n : Int) from by first | with_reducible rfl | with_reducible assumption | omega) hw (lv_sub hl [1, 0] rfl) | exact ih ce_2 sl_2 (upd (upd f55 5 (f55 6)) 7 z71) a56 o2_2 ma_2 z72 _ _ ls (show 0 ≤ z71.toInt from by first | with_reducible rfl | with_reducible assumption | omega) (show z71.toInt ≤ 1600 from by first | with_reducible rfl | with_reducible assumption | omega) (show 0 ≤ (f55 10).toInt from by first | exact oz_f3ebed1ad0 e62 k2_2 | omega) (show (f55 10).toInt + z71.toInt ≤ 1600 from by first | with_reducible rfl | with_reducible assumption | omega) (show (f55 14).toInt = 0 ∨ (f55 14).toInt = 1 from by first | with_reducible rfl | with_reducible assumption | omega) (show (f55 14).toInt = 1 → 1 ≤ z71.toInt from by first | with_reducible rfl | with_reducible assumption | omega) (show (f55 8).toInt = (f 8).toInt from by first | exact oz_1687f4cc65 k2_6 e61 | omega) (show (f55 10).toInt = (f 10).toInt from by first | exact oz_1687f4cc65 k2_7 e62 | omega) (show (f55 13).toInt = (f 13).toInt from by first | exact oz_1687f4cc65 k2_8 e63 | omega) (show 0 ≤ z72.toInt from by first | with_reducible rfl | with_reducible assumption | omega) (show z72.toInt ≤ 1000000 from by first | with_reducible rfl | with_reducible assumption | omega) (show ce_2 + nd o2_2 ≤ nd o2 from by first | exact k2_11 | omega) (show sl_2 + 36864 * nd o2_2 ≤ 36864 * nd o2 from by first | exact k2_12 | omega) (show 1000001-z72.toInt < (n : Int) from by first | with_reducible rfl | with_reducible assumption | omega) hw (lv_sub hl [1, 0] rfl)
  refine lv_iconst (v := 0) S.x S.b d_Raw_go_0 (by decide) ?_
  refine lv_istore_n (lv' := [(1, .int 0), (0, .ref h)]) S.x S.b d_Raw_go_1 rfl hl (by decide) rfl (fun ls hl => ?_)
  first | exact J2 ((1000001-(0 : Int)).toNat + 1) 0 0 f a o2 ma (0 : Int32) _ _ ls (show 0 ≤ (f 7).toInt from g0) (show (f 7).toInt ≤ 1600 from g1) (show 0 ≤ (f 10).toInt from g2) (show (f 10).toInt + (f 7).toInt ≤ 1600 from g3) (show (f 14).toInt = 0 ∨ (f 14).toInt = 1 from g4) (show (f 14).toInt = 1 → 1 ≤ (f 7).toInt from g5) (show (f 8).toInt = (f 8).toInt from rfl) (show (f 10).toInt = (f 10).toInt from rfl) (show (f 13).toInt = (f 13).toInt from rfl) (show 0 ≤ (0 : Int) from by first | decide | omega) (show (0 : Int) ≤ 1000000 from by first | decide | omega) (show 0 + nd o2 ≤ nd o2 from oz_d90171b0e4) (show 0 + 36864 * nd o2 ≤ 36864 * nd o2 from oz_9c92651dc9) (show 1000001-(0 : Int) < ((((1000001-(0 : Int)).toNat + 1 : Nat) : Int) : Int) from oz_natlt) hw (lv_sub hl [1, 0] rfl) | exact J2 ((1000001-(0 : Int)).toNat + 1) 0 0 f a o2 ma (0 : Int32) _ _ ls (show 0 ≤ (f 7).toInt from by first | exact g0 | omega) (show (f 7).toInt ≤ 1600 from by first | exact g1 | omega) (show 0 ≤ (f 10).toInt from by first | exact g2 | omega) (show (f 10).toInt + (f 7).toInt ≤ 1600 from by first | exact g3 | omega) (show (f 14).toInt = 0 ∨ (f 14).toInt = 1 from by first | exact g4 | omega) (show (f 14).toInt = 1 → 1 ≤ (f 7).toInt from by first | exact g5 | omega) (show (f 8).toInt = (f 8).toInt from rfl) (show (f 10).toInt = (f 10).toInt from rfl) (show (f 13).toInt = (f 13).toInt from rfl) (show 0 ≤ (0 : Int) from by first | decide | omega) (show (0 : Int) ≤ 1000000 from by first | decide | omega) (show 0 + nd o2 ≤ nd o2 from by first | exact oz_d90171b0e4 | omega) (show 0 + 36864 * nd o2 ≤ 36864 * nd o2 from by first | exact oz_9c92651dc9 | omega) (show 1000001-(0 : Int) < ((((1000001-(0 : Int)).toNat + 1 : Nat) : Int) : Int) from by first | exact oz_natlt | omega) hw (lv_sub hl [1, 0] rfl)
abbrev b_Raw_movable : ByteArray := prog_8_method_5_code
def y_Raw_movable : MethodName := ⟨"HomeSystem$RawProcess", "movable", "()I"⟩
theorem d_Raw_movable_0 : decode b_Raw_movable 0 = .ok (.aload_n 0, 1) := by decide +kernel
theorem d_Raw_movable_1 : decode b_Raw_movable 1 = .ok (.getfield 9, 3) := by decide +kernel
theorem d_Raw_movable_4 : decode b_Raw_movable 4 = .ok (.bipush 11, 2) := by decide +kernel
theorem d_Raw_movable_6 : decode b_Raw_movable 6 = .ok (.iaload, 1) := by decide +kernel
theorem d_Raw_movable_7 : decode b_Raw_movable 7 = .ok (.istore_n 1, 1) := by decide +kernel
theorem d_Raw_movable_8 : decode b_Raw_movable 8 = .ok (.iconst 0, 1) := by decide +kernel
theorem d_Raw_movable_9 : decode b_Raw_movable 9 = .ok (.bipush 16, 2) := by decide +kernel
theorem d_Raw_movable_11 : decode b_Raw_movable 11 = .ok (.aload_n 0, 1) := by decide +kernel
theorem d_Raw_movable_12 : decode b_Raw_movable 12 = .ok (.getfield 9, 3) := by decide +kernel
theorem d_Raw_movable_15 : decode b_Raw_movable 15 = .ok (.bipush 12, 2) := by decide +kernel
theorem d_Raw_movable_17 : decode b_Raw_movable 17 = .ok (.iaload, 1) := by decide +kernel
theorem d_Raw_movable_18 : decode b_Raw_movable 18 = .ok (.invokestatic 77, 3) := by decide +kernel
theorem d_Raw_movable_21 : decode b_Raw_movable 21 = .ok (.invokestatic 83, 3) := by decide +kernel
theorem d_Raw_movable_24 : decode b_Raw_movable 24 = .ok (.istore_n 2, 1) := by decide +kernel
theorem d_Raw_movable_25 : decode b_Raw_movable 25 = .ok (.iload_n 1, 1) := by decide +kernel
theorem d_Raw_movable_26 : decode b_Raw_movable 26 = .ok (.iconst 3, 1) := by decide +kernel
theorem d_Raw_movable_27 : decode b_Raw_movable 27 = .ok (.iand, 1) := by decide +kernel
theorem d_Raw_movable_28 : decode b_Raw_movable 28 = .ok (.ifCond .eq 5, 3) := by decide +kernel
theorem d_Raw_movable_31 : decode b_Raw_movable 31 = .ok (.iconst (-1), 1) := by decide +kernel
theorem d_Raw_movable_32 : decode b_Raw_movable 32 = .ok (.ireturn, 1) := by decide +kernel
theorem d_Raw_movable_33 : decode b_Raw_movable 33 = .ok (.iconst 0, 1) := by decide +kernel
theorem d_Raw_movable_34 : decode b_Raw_movable 34 = .ok (.istore_n 3, 1) := by decide +kernel
theorem d_Raw_movable_35 : decode b_Raw_movable 35 = .ok (.iload_n 3, 1) := by decide +kernel
theorem d_Raw_movable_36 : decode b_Raw_movable 36 = .ok (.iload_n 2, 1) := by decide +kernel
theorem d_Raw_movable_37 : decode b_Raw_movable 37 = .ok (.if_icmp .ge 43, 3) := by decide +kernel
theorem d_Raw_movable_40 : decode b_Raw_movable 40 = .ok (.iload_n 1, 1) := by decide +kernel
theorem d_Raw_movable_41 : decode b_Raw_movable 41 = .ok (.iconst 4, 1) := by decide +kernel
theorem d_Raw_movable_42 : decode b_Raw_movable 42 = .ok (.iload_n 3, 1) := by decide +kernel
theorem d_Raw_movable_43 : decode b_Raw_movable 43 = .ok (.imul, 1) := by decide +kernel
theorem d_Raw_movable_44 : decode b_Raw_movable 44 = .ok (.iadd, 1) := by decide +kernel
theorem d_Raw_movable_45 : decode b_Raw_movable 45 = .ok (.istore 4, 2) := by decide +kernel
theorem d_Raw_movable_47 : decode b_Raw_movable 47 = .ok (.iload 4, 2) := by decide +kernel
theorem d_Raw_movable_49 : decode b_Raw_movable 49 = .ok (.invokestatic 86, 3) := by decide +kernel
theorem d_Raw_movable_52 : decode b_Raw_movable 52 = .ok (.ifCond .ge 22, 3) := by decide +kernel
theorem d_Raw_movable_55 : decode b_Raw_movable 55 = .ok (.aload_n 0, 1) := by decide +kernel
theorem d_Raw_movable_56 : decode b_Raw_movable 56 = .ok (.getfield 74, 3) := by decide +kernel
theorem d_Raw_movable_59 : decode b_Raw_movable 59 = .ok (.bipush 7, 2) := by decide +kernel
theorem d_Raw_movable_61 : decode b_Raw_movable 61 = .ok (.if_icmp .eq 11, 3) := by decide +kernel
theorem d_Raw_movable_64 : decode b_Raw_movable 64 = .ok (.iload 4, 2) := by decide +kernel
theorem d_Raw_movable_66 : decode b_Raw_movable 66 = .ok (.invokestatic 60, 3) := by decide +kernel
theorem d_Raw_movable_69 : decode b_Raw_movable 69 = .ok (.ifCond .ne 5, 3) := by decide +kernel
theorem d_Raw_movable_72 : decode b_Raw_movable 72 = .ok (.iconst (-1), 1) := by decide +kernel
theorem d_Raw_movable_73 : decode b_Raw_movable 73 = .ok (.ireturn, 1) := by decide +kernel
theorem d_Raw_movable_74 : decode b_Raw_movable 74 = .ok (.iinc 3 1, 3) := by decide +kernel
theorem d_Raw_movable_77 : decode b_Raw_movable 77 = .ok (.goto (-42), 3) := by decide +kernel
theorem d_Raw_movable_80 : decode b_Raw_movable 80 = .ok (.iload_n 2, 1) := by decide +kernel
theorem d_Raw_movable_81 : decode b_Raw_movable 81 = .ok (.ireturn, 1) := by decide +kernel
theorem q_Raw_movable : px_y y_Raw_movable 0 := by unfold px_y; decide +kernel
set_option maxHeartbeats 4000000 in
set_option maxRecDepth 100000 in
theorem c_Raw_movable (l : Launch) (D : va_G) (cs : Nat → ClassId) (h : Nat) (r : Nat → Nat) (g : Nat → Nat → Option Nat) (o2 : Option Nat) (o4 : Option Nat) (f : Nat → Int32) (a : Nat → Nat → Int32)   : MetI l y_Raw_movable b_Raw_movable 5 (.int) D cs 1 30 (0) (0) [.ref h] [wd_Raw cs h r (fun k => if k = 2 then o2 else if k = 4 then o4 else none) f a g] (fun _ => True) (fun v ps => (ps = [wd_Raw cs h r (fun k => if k = 2 then o2 else if k = 4 then o4 else none) f a g]) ∧ (-1 ≤ v.toInt) ∧ (v.toInt ≤ 16)) := by
  refine px_enter (by decide) (Nat.le_of_ble_eq_true rfl) ?_
  intro p e s m below meth c A ls hAe S hr hlk hnm hA hT hX hw hl
  have hl : lv_has ls 5 [(0, .ref h)] := hl
  have cstm1 : ((-1) : Int32).toInt = (-1) := rfl
  have cst0 : (0 : Int32).toInt = 0 := rfl
  have cst3 : (3 : Int32).toInt = 3 := rfl
  have cst4 : (4 : Int32).toInt = 4 := rfl
  have cst7 : (7 : Int32).toInt = 7 := rfl
  have cst11 : (11 : Int32).toInt = 11 := rfl
  have cst12 : (12 : Int32).toInt = 12 := rfl
  have cst16 : (16 : Int32).toInt = 16 := rfl
  have J35 : ∀ (n : Nat)  (x35_1 x35_2 x35_3 : Int32) (H : Heap) (locs : List Loc) (ls : Array Slot), (0 ≤ x35_3.toInt) → (x35_3.toInt ≤ x35_2.toInt) → (x35_2.toInt ≤ 16) → x35_2.toInt+1-x35_3.toInt < (n : Int) → pw D A s.heap H locs [wd_Raw cs h r (fun k => if k = 2 then o2 else if k = 4 then o4 else none) f a g] → lv_has ls 5 [(0, .ref h), (1, .int x35_1), (2, .int x35_2), (3, .int x35_3)] → W p l e { frames := 1, cells := 0, slots := 0, locals := 30 } s m [.ref h].toArray below meth c H locs 0 0 (MQ below (va_Qi (fun v ps => (ps = [wd_Raw cs h r (fun k => if k = 2 then o2 else if k = 4 then o4 else none) f a g]) ∧ (-1 ≤ v.toInt) ∧ (v.toInt ≤ 16)) (pc_B D (va_A ([wd_Raw cs h r (fun k => if k = 2 then o2 else if k = 4 then o4 else none) f a g] : List va_W).flatten s.heap.size)) (va_A ([wd_Raw cs h r (fun k => if k = 2 then o2 else if k = 4 then o4 else none) f a g] : List va_W).flatten s.heap.size)) [.ref h].toArray s 0 0 A) (F0 m 35 ls []) := by
    intro n
    induction n with
    | zero =>
      intro x35_1 x35_2 x35_3 H locs ls k35_0 k35_1 k35_2 hm hw hl
      have lx35_1 := Int32.le_toInt x35_1
      have ux35_1 := Int32.toInt_lt x35_1
      have lx35_2 := Int32.le_toInt x35_2
      have ux35_2 := Int32.toInt_lt x35_2
      have lx35_3 := Int32.le_toInt x35_3
      have ux35_3 := Int32.toInt_lt x35_3
      exact absurd hm (by omega)
    | succ n ih =>
      intro x35_1 x35_2 x35_3 H locs ls k35_0 k35_1 k35_2 hm hw hl
      have lx35_1 := Int32.le_toInt x35_1
      have ux35_1 := Int32.toInt_lt x35_1
      have lx35_2 := Int32.le_toInt x35_2
      have ux35_2 := Int32.toInt_lt x35_2
      have lx35_3 := Int32.le_toInt x35_3
      have ux35_3 := Int32.toInt_lt x35_3
      refine lv_iload_n S.x S.b d_Raw_movable_35 rfl (lv_at hl 3 rfl) ?_
      refine lv_iload_n S.x S.b d_Raw_movable_36 rfl (lv_at hl 2 rfl) ?_
      refine lv_icmp_ge (tgt := 80) S.x S.b d_Raw_movable_37 (by decide) (fun c1 => ?_) (fun c1 => ?_)
      · have nc1 : x35_2.toInt ≤ x35_3.toInt := (i_le (x := x35_2) (y := x35_3)).mp c1
        refine lv_iload_n S.x S.b d_Raw_movable_80 rfl (lv_at hl 2 rfl) ?_
        first | exact px_iret (v := x35_2) S hr rfl hlk hAe hw (Nat.le_of_ble_eq_true rfl) (Nat.le_of_ble_eq_true rfl) (⟨rfl, (show -1 ≤ x35_2.toInt from (oz_d50442415f k35_1 k35_0)), (show x35_2.toInt ≤ 16 from k35_2)⟩) d_Raw_movable_81 | exact px_iret (v := x35_2) S hr rfl hlk hAe hw (Nat.le_of_ble_eq_true rfl) (Nat.le_of_ble_eq_true rfl) (⟨rfl, (show -1 ≤ x35_2.toInt from by first | exact oz_d50442415f k35_1 k35_0 | omega), (show x35_2.toInt ≤ 16 from by first | exact k35_2 | omega)⟩) d_Raw_movable_81
      · have nc1 : ¬ x35_2.toInt ≤ x35_3.toInt := mt (i_le (x := x35_2) (y := x35_3)).mpr c1
        refine lv_iload_n S.x S.b d_Raw_movable_40 rfl (lv_at hl 1 rfl) ?_
        refine lv_iconst (v := 4) S.x S.b d_Raw_movable_41 (by decide) ?_
        refine lv_iload_n S.x S.b d_Raw_movable_42 rfl (lv_at hl 3 rfl) ?_
        refine lv_imul S.x S.b d_Raw_movable_43 ?_
        refine lv_topi (fun z2 ez2 => ?_)
        have lz2 := Int32.le_toInt z2
        have uz2 := Int32.toInt_lt z2
        have tz2 : -2147483648 ≤ 4 * x35_3.toInt → 4 * x35_3.toInt < 2147483648 → z2.toInt = 4 * x35_3.toInt := by rw [ez2]; exact i_mulc 4 x35_3 (by decide)
        refine lv_iadd S.x S.b d_Raw_movable_44 ?_
        refine lv_topi (fun z3 ez3 => ?_)
        have tz3 : z3.toInt = (x35_1.toInt + z2.toInt + 2147483648) % 4294967296 - 2147483648 := by rw [ez3]; exact i_add x35_1 z2
        have lz3 := Int32.le_toInt z3
        have uz3 := Int32.toInt_lt z3
        refine lv_istore (lv' := [(4, .int z3), (0, .ref h), (1, .int x35_1), (2, .int x35_2), (3, .int x35_3)]) S.x S.b d_Raw_movable_45 hl (by decide) rfl (fun ls hl => ?_)
        refine lv_iload S.x S.b d_Raw_movable_47 (lv_at hl 0 rfl) ?_
        refine px_calli (pr := [wd_Raw cs h r (fun k => if k = 2 then o2 else if k = 4 then o4 else none) f a g]) (px_runS (As := [.int z3]) (rest := []) S (c_Raw_cellAt l D cs  z3   _) hT (pr := [wd_Raw cs h r (fun k => if k = 2 then o2 else if k = 4 then o4 else none) f a g]) (pcs := []) hw px_X.tt m8_100 m8_98 m8_99 m1_34 q_Raw_cellAt ⟨Nat.le_of_ble_eq_true rfl, Nat.le_of_ble_eq_true rfl⟩ hl.1 rfl (Nat.le_of_ble_eq_true rfl) d_Raw_movable_49 ⟨Nat.le_of_ble_eq_true rfl, Nat.le_of_ble_eq_true rfl⟩) hw hA (fun v5 p4 H locs hp4 hw => ?_)
        obtain ⟨rfl, e6, e7⟩ := hp4
        have e6 : -1 ≤ v5.toInt := e6
        have e7 : v5.toInt ≤ 36863 := e7
        have lv5 := Int32.le_toInt v5
        have uv5 := Int32.toInt_lt v5
        refine lv_if_ge (tgt := 74) S.x S.b d_Raw_movable_52 (by decide) (fun c8 => ?_) (fun c8 => ?_)
        · have nc8 : (0 : Int) ≤ v5.toInt := (i_le (x := 0) (y := v5)).mp c8
          obtain ⟨z9, ez9⟩ : ∃ y : Int32, y = x35_3 + 1 := ⟨_, rfl⟩
          have tz9 : z9.toInt = (x35_3.toInt + 1 + 2147483648) % 4294967296 - 2147483648 := by rw [ez9]; exact i_add x35_3 1
          have lz9 := Int32.le_toInt z9
          have uz9 := Int32.toInt_lt z9
          refine lv_iinc (v := z9) (lv' := [(3, .int z9), (4, .int z3), (0, .ref h), (1, .int x35_1), (2, .int x35_2)]) S.x S.b d_Raw_movable_74 hl (k := 4) rfl (by rw [ez9]; rfl) (by decide) rfl (fun ls hl => ?_)
          refine lv_goto (tgt := 35) S.x S.b d_Raw_movable_77 (by decide) ?_
          first | exact ih x35_1 x35_2 z9 _ _ ls (show 0 ≤ z9.toInt from by first | with_reducible rfl | with_reducible assumption | omega) (show z9.toInt ≤ x35_2.toInt from by first | with_reducible rfl | with_reducible assumption | omega) (show x35_2.toInt ≤ 16 from k35_2) (show x35_2.toInt+1-z9.toInt < (n : Int) from by first | with_reducible rfl | with_reducible assumption | omega) hw (lv_sub hl [2, 3, 4, 0] rfl) | exact ih x35_1 x35_2 z9 _ _ ls (show 0 ≤ z9.toInt from by first | with_reducible rfl | with_reducible assumption | omega) (show z9.toInt ≤ x35_2.toInt from by first | with_reducible rfl | with_reducible assumption | omega) (show x35_2.toInt ≤ 16 from by first | exact k35_2 | omega) (show x35_2.toInt+1-z9.toInt < (n : Int) from by first | with_reducible rfl | with_reducible assumption | omega) hw (lv_sub hl [2, 3, 4, 0] rfl)
        · have nc8 : ¬ (0 : Int) ≤ v5.toInt := mt (i_le (x := 0) (y := v5)).mpr c8
          refine lv_aload_n S.x S.b d_Raw_movable_55 rfl (lv_at hl 1 rfl) ?_
          refine px_getS S k_Raw hT hw 0 0 15 (v := .int (f 15)) rfl rfl rfl (by decide) m6_156 m6_157 d_Raw_movable_56 ?_
          refine lv_bipush (v := 7) S.x S.b d_Raw_movable_59 (by decide) ?_
          refine lv_icmp_eq (tgt := 72) S.x S.b d_Raw_movable_61 (by decide) (fun c10 => ?_) (fun c10 => ?_)
          · have nc10 : (f 15).toInt = (7 : Int) := (i_eq (x := (f 15)) (y := 7)).mp c10
            refine lv_iconst (v := (-1)) S.x S.b d_Raw_movable_72 (by decide) ?_
            exact px_iret (v := (-1)) S hr rfl hlk hAe hw (Nat.le_of_ble_eq_true rfl) (Nat.le_of_ble_eq_true rfl) (⟨rfl, (show -1 ≤ (-1 : Int) from by first | decide | omega), (show (-1 : Int) ≤ 16 from by first | decide | omega)⟩) d_Raw_movable_73
          · have nc10 : ¬ (f 15).toInt = (7 : Int) := mt (i_eq (x := (f 15)) (y := 7)).mpr c10
            refine lv_iload S.x S.b d_Raw_movable_64 (lv_at hl 0 rfl) ?_
            refine px_calli (pr := [wd_Raw cs h r (fun k => if k = 2 then o2 else if k = 4 then o4 else none) f a g]) (px_runS (As := [.int z3]) (rest := []) S (c_Raw_isCode l D cs  z3   _) hT (pr := [wd_Raw cs h r (fun k => if k = 2 then o2 else if k = 4 then o4 else none) f a g]) (pcs := []) hw px_X.tt m8_106 m8_104 m8_105 m1_34 q_Raw_isCode ⟨Nat.le_of_ble_eq_true rfl, Nat.le_of_ble_eq_true rfl⟩ hl.1 rfl (Nat.le_of_ble_eq_true rfl) d_Raw_movable_66 ⟨Nat.le_of_ble_eq_true rfl, Nat.le_of_ble_eq_true rfl⟩) hw hA (fun v12 p11 H locs hp11 hw => ?_)
            obtain ⟨rfl, e13, e14⟩ := hp11
            have e13 := z_int e13
            have e14 : v12.toInt = 1 → 4194304 ≤ z3.toInt ∧ z3.toInt < 4198400 := e14
            have lv12 := Int32.le_toInt v12
            have uv12 := Int32.toInt_lt v12
            refine lv_if_ne (tgt := 74) S.x S.b d_Raw_movable_69 (by decide) (fun c15 => ?_) (fun c15 => ?_)
            · have nc15 : ¬ v12.toInt = (0 : Int) := mt (i_eq (x := v12) (y := 0)).mpr c15
              obtain ⟨z16, ez16⟩ : ∃ y : Int32, y = x35_3 + 1 := ⟨_, rfl⟩
              have tz16 : z16.toInt = (x35_3.toInt + 1 + 2147483648) % 4294967296 - 2147483648 := by rw [ez16]; exact i_add x35_3 1
              have lz16 := Int32.le_toInt z16
              have uz16 := Int32.toInt_lt z16
              refine lv_iinc (v := z16) (lv' := [(3, .int z16), (4, .int z3), (0, .ref h), (1, .int x35_1), (2, .int x35_2)]) S.x S.b d_Raw_movable_74 hl (k := 4) rfl (by rw [ez16]; rfl) (by decide) rfl (fun ls hl => ?_)
              refine lv_goto (tgt := 35) S.x S.b d_Raw_movable_77 (by decide) ?_
              first | exact ih x35_1 x35_2 z16 _ _ ls (show 0 ≤ z16.toInt from by first | with_reducible rfl | with_reducible assumption | omega) (show z16.toInt ≤ x35_2.toInt from by first | with_reducible rfl | with_reducible assumption | omega) (show x35_2.toInt ≤ 16 from k35_2) (show x35_2.toInt+1-z16.toInt < (n : Int) from by first | with_reducible rfl | with_reducible assumption | omega) hw (lv_sub hl [2, 3, 4, 0] rfl) | exact ih x35_1 x35_2 z16 _ _ ls (show 0 ≤ z16.toInt from by first | with_reducible rfl | with_reducible assumption | omega) (show z16.toInt ≤ x35_2.toInt from by first | with_reducible rfl | with_reducible assumption | omega) (show x35_2.toInt ≤ 16 from by first | exact k35_2 | omega) (show x35_2.toInt+1-z16.toInt < (n : Int) from by first | with_reducible rfl | with_reducible assumption | omega) hw (lv_sub hl [2, 3, 4, 0] rfl)
            · have nc15 : v12.toInt = (0 : Int) := (i_eq (x := v12) (y := 0)).mp c15
              refine lv_iconst (v := (-1)) S.x S.b d_Raw_movable_72 (by decide) ?_
              exact px_iret (v := (-1)) S hr rfl hlk hAe hw (Nat.le_of_ble_eq_true rfl) (Nat.le_of_ble_eq_true rfl) (⟨rfl, (show -1 ≤ (-1 : Int) from by first | decide | omega), (show (-1 : Int) ≤ 16 from by first | decide | omega)⟩) d_Raw_movable_73
  refine lv_aload_n S.x S.b d_Raw_movable_0 rfl (lv_at hl 0 rfl) ?_
  refine px_get S k_Raw hT hw 0 0 0 (v := .ref (r 0)) rfl rfl rfl (by decide) m6_124 d_Raw_movable_1 ?_
  refine lv_bipush (v := 11) S.x S.b d_Raw_movable_4 (by decide) ?_
  refine px_iald S hT hw 0 1 (n := 32) (f := (a 0)) rfl rfl (x := 11) (vp_in_iff.mpr (by constructor <;> omega)) d_Raw_movable_6 ?_
  refine lv_topi (fun z17 ez17 => ?_)
  have lz17 := Int32.le_toInt z17
  have uz17 := Int32.toInt_lt z17
  refine lv_istore_n (lv' := [(1, .int z17), (0, .ref h)]) S.x S.b d_Raw_movable_7 rfl hl (by decide) rfl (fun ls hl => ?_)
  refine lv_iconst (v := 0) S.x S.b d_Raw_movable_8 (by decide) ?_
  refine lv_bipush (v := 16) S.x S.b d_Raw_movable_9 (by decide) ?_
  refine lv_aload_n S.x S.b d_Raw_movable_11 rfl (lv_at hl 1 rfl) ?_
  refine px_get S k_Raw hT hw 0 0 0 (v := .ref (r 0)) rfl rfl rfl (by decide) m6_124 d_Raw_movable_12 ?_
  refine lv_bipush (v := 12) S.x S.b d_Raw_movable_15 (by decide) ?_
  refine px_iald S hT hw 0 1 (n := 32) (f := (a 0)) rfl rfl (x := 12) (vp_in_iff.mpr (by constructor <;> omega)) d_Raw_movable_17 ?_
  refine lv_topi (fun z18 ez18 => ?_)
  have lz18 := Int32.le_toInt z18
  have uz18 := Int32.toInt_lt z18
  refine va_mmin S.x S.b (by rw [S.ml]; exact hl.1.symm) S.own (S.w m8_96) (S.w m2_68) (S.w m1_13) (S.w m2_69) (Nat.le_of_ble_eq_true rfl) (Nat.le_of_ble_eq_true rfl) (Nat.zero_le _) (Nat.zero_le _) d_Raw_movable_18 ?_
  refine lv_topi (fun z19 ez19 => ?_)
  have tz19 := i_min 16 z18 ez19
  have lz19 := Int32.le_toInt z19
  have uz19 := Int32.toInt_lt z19
  refine va_mmax S.x S.b (by rw [S.ml]; exact hl.1.symm) S.own (S.w m8_97) (S.w m2_26) (S.w m1_13) (S.w m2_27) (Nat.le_of_ble_eq_true rfl) (Nat.le_of_ble_eq_true rfl) (Nat.zero_le _) (Nat.zero_le _) d_Raw_movable_21 ?_
  refine lv_topi (fun z20 ez20 => ?_)
  have tz20 := i_max 0 z19 ez20
  have lz20 := Int32.le_toInt z20
  have uz20 := Int32.toInt_lt z20
  refine lv_istore_n (lv' := [(2, .int z20), (1, .int z17), (0, .ref h)]) S.x S.b d_Raw_movable_24 rfl hl (by decide) rfl (fun ls hl => ?_)
  refine lv_iload_n S.x S.b d_Raw_movable_25 rfl (lv_at hl 1 rfl) ?_
  refine lv_iconst (v := 3) S.x S.b d_Raw_movable_26 (by decide) ?_
  refine lv_iand S.x S.b d_Raw_movable_27 ?_
  refine lv_topi (fun z21 ez21 => ?_)
  have lz21 := Int32.le_toInt z21
  have uz21 := Int32.toInt_lt z21
  have bz21 := i_andm z17 (m := 3) 2 (by decide) (by decide)
  rw [← ez21] at bz21
  have wz21 : 0 ≤ z21.toInt ∧ z21.toInt ≤ 3 := by simp only [Nat.reducePow, Int.reducePow] at bz21; omega
  refine lv_if_eq (tgt := 33) S.x S.b d_Raw_movable_28 (by decide) (fun c22 => ?_) (fun c22 => ?_)
  · have nc22 : z21.toInt = (0 : Int) := (i_eq (x := z21) (y := 0)).mp c22
    refine lv_iconst (v := 0) S.x S.b d_Raw_movable_33 (by decide) ?_
    refine lv_istore_n (lv' := [(3, .int 0), (2, .int z20), (1, .int z17), (0, .ref h)]) S.x S.b d_Raw_movable_34 rfl hl (by decide) rfl (fun ls hl => ?_)
    first | exact J35 ((z20.toInt+1-(0 : Int)).toNat + 1) z17 z20 (0 : Int32) _ _ ls (show 0 ≤ (0 : Int) from by first | decide | omega) (show (0 : Int) ≤ z20.toInt from by first | with_reducible rfl | with_reducible assumption | omega) (show z20.toInt ≤ 16 from by first | with_reducible rfl | with_reducible assumption | omega) (show z20.toInt+1-(0 : Int) < ((((z20.toInt+1-(0 : Int)).toNat + 1 : Nat) : Int) : Int) from oz_natlt) hw (lv_sub hl [3, 2, 1, 0] rfl) | exact J35 ((z20.toInt+1-(0 : Int)).toNat + 1) z17 z20 (0 : Int32) _ _ ls (show 0 ≤ (0 : Int) from by first | decide | omega) (show (0 : Int) ≤ z20.toInt from by first | with_reducible rfl | with_reducible assumption | omega) (show z20.toInt ≤ 16 from by first | with_reducible rfl | with_reducible assumption | omega) (show z20.toInt+1-(0 : Int) < ((((z20.toInt+1-(0 : Int)).toNat + 1 : Nat) : Int) : Int) from by first | exact oz_natlt | omega) hw (lv_sub hl [3, 2, 1, 0] rfl)
  · have nc22 : ¬ z21.toInt = (0 : Int) := mt (i_eq (x := z21) (y := 0)).mpr c22
    refine lv_iconst (v := (-1)) S.x S.b d_Raw_movable_31 (by decide) ?_
    exact px_iret (v := (-1)) S hr rfl hlk hAe hw (Nat.le_of_ble_eq_true rfl) (Nat.le_of_ble_eq_true rfl) (⟨rfl, (show -1 ≤ (-1 : Int) from by first | decide | omega), (show (-1 : Int) ≤ 16 from by first | decide | omega)⟩) d_Raw_movable_32
abbrev b_Raw_wordToMove : ByteArray := prog_8_method_6_code
def y_Raw_wordToMove : MethodName := ⟨"HomeSystem$RawProcess", "wordToMove", "(I)I"⟩
theorem d_Raw_wordToMove_0 : decode b_Raw_wordToMove 0 = .ok (.aload_n 0, 1) := by decide +kernel
theorem d_Raw_wordToMove_1 : decode b_Raw_wordToMove 1 = .ok (.aload_n 0, 1) := by decide +kernel
theorem d_Raw_wordToMove_2 : decode b_Raw_wordToMove 2 = .ok (.getfield 9, 3) := by decide +kernel
theorem d_Raw_wordToMove_5 : decode b_Raw_wordToMove 5 = .ok (.bipush 11, 2) := by decide +kernel
theorem d_Raw_wordToMove_7 : decode b_Raw_wordToMove 7 = .ok (.iaload, 1) := by decide +kernel
theorem d_Raw_wordToMove_8 : decode b_Raw_wordToMove 8 = .ok (.iconst 4, 1) := by decide +kernel
theorem d_Raw_wordToMove_9 : decode b_Raw_wordToMove 9 = .ok (.iload_n 1, 1) := by decide +kernel
theorem d_Raw_wordToMove_10 : decode b_Raw_wordToMove 10 = .ok (.imul, 1) := by decide +kernel
theorem d_Raw_wordToMove_11 : decode b_Raw_wordToMove 11 = .ok (.iadd, 1) := by decide +kernel
theorem d_Raw_wordToMove_12 : decode b_Raw_wordToMove 12 = .ok (.invokevirtual 67, 3) := by decide +kernel
theorem d_Raw_wordToMove_15 : decode b_Raw_wordToMove 15 = .ok (.ireturn, 1) := by decide +kernel
theorem q_Raw_wordToMove : px_y y_Raw_wordToMove 1 := by unfold px_y; decide +kernel
set_option maxHeartbeats 4000000 in
set_option maxRecDepth 100000 in
theorem c_Raw_wordToMove (l : Launch) (D : va_G) (cs : Nat → ClassId) (h : Nat) (r : Nat → Nat) (g : Nat → Nat → Option Nat) (o4 : Option Nat) (wn : Nat) (wc : Nat → Int32) (f : Nat → Int32) (a : Nat → Nat → Int32) (o2 : Option Nat) (ma : Nat → Int32) (p0 : Int32)  (g0 : wn ≤ 1000000) : MetI l y_Raw_wordToMove b_Raw_wordToMove 2 (.int) D cs 2 60 (0) (0) [.ref h, .int p0] [wd_Raw cs h r (fun k => if k = 2 then o2 else if k = 4 then o4 else none) f a g, nA cs o2 36864 ma, nA cs o4 wn wc] (fun _ => True) (fun v ps => (ps = [wd_Raw cs h r (fun k => if k = 2 then o2 else if k = 4 then o4 else none) f a g, nA cs o2 36864 ma, nA cs o4 wn wc])) := by
  refine px_enter (by decide) (Nat.le_of_ble_eq_true rfl) ?_
  intro p e s m below meth c A ls hAe S hr hlk hnm hA hT hX hw hl
  have hl : lv_has ls 2 [(0, .ref h), (1, .int p0)] := hl
  have lp0 := Int32.le_toInt p0
  have up0 := Int32.toInt_lt p0
  have cst4 : (4 : Int32).toInt = 4 := rfl
  have cst11 : (11 : Int32).toInt = 11 := rfl
  refine lv_aload_n S.x S.b d_Raw_wordToMove_0 rfl (lv_at hl 0 rfl) ?_
  refine lv_aload_n S.x S.b d_Raw_wordToMove_1 rfl (lv_at hl 0 rfl) ?_
  refine px_get S k_Raw hT hw 0 0 0 (v := .ref (r 0)) rfl rfl rfl (by decide) m6_124 d_Raw_wordToMove_2 ?_
  refine lv_bipush (v := 11) S.x S.b d_Raw_wordToMove_5 (by decide) ?_
  refine px_iald S hT hw 0 1 (n := 32) (f := (a 0)) rfl rfl (x := 11) (vp_in_iff.mpr (by constructor <;> omega)) d_Raw_wordToMove_7 ?_
  refine lv_topi (fun z1 ez1 => ?_)
  have lz1 := Int32.le_toInt z1
  have uz1 := Int32.toInt_lt z1
  refine lv_iconst (v := 4) S.x S.b d_Raw_wordToMove_8 (by decide) ?_
  refine lv_iload_n S.x S.b d_Raw_wordToMove_9 rfl (lv_at hl 1 rfl) ?_
  refine lv_imul S.x S.b d_Raw_wordToMove_10 ?_
  refine lv_topi (fun z2 ez2 => ?_)
  have lz2 := Int32.le_toInt z2
  have uz2 := Int32.toInt_lt z2
  have tz2 : -2147483648 ≤ 4 * p0.toInt → 4 * p0.toInt < 2147483648 → z2.toInt = 4 * p0.toInt := by rw [ez2]; exact i_mulc 4 p0 (by decide)
  refine lv_iadd S.x S.b d_Raw_wordToMove_11 ?_
  refine lv_topi (fun z3 ez3 => ?_)
  have tz3 : z3.toInt = (z1.toInt + z2.toInt + 2147483648) % 4294967296 - 2147483648 := by rw [ez3]; exact i_add z1 z2
  have lz3 := Int32.le_toInt z3
  have uz3 := Int32.toInt_lt z3
  first | refine px_calli (pr := []) (px_runV (As := [.int z3]) (rest := []) S (c_Raw_wordAt l D cs h r g o4 wn wc f a o2 ma z3  (show wn ≤ 1000000 from g0) _) hT (pr := []) (pcs := [wd_Raw cs h r (fun k => if k = 2 then o2 else if k = 4 then o4 else none) f a g, nA cs o2 36864 ma, nA cs o4 wn wc]) hw px_X.tt (px_recv hT hw 0 0 rfl rfl rfl) m8_139 m8_136 m8_138 ms_5_14 m1_34 q_Raw_wordAt ⟨Nat.le_of_ble_eq_true rfl, Nat.le_of_ble_eq_true rfl⟩ hl.1 rfl (Nat.le_of_ble_eq_true rfl) d_Raw_wordToMove_12 ⟨Nat.le_of_ble_eq_true rfl, Nat.le_of_ble_eq_true rfl⟩) hw hA (fun v5 p4 H locs hp4 hw => ?_) | refine px_calli (pr := []) (px_runV (As := [.int z3]) (rest := []) S (c_Raw_wordAt l D cs h r g o4 wn wc f a o2 ma z3  (show wn ≤ 1000000 from by first | exact g0 | omega) _) hT (pr := []) (pcs := [wd_Raw cs h r (fun k => if k = 2 then o2 else if k = 4 then o4 else none) f a g, nA cs o2 36864 ma, nA cs o4 wn wc]) hw px_X.tt (px_recv hT hw 0 0 rfl rfl rfl) m8_139 m8_136 m8_138 ms_5_14 m1_34 q_Raw_wordAt ⟨Nat.le_of_ble_eq_true rfl, Nat.le_of_ble_eq_true rfl⟩ hl.1 rfl (Nat.le_of_ble_eq_true rfl) d_Raw_wordToMove_12 ⟨Nat.le_of_ble_eq_true rfl, Nat.le_of_ble_eq_true rfl⟩) hw hA (fun v5 p4 H locs hp4 hw => ?_)
  subst hp4
  have lv5 := Int32.le_toInt v5
  have uv5 := Int32.toInt_lt v5
  exact px_iret (v := v5) S hr rfl hlk hAe hw (Nat.le_of_ble_eq_true rfl) (Nat.le_of_ble_eq_true rfl) (rfl) d_Raw_wordToMove_15
abbrev b_Raw_moveWord : ByteArray := prog_8_method_7_code
def y_Raw_moveWord : MethodName := ⟨"HomeSystem$RawProcess", "moveWord", "(II)V"⟩
theorem d_Raw_moveWord_0 : decode b_Raw_moveWord 0 = .ok (.aload_n 0, 1) := by decide +kernel
theorem d_Raw_moveWord_1 : decode b_Raw_moveWord 1 = .ok (.aload_n 0, 1) := by decide +kernel
theorem d_Raw_moveWord_2 : decode b_Raw_moveWord 2 = .ok (.getfield 9, 3) := by decide +kernel
theorem d_Raw_moveWord_5 : decode b_Raw_moveWord 5 = .ok (.bipush 11, 2) := by decide +kernel
theorem d_Raw_moveWord_7 : decode b_Raw_moveWord 7 = .ok (.iaload, 1) := by decide +kernel
theorem d_Raw_moveWord_8 : decode b_Raw_moveWord 8 = .ok (.iconst 4, 1) := by decide +kernel
theorem d_Raw_moveWord_9 : decode b_Raw_moveWord 9 = .ok (.iload_n 1, 1) := by decide +kernel
theorem d_Raw_moveWord_10 : decode b_Raw_moveWord 10 = .ok (.imul, 1) := by decide +kernel
theorem d_Raw_moveWord_11 : decode b_Raw_moveWord 11 = .ok (.iadd, 1) := by decide +kernel
theorem d_Raw_moveWord_12 : decode b_Raw_moveWord 12 = .ok (.invokestatic 86, 3) := by decide +kernel
theorem d_Raw_moveWord_15 : decode b_Raw_moveWord 15 = .ok (.iload_n 2, 1) := by decide +kernel
theorem d_Raw_moveWord_16 : decode b_Raw_moveWord 16 = .ok (.invokevirtual 89, 3) := by decide +kernel
theorem d_Raw_moveWord_19 : decode b_Raw_moveWord 19 = .ok (.return_, 1) := by decide +kernel
theorem q_Raw_moveWord : px_y y_Raw_moveWord 2 := by unfold px_y; decide +kernel
set_option maxHeartbeats 4000000 in
set_option maxRecDepth 100000 in
theorem c_Raw_moveWord (l : Launch) (D : va_G) (cs : Nat → ClassId) (h : Nat) (r : Nat → Nat) (g : Nat → Nat → Option Nat) (o4 : Option Nat) (f : Nat → Int32) (a : Nat → Nat → Int32) (o2 : Option Nat) (ma : Nat → Int32) (p0 p1 : Int32)   : MgV l y_Raw_moveWord b_Raw_moveWord 3 D cs 3 100 ((nd o2)) ((36864 * nd o2)) [.ref h, .int p0, .int p1] [wd_Raw cs h r (fun k => if k = 2 then o2 else if k = 4 then o4 else none) f a g, nA cs o2 36864 ma] (fun _ => True) (fun ps => ∃ (f' : Nat → Int32) (a' : Nat → Nat → Int32) (o2' : Option Nat) (ma' : Nat → Int32), (ps.1 = [wd_Raw cs h r (fun k => if k = 2 then o2' else if k = 4 then o4 else none) f' a' g, nA cs o2' 36864 ma']) ∧ ((f' 3).toInt = (f 3).toInt) ∧ ((f' 7).toInt = (f 7).toInt) ∧ ((f' 8).toInt = (f 8).toInt) ∧ ((f' 10).toInt = (f 10).toInt) ∧ ((f' 13).toInt = (f 13).toInt) ∧ ((f' 14).toInt = (f 14).toInt) ∧ ((f' 11).toInt = (f 11).toInt) ∧ (ps.2.1 + nd o2' ≤ nd o2) ∧ (ps.2.2 + 36864 * nd o2' ≤ 36864 * nd o2)) := by
  refine pg_enter (by decide) (Nat.le_of_ble_eq_true rfl) ?_
  intro p e s m below meth c A ls hAe S hr hlk hnm hA hT hX hw hl
  have hl : lv_has ls 3 [(0, .ref h), (1, .int p0), (2, .int p1)] := hl
  have lp0 := Int32.le_toInt p0
  have up0 := Int32.toInt_lt p0
  have lp1 := Int32.le_toInt p1
  have up1 := Int32.toInt_lt p1
  have cst4 : (4 : Int32).toInt = 4 := rfl
  have cst11 : (11 : Int32).toInt = 11 := rfl
  refine lv_aload_n S.x S.b d_Raw_moveWord_0 rfl (lv_at hl 0 rfl) ?_
  refine lv_aload_n S.x S.b d_Raw_moveWord_1 rfl (lv_at hl 0 rfl) ?_
  refine px_get S k_Raw hT hw 0 0 0 (v := .ref (r 0)) rfl rfl rfl (by decide) m6_124 d_Raw_moveWord_2 ?_
  refine lv_bipush (v := 11) S.x S.b d_Raw_moveWord_5 (by decide) ?_
  refine px_iald S hT hw 0 1 (n := 32) (f := (a 0)) rfl rfl (x := 11) (vp_in_iff.mpr (by constructor <;> omega)) d_Raw_moveWord_7 ?_
  refine lv_topi (fun z1 ez1 => ?_)
  have lz1 := Int32.le_toInt z1
  have uz1 := Int32.toInt_lt z1
  refine lv_iconst (v := 4) S.x S.b d_Raw_moveWord_8 (by decide) ?_
  refine lv_iload_n S.x S.b d_Raw_moveWord_9 rfl (lv_at hl 1 rfl) ?_
  refine lv_imul S.x S.b d_Raw_moveWord_10 ?_
  refine lv_topi (fun z2 ez2 => ?_)
  have lz2 := Int32.le_toInt z2
  have uz2 := Int32.toInt_lt z2
  have tz2 : -2147483648 ≤ 4 * p0.toInt → 4 * p0.toInt < 2147483648 → z2.toInt = 4 * p0.toInt := by rw [ez2]; exact i_mulc 4 p0 (by decide)
  refine lv_iadd S.x S.b d_Raw_moveWord_11 ?_
  refine lv_topi (fun z3 ez3 => ?_)
  have tz3 : z3.toInt = (z1.toInt + z2.toInt + 2147483648) % 4294967296 - 2147483648 := by rw [ez3]; exact i_add z1 z2
  have lz3 := Int32.le_toInt z3
  have uz3 := Int32.toInt_lt z3
  first | refine px_calli (pr := [wd_Raw cs h r (fun k => if k = 2 then o2 else if k = 4 then o4 else none) f a g, nA cs o2 36864 ma]) (px_runS (As := [.int z3]) (rest := [.ref h]) S (c_Raw_cellAt l D cs  z3   _) hT (pr := [wd_Raw cs h r (fun k => if k = 2 then o2 else if k = 4 then o4 else none) f a g, nA cs o2 36864 ma]) (pcs := []) hw px_X.tt m8_100 m8_98 m8_99 m1_34 q_Raw_cellAt ⟨Nat.le_of_ble_eq_true rfl, Nat.le_of_ble_eq_true rfl⟩ hl.1 rfl (Nat.le_of_ble_eq_true rfl) d_Raw_moveWord_12 ⟨show 0 + 0 ≤ (nd o2) from (oz_4801a4ef71), show 0 + 0 ≤ (36864 * nd o2) from (oz_26949c3f46)⟩) hw hA (fun v5 p4 H locs hp4 hw => ?_) | refine px_calli (pr := [wd_Raw cs h r (fun k => if k = 2 then o2 else if k = 4 then o4 else none) f a g, nA cs o2 36864 ma]) (px_runS (As := [.int z3]) (rest := [.ref h]) S (c_Raw_cellAt l D cs  z3   _) hT (pr := [wd_Raw cs h r (fun k => if k = 2 then o2 else if k = 4 then o4 else none) f a g, nA cs o2 36864 ma]) (pcs := []) hw px_X.tt m8_100 m8_98 m8_99 m1_34 q_Raw_cellAt ⟨Nat.le_of_ble_eq_true rfl, Nat.le_of_ble_eq_true rfl⟩ hl.1 rfl (Nat.le_of_ble_eq_true rfl) d_Raw_moveWord_12 ⟨show 0 + 0 ≤ (nd o2) from (by first | exact oz_4801a4ef71 | omega), show 0 + 0 ≤ (36864 * nd o2) from (by first | exact oz_26949c3f46 | omega)⟩) hw hA (fun v5 p4 H locs hp4 hw => ?_)
  obtain ⟨rfl, e6, e7⟩ := hp4
  have e6 : -1 ≤ v5.toInt := e6
  have e7 : v5.toInt ≤ 36863 := e7
  have lv5 := Int32.le_toInt v5
  have uv5 := Int32.toInt_lt v5
  refine lv_iload_n S.x S.b d_Raw_moveWord_15 rfl (lv_at hl 2 rfl) ?_
  first | refine pg_callv (pr := []) (px_runV (As := [.int v5, .int p1]) (rest := []) S (c_Raw_setCell l D cs h r g o4 f a o2 ma v5 p1   _ _) hT (pr := []) (pcs := [wd_Raw cs h r (fun k => if k = 2 then o2 else if k = 4 then o4 else none) f a g, nA cs o2 36864 ma]) hw (px_X.tot px_X.tt) (px_recv hT hw 0 0 rfl rfl rfl) m8_120 m8_117 m8_119 ms_5_12 m1_34 q_Raw_setCell ⟨Nat.le_of_ble_eq_true rfl, Nat.le_of_ble_eq_true rfl⟩ hl.1 rfl (Nat.le_of_ble_eq_true rfl) d_Raw_moveWord_16 ⟨show 0 + (nd o2) ≤ (nd o2) from (oz_06727f128b), show 0 + (36864 * nd o2) ≤ (36864 * nd o2) from (oz_59d5c717d7)⟩) hw hA (fun p12 k14 n15 H locs hp12 hw => ?_) | refine pg_callv (pr := []) (px_runV (As := [.int v5, .int p1]) (rest := []) S (c_Raw_setCell l D cs h r g o4 f a o2 ma v5 p1   _ _) hT (pr := []) (pcs := [wd_Raw cs h r (fun k => if k = 2 then o2 else if k = 4 then o4 else none) f a g, nA cs o2 36864 ma]) hw (px_X.tot px_X.tt) (px_recv hT hw 0 0 rfl rfl rfl) m8_120 m8_117 m8_119 ms_5_12 m1_34 q_Raw_setCell ⟨Nat.le_of_ble_eq_true rfl, Nat.le_of_ble_eq_true rfl⟩ hl.1 rfl (Nat.le_of_ble_eq_true rfl) d_Raw_moveWord_16 ⟨show 0 + (nd o2) ≤ (nd o2) from (by first | exact oz_06727f128b | omega), show 0 + (36864 * nd o2) ≤ (36864 * nd o2) from (by first | exact oz_59d5c717d7 | omega)⟩) hw hA (fun p12 k14 n15 H locs hp12 hw => ?_)
  dsimp only at hp12
  obtain ⟨f8, a9, o210, ma11, rfl, e16, e17, e18, e19, e20, e21, e22, e23, e24⟩ := hp12
  have e16 : (f8 3).toInt = (f 3).toInt := e16
  have e17 : (f8 7).toInt = (f 7).toInt := e17
  have e18 : (f8 8).toInt = (f 8).toInt := e18
  have e19 : (f8 10).toInt = (f 10).toInt := e19
  have e20 : (f8 13).toInt = (f 13).toInt := e20
  have e21 : (f8 14).toInt = (f 14).toInt := e21
  have e22 : (f8 11).toInt = (f 11).toInt := e22
  have e23 : k14 + nd o210 ≤ nd o2 := e23
  have e24 : n15 + 36864 * nd o210 ≤ 36864 * nd o2 := e24
  first | exact pg_vret S hr hlk hAe hw (show (0 + k14) ≤ (nd o2) from (oz_cb01867abd e23)) (show (0 + n15) ≤ (36864 * nd o2) from (oz_9e82047430 e24)) (⟨f8, a9, o210, ma11, rfl, (show (f8 3).toInt = (f 3).toInt from e16), (show (f8 7).toInt = (f 7).toInt from e17), (show (f8 8).toInt = (f 8).toInt from e18), (show (f8 10).toInt = (f 10).toInt from e19), (show (f8 13).toInt = (f 13).toInt from e20), (show (f8 14).toInt = (f 14).toInt from e21), (show (f8 11).toInt = (f 11).toInt from e22), (show (0 + k14) + nd o210 ≤ nd o2 from (oz_aa274e400b e23)), (show (0 + n15) + 36864 * nd o210 ≤ 36864 * nd o2 from (oz_093c094757 e24))⟩) d_Raw_moveWord_19 | exact pg_vret S hr hlk hAe hw (show (0 + k14) ≤ (nd o2) from by first | exact oz_cb01867abd e23 | omega) (show (0 + n15) ≤ (36864 * nd o2) from by first | exact oz_9e82047430 e24 | omega) (⟨f8, a9, o210, ma11, rfl, (show (f8 3).toInt = (f 3).toInt from by first | exact e16 | omega), (show (f8 7).toInt = (f 7).toInt from by first | exact e17 | omega), (show (f8 8).toInt = (f 8).toInt from by first | exact e18 | omega), (show (f8 10).toInt = (f 10).toInt from by first | exact e19 | omega), (show (f8 13).toInt = (f 13).toInt from by first | exact e20 | omega), (show (f8 14).toInt = (f 14).toInt from by first | exact e21 | omega), (show (f8 11).toInt = (f 11).toInt from by first | exact e22 | omega), (show (0 + k14) + nd o210 ≤ nd o2 from by first | exact oz_aa274e400b e23 | omega), (show (0 + n15) + 36864 * nd o210 ≤ 36864 * nd o2 from by first | exact oz_093c094757 e24 | omega)⟩) d_Raw_moveWord_19
