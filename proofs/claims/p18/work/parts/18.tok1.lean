theorem oz_f4db95235a {a0 : Int} (h0 : ¬ a0 < (0 : Int)) (h1 : ¬ (2048 : Int) ≤ a0) : 0 ≤ a0 ∧ a0 < ((2048 : Nat) : Int) := by omega
theorem oz_bd82420902 {a0 : Int} (h0 : 0 ≤ a0) : -1 ≤ a0 := by omega
theorem oz_a1372f8c53 {a0 a1 : Int} (h0 : ¬ a0 < (0 : Int)) (h1 : ¬ a1 ≤ a0) : 0 ≤ a0 ∧ a0 < a1 := by omega
theorem oz_b5a98028f4 {a0 a1 a2 : Int} (h0 : a2 = (92 : Int)) (h1 : 0 ≤ a2 → 0 ≤ a0 ∧ a0 < a1) : 0 ≤ a0 ∧ a0 < a1 := by omega
theorem oz_50c21e157e {a0 : Int} (h0 : 0 ≤ a0) : (0 : Int) ≤ a0 := by omega
theorem oz_natlt {a : Int} : a < ((((a).toNat + 1 : Nat) : Int) : Int) := by omega
theorem m1_109 : Cond.fieldLink "HomeSystem$Tokens" 43 "HomeSystem$Tokens" "bytes" "[B" ∈ AL := AL_1 (List.mem_of_getElem? (i := 109) rfl) rfl
theorem m1_110 : Cond.fieldLink "HomeSystem$Tokens" 47 "HomeSystem$Tokens" "length" "I" ∈ AL := AL_1 (List.mem_of_getElem? (i := 110) rfl) rfl
theorem m3_183 : Cond.methodLink "HomeSystem$Tokens" 73 ⟨"HomeSystem$Tokens", "byteAt", "(I)I"⟩ ∈ AL := AL_3 (List.mem_of_getElem? (i := 183) rfl) rfl
theorem m3_186 : Cond.code ⟨"HomeSystem$Tokens", "byteAt", "(I)I"⟩ prog_12_method_3_code 2 (Option.some FieldType.int) ∈ AL := AL_3 (List.mem_of_getElem? (i := 186) rfl) rfl
theorem m1_2 : Cond.initialized "HomeSystem$Tokens" ∈ AL := AL_1 (List.mem_of_getElem? (i := 2) rfl) rfl
theorem ms_1_6 : Cond.selects "HomeSystem$Tokens" ⟨"HomeSystem$Tokens", "byteAt", "(I)I"⟩ ⟨"HomeSystem$Tokens", "byteAt", "(I)I"⟩ ∈ AL := AL_p (q := (⟨"HomeSystem$Tokens", "byteAt", "(I)I"⟩, 19)) (by unfold lw_privs; exact List.mem_append_left _ (List.mem_of_getElem? (i := 6) rfl))
theorem m3_185 : Cond.instanceMethod ⟨"HomeSystem$Tokens", "byteAt", "(I)I"⟩ ∈ AL := AL_3 (List.mem_of_getElem? (i := 185) rfl) rfl
theorem m1_111 : Cond.fieldLink "HomeSystem$Tokens" 50 "HomeSystem$Tokens" "at" "I" ∈ AL := AL_1 (List.mem_of_getElem? (i := 111) rfl) rfl
theorem m3_191 : Cond.methodLink "HomeSystem$Tokens" 80 ⟨"HomeSystem$Tokens", "commentEnd", "()I"⟩ ∈ AL := AL_3 (List.mem_of_getElem? (i := 191) rfl) rfl
theorem m3_194 : Cond.code ⟨"HomeSystem$Tokens", "commentEnd", "()I"⟩ prog_12_method_6_code 2 (Option.some FieldType.int) ∈ AL := AL_3 (List.mem_of_getElem? (i := 194) rfl) rfl
theorem ms_1_8 : Cond.selects "HomeSystem$Tokens" ⟨"HomeSystem$Tokens", "commentEnd", "()I"⟩ ⟨"HomeSystem$Tokens", "commentEnd", "()I"⟩ ∈ AL := AL_p (q := (⟨"HomeSystem$Tokens", "commentEnd", "()I"⟩, 19)) (by unfold lw_privs; exact List.mem_append_left _ (List.mem_of_getElem? (i := 8) rfl))
theorem m3_193 : Cond.instanceMethod ⟨"HomeSystem$Tokens", "commentEnd", "()I"⟩ ∈ AL := AL_3 (List.mem_of_getElem? (i := 193) rfl) rfl
theorem m3_187 : Cond.methodLink "HomeSystem$Tokens" 77 ⟨"HomeSystem$Tokens", "lineEnd", "()I"⟩ ∈ AL := AL_3 (List.mem_of_getElem? (i := 187) rfl) rfl
theorem m3_190 : Cond.code ⟨"HomeSystem$Tokens", "lineEnd", "()I"⟩ prog_12_method_5_code 2 (Option.some FieldType.int) ∈ AL := AL_3 (List.mem_of_getElem? (i := 190) rfl) rfl
theorem ms_1_7 : Cond.selects "HomeSystem$Tokens" ⟨"HomeSystem$Tokens", "lineEnd", "()I"⟩ ⟨"HomeSystem$Tokens", "lineEnd", "()I"⟩ ∈ AL := AL_p (q := (⟨"HomeSystem$Tokens", "lineEnd", "()I"⟩, 19)) (by unfold lw_privs; exact List.mem_append_left _ (List.mem_of_getElem? (i := 7) rfl))
theorem m3_189 : Cond.instanceMethod ⟨"HomeSystem$Tokens", "lineEnd", "()I"⟩ ∈ AL := AL_3 (List.mem_of_getElem? (i := 189) rfl) rfl
theorem m3_206 : Cond.methodLink "HomeSystem$Tokens" 93 ⟨"HomeSystem$Tokens", "isDigit", "(I)Z"⟩ ∈ AL := AL_3 (List.mem_of_getElem? (i := 206) rfl) rfl
theorem m3_208 : Cond.code ⟨"HomeSystem$Tokens", "isDigit", "(I)Z"⟩ prog_12_method_9_code 1 (Option.some FieldType.boolean) ∈ AL := AL_3 (List.mem_of_getElem? (i := 208) rfl) rfl
theorem m3_207 : Cond.static ⟨"HomeSystem$Tokens", "isDigit", "(I)Z"⟩ ∈ AL := AL_3 (List.mem_of_getElem? (i := 207) rfl) rfl
theorem m1_106 : Cond.fieldLink "HomeSystem$Tokens" 29 "HomeSystem$Tokens" "letters" "[C" ∈ AL := AL_1 (List.mem_of_getElem? (i := 106) rfl) rfl
theorem m1_114 : Cond.fieldLink "HomeSystem$Tokens" 56 "HomeSystem$Tokens" "names" "I" ∈ AL := AL_1 (List.mem_of_getElem? (i := 114) rfl) rfl
theorem m1_107 : Cond.fieldLink "HomeSystem$Tokens" 33 "HomeSystem$Tokens" "nameEnds" "[I" ∈ AL := AL_1 (List.mem_of_getElem? (i := 107) rfl) rfl
theorem m3_213 : Cond.methodLink "HomeSystem$Tokens" 112 ⟨"HomeSystem$Tokens", "sameLetters", "(III)Z"⟩ ∈ AL := AL_3 (List.mem_of_getElem? (i := 213) rfl) rfl
theorem m3_216 : Cond.code ⟨"HomeSystem$Tokens", "sameLetters", "(III)Z"⟩ prog_12_method_12_code 5 (Option.some FieldType.boolean) ∈ AL := AL_3 (List.mem_of_getElem? (i := 216) rfl) rfl
theorem ms_1_12 : Cond.selects "HomeSystem$Tokens" ⟨"HomeSystem$Tokens", "sameLetters", "(III)Z"⟩ ⟨"HomeSystem$Tokens", "sameLetters", "(III)Z"⟩ ∈ AL := AL_p (q := (⟨"HomeSystem$Tokens", "sameLetters", "(III)Z"⟩, 19)) (by unfold lw_privs; exact List.mem_append_left _ (List.mem_of_getElem? (i := 12) rfl))
theorem m3_215 : Cond.instanceMethod ⟨"HomeSystem$Tokens", "sameLetters", "(III)Z"⟩ ∈ AL := AL_3 (List.mem_of_getElem? (i := 215) rfl) rfl
theorem m3_209 : Cond.methodLink "HomeSystem$Tokens" 108 ⟨"HomeSystem$Tokens", "intern", "(II)I"⟩ ∈ AL := AL_3 (List.mem_of_getElem? (i := 209) rfl) rfl
theorem m3_212 : Cond.code ⟨"HomeSystem$Tokens", "intern", "(II)I"⟩ prog_12_method_11_code 5 (Option.some FieldType.int) ∈ AL := AL_3 (List.mem_of_getElem? (i := 212) rfl) rfl
theorem ms_1_11 : Cond.selects "HomeSystem$Tokens" ⟨"HomeSystem$Tokens", "intern", "(II)I"⟩ ⟨"HomeSystem$Tokens", "intern", "(II)I"⟩ ∈ AL := AL_p (q := (⟨"HomeSystem$Tokens", "intern", "(II)I"⟩, 19)) (by unfold lw_privs; exact List.mem_append_left _ (List.mem_of_getElem? (i := 11) rfl))
theorem m3_211 : Cond.instanceMethod ⟨"HomeSystem$Tokens", "intern", "(II)I"⟩ ∈ AL := AL_3 (List.mem_of_getElem? (i := 211) rfl) rfl
theorem m1_112 : Cond.fieldLink "HomeSystem$Tokens" 83 "HomeSystem$Tokens" "found" "I" ∈ AL := AL_1 (List.mem_of_getElem? (i := 112) rfl) rfl
theorem m3_199 : Cond.methodLink "HomeSystem$Tokens" 86 ⟨"HomeSystem$Tokens", "isLetter", "(I)Z"⟩ ∈ AL := AL_3 (List.mem_of_getElem? (i := 199) rfl) rfl
theorem m3_201 : Cond.code ⟨"HomeSystem$Tokens", "isLetter", "(I)Z"⟩ prog_12_method_8_code 1 (Option.some FieldType.boolean) ∈ AL := AL_3 (List.mem_of_getElem? (i := 201) rfl) rfl
theorem m3_200 : Cond.static ⟨"HomeSystem$Tokens", "isLetter", "(I)Z"⟩ ∈ AL := AL_3 (List.mem_of_getElem? (i := 200) rfl) rfl
theorem m3_225 : Cond.constantLong "HomeSystem$Tokens" 119 (4294967295 : Int64) ∈ AL := AL_3 (List.mem_of_getElem? (i := 225) rfl) rfl
theorem m3_221 : Cond.methodLink "HomeSystem$Tokens" 116 ⟨"HomeSystem$Tokens", "digit", "(I)I"⟩ ∈ AL := AL_3 (List.mem_of_getElem? (i := 221) rfl) rfl
theorem m3_224 : Cond.code ⟨"HomeSystem$Tokens", "digit", "(I)I"⟩ prog_12_method_14_code 3 (Option.some FieldType.int) ∈ AL := AL_3 (List.mem_of_getElem? (i := 224) rfl) rfl
theorem ms_1_14 : Cond.selects "HomeSystem$Tokens" ⟨"HomeSystem$Tokens", "digit", "(I)I"⟩ ⟨"HomeSystem$Tokens", "digit", "(I)I"⟩ ∈ AL := AL_p (q := (⟨"HomeSystem$Tokens", "digit", "(I)I"⟩, 19)) (by unfold lw_privs; exact List.mem_append_left _ (List.mem_of_getElem? (i := 14) rfl))
theorem m3_223 : Cond.instanceMethod ⟨"HomeSystem$Tokens", "digit", "(I)I"⟩ ∈ AL := AL_3 (List.mem_of_getElem? (i := 223) rfl) rfl
theorem m3_230 : Cond.methodLink "HomeSystem$Tokens" 121 ⟨"HomeSystem$Tokens", "quotedAt", "(II)I"⟩ ∈ AL := AL_3 (List.mem_of_getElem? (i := 230) rfl) rfl
theorem m3_233 : Cond.code ⟨"HomeSystem$Tokens", "quotedAt", "(II)I"⟩ prog_12_method_15_code 5 (Option.some FieldType.int) ∈ AL := AL_3 (List.mem_of_getElem? (i := 233) rfl) rfl
theorem ms_2_0 : Cond.selects "HomeSystem$Tokens" ⟨"HomeSystem$Tokens", "quotedAt", "(II)I"⟩ ⟨"HomeSystem$Tokens", "quotedAt", "(II)I"⟩ ∈ AL := AL_p (q := (⟨"HomeSystem$Tokens", "quotedAt", "(II)I"⟩, 19)) (by unfold lw_privs; exact List.mem_append_right _ (List.mem_append_left _ (List.mem_of_getElem? (i := 0) rfl)))
theorem m3_232 : Cond.instanceMethod ⟨"HomeSystem$Tokens", "quotedAt", "(II)I"⟩ ∈ AL := AL_3 (List.mem_of_getElem? (i := 232) rfl) rfl
theorem m3_234 : Cond.methodLink "HomeSystem$Tokens" 124 ⟨"HomeSystem$Tokens", "quotedWidth", "(I)I"⟩ ∈ AL := AL_3 (List.mem_of_getElem? (i := 234) rfl) rfl
theorem m3_237 : Cond.code ⟨"HomeSystem$Tokens", "quotedWidth", "(I)I"⟩ prog_12_method_16_code 2 (Option.some FieldType.int) ∈ AL := AL_3 (List.mem_of_getElem? (i := 237) rfl) rfl
theorem ms_2_1 : Cond.selects "HomeSystem$Tokens" ⟨"HomeSystem$Tokens", "quotedWidth", "(I)I"⟩ ⟨"HomeSystem$Tokens", "quotedWidth", "(I)I"⟩ ∈ AL := AL_p (q := (⟨"HomeSystem$Tokens", "quotedWidth", "(I)I"⟩, 19)) (by unfold lw_privs; exact List.mem_append_right _ (List.mem_append_left _ (List.mem_of_getElem? (i := 1) rfl)))
theorem m3_236 : Cond.instanceMethod ⟨"HomeSystem$Tokens", "quotedWidth", "(I)I"⟩ ∈ AL := AL_3 (List.mem_of_getElem? (i := 236) rfl) rfl
theorem m1_115 : Cond.fieldLink "HomeSystem$Tokens" 59 "HomeSystem$Tokens" "quotes" "I" ∈ AL := AL_1 (List.mem_of_getElem? (i := 115) rfl) rfl
theorem m1_108 : Cond.fieldLink "HomeSystem$Tokens" 36 "HomeSystem$Tokens" "quoted" "[I" ∈ AL := AL_1 (List.mem_of_getElem? (i := 108) rfl) rfl
theorem m1_118 : Cond.fieldLink "HomeSystem$Tokens" 138 "HomeSystem$Tokens" "now" "I" ∈ AL := AL_1 (List.mem_of_getElem? (i := 118) rfl) rfl
theorem m1_119 : Cond.fieldLink "HomeSystem$Tokens" 141 "HomeSystem$Tokens" "open" "I" ∈ AL := AL_1 (List.mem_of_getElem? (i := 119) rfl) rfl
theorem m1_113 : Cond.fieldLink "HomeSystem$Tokens" 53 "HomeSystem$Tokens" "count" "I" ∈ AL := AL_1 (List.mem_of_getElem? (i := 113) rfl) rfl
theorem m1_123 : Cond.fieldLink "HomeSystem$Tokens" 144 "HomeSystem$Tokens" "wrongToken" "I" ∈ AL := AL_1 (List.mem_of_getElem? (i := 123) rfl) rfl
theorem m1_125 : Cond.fieldLink "HomeSystem$Tokens" 147 "HomeSystem$Tokens" "wrongNumber" "I" ∈ AL := AL_1 (List.mem_of_getElem? (i := 125) rfl) rfl
theorem m1_121 : Cond.fieldLink "HomeSystem$Tokens" 62 "HomeSystem$Tokens" "failed" "Z" ∈ AL := AL_1 (List.mem_of_getElem? (i := 121) rfl) rfl
theorem m1_103 : Cond.fieldLink "HomeSystem$Tokens" 9 "HomeSystem$Tokens" "kinds" "[I" ∈ AL := AL_1 (List.mem_of_getElem? (i := 103) rfl) rfl
theorem m1_105 : Cond.fieldLink "HomeSystem$Tokens" 18 "HomeSystem$Tokens" "values" "[I" ∈ AL := AL_1 (List.mem_of_getElem? (i := 105) rfl) rfl
theorem m1_122 : Cond.fieldLink "HomeSystem$Tokens" 159 "HomeSystem$Tokens" "failedAt" "I" ∈ AL := AL_1 (List.mem_of_getElem? (i := 122) rfl) rfl
theorem m1_104 : Cond.fieldLink "HomeSystem$Tokens" 15 "HomeSystem$Tokens" "places" "[I" ∈ AL := AL_1 (List.mem_of_getElem? (i := 104) rfl) rfl
theorem m4_125 : Cond.methodLink "HomeSystem$Tokens" 150 ⟨"HomeSystem$Tokens", "kind", "()I"⟩ ∈ AL := AL_4 (List.mem_of_getElem? (i := 125) rfl) rfl
theorem m4_108 : Cond.code ⟨"HomeSystem$Tokens", "kind", "()I"⟩ prog_12_method_23_code 1 (Option.some FieldType.int) ∈ AL := AL_4 (List.mem_of_getElem? (i := 108) rfl) rfl
theorem m4_107 : Cond.selects "HomeSystem$Tokens" ⟨"HomeSystem$Tokens", "kind", "()I"⟩ ⟨"HomeSystem$Tokens", "kind", "()I"⟩ ∈ AL := AL_4 (List.mem_of_getElem? (i := 107) rfl) rfl
theorem m4_106 : Cond.instanceMethod ⟨"HomeSystem$Tokens", "kind", "()I"⟩ ∈ AL := AL_4 (List.mem_of_getElem? (i := 106) rfl) rfl
theorem m4_126 : Cond.methodLink "HomeSystem$Tokens" 153 ⟨"HomeSystem$Tokens", "step", "()V"⟩ ∈ AL := AL_4 (List.mem_of_getElem? (i := 126) rfl) rfl
theorem m4_120 : Cond.code ⟨"HomeSystem$Tokens", "step", "()V"⟩ prog_12_method_28_code 1 (Option.none : Option Jvm.ClassFile.FieldType) ∈ AL := AL_4 (List.mem_of_getElem? (i := 120) rfl) rfl
theorem m4_119 : Cond.selects "HomeSystem$Tokens" ⟨"HomeSystem$Tokens", "step", "()V"⟩ ⟨"HomeSystem$Tokens", "step", "()V"⟩ ∈ AL := AL_4 (List.mem_of_getElem? (i := 119) rfl) rfl
theorem m4_118 : Cond.instanceMethod ⟨"HomeSystem$Tokens", "step", "()V"⟩ ∈ AL := AL_4 (List.mem_of_getElem? (i := 118) rfl) rfl
theorem m4_127 : Cond.methodLink "HomeSystem$Tokens" 156 ⟨"HomeSystem$Tokens", "fail", "()V"⟩ ∈ AL := AL_4 (List.mem_of_getElem? (i := 127) rfl) rfl
theorem m4_130 : Cond.code ⟨"HomeSystem$Tokens", "fail", "()V"⟩ prog_12_method_31_code 1 (Option.none : Option Jvm.ClassFile.FieldType) ∈ AL := AL_4 (List.mem_of_getElem? (i := 130) rfl) rfl
theorem m4_129 : Cond.selects "HomeSystem$Tokens" ⟨"HomeSystem$Tokens", "fail", "()V"⟩ ⟨"HomeSystem$Tokens", "fail", "()V"⟩ ∈ AL := AL_4 (List.mem_of_getElem? (i := 129) rfl) rfl
theorem m4_128 : Cond.instanceMethod ⟨"HomeSystem$Tokens", "fail", "()V"⟩ ∈ AL := AL_4 (List.mem_of_getElem? (i := 128) rfl) rfl
theorem z_nar {v : Int32} (h : v.toInt = 0 ∨ v.toInt = 1) : narrow .boolean (.int v) = .int v := by
  rcases h with h | h
  · have e : v = 0 := i_eq.mpr h
    rw [e]; rfl
  · have e : v = 1 := i_eq.mpr h
    rw [e]; rfl
theorem z_int {v : Int32} (h : v = 0 ∨ v = 1) : v.toInt = 0 ∨ v.toInt = 1 := by
  rcases h with h | h <;> rw [h]
  · exact Or.inl rfl
  · exact Or.inr rfl
theorem z_or {v : Int32} (h : v.toInt = 0 ∨ v.toInt = 1) : v = 0 ∨ v = 1 := by
  rcases h with h | h
  · exact Or.inl (i_eq.mpr h)
  · exact Or.inr (i_eq.mpr h)
theorem n4_at {n4 : Nat → Int32} (h : ∀ j : Nat, 0 ≤ (n4 j).toInt ∧ (n4 j).toInt ≤ 1000 + 24 * (j : Int)) {x z : Int32} (h0 : 0 ≤ x.toInt) (e : z = n4 x.toNatClampNeg) : 0 ≤ z.toInt ∧ z.toInt ≤ 1000 + 24 * x.toInt := by
  have h1 := h x.toNatClampNeg
  have h2 : (x.toNatClampNeg : Int) = x.toInt := by
    show ((x.toInt.toNat : Nat) : Int) = x.toInt
    omega
  rw [e]
  omega
theorem n4_up {n4 : Nat → Int32} (h : ∀ j : Nat, 0 ≤ (n4 j).toInt ∧ (n4 j).toInt ≤ 1000 + 24 * (j : Int)) {x z : Int32} (h0 : 0 ≤ x.toInt) (h1 : 0 ≤ z.toInt) (h2 : z.toInt ≤ 1000 + 24 * x.toInt) : ∀ j : Nat, 0 ≤ (upd n4 x.toNatClampNeg z j).toInt ∧ (upd n4 x.toNatClampNeg z j).toInt ≤ 1000 + 24 * (j : Int) := by
  intro j
  have h3 : (x.toNatClampNeg : Int) = x.toInt := by
    show ((x.toInt.toNat : Nat) : Int) = x.toInt
    omega
  by_cases hj : j = x.toNatClampNeg
  · subst hj
    rw [pk_us]
    omega
  · rw [pk_un hj]
    exact h j
abbrev b_Tok_byteAt : ByteArray := prog_12_method_3_code
def y_Tok_byteAt : MethodName := ⟨"HomeSystem$Tokens", "byteAt", "(I)I"⟩
theorem d_Tok_byteAt_0 : decode b_Tok_byteAt 0 = .ok (.aload_n 0, 1) := by decide +kernel
theorem d_Tok_byteAt_1 : decode b_Tok_byteAt 1 = .ok (.getfield 43, 3) := by decide +kernel
theorem d_Tok_byteAt_4 : decode b_Tok_byteAt 4 = .ok (.ifnull 37, 3) := by decide +kernel
theorem d_Tok_byteAt_7 : decode b_Tok_byteAt 7 = .ok (.iload_n 1, 1) := by decide +kernel
theorem d_Tok_byteAt_8 : decode b_Tok_byteAt 8 = .ok (.ifCond .lt 33, 3) := by decide +kernel
theorem d_Tok_byteAt_11 : decode b_Tok_byteAt 11 = .ok (.iload_n 1, 1) := by decide +kernel
theorem d_Tok_byteAt_12 : decode b_Tok_byteAt 12 = .ok (.aload_n 0, 1) := by decide +kernel
theorem d_Tok_byteAt_13 : decode b_Tok_byteAt 13 = .ok (.getfield 47, 3) := by decide +kernel
theorem d_Tok_byteAt_16 : decode b_Tok_byteAt 16 = .ok (.if_icmp .ge 25, 3) := by decide +kernel
theorem d_Tok_byteAt_19 : decode b_Tok_byteAt 19 = .ok (.iload_n 1, 1) := by decide +kernel
theorem d_Tok_byteAt_20 : decode b_Tok_byteAt 20 = .ok (.aload_n 0, 1) := by decide +kernel
theorem d_Tok_byteAt_21 : decode b_Tok_byteAt 21 = .ok (.getfield 43, 3) := by decide +kernel
theorem d_Tok_byteAt_24 : decode b_Tok_byteAt 24 = .ok (.arraylength, 1) := by decide +kernel
theorem d_Tok_byteAt_25 : decode b_Tok_byteAt 25 = .ok (.if_icmp .ge 16, 3) := by decide +kernel
theorem d_Tok_byteAt_28 : decode b_Tok_byteAt 28 = .ok (.aload_n 0, 1) := by decide +kernel
theorem d_Tok_byteAt_29 : decode b_Tok_byteAt 29 = .ok (.getfield 43, 3) := by decide +kernel
theorem d_Tok_byteAt_32 : decode b_Tok_byteAt 32 = .ok (.iload_n 1, 1) := by decide +kernel
theorem d_Tok_byteAt_33 : decode b_Tok_byteAt 33 = .ok (.baload, 1) := by decide +kernel
theorem d_Tok_byteAt_34 : decode b_Tok_byteAt 34 = .ok (.sipush 255, 3) := by decide +kernel
theorem d_Tok_byteAt_37 : decode b_Tok_byteAt 37 = .ok (.iand, 1) := by decide +kernel
theorem d_Tok_byteAt_38 : decode b_Tok_byteAt 38 = .ok (.goto 4, 3) := by decide +kernel
theorem d_Tok_byteAt_41 : decode b_Tok_byteAt 41 = .ok (.iconst (-1), 1) := by decide +kernel
theorem d_Tok_byteAt_42 : decode b_Tok_byteAt 42 = .ok (.ireturn, 1) := by decide +kernel
theorem q_Tok_byteAt : px_y y_Tok_byteAt 1 := by unfold px_y; decide +kernel
set_option maxHeartbeats 4000000 in
set_option maxRecDepth 100000 in
theorem c_Tok_byteAt (l : Launch) (D : va_G) (cs : Nat → ClassId) (h : Nat) (r : Nat → Nat) (tp : Nat) (tb : Nat → Int32) (f : Nat → Int32) (a : Nat → Nat → Int32) (g : Nat → Nat → Option Nat) (i : Int32) (hok : TokOk (f 7) (f 8) (f 10) (f 11) (f 12) (f 13) (f 17) (a 4)) : MetI l y_Tok_byteAt b_Tok_byteAt 2 (.int) D cs 0 0 0 0 [.ref h, .int i] [wd_Tok cs h r (fun _ => some tp) f a g, [(tp, .inl (cs 1, 2048, .inl tb))]] (fun _ => True) (fun v ps => (ps = [wd_Tok cs h r (fun _ => some tp) f a g, [(tp, .inl (cs 1, 2048, .inl tb))]]) ∧ (-1 ≤ v.toInt) ∧ (v.toInt ≤ 255) ∧ (0 ≤ v.toInt → 0 ≤ i.toInt ∧ i.toInt < (f 7).toInt)) := by
  refine px_enter (by decide) (Nat.le_of_ble_eq_true rfl) ?_
  intro p e s m below meth c A ls hAe S hr hlk hnm hA hT hX hw hl
  have hl : lv_has ls 2 [(0, .ref h), (1, .int i)] := hl
  have li := Int32.le_toInt i
  have ui := Int32.toInt_lt i
  have cstm1 : ((-1) : Int32).toInt = (-1) := rfl
  have cst255 : (255 : Int32).toInt = 255 := rfl
  obtain ⟨⟨o1, o2⟩, ⟨o3, o4⟩, ⟨o5, o6⟩, ⟨o7, o8⟩, ⟨o9, o10⟩, ⟨o11, o12⟩, o13, hn4⟩ := hok
  refine lv_aload_n S.x S.b d_Tok_byteAt_0 rfl (lv_at hl 0 rfl) ?_
  refine px_get S k_Tok hT hw 0 0 6 (v := .ref tp) rfl rfl rfl (by decide) m1_109 d_Tok_byteAt_1 ?_
  refine lv_ifnull S.x S.b d_Tok_byteAt_4 ?_
  refine lv_iload_n S.x S.b d_Tok_byteAt_7 rfl (lv_at hl 1 rfl) ?_
  refine lv_if_lt (tgt := 41) S.x S.b d_Tok_byteAt_8 (by decide) (fun c1 => ?_) (fun c1 => ?_)
  · have nc1 : i.toInt < (0 : Int) := (i_lt (x := i) (y := 0)).mp c1
    refine lv_iconst (v := (-1)) S.x S.b d_Tok_byteAt_41 (by decide) ?_
    exact px_iret (v := (-1)) S hr rfl hlk hAe hw (Nat.le_of_ble_eq_true rfl) (Nat.le_of_ble_eq_true rfl) (⟨rfl, (show -1 ≤ (-1 : Int) from by first | decide | omega), (show (-1 : Int) ≤ 255 from by first | decide | omega), (show 0 ≤ (-1 : Int) → 0 ≤ i.toInt ∧ i.toInt < (f 7).toInt from by first | with_reducible rfl | with_reducible assumption | omega)⟩) d_Tok_byteAt_42
  · have nc1 : ¬ i.toInt < (0 : Int) := mt (i_lt (x := i) (y := 0)).mpr c1
    refine lv_iload_n S.x S.b d_Tok_byteAt_11 rfl (lv_at hl 1 rfl) ?_
    refine lv_aload_n S.x S.b d_Tok_byteAt_12 rfl (lv_at hl 0 rfl) ?_
    refine px_get S k_Tok hT hw 0 0 7 (v := .int (f 7)) rfl rfl rfl (by decide) m1_110 d_Tok_byteAt_13 ?_
    refine lv_icmp_ge (tgt := 41) S.x S.b d_Tok_byteAt_16 (by decide) (fun c2 => ?_) (fun c2 => ?_)
    · have nc2 : (f 7).toInt ≤ i.toInt := (i_le (x := (f 7)) (y := i)).mp c2
      refine lv_iconst (v := (-1)) S.x S.b d_Tok_byteAt_41 (by decide) ?_
      exact px_iret (v := (-1)) S hr rfl hlk hAe hw (Nat.le_of_ble_eq_true rfl) (Nat.le_of_ble_eq_true rfl) (⟨rfl, (show -1 ≤ (-1 : Int) from by first | decide | omega), (show (-1 : Int) ≤ 255 from by first | decide | omega), (show 0 ≤ (-1 : Int) → 0 ≤ i.toInt ∧ i.toInt < (f 7).toInt from by first | with_reducible rfl | with_reducible assumption | omega)⟩) d_Tok_byteAt_42
    · have nc2 : ¬ (f 7).toInt ≤ i.toInt := mt (i_le (x := (f 7)) (y := i)).mpr c2
      refine lv_iload_n S.x S.b d_Tok_byteAt_19 rfl (lv_at hl 1 rfl) ?_
      refine lv_aload_n S.x S.b d_Tok_byteAt_20 rfl (lv_at hl 0 rfl) ?_
      refine px_get S k_Tok hT hw 0 0 6 (v := .ref tp) rfl rfl rfl (by decide) m1_109 d_Tok_byteAt_21 ?_
      refine px_len S hT hw 1 0 1 rfl rfl rfl (v := 2048) rfl d_Tok_byteAt_24 ?_
      refine lv_icmp_ge (tgt := 41) S.x S.b d_Tok_byteAt_25 (by decide) (fun c3 => ?_) (fun c3 => ?_)
      · have nc3 : (2048 : Int) ≤ i.toInt := (i_le (x := 2048) (y := i)).mp c3
        refine lv_iconst (v := (-1)) S.x S.b d_Tok_byteAt_41 (by decide) ?_
        exact px_iret (v := (-1)) S hr rfl hlk hAe hw (Nat.le_of_ble_eq_true rfl) (Nat.le_of_ble_eq_true rfl) (⟨rfl, (show -1 ≤ (-1 : Int) from by first | decide | omega), (show (-1 : Int) ≤ 255 from by first | decide | omega), (show 0 ≤ (-1 : Int) → 0 ≤ i.toInt ∧ i.toInt < (f 7).toInt from by first | with_reducible rfl | with_reducible assumption | omega)⟩) d_Tok_byteAt_42
      · have nc3 : ¬ (2048 : Int) ≤ i.toInt := mt (i_le (x := 2048) (y := i)).mpr c3
        refine lv_aload_n S.x S.b d_Tok_byteAt_28 rfl (lv_at hl 0 rfl) ?_
        refine px_get S k_Tok hT hw 0 0 6 (v := .ref tp) rfl rfl rfl (by decide) m1_109 d_Tok_byteAt_29 ?_
        refine lv_iload_n S.x S.b d_Tok_byteAt_32 rfl (lv_at hl 1 rfl) ?_
        refine px_bald S hT hw 1 0 (n := 2048) (f := tb) rfl rfl (x := i) (vp_in_iff.mpr (by first | exact oz_f4db95235a nc1 nc3 | (constructor <;> omega))) d_Tok_byteAt_33 ?_
        refine lv_topi (fun z4 ez4 => ?_)
        have lz4 := Int32.le_toInt z4
        have uz4 := Int32.toInt_lt z4
        refine lv_sipush (v := 255) S.x S.b d_Tok_byteAt_34 (by decide) ?_
        refine lv_iand S.x S.b d_Tok_byteAt_37 ?_
        refine lv_topi (fun z5 ez5 => ?_)
        have lz5 := Int32.le_toInt z5
        have uz5 := Int32.toInt_lt z5
        have bz5 := i_andm z4 (m := 255) 8 (by decide) (by decide)
        rw [← ez5] at bz5
        have wz5 : 0 ≤ z5.toInt ∧ z5.toInt ≤ 255 := by simp only [Nat.reducePow, Int.reducePow] at bz5; omega
        refine lv_goto (tgt := 42) S.x S.b d_Tok_byteAt_38 (by decide) ?_
        first | exact px_iret (v := z5) S hr rfl hlk hAe hw (Nat.le_of_ble_eq_true rfl) (Nat.le_of_ble_eq_true rfl) (⟨rfl, (show -1 ≤ z5.toInt from (oz_bd82420902 wz5.1)), (show z5.toInt ≤ 255 from wz5.2), (show 0 ≤ z5.toInt → 0 ≤ i.toInt ∧ i.toInt < (f 7).toInt from (fun q9 => oz_a1372f8c53 nc1 nc2))⟩) d_Tok_byteAt_42 | exact px_iret (v := z5) S hr rfl hlk hAe hw (Nat.le_of_ble_eq_true rfl) (Nat.le_of_ble_eq_true rfl) (⟨rfl, (show -1 ≤ z5.toInt from by first | exact oz_bd82420902 wz5.1 | omega), (show z5.toInt ≤ 255 from by first | exact wz5.2 | omega), (show 0 ≤ z5.toInt → 0 ≤ i.toInt ∧ i.toInt < (f 7).toInt from by first | exact fun q9 => oz_a1372f8c53 nc1 nc2 | omega)⟩) d_Tok_byteAt_42
abbrev b_Tok_isLetter : ByteArray := prog_12_method_8_code
def y_Tok_isLetter : MethodName := ⟨"HomeSystem$Tokens", "isLetter", "(I)Z"⟩
theorem d_Tok_isLetter_0 : decode b_Tok_isLetter 0 = .ok (.iload_n 0, 1) := by decide +kernel
theorem d_Tok_isLetter_1 : decode b_Tok_isLetter 1 = .ok (.bipush 97, 2) := by decide +kernel
theorem d_Tok_isLetter_3 : decode b_Tok_isLetter 3 = .ok (.if_icmp .lt 9, 3) := by decide +kernel
theorem d_Tok_isLetter_6 : decode b_Tok_isLetter 6 = .ok (.iload_n 0, 1) := by decide +kernel
theorem d_Tok_isLetter_7 : decode b_Tok_isLetter 7 = .ok (.bipush 122, 2) := by decide +kernel
theorem d_Tok_isLetter_9 : decode b_Tok_isLetter 9 = .ok (.if_icmp .le 21, 3) := by decide +kernel
theorem d_Tok_isLetter_12 : decode b_Tok_isLetter 12 = .ok (.iload_n 0, 1) := by decide +kernel
theorem d_Tok_isLetter_13 : decode b_Tok_isLetter 13 = .ok (.bipush 65, 2) := by decide +kernel
theorem d_Tok_isLetter_15 : decode b_Tok_isLetter 15 = .ok (.if_icmp .lt 9, 3) := by decide +kernel
theorem d_Tok_isLetter_18 : decode b_Tok_isLetter 18 = .ok (.iload_n 0, 1) := by decide +kernel
theorem d_Tok_isLetter_19 : decode b_Tok_isLetter 19 = .ok (.bipush 90, 2) := by decide +kernel
theorem d_Tok_isLetter_21 : decode b_Tok_isLetter 21 = .ok (.if_icmp .le 9, 3) := by decide +kernel
theorem d_Tok_isLetter_24 : decode b_Tok_isLetter 24 = .ok (.iload_n 0, 1) := by decide +kernel
theorem d_Tok_isLetter_25 : decode b_Tok_isLetter 25 = .ok (.bipush 95, 2) := by decide +kernel
theorem d_Tok_isLetter_27 : decode b_Tok_isLetter 27 = .ok (.if_icmp .ne 7, 3) := by decide +kernel
theorem d_Tok_isLetter_30 : decode b_Tok_isLetter 30 = .ok (.iconst 1, 1) := by decide +kernel
theorem d_Tok_isLetter_31 : decode b_Tok_isLetter 31 = .ok (.goto 4, 3) := by decide +kernel
theorem d_Tok_isLetter_34 : decode b_Tok_isLetter 34 = .ok (.iconst 0, 1) := by decide +kernel
theorem d_Tok_isLetter_35 : decode b_Tok_isLetter 35 = .ok (.ireturn, 1) := by decide +kernel
theorem q_Tok_isLetter : px_y y_Tok_isLetter 1 := by unfold px_y; decide +kernel
abbrev b_Tok_isDigit : ByteArray := prog_12_method_9_code
def y_Tok_isDigit : MethodName := ⟨"HomeSystem$Tokens", "isDigit", "(I)Z"⟩
theorem d_Tok_isDigit_0 : decode b_Tok_isDigit 0 = .ok (.iload_n 0, 1) := by decide +kernel
theorem d_Tok_isDigit_1 : decode b_Tok_isDigit 1 = .ok (.bipush 48, 2) := by decide +kernel
theorem d_Tok_isDigit_3 : decode b_Tok_isDigit 3 = .ok (.if_icmp .lt 13, 3) := by decide +kernel
theorem d_Tok_isDigit_6 : decode b_Tok_isDigit 6 = .ok (.iload_n 0, 1) := by decide +kernel
theorem d_Tok_isDigit_7 : decode b_Tok_isDigit 7 = .ok (.bipush 57, 2) := by decide +kernel
theorem d_Tok_isDigit_9 : decode b_Tok_isDigit 9 = .ok (.if_icmp .gt 7, 3) := by decide +kernel
theorem d_Tok_isDigit_12 : decode b_Tok_isDigit 12 = .ok (.iconst 1, 1) := by decide +kernel
theorem d_Tok_isDigit_13 : decode b_Tok_isDigit 13 = .ok (.goto 4, 3) := by decide +kernel
theorem d_Tok_isDigit_16 : decode b_Tok_isDigit 16 = .ok (.iconst 0, 1) := by decide +kernel
theorem d_Tok_isDigit_17 : decode b_Tok_isDigit 17 = .ok (.ireturn, 1) := by decide +kernel
theorem q_Tok_isDigit : px_y y_Tok_isDigit 1 := by unfold px_y; decide +kernel
set_option maxHeartbeats 4000000 in
set_option maxRecDepth 100000 in
theorem c_Tok_isDigit (l : Launch) (D : va_G) (cs : Nat → ClassId)  (i : Int32)  : MetI l y_Tok_isDigit b_Tok_isDigit 1 (.boolean) D cs 0 0 0 0 [.int i] [] (fun _ => True) (fun v ps => (ps = []) ∧ (v = 0 ∨ v = 1)) := by
  refine px_enter (by decide) (Nat.le_of_ble_eq_true rfl) ?_
  intro p e s m below meth c A ls hAe S hr hlk hnm hA hT hX hw hl
  have hl : lv_has ls 1 [(0, .int i)] := hl
  have li := Int32.le_toInt i
  have ui := Int32.toInt_lt i
  have cst0 : (0 : Int32).toInt = 0 := rfl
  have cst1 : (1 : Int32).toInt = 1 := rfl
  have cst48 : (48 : Int32).toInt = 48 := rfl
  have cst57 : (57 : Int32).toInt = 57 := rfl
  refine lv_iload_n S.x S.b d_Tok_isDigit_0 rfl (lv_at hl 0 rfl) ?_
  refine lv_bipush (v := 48) S.x S.b d_Tok_isDigit_1 (by decide) ?_
  refine lv_icmp_lt (tgt := 16) S.x S.b d_Tok_isDigit_3 (by decide) (fun c1 => ?_) (fun c1 => ?_)
  · have nc1 : i.toInt < (48 : Int) := (i_lt (x := i) (y := 48)).mp c1
    refine lv_iconst (v := 0) S.x S.b d_Tok_isDigit_16 (by decide) ?_
    exact px_iret (v := 0) S hr rfl hlk hAe hw (Nat.le_of_ble_eq_true rfl) (Nat.le_of_ble_eq_true rfl) (⟨rfl, (show (0 : Int32) = 0 ∨ (0 : Int32) = 1 from by first | exact Or.inl rfl | exact Or.inr rfl | exact z_or (by omega))⟩) d_Tok_isDigit_17
  · have nc1 : ¬ i.toInt < (48 : Int) := mt (i_lt (x := i) (y := 48)).mpr c1
    refine lv_iload_n S.x S.b d_Tok_isDigit_6 rfl (lv_at hl 0 rfl) ?_
    refine lv_bipush (v := 57) S.x S.b d_Tok_isDigit_7 (by decide) ?_
    refine lv_icmp_gt (tgt := 16) S.x S.b d_Tok_isDigit_9 (by decide) (fun c2 => ?_) (fun c2 => ?_)
    · have nc2 : (57 : Int) < i.toInt := (i_lt (x := 57) (y := i)).mp c2
      refine lv_iconst (v := 0) S.x S.b d_Tok_isDigit_16 (by decide) ?_
      exact px_iret (v := 0) S hr rfl hlk hAe hw (Nat.le_of_ble_eq_true rfl) (Nat.le_of_ble_eq_true rfl) (⟨rfl, (show (0 : Int32) = 0 ∨ (0 : Int32) = 1 from by first | exact Or.inl rfl | exact Or.inr rfl | exact z_or (by omega))⟩) d_Tok_isDigit_17
    · have nc2 : ¬ (57 : Int) < i.toInt := mt (i_lt (x := 57) (y := i)).mpr c2
      refine lv_iconst (v := 1) S.x S.b d_Tok_isDigit_12 (by decide) ?_
      refine lv_goto (tgt := 17) S.x S.b d_Tok_isDigit_13 (by decide) ?_
      exact px_iret (v := 1) S hr rfl hlk hAe hw (Nat.le_of_ble_eq_true rfl) (Nat.le_of_ble_eq_true rfl) (⟨rfl, (show (1 : Int32) = 0 ∨ (1 : Int32) = 1 from by first | exact Or.inl rfl | exact Or.inr rfl | exact z_or (by omega))⟩) d_Tok_isDigit_17
abbrev b_Tok_quotedWidth : ByteArray := prog_12_method_16_code
def y_Tok_quotedWidth : MethodName := ⟨"HomeSystem$Tokens", "quotedWidth", "(I)I"⟩
theorem d_Tok_quotedWidth_0 : decode b_Tok_quotedWidth 0 = .ok (.aload_n 0, 1) := by decide +kernel
theorem d_Tok_quotedWidth_1 : decode b_Tok_quotedWidth 1 = .ok (.iload_n 1, 1) := by decide +kernel
theorem d_Tok_quotedWidth_2 : decode b_Tok_quotedWidth 2 = .ok (.invokevirtual 73, 3) := by decide +kernel
theorem d_Tok_quotedWidth_5 : decode b_Tok_quotedWidth 5 = .ok (.bipush 92, 2) := by decide +kernel
theorem d_Tok_quotedWidth_7 : decode b_Tok_quotedWidth 7 = .ok (.if_icmp .ne 7, 3) := by decide +kernel
theorem d_Tok_quotedWidth_10 : decode b_Tok_quotedWidth 10 = .ok (.iconst 2, 1) := by decide +kernel
theorem d_Tok_quotedWidth_11 : decode b_Tok_quotedWidth 11 = .ok (.goto 4, 3) := by decide +kernel
theorem d_Tok_quotedWidth_14 : decode b_Tok_quotedWidth 14 = .ok (.iconst 1, 1) := by decide +kernel
theorem d_Tok_quotedWidth_15 : decode b_Tok_quotedWidth 15 = .ok (.ireturn, 1) := by decide +kernel
theorem q_Tok_quotedWidth : px_y y_Tok_quotedWidth 1 := by unfold px_y; decide +kernel
set_option maxHeartbeats 4000000 in
set_option maxRecDepth 100000 in
theorem c_Tok_quotedWidth (l : Launch) (D : va_G) (cs : Nat → ClassId) (h : Nat) (r : Nat → Nat) (tp : Nat) (tb : Nat → Int32) (f : Nat → Int32) (a : Nat → Nat → Int32) (g : Nat → Nat → Option Nat) (i : Int32) (hok : TokOk (f 7) (f 8) (f 10) (f 11) (f 12) (f 13) (f 17) (a 4)) : MetI l y_Tok_quotedWidth b_Tok_quotedWidth 2 (.int) D cs 1 22 0 0 [.ref h, .int i] [wd_Tok cs h r (fun _ => some tp) f a g, [(tp, .inl (cs 1, 2048, .inl tb))]] (fun _ => True) (fun v ps => (ps = [wd_Tok cs h r (fun _ => some tp) f a g, [(tp, .inl (cs 1, 2048, .inl tb))]]) ∧ (1 ≤ v.toInt) ∧ (v.toInt ≤ 2)) := by
  refine px_enter (by decide) (Nat.le_of_ble_eq_true rfl) ?_
  intro p e s m below meth c A ls hAe S hr hlk hnm hA hT hX hw hl
  have hl : lv_has ls 2 [(0, .ref h), (1, .int i)] := hl
  have li := Int32.le_toInt i
  have ui := Int32.toInt_lt i
  have cst1 : (1 : Int32).toInt = 1 := rfl
  have cst2 : (2 : Int32).toInt = 2 := rfl
  have cst92 : (92 : Int32).toInt = 92 := rfl
  obtain ⟨⟨o1, o2⟩, ⟨o3, o4⟩, ⟨o5, o6⟩, ⟨o7, o8⟩, ⟨o9, o10⟩, ⟨o11, o12⟩, o13, hn4⟩ := hok
  refine lv_aload_n S.x S.b d_Tok_quotedWidth_0 rfl (lv_at hl 0 rfl) ?_
  refine lv_iload_n S.x S.b d_Tok_quotedWidth_1 rfl (lv_at hl 1 rfl) ?_
  first | refine px_calli (pr := []) (px_runV (As := [.int i]) (rest := []) S (c_Tok_byteAt l D cs h r tp tb f a g i (show TokOk (f 7) (f 8) (f 10) (f 11) (f 12) (f 13) (f 17) (a 4) from ⟨⟨o1, o2⟩, ⟨o3, o4⟩, ⟨o5, o6⟩, ⟨o7, o8⟩, ⟨o9, o10⟩, ⟨o11, o12⟩, o13, hn4⟩)  _) hT (pr := []) (pcs := [wd_Tok cs h r (fun _ => some tp) f a g, [(tp, .inl (cs 1, 2048, .inl tb))]]) hw px_X.tt (px_recv hT hw 0 0 rfl rfl rfl) m3_186 m3_183 m3_185 ms_1_6 m1_2 q_Tok_byteAt ⟨Nat.le_of_ble_eq_true rfl, Nat.le_of_ble_eq_true rfl⟩ hl.1 rfl (Nat.le_of_ble_eq_true rfl) d_Tok_quotedWidth_2 ⟨Nat.le_of_ble_eq_true rfl, Nat.le_of_ble_eq_true rfl⟩) hw hA (fun v4 p3 H locs hp3 hw => ?_) | refine px_calli (pr := []) (px_runV (As := [.int i]) (rest := []) S (c_Tok_byteAt l D cs h r tp tb f a g i (show TokOk (f 7) (f 8) (f 10) (f 11) (f 12) (f 13) (f 17) (a 4) from ⟨⟨by first | exact o1 | omega, by first | exact o2 | omega⟩, ⟨by first | exact o3 | omega, by first | exact o4 | omega⟩, ⟨by first | exact o5 | omega, by first | exact o6 | omega⟩, ⟨by first | exact o7 | omega, by first | exact o8 | omega⟩, ⟨by first | exact o9 | omega, by first | exact o10 | omega⟩, ⟨by first | exact o11 | omega, by first | exact o12 | omega⟩, by first | exact o13 | omega, hn4⟩)  _) hT (pr := []) (pcs := [wd_Tok cs h r (fun _ => some tp) f a g, [(tp, .inl (cs 1, 2048, .inl tb))]]) hw px_X.tt (px_recv hT hw 0 0 rfl rfl rfl) m3_186 m3_183 m3_185 ms_1_6 m1_2 q_Tok_byteAt ⟨Nat.le_of_ble_eq_true rfl, Nat.le_of_ble_eq_true rfl⟩ hl.1 rfl (Nat.le_of_ble_eq_true rfl) d_Tok_quotedWidth_2 ⟨Nat.le_of_ble_eq_true rfl, Nat.le_of_ble_eq_true rfl⟩) hw hA (fun v4 p3 H locs hp3 hw => ?_)
  obtain ⟨rfl, e5, e6, e7⟩ := hp3
  have e5 : -1 ≤ v4.toInt := e5
  have e6 : v4.toInt ≤ 255 := e6
  have e7 : 0 ≤ v4.toInt → 0 ≤ i.toInt ∧ i.toInt < (f 7).toInt := e7
  have lv4 := Int32.le_toInt v4
  have uv4 := Int32.toInt_lt v4
  refine lv_bipush (v := 92) S.x S.b d_Tok_quotedWidth_5 (by decide) ?_
  refine lv_icmp_ne (tgt := 14) S.x S.b d_Tok_quotedWidth_7 (by decide) (fun c8 => ?_) (fun c8 => ?_)
  · have nc8 : ¬ v4.toInt = (92 : Int) := mt (i_eq (x := v4) (y := 92)).mpr c8
    refine lv_iconst (v := 1) S.x S.b d_Tok_quotedWidth_14 (by decide) ?_
    exact px_iret (v := 1) S hr rfl hlk hAe hw (Nat.le_of_ble_eq_true rfl) (Nat.le_of_ble_eq_true rfl) (⟨rfl, (show 1 ≤ (1 : Int) from by first | decide | omega), (show (1 : Int) ≤ 2 from by first | decide | omega)⟩) d_Tok_quotedWidth_15
  · have nc8 : v4.toInt = (92 : Int) := (i_eq (x := v4) (y := 92)).mp c8
    refine lv_iconst (v := 2) S.x S.b d_Tok_quotedWidth_10 (by decide) ?_
    refine lv_goto (tgt := 15) S.x S.b d_Tok_quotedWidth_11 (by decide) ?_
    exact px_iret (v := 2) S hr rfl hlk hAe hw (Nat.le_of_ble_eq_true rfl) (Nat.le_of_ble_eq_true rfl) (⟨rfl, (show 1 ≤ (2 : Int) from by first | decide | omega), (show (2 : Int) ≤ 2 from by first | decide | omega)⟩) d_Tok_quotedWidth_15
abbrev b_Tok_lineEnd : ByteArray := prog_12_method_5_code
def y_Tok_lineEnd : MethodName := ⟨"HomeSystem$Tokens", "lineEnd", "()I"⟩
theorem d_Tok_lineEnd_0 : decode b_Tok_lineEnd 0 = .ok (.aload_n 0, 1) := by decide +kernel
theorem d_Tok_lineEnd_1 : decode b_Tok_lineEnd 1 = .ok (.getfield 50, 3) := by decide +kernel
theorem d_Tok_lineEnd_4 : decode b_Tok_lineEnd 4 = .ok (.istore_n 1, 1) := by decide +kernel
theorem d_Tok_lineEnd_5 : decode b_Tok_lineEnd 5 = .ok (.iload_n 1, 1) := by decide +kernel
theorem d_Tok_lineEnd_6 : decode b_Tok_lineEnd 6 = .ok (.aload_n 0, 1) := by decide +kernel
theorem d_Tok_lineEnd_7 : decode b_Tok_lineEnd 7 = .ok (.getfield 47, 3) := by decide +kernel
theorem d_Tok_lineEnd_10 : decode b_Tok_lineEnd 10 = .ok (.if_icmp .ge 21, 3) := by decide +kernel
theorem d_Tok_lineEnd_13 : decode b_Tok_lineEnd 13 = .ok (.aload_n 0, 1) := by decide +kernel
theorem d_Tok_lineEnd_14 : decode b_Tok_lineEnd 14 = .ok (.iload_n 1, 1) := by decide +kernel
theorem d_Tok_lineEnd_15 : decode b_Tok_lineEnd 15 = .ok (.invokevirtual 73, 3) := by decide +kernel
theorem d_Tok_lineEnd_18 : decode b_Tok_lineEnd 18 = .ok (.bipush 10, 2) := by decide +kernel
theorem d_Tok_lineEnd_20 : decode b_Tok_lineEnd 20 = .ok (.if_icmp .ne 5, 3) := by decide +kernel
theorem d_Tok_lineEnd_23 : decode b_Tok_lineEnd 23 = .ok (.iload_n 1, 1) := by decide +kernel
theorem d_Tok_lineEnd_24 : decode b_Tok_lineEnd 24 = .ok (.ireturn, 1) := by decide +kernel
theorem d_Tok_lineEnd_25 : decode b_Tok_lineEnd 25 = .ok (.iinc 1 1, 3) := by decide +kernel
theorem d_Tok_lineEnd_28 : decode b_Tok_lineEnd 28 = .ok (.goto (-23), 3) := by decide +kernel
theorem d_Tok_lineEnd_31 : decode b_Tok_lineEnd 31 = .ok (.aload_n 0, 1) := by decide +kernel
theorem d_Tok_lineEnd_32 : decode b_Tok_lineEnd 32 = .ok (.getfield 47, 3) := by decide +kernel
theorem d_Tok_lineEnd_35 : decode b_Tok_lineEnd 35 = .ok (.ireturn, 1) := by decide +kernel
theorem q_Tok_lineEnd : px_y y_Tok_lineEnd 0 := by unfold px_y; decide +kernel
abbrev b_Tok_commentEnd : ByteArray := prog_12_method_6_code
def y_Tok_commentEnd : MethodName := ⟨"HomeSystem$Tokens", "commentEnd", "()I"⟩
theorem d_Tok_commentEnd_0 : decode b_Tok_commentEnd 0 = .ok (.aload_n 0, 1) := by decide +kernel
theorem d_Tok_commentEnd_1 : decode b_Tok_commentEnd 1 = .ok (.getfield 50, 3) := by decide +kernel
theorem d_Tok_commentEnd_4 : decode b_Tok_commentEnd 4 = .ok (.iconst 2, 1) := by decide +kernel
theorem d_Tok_commentEnd_5 : decode b_Tok_commentEnd 5 = .ok (.iadd, 1) := by decide +kernel
theorem d_Tok_commentEnd_6 : decode b_Tok_commentEnd 6 = .ok (.istore_n 1, 1) := by decide +kernel
theorem d_Tok_commentEnd_7 : decode b_Tok_commentEnd 7 = .ok (.iload_n 1, 1) := by decide +kernel
theorem d_Tok_commentEnd_8 : decode b_Tok_commentEnd 8 = .ok (.aload_n 0, 1) := by decide +kernel
theorem d_Tok_commentEnd_9 : decode b_Tok_commentEnd 9 = .ok (.getfield 47, 3) := by decide +kernel
theorem d_Tok_commentEnd_12 : decode b_Tok_commentEnd 12 = .ok (.iconst 1, 1) := by decide +kernel
theorem d_Tok_commentEnd_13 : decode b_Tok_commentEnd 13 = .ok (.isub, 1) := by decide +kernel
theorem d_Tok_commentEnd_14 : decode b_Tok_commentEnd 14 = .ok (.if_icmp .ge 35, 3) := by decide +kernel
theorem d_Tok_commentEnd_17 : decode b_Tok_commentEnd 17 = .ok (.aload_n 0, 1) := by decide +kernel
theorem d_Tok_commentEnd_18 : decode b_Tok_commentEnd 18 = .ok (.iload_n 1, 1) := by decide +kernel
theorem d_Tok_commentEnd_19 : decode b_Tok_commentEnd 19 = .ok (.invokevirtual 73, 3) := by decide +kernel
theorem d_Tok_commentEnd_22 : decode b_Tok_commentEnd 22 = .ok (.bipush 42, 2) := by decide +kernel
theorem d_Tok_commentEnd_24 : decode b_Tok_commentEnd 24 = .ok (.if_icmp .ne 19, 3) := by decide +kernel
theorem d_Tok_commentEnd_27 : decode b_Tok_commentEnd 27 = .ok (.aload_n 0, 1) := by decide +kernel
theorem d_Tok_commentEnd_28 : decode b_Tok_commentEnd 28 = .ok (.iload_n 1, 1) := by decide +kernel
theorem d_Tok_commentEnd_29 : decode b_Tok_commentEnd 29 = .ok (.iconst 1, 1) := by decide +kernel
theorem d_Tok_commentEnd_30 : decode b_Tok_commentEnd 30 = .ok (.iadd, 1) := by decide +kernel
theorem d_Tok_commentEnd_31 : decode b_Tok_commentEnd 31 = .ok (.invokevirtual 73, 3) := by decide +kernel
theorem d_Tok_commentEnd_34 : decode b_Tok_commentEnd 34 = .ok (.bipush 47, 2) := by decide +kernel
theorem d_Tok_commentEnd_36 : decode b_Tok_commentEnd 36 = .ok (.if_icmp .ne 7, 3) := by decide +kernel
theorem d_Tok_commentEnd_39 : decode b_Tok_commentEnd 39 = .ok (.iload_n 1, 1) := by decide +kernel
theorem d_Tok_commentEnd_40 : decode b_Tok_commentEnd 40 = .ok (.iconst 2, 1) := by decide +kernel
theorem d_Tok_commentEnd_41 : decode b_Tok_commentEnd 41 = .ok (.iadd, 1) := by decide +kernel
theorem d_Tok_commentEnd_42 : decode b_Tok_commentEnd 42 = .ok (.ireturn, 1) := by decide +kernel
theorem d_Tok_commentEnd_43 : decode b_Tok_commentEnd 43 = .ok (.iinc 1 1, 3) := by decide +kernel
theorem d_Tok_commentEnd_46 : decode b_Tok_commentEnd 46 = .ok (.goto (-39), 3) := by decide +kernel
theorem d_Tok_commentEnd_49 : decode b_Tok_commentEnd 49 = .ok (.aload_n 0, 1) := by decide +kernel
theorem d_Tok_commentEnd_50 : decode b_Tok_commentEnd 50 = .ok (.getfield 50, 3) := by decide +kernel
theorem d_Tok_commentEnd_53 : decode b_Tok_commentEnd 53 = .ok (.ireturn, 1) := by decide +kernel
theorem q_Tok_commentEnd : px_y y_Tok_commentEnd 0 := by unfold px_y; decide +kernel
abbrev b_Tok_skip : ByteArray := prog_12_method_4_code
def y_Tok_skip : MethodName := ⟨"HomeSystem$Tokens", "skip", "()V"⟩
theorem d_Tok_skip_0 : decode b_Tok_skip 0 = .ok (.iconst 1, 1) := by decide +kernel
theorem d_Tok_skip_1 : decode b_Tok_skip 1 = .ok (.istore_n 1, 1) := by decide +kernel
theorem d_Tok_skip_2 : decode b_Tok_skip 2 = .ok (.iconst 0, 1) := by decide +kernel
theorem d_Tok_skip_3 : decode b_Tok_skip 3 = .ok (.istore_n 2, 1) := by decide +kernel
theorem d_Tok_skip_4 : decode b_Tok_skip 4 = .ok (.iload_n 2, 1) := by decide +kernel
theorem d_Tok_skip_5 : decode b_Tok_skip 5 = .ok (.aload_n 0, 1) := by decide +kernel
theorem d_Tok_skip_6 : decode b_Tok_skip 6 = .ok (.getfield 47, 3) := by decide +kernel
theorem d_Tok_skip_9 : decode b_Tok_skip 9 = .ok (.if_icmp .gt 141, 3) := by decide +kernel
theorem d_Tok_skip_12 : decode b_Tok_skip 12 = .ok (.iload_n 1, 1) := by decide +kernel
theorem d_Tok_skip_13 : decode b_Tok_skip 13 = .ok (.ifCond .eq 137, 3) := by decide +kernel
theorem d_Tok_skip_16 : decode b_Tok_skip 16 = .ok (.aload_n 0, 1) := by decide +kernel
theorem d_Tok_skip_17 : decode b_Tok_skip 17 = .ok (.aload_n 0, 1) := by decide +kernel
theorem d_Tok_skip_18 : decode b_Tok_skip 18 = .ok (.getfield 50, 3) := by decide +kernel
theorem d_Tok_skip_21 : decode b_Tok_skip 21 = .ok (.invokevirtual 73, 3) := by decide +kernel
theorem d_Tok_skip_24 : decode b_Tok_skip 24 = .ok (.istore_n 3, 1) := by decide +kernel
theorem d_Tok_skip_25 : decode b_Tok_skip 25 = .ok (.aload_n 0, 1) := by decide +kernel
theorem d_Tok_skip_26 : decode b_Tok_skip 26 = .ok (.getfield 50, 3) := by decide +kernel
theorem d_Tok_skip_29 : decode b_Tok_skip 29 = .ok (.istore 4, 2) := by decide +kernel
theorem d_Tok_skip_31 : decode b_Tok_skip 31 = .ok (.iload_n 3, 1) := by decide +kernel
theorem d_Tok_skip_32 : decode b_Tok_skip 32 = .ok (.bipush 32, 2) := by decide +kernel
theorem d_Tok_skip_34 : decode b_Tok_skip 34 = .ok (.if_icmp .eq 21, 3) := by decide +kernel
theorem d_Tok_skip_37 : decode b_Tok_skip 37 = .ok (.iload_n 3, 1) := by decide +kernel
theorem d_Tok_skip_38 : decode b_Tok_skip 38 = .ok (.bipush 9, 2) := by decide +kernel
theorem d_Tok_skip_40 : decode b_Tok_skip 40 = .ok (.if_icmp .eq 15, 3) := by decide +kernel
theorem d_Tok_skip_43 : decode b_Tok_skip 43 = .ok (.iload_n 3, 1) := by decide +kernel
theorem d_Tok_skip_44 : decode b_Tok_skip 44 = .ok (.bipush 10, 2) := by decide +kernel
theorem d_Tok_skip_46 : decode b_Tok_skip 46 = .ok (.if_icmp .eq 9, 3) := by decide +kernel
theorem d_Tok_skip_49 : decode b_Tok_skip 49 = .ok (.iload_n 3, 1) := by decide +kernel
theorem d_Tok_skip_50 : decode b_Tok_skip 50 = .ok (.bipush 13, 2) := by decide +kernel
theorem d_Tok_skip_52 : decode b_Tok_skip 52 = .ok (.if_icmp .ne 14, 3) := by decide +kernel
theorem d_Tok_skip_55 : decode b_Tok_skip 55 = .ok (.aload_n 0, 1) := by decide +kernel
theorem d_Tok_skip_56 : decode b_Tok_skip 56 = .ok (.getfield 50, 3) := by decide +kernel
theorem d_Tok_skip_59 : decode b_Tok_skip 59 = .ok (.iconst 1, 1) := by decide +kernel
theorem d_Tok_skip_60 : decode b_Tok_skip 60 = .ok (.iadd, 1) := by decide +kernel
theorem d_Tok_skip_61 : decode b_Tok_skip 61 = .ok (.istore 4, 2) := by decide +kernel
theorem d_Tok_skip_63 : decode b_Tok_skip 63 = .ok (.goto 60, 3) := by decide +kernel
theorem d_Tok_skip_66 : decode b_Tok_skip 66 = .ok (.iload_n 3, 1) := by decide +kernel
theorem d_Tok_skip_67 : decode b_Tok_skip 67 = .ok (.bipush 47, 2) := by decide +kernel
theorem d_Tok_skip_69 : decode b_Tok_skip 69 = .ok (.if_icmp .ne 27, 3) := by decide +kernel
theorem d_Tok_skip_72 : decode b_Tok_skip 72 = .ok (.aload_n 0, 1) := by decide +kernel
theorem d_Tok_skip_73 : decode b_Tok_skip 73 = .ok (.aload_n 0, 1) := by decide +kernel
theorem d_Tok_skip_74 : decode b_Tok_skip 74 = .ok (.getfield 50, 3) := by decide +kernel
theorem d_Tok_skip_77 : decode b_Tok_skip 77 = .ok (.iconst 1, 1) := by decide +kernel
theorem d_Tok_skip_78 : decode b_Tok_skip 78 = .ok (.iadd, 1) := by decide +kernel
theorem d_Tok_skip_79 : decode b_Tok_skip 79 = .ok (.invokevirtual 73, 3) := by decide +kernel
theorem d_Tok_skip_82 : decode b_Tok_skip 82 = .ok (.bipush 47, 2) := by decide +kernel
theorem d_Tok_skip_84 : decode b_Tok_skip 84 = .ok (.if_icmp .ne 12, 3) := by decide +kernel
theorem d_Tok_skip_87 : decode b_Tok_skip 87 = .ok (.aload_n 0, 1) := by decide +kernel
theorem d_Tok_skip_88 : decode b_Tok_skip 88 = .ok (.invokevirtual 77, 3) := by decide +kernel
theorem d_Tok_skip_91 : decode b_Tok_skip 91 = .ok (.istore 4, 2) := by decide +kernel
theorem d_Tok_skip_93 : decode b_Tok_skip 93 = .ok (.goto 30, 3) := by decide +kernel
theorem d_Tok_skip_96 : decode b_Tok_skip 96 = .ok (.iload_n 3, 1) := by decide +kernel
theorem d_Tok_skip_97 : decode b_Tok_skip 97 = .ok (.bipush 47, 2) := by decide +kernel
theorem d_Tok_skip_99 : decode b_Tok_skip 99 = .ok (.if_icmp .ne 24, 3) := by decide +kernel
theorem d_Tok_skip_102 : decode b_Tok_skip 102 = .ok (.aload_n 0, 1) := by decide +kernel
theorem d_Tok_skip_103 : decode b_Tok_skip 103 = .ok (.aload_n 0, 1) := by decide +kernel
theorem d_Tok_skip_104 : decode b_Tok_skip 104 = .ok (.getfield 50, 3) := by decide +kernel
theorem d_Tok_skip_107 : decode b_Tok_skip 107 = .ok (.iconst 1, 1) := by decide +kernel
theorem d_Tok_skip_108 : decode b_Tok_skip 108 = .ok (.iadd, 1) := by decide +kernel
theorem d_Tok_skip_109 : decode b_Tok_skip 109 = .ok (.invokevirtual 73, 3) := by decide +kernel
theorem d_Tok_skip_112 : decode b_Tok_skip 112 = .ok (.bipush 42, 2) := by decide +kernel
theorem d_Tok_skip_114 : decode b_Tok_skip 114 = .ok (.if_icmp .ne 9, 3) := by decide +kernel
theorem d_Tok_skip_117 : decode b_Tok_skip 117 = .ok (.aload_n 0, 1) := by decide +kernel
theorem d_Tok_skip_118 : decode b_Tok_skip 118 = .ok (.invokevirtual 80, 3) := by decide +kernel
theorem d_Tok_skip_121 : decode b_Tok_skip 121 = .ok (.istore 4, 2) := by decide +kernel
theorem d_Tok_skip_123 : decode b_Tok_skip 123 = .ok (.iload 4, 2) := by decide +kernel
theorem d_Tok_skip_125 : decode b_Tok_skip 125 = .ok (.aload_n 0, 1) := by decide +kernel
theorem d_Tok_skip_126 : decode b_Tok_skip 126 = .ok (.getfield 50, 3) := by decide +kernel
theorem d_Tok_skip_129 : decode b_Tok_skip 129 = .ok (.if_icmp .le 7, 3) := by decide +kernel
theorem d_Tok_skip_132 : decode b_Tok_skip 132 = .ok (.iconst 1, 1) := by decide +kernel
theorem d_Tok_skip_133 : decode b_Tok_skip 133 = .ok (.goto 4, 3) := by decide +kernel
theorem d_Tok_skip_136 : decode b_Tok_skip 136 = .ok (.iconst 0, 1) := by decide +kernel
theorem d_Tok_skip_137 : decode b_Tok_skip 137 = .ok (.istore_n 1, 1) := by decide +kernel
theorem d_Tok_skip_138 : decode b_Tok_skip 138 = .ok (.aload_n 0, 1) := by decide +kernel
theorem d_Tok_skip_139 : decode b_Tok_skip 139 = .ok (.iload 4, 2) := by decide +kernel
theorem d_Tok_skip_141 : decode b_Tok_skip 141 = .ok (.putfield 50, 3) := by decide +kernel
theorem d_Tok_skip_144 : decode b_Tok_skip 144 = .ok (.iinc 2 1, 3) := by decide +kernel
theorem d_Tok_skip_147 : decode b_Tok_skip 147 = .ok (.goto (-143), 3) := by decide +kernel
theorem d_Tok_skip_150 : decode b_Tok_skip 150 = .ok (.return_, 1) := by decide +kernel
theorem q_Tok_skip : px_y y_Tok_skip 0 := by unfold px_y; decide +kernel
abbrev b_Tok_quotedAt : ByteArray := prog_12_method_15_code
def y_Tok_quotedAt : MethodName := ⟨"HomeSystem$Tokens", "quotedAt", "(II)I"⟩
theorem d_Tok_quotedAt_0 : decode b_Tok_quotedAt 0 = .ok (.aload_n 0, 1) := by decide +kernel
theorem d_Tok_quotedAt_1 : decode b_Tok_quotedAt 1 = .ok (.iload_n 1, 1) := by decide +kernel
theorem d_Tok_quotedAt_2 : decode b_Tok_quotedAt 2 = .ok (.invokevirtual 73, 3) := by decide +kernel
theorem d_Tok_quotedAt_5 : decode b_Tok_quotedAt 5 = .ok (.istore_n 3, 1) := by decide +kernel
theorem d_Tok_quotedAt_6 : decode b_Tok_quotedAt 6 = .ok (.iload_n 3, 1) := by decide +kernel
theorem d_Tok_quotedAt_7 : decode b_Tok_quotedAt 7 = .ok (.bipush 92, 2) := by decide +kernel
theorem d_Tok_quotedAt_9 : decode b_Tok_quotedAt 9 = .ok (.if_icmp .ne 51, 3) := by decide +kernel
theorem d_Tok_quotedAt_12 : decode b_Tok_quotedAt 12 = .ok (.aload_n 0, 1) := by decide +kernel
theorem d_Tok_quotedAt_13 : decode b_Tok_quotedAt 13 = .ok (.iload_n 1, 1) := by decide +kernel
theorem d_Tok_quotedAt_14 : decode b_Tok_quotedAt 14 = .ok (.iconst 1, 1) := by decide +kernel
theorem d_Tok_quotedAt_15 : decode b_Tok_quotedAt 15 = .ok (.iadd, 1) := by decide +kernel
theorem d_Tok_quotedAt_16 : decode b_Tok_quotedAt 16 = .ok (.invokevirtual 73, 3) := by decide +kernel
theorem d_Tok_quotedAt_19 : decode b_Tok_quotedAt 19 = .ok (.istore 4, 2) := by decide +kernel
theorem d_Tok_quotedAt_21 : decode b_Tok_quotedAt 21 = .ok (.iload 4, 2) := by decide +kernel
theorem d_Tok_quotedAt_23 : decode b_Tok_quotedAt 23 = .ok (.bipush 110, 2) := by decide +kernel
theorem d_Tok_quotedAt_25 : decode b_Tok_quotedAt 25 = .ok (.if_icmp .ne 6, 3) := by decide +kernel
theorem d_Tok_quotedAt_28 : decode b_Tok_quotedAt 28 = .ok (.bipush 10, 2) := by decide +kernel
theorem d_Tok_quotedAt_30 : decode b_Tok_quotedAt 30 = .ok (.ireturn, 1) := by decide +kernel
theorem d_Tok_quotedAt_31 : decode b_Tok_quotedAt 31 = .ok (.iload 4, 2) := by decide +kernel
theorem d_Tok_quotedAt_33 : decode b_Tok_quotedAt 33 = .ok (.bipush 48, 2) := by decide +kernel
theorem d_Tok_quotedAt_35 : decode b_Tok_quotedAt 35 = .ok (.if_icmp .ne 5, 3) := by decide +kernel
theorem d_Tok_quotedAt_38 : decode b_Tok_quotedAt 38 = .ok (.iconst 0, 1) := by decide +kernel
theorem d_Tok_quotedAt_39 : decode b_Tok_quotedAt 39 = .ok (.ireturn, 1) := by decide +kernel
theorem d_Tok_quotedAt_40 : decode b_Tok_quotedAt 40 = .ok (.iload 4, 2) := by decide +kernel
theorem d_Tok_quotedAt_42 : decode b_Tok_quotedAt 42 = .ok (.iload_n 2, 1) := by decide +kernel
theorem d_Tok_quotedAt_43 : decode b_Tok_quotedAt 43 = .ok (.if_icmp .eq 10, 3) := by decide +kernel
theorem d_Tok_quotedAt_46 : decode b_Tok_quotedAt 46 = .ok (.iload 4, 2) := by decide +kernel
theorem d_Tok_quotedAt_48 : decode b_Tok_quotedAt 48 = .ok (.bipush 92, 2) := by decide +kernel
theorem d_Tok_quotedAt_50 : decode b_Tok_quotedAt 50 = .ok (.if_icmp .ne 8, 3) := by decide +kernel
theorem d_Tok_quotedAt_53 : decode b_Tok_quotedAt 53 = .ok (.iload 4, 2) := by decide +kernel
theorem d_Tok_quotedAt_55 : decode b_Tok_quotedAt 55 = .ok (.goto 4, 3) := by decide +kernel
theorem d_Tok_quotedAt_58 : decode b_Tok_quotedAt 58 = .ok (.iconst (-1), 1) := by decide +kernel
theorem d_Tok_quotedAt_59 : decode b_Tok_quotedAt 59 = .ok (.ireturn, 1) := by decide +kernel
theorem d_Tok_quotedAt_60 : decode b_Tok_quotedAt 60 = .ok (.iload_n 3, 1) := by decide +kernel
theorem d_Tok_quotedAt_61 : decode b_Tok_quotedAt 61 = .ok (.bipush 32, 2) := by decide +kernel
theorem d_Tok_quotedAt_63 : decode b_Tok_quotedAt 63 = .ok (.if_icmp .lt 18, 3) := by decide +kernel
theorem d_Tok_quotedAt_66 : decode b_Tok_quotedAt 66 = .ok (.iload_n 3, 1) := by decide +kernel
theorem d_Tok_quotedAt_67 : decode b_Tok_quotedAt 67 = .ok (.bipush 126, 2) := by decide +kernel
theorem d_Tok_quotedAt_69 : decode b_Tok_quotedAt 69 = .ok (.if_icmp .gt 12, 3) := by decide +kernel
theorem d_Tok_quotedAt_72 : decode b_Tok_quotedAt 72 = .ok (.iload_n 3, 1) := by decide +kernel
theorem d_Tok_quotedAt_73 : decode b_Tok_quotedAt 73 = .ok (.iload_n 2, 1) := by decide +kernel
theorem d_Tok_quotedAt_74 : decode b_Tok_quotedAt 74 = .ok (.if_icmp .eq 7, 3) := by decide +kernel
theorem d_Tok_quotedAt_77 : decode b_Tok_quotedAt 77 = .ok (.iload_n 3, 1) := by decide +kernel
theorem d_Tok_quotedAt_78 : decode b_Tok_quotedAt 78 = .ok (.goto 4, 3) := by decide +kernel
theorem d_Tok_quotedAt_81 : decode b_Tok_quotedAt 81 = .ok (.iconst (-1), 1) := by decide +kernel
theorem d_Tok_quotedAt_82 : decode b_Tok_quotedAt 82 = .ok (.ireturn, 1) := by decide +kernel
theorem q_Tok_quotedAt : px_y y_Tok_quotedAt 2 := by unfold px_y; decide +kernel
set_option maxHeartbeats 4000000 in
set_option maxRecDepth 100000 in
theorem c_Tok_quotedAt (l : Launch) (D : va_G) (cs : Nat → ClassId) (h : Nat) (r : Nat → Nat) (tp : Nat) (tb : Nat → Int32) (f : Nat → Int32) (a : Nat → Nat → Int32) (g : Nat → Nat → Option Nat) (i q0 : Int32) (hok : TokOk (f 7) (f 8) (f 10) (f 11) (f 12) (f 13) (f 17) (a 4)) : MetI l y_Tok_quotedAt b_Tok_quotedAt 5 (.int) D cs 1 22 0 0 [.ref h, .int i, .int q0] [wd_Tok cs h r (fun _ => some tp) f a g, [(tp, .inl (cs 1, 2048, .inl tb))]] (fun _ => True) (fun v ps => (ps = [wd_Tok cs h r (fun _ => some tp) f a g, [(tp, .inl (cs 1, 2048, .inl tb))]]) ∧ (-1 ≤ v.toInt) ∧ (0 ≤ v.toInt → 0 ≤ i.toInt ∧ i.toInt < (f 7).toInt)) := by
  refine px_enter (by decide) (Nat.le_of_ble_eq_true rfl) ?_
  intro p e s m below meth c A ls hAe S hr hlk hnm hA hT hX hw hl
  have hl : lv_has ls 5 [(0, .ref h), (1, .int i), (2, .int q0)] := hl
  have li := Int32.le_toInt i
  have ui := Int32.toInt_lt i
  have lq0 := Int32.le_toInt q0
  have uq0 := Int32.toInt_lt q0
  have cstm1 : ((-1) : Int32).toInt = (-1) := rfl
  have cst0 : (0 : Int32).toInt = 0 := rfl
  have cst1 : (1 : Int32).toInt = 1 := rfl
  have cst10 : (10 : Int32).toInt = 10 := rfl
  have cst32 : (32 : Int32).toInt = 32 := rfl
  have cst48 : (48 : Int32).toInt = 48 := rfl
  have cst92 : (92 : Int32).toInt = 92 := rfl
  have cst110 : (110 : Int32).toInt = 110 := rfl
  have cst126 : (126 : Int32).toInt = 126 := rfl
  obtain ⟨⟨o1, o2⟩, ⟨o3, o4⟩, ⟨o5, o6⟩, ⟨o7, o8⟩, ⟨o9, o10⟩, ⟨o11, o12⟩, o13, hn4⟩ := hok
  refine lv_aload_n S.x S.b d_Tok_quotedAt_0 rfl (lv_at hl 0 rfl) ?_
  refine lv_iload_n S.x S.b d_Tok_quotedAt_1 rfl (lv_at hl 1 rfl) ?_
  first | refine px_calli (pr := []) (px_runV (As := [.int i]) (rest := []) S (c_Tok_byteAt l D cs h r tp tb f a g i (show TokOk (f 7) (f 8) (f 10) (f 11) (f 12) (f 13) (f 17) (a 4) from ⟨⟨o1, o2⟩, ⟨o3, o4⟩, ⟨o5, o6⟩, ⟨o7, o8⟩, ⟨o9, o10⟩, ⟨o11, o12⟩, o13, hn4⟩)  _) hT (pr := []) (pcs := [wd_Tok cs h r (fun _ => some tp) f a g, [(tp, .inl (cs 1, 2048, .inl tb))]]) hw px_X.tt (px_recv hT hw 0 0 rfl rfl rfl) m3_186 m3_183 m3_185 ms_1_6 m1_2 q_Tok_byteAt ⟨Nat.le_of_ble_eq_true rfl, Nat.le_of_ble_eq_true rfl⟩ hl.1 rfl (Nat.le_of_ble_eq_true rfl) d_Tok_quotedAt_2 ⟨Nat.le_of_ble_eq_true rfl, Nat.le_of_ble_eq_true rfl⟩) hw hA (fun v4 p3 H locs hp3 hw => ?_) | refine px_calli (pr := []) (px_runV (As := [.int i]) (rest := []) S (c_Tok_byteAt l D cs h r tp tb f a g i (show TokOk (f 7) (f 8) (f 10) (f 11) (f 12) (f 13) (f 17) (a 4) from ⟨⟨by first | exact o1 | omega, by first | exact o2 | omega⟩, ⟨by first | exact o3 | omega, by first | exact o4 | omega⟩, ⟨by first | exact o5 | omega, by first | exact o6 | omega⟩, ⟨by first | exact o7 | omega, by first | exact o8 | omega⟩, ⟨by first | exact o9 | omega, by first | exact o10 | omega⟩, ⟨by first | exact o11 | omega, by first | exact o12 | omega⟩, by first | exact o13 | omega, hn4⟩)  _) hT (pr := []) (pcs := [wd_Tok cs h r (fun _ => some tp) f a g, [(tp, .inl (cs 1, 2048, .inl tb))]]) hw px_X.tt (px_recv hT hw 0 0 rfl rfl rfl) m3_186 m3_183 m3_185 ms_1_6 m1_2 q_Tok_byteAt ⟨Nat.le_of_ble_eq_true rfl, Nat.le_of_ble_eq_true rfl⟩ hl.1 rfl (Nat.le_of_ble_eq_true rfl) d_Tok_quotedAt_2 ⟨Nat.le_of_ble_eq_true rfl, Nat.le_of_ble_eq_true rfl⟩) hw hA (fun v4 p3 H locs hp3 hw => ?_)
  obtain ⟨rfl, e5, e6, e7⟩ := hp3
  have e5 : -1 ≤ v4.toInt := e5
  have e6 : v4.toInt ≤ 255 := e6
  have e7 : 0 ≤ v4.toInt → 0 ≤ i.toInt ∧ i.toInt < (f 7).toInt := e7
  have lv4 := Int32.le_toInt v4
  have uv4 := Int32.toInt_lt v4
  refine lv_istore_n (lv' := [(3, .int v4), (0, .ref h), (1, .int i), (2, .int q0)]) S.x S.b d_Tok_quotedAt_5 rfl hl (by decide) rfl (fun ls hl => ?_)
  refine lv_iload_n S.x S.b d_Tok_quotedAt_6 rfl (lv_at hl 0 rfl) ?_
  refine lv_bipush (v := 92) S.x S.b d_Tok_quotedAt_7 (by decide) ?_
  refine lv_icmp_ne (tgt := 60) S.x S.b d_Tok_quotedAt_9 (by decide) (fun c8 => ?_) (fun c8 => ?_)
  · have nc8 : ¬ v4.toInt = (92 : Int) := mt (i_eq (x := v4) (y := 92)).mpr c8
    refine lv_iload_n S.x S.b d_Tok_quotedAt_60 rfl (lv_at hl 0 rfl) ?_
    refine lv_bipush (v := 32) S.x S.b d_Tok_quotedAt_61 (by decide) ?_
    refine lv_icmp_lt (tgt := 81) S.x S.b d_Tok_quotedAt_63 (by decide) (fun c9 => ?_) (fun c9 => ?_)
    · have nc9 : v4.toInt < (32 : Int) := (i_lt (x := v4) (y := 32)).mp c9
      refine lv_iconst (v := (-1)) S.x S.b d_Tok_quotedAt_81 (by decide) ?_
      exact px_iret (v := (-1)) S hr rfl hlk hAe hw (Nat.le_of_ble_eq_true rfl) (Nat.le_of_ble_eq_true rfl) (⟨rfl, (show -1 ≤ (-1 : Int) from by first | decide | omega), (show 0 ≤ (-1 : Int) → 0 ≤ i.toInt ∧ i.toInt < (f 7).toInt from by first | with_reducible rfl | with_reducible assumption | omega)⟩) d_Tok_quotedAt_82
    · have nc9 : ¬ v4.toInt < (32 : Int) := mt (i_lt (x := v4) (y := 32)).mpr c9
      refine lv_iload_n S.x S.b d_Tok_quotedAt_66 rfl (lv_at hl 0 rfl) ?_
      refine lv_bipush (v := 126) S.x S.b d_Tok_quotedAt_67 (by decide) ?_
      refine lv_icmp_gt (tgt := 81) S.x S.b d_Tok_quotedAt_69 (by decide) (fun c10 => ?_) (fun c10 => ?_)
      · have nc10 : (126 : Int) < v4.toInt := (i_lt (x := 126) (y := v4)).mp c10
        refine lv_iconst (v := (-1)) S.x S.b d_Tok_quotedAt_81 (by decide) ?_
        exact px_iret (v := (-1)) S hr rfl hlk hAe hw (Nat.le_of_ble_eq_true rfl) (Nat.le_of_ble_eq_true rfl) (⟨rfl, (show -1 ≤ (-1 : Int) from by first | decide | omega), (show 0 ≤ (-1 : Int) → 0 ≤ i.toInt ∧ i.toInt < (f 7).toInt from by first | with_reducible rfl | with_reducible assumption | omega)⟩) d_Tok_quotedAt_82
      · have nc10 : ¬ (126 : Int) < v4.toInt := mt (i_lt (x := 126) (y := v4)).mpr c10
        refine lv_iload_n S.x S.b d_Tok_quotedAt_72 rfl (lv_at hl 0 rfl) ?_
        refine lv_iload_n S.x S.b d_Tok_quotedAt_73 rfl (lv_at hl 3 rfl) ?_
        refine lv_icmp_eq (tgt := 81) S.x S.b d_Tok_quotedAt_74 (by decide) (fun c11 => ?_) (fun c11 => ?_)
        · have nc11 : v4.toInt = q0.toInt := (i_eq (x := v4) (y := q0)).mp c11
          refine lv_iconst (v := (-1)) S.x S.b d_Tok_quotedAt_81 (by decide) ?_
          exact px_iret (v := (-1)) S hr rfl hlk hAe hw (Nat.le_of_ble_eq_true rfl) (Nat.le_of_ble_eq_true rfl) (⟨rfl, (show -1 ≤ (-1 : Int) from by first | decide | omega), (show 0 ≤ (-1 : Int) → 0 ≤ i.toInt ∧ i.toInt < (f 7).toInt from by first | with_reducible rfl | with_reducible assumption | omega)⟩) d_Tok_quotedAt_82
        · have nc11 : ¬ v4.toInt = q0.toInt := mt (i_eq (x := v4) (y := q0)).mpr c11
          refine lv_iload_n S.x S.b d_Tok_quotedAt_77 rfl (lv_at hl 0 rfl) ?_
          refine lv_goto (tgt := 82) S.x S.b d_Tok_quotedAt_78 (by decide) ?_
          first | exact px_iret (v := v4) S hr rfl hlk hAe hw (Nat.le_of_ble_eq_true rfl) (Nat.le_of_ble_eq_true rfl) (⟨rfl, (show -1 ≤ v4.toInt from e5), (show 0 ≤ v4.toInt → 0 ≤ i.toInt ∧ i.toInt < (f 7).toInt from e7)⟩) d_Tok_quotedAt_82 | exact px_iret (v := v4) S hr rfl hlk hAe hw (Nat.le_of_ble_eq_true rfl) (Nat.le_of_ble_eq_true rfl) (⟨rfl, (show -1 ≤ v4.toInt from by first | exact e5 | omega), (show 0 ≤ v4.toInt → 0 ≤ i.toInt ∧ i.toInt < (f 7).toInt from by first | exact e7 | omega)⟩) d_Tok_quotedAt_82
  · have nc8 : v4.toInt = (92 : Int) := (i_eq (x := v4) (y := 92)).mp c8
    refine lv_aload_n S.x S.b d_Tok_quotedAt_12 rfl (lv_at hl 1 rfl) ?_
    refine lv_iload_n S.x S.b d_Tok_quotedAt_13 rfl (lv_at hl 2 rfl) ?_
    refine lv_iconst (v := 1) S.x S.b d_Tok_quotedAt_14 (by decide) ?_
    refine lv_iadd S.x S.b d_Tok_quotedAt_15 ?_
    refine lv_topi (fun z12 ez12 => ?_)
    have tz12 : z12.toInt = (i.toInt + (1 : Int) + 2147483648) % 4294967296 - 2147483648 := by rw [ez12]; exact i_add i 1
    have lz12 := Int32.le_toInt z12
    have uz12 := Int32.toInt_lt z12
    first | refine px_calli (pr := []) (px_runV (As := [.int z12]) (rest := []) S (c_Tok_byteAt l D cs h r tp tb f a g z12 (show TokOk (f 7) (f 8) (f 10) (f 11) (f 12) (f 13) (f 17) (a 4) from ⟨⟨o1, o2⟩, ⟨o3, o4⟩, ⟨o5, o6⟩, ⟨o7, o8⟩, ⟨o9, o10⟩, ⟨o11, o12⟩, o13, hn4⟩)  _) hT (pr := []) (pcs := [wd_Tok cs h r (fun _ => some tp) f a g, [(tp, .inl (cs 1, 2048, .inl tb))]]) hw px_X.tt (px_recv hT hw 0 0 rfl rfl rfl) m3_186 m3_183 m3_185 ms_1_6 m1_2 q_Tok_byteAt ⟨Nat.le_of_ble_eq_true rfl, Nat.le_of_ble_eq_true rfl⟩ hl.1 rfl (Nat.le_of_ble_eq_true rfl) d_Tok_quotedAt_16 ⟨Nat.le_of_ble_eq_true rfl, Nat.le_of_ble_eq_true rfl⟩) hw hA (fun v16 p15 H locs hp15 hw => ?_) | refine px_calli (pr := []) (px_runV (As := [.int z12]) (rest := []) S (c_Tok_byteAt l D cs h r tp tb f a g z12 (show TokOk (f 7) (f 8) (f 10) (f 11) (f 12) (f 13) (f 17) (a 4) from ⟨⟨by first | exact o1 | omega, by first | exact o2 | omega⟩, ⟨by first | exact o3 | omega, by first | exact o4 | omega⟩, ⟨by first | exact o5 | omega, by first | exact o6 | omega⟩, ⟨by first | exact o7 | omega, by first | exact o8 | omega⟩, ⟨by first | exact o9 | omega, by first | exact o10 | omega⟩, ⟨by first | exact o11 | omega, by first | exact o12 | omega⟩, by first | exact o13 | omega, hn4⟩)  _) hT (pr := []) (pcs := [wd_Tok cs h r (fun _ => some tp) f a g, [(tp, .inl (cs 1, 2048, .inl tb))]]) hw px_X.tt (px_recv hT hw 0 0 rfl rfl rfl) m3_186 m3_183 m3_185 ms_1_6 m1_2 q_Tok_byteAt ⟨Nat.le_of_ble_eq_true rfl, Nat.le_of_ble_eq_true rfl⟩ hl.1 rfl (Nat.le_of_ble_eq_true rfl) d_Tok_quotedAt_16 ⟨Nat.le_of_ble_eq_true rfl, Nat.le_of_ble_eq_true rfl⟩) hw hA (fun v16 p15 H locs hp15 hw => ?_)
    obtain ⟨rfl, e17, e18, e19⟩ := hp15
    have e17 : -1 ≤ v16.toInt := e17
    have e18 : v16.toInt ≤ 255 := e18
    have e19 : 0 ≤ v16.toInt → 0 ≤ z12.toInt ∧ z12.toInt < (f 7).toInt := e19
    have lv16 := Int32.le_toInt v16
    have uv16 := Int32.toInt_lt v16
    refine lv_istore (lv' := [(4, .int v16), (3, .int v4), (0, .ref h), (1, .int i), (2, .int q0)]) S.x S.b d_Tok_quotedAt_19 hl (by decide) rfl (fun ls hl => ?_)
    refine lv_iload S.x S.b d_Tok_quotedAt_21 (lv_at hl 0 rfl) ?_
    refine lv_bipush (v := 110) S.x S.b d_Tok_quotedAt_23 (by decide) ?_
    refine lv_icmp_ne (tgt := 31) S.x S.b d_Tok_quotedAt_25 (by decide) (fun c20 => ?_) (fun c20 => ?_)
    · have nc20 : ¬ v16.toInt = (110 : Int) := mt (i_eq (x := v16) (y := 110)).mpr c20
      refine lv_iload S.x S.b d_Tok_quotedAt_31 (lv_at hl 0 rfl) ?_
      refine lv_bipush (v := 48) S.x S.b d_Tok_quotedAt_33 (by decide) ?_
      refine lv_icmp_ne (tgt := 40) S.x S.b d_Tok_quotedAt_35 (by decide) (fun c21 => ?_) (fun c21 => ?_)
      · have nc21 : ¬ v16.toInt = (48 : Int) := mt (i_eq (x := v16) (y := 48)).mpr c21
        refine lv_iload S.x S.b d_Tok_quotedAt_40 (lv_at hl 0 rfl) ?_
        refine lv_iload_n S.x S.b d_Tok_quotedAt_42 rfl (lv_at hl 4 rfl) ?_
        refine lv_icmp_eq (tgt := 53) S.x S.b d_Tok_quotedAt_43 (by decide) (fun c22 => ?_) (fun c22 => ?_)
        · have nc22 : v16.toInt = q0.toInt := (i_eq (x := v16) (y := q0)).mp c22
          refine lv_iload S.x S.b d_Tok_quotedAt_53 (lv_at hl 0 rfl) ?_
          refine lv_goto (tgt := 59) S.x S.b d_Tok_quotedAt_55 (by decide) ?_
          first | exact px_iret (v := v16) S hr rfl hlk hAe hw (Nat.le_of_ble_eq_true rfl) (Nat.le_of_ble_eq_true rfl) (⟨rfl, (show -1 ≤ v16.toInt from e17), (show 0 ≤ v16.toInt → 0 ≤ i.toInt ∧ i.toInt < (f 7).toInt from (fun q9 => oz_b5a98028f4 nc8 e7))⟩) d_Tok_quotedAt_59 | exact px_iret (v := v16) S hr rfl hlk hAe hw (Nat.le_of_ble_eq_true rfl) (Nat.le_of_ble_eq_true rfl) (⟨rfl, (show -1 ≤ v16.toInt from by first | exact e17 | omega), (show 0 ≤ v16.toInt → 0 ≤ i.toInt ∧ i.toInt < (f 7).toInt from by first | exact fun q9 => oz_b5a98028f4 nc8 e7 | omega)⟩) d_Tok_quotedAt_59
        · have nc22 : ¬ v16.toInt = q0.toInt := mt (i_eq (x := v16) (y := q0)).mpr c22
          refine lv_iload S.x S.b d_Tok_quotedAt_46 (lv_at hl 0 rfl) ?_
          refine lv_bipush (v := 92) S.x S.b d_Tok_quotedAt_48 (by decide) ?_
          refine lv_icmp_ne (tgt := 58) S.x S.b d_Tok_quotedAt_50 (by decide) (fun c23 => ?_) (fun c23 => ?_)
          · have nc23 : ¬ v16.toInt = (92 : Int) := mt (i_eq (x := v16) (y := 92)).mpr c23
            refine lv_iconst (v := (-1)) S.x S.b d_Tok_quotedAt_58 (by decide) ?_
            exact px_iret (v := (-1)) S hr rfl hlk hAe hw (Nat.le_of_ble_eq_true rfl) (Nat.le_of_ble_eq_true rfl) (⟨rfl, (show -1 ≤ (-1 : Int) from by first | decide | omega), (show 0 ≤ (-1 : Int) → 0 ≤ i.toInt ∧ i.toInt < (f 7).toInt from by first | with_reducible rfl | with_reducible assumption | omega)⟩) d_Tok_quotedAt_59
          · have nc23 : v16.toInt = (92 : Int) := (i_eq (x := v16) (y := 92)).mp c23
            refine lv_iload S.x S.b d_Tok_quotedAt_53 (lv_at hl 0 rfl) ?_
            refine lv_goto (tgt := 59) S.x S.b d_Tok_quotedAt_55 (by decide) ?_
            first | exact px_iret (v := v16) S hr rfl hlk hAe hw (Nat.le_of_ble_eq_true rfl) (Nat.le_of_ble_eq_true rfl) (⟨rfl, (show -1 ≤ v16.toInt from e17), (show 0 ≤ v16.toInt → 0 ≤ i.toInt ∧ i.toInt < (f 7).toInt from (fun q9 => oz_b5a98028f4 nc8 e7))⟩) d_Tok_quotedAt_59 | exact px_iret (v := v16) S hr rfl hlk hAe hw (Nat.le_of_ble_eq_true rfl) (Nat.le_of_ble_eq_true rfl) (⟨rfl, (show -1 ≤ v16.toInt from by first | exact e17 | omega), (show 0 ≤ v16.toInt → 0 ≤ i.toInt ∧ i.toInt < (f 7).toInt from by first | exact fun q9 => oz_b5a98028f4 nc8 e7 | omega)⟩) d_Tok_quotedAt_59
      · have nc21 : v16.toInt = (48 : Int) := (i_eq (x := v16) (y := 48)).mp c21
        refine lv_iconst (v := 0) S.x S.b d_Tok_quotedAt_38 (by decide) ?_
        exact px_iret (v := 0) S hr rfl hlk hAe hw (Nat.le_of_ble_eq_true rfl) (Nat.le_of_ble_eq_true rfl) (⟨rfl, (show -1 ≤ (0 : Int) from by first | decide | omega), (show 0 ≤ (0 : Int) → 0 ≤ i.toInt ∧ i.toInt < (f 7).toInt from by first | with_reducible rfl | with_reducible assumption | omega)⟩) d_Tok_quotedAt_39
    · have nc20 : v16.toInt = (110 : Int) := (i_eq (x := v16) (y := 110)).mp c20
      refine lv_bipush (v := 10) S.x S.b d_Tok_quotedAt_28 (by decide) ?_
      exact px_iret (v := 10) S hr rfl hlk hAe hw (Nat.le_of_ble_eq_true rfl) (Nat.le_of_ble_eq_true rfl) (⟨rfl, (show -1 ≤ (10 : Int) from by first | decide | omega), (show 0 ≤ (10 : Int) → 0 ≤ i.toInt ∧ i.toInt < (f 7).toInt from by first | with_reducible rfl | with_reducible assumption | omega)⟩) d_Tok_quotedAt_30
abbrev b_Tok_digit : ByteArray := prog_12_method_14_code
def y_Tok_digit : MethodName := ⟨"HomeSystem$Tokens", "digit", "(I)I"⟩
theorem d_Tok_digit_0 : decode b_Tok_digit 0 = .ok (.aload_n 0, 1) := by decide +kernel
theorem d_Tok_digit_1 : decode b_Tok_digit 1 = .ok (.aload_n 0, 1) := by decide +kernel
theorem d_Tok_digit_2 : decode b_Tok_digit 2 = .ok (.getfield 50, 3) := by decide +kernel
theorem d_Tok_digit_5 : decode b_Tok_digit 5 = .ok (.invokevirtual 73, 3) := by decide +kernel
theorem d_Tok_digit_8 : decode b_Tok_digit 8 = .ok (.istore_n 2, 1) := by decide +kernel
theorem d_Tok_digit_9 : decode b_Tok_digit 9 = .ok (.iload_n 2, 1) := by decide +kernel
theorem d_Tok_digit_10 : decode b_Tok_digit 10 = .ok (.invokestatic 93, 3) := by decide +kernel
theorem d_Tok_digit_13 : decode b_Tok_digit 13 = .ok (.ifCond .eq 8, 3) := by decide +kernel
theorem d_Tok_digit_16 : decode b_Tok_digit 16 = .ok (.iload_n 2, 1) := by decide +kernel
theorem d_Tok_digit_17 : decode b_Tok_digit 17 = .ok (.bipush 48, 2) := by decide +kernel
theorem d_Tok_digit_19 : decode b_Tok_digit 19 = .ok (.isub, 1) := by decide +kernel
theorem d_Tok_digit_20 : decode b_Tok_digit 20 = .ok (.ireturn, 1) := by decide +kernel
theorem d_Tok_digit_21 : decode b_Tok_digit 21 = .ok (.iload_n 1, 1) := by decide +kernel
theorem d_Tok_digit_22 : decode b_Tok_digit 22 = .ok (.bipush 16, 2) := by decide +kernel
theorem d_Tok_digit_24 : decode b_Tok_digit 24 = .ok (.if_icmp .ne 23, 3) := by decide +kernel
theorem d_Tok_digit_27 : decode b_Tok_digit 27 = .ok (.iload_n 2, 1) := by decide +kernel
theorem d_Tok_digit_28 : decode b_Tok_digit 28 = .ok (.bipush 97, 2) := by decide +kernel
theorem d_Tok_digit_30 : decode b_Tok_digit 30 = .ok (.if_icmp .lt 17, 3) := by decide +kernel
theorem d_Tok_digit_33 : decode b_Tok_digit 33 = .ok (.iload_n 2, 1) := by decide +kernel
theorem d_Tok_digit_34 : decode b_Tok_digit 34 = .ok (.bipush 102, 2) := by decide +kernel
theorem d_Tok_digit_36 : decode b_Tok_digit 36 = .ok (.if_icmp .gt 11, 3) := by decide +kernel
theorem d_Tok_digit_39 : decode b_Tok_digit 39 = .ok (.iload_n 2, 1) := by decide +kernel
theorem d_Tok_digit_40 : decode b_Tok_digit 40 = .ok (.bipush 97, 2) := by decide +kernel
theorem d_Tok_digit_42 : decode b_Tok_digit 42 = .ok (.isub, 1) := by decide +kernel
theorem d_Tok_digit_43 : decode b_Tok_digit 43 = .ok (.bipush 10, 2) := by decide +kernel
theorem d_Tok_digit_45 : decode b_Tok_digit 45 = .ok (.iadd, 1) := by decide +kernel
theorem d_Tok_digit_46 : decode b_Tok_digit 46 = .ok (.ireturn, 1) := by decide +kernel
theorem d_Tok_digit_47 : decode b_Tok_digit 47 = .ok (.iload_n 1, 1) := by decide +kernel
theorem d_Tok_digit_48 : decode b_Tok_digit 48 = .ok (.bipush 16, 2) := by decide +kernel
theorem d_Tok_digit_50 : decode b_Tok_digit 50 = .ok (.if_icmp .ne 25, 3) := by decide +kernel
theorem d_Tok_digit_53 : decode b_Tok_digit 53 = .ok (.iload_n 2, 1) := by decide +kernel
theorem d_Tok_digit_54 : decode b_Tok_digit 54 = .ok (.bipush 65, 2) := by decide +kernel
theorem d_Tok_digit_56 : decode b_Tok_digit 56 = .ok (.if_icmp .lt 19, 3) := by decide +kernel
theorem d_Tok_digit_59 : decode b_Tok_digit 59 = .ok (.iload_n 2, 1) := by decide +kernel
theorem d_Tok_digit_60 : decode b_Tok_digit 60 = .ok (.bipush 70, 2) := by decide +kernel
theorem d_Tok_digit_62 : decode b_Tok_digit 62 = .ok (.if_icmp .gt 13, 3) := by decide +kernel
theorem d_Tok_digit_65 : decode b_Tok_digit 65 = .ok (.iload_n 2, 1) := by decide +kernel
theorem d_Tok_digit_66 : decode b_Tok_digit 66 = .ok (.bipush 65, 2) := by decide +kernel
theorem d_Tok_digit_68 : decode b_Tok_digit 68 = .ok (.isub, 1) := by decide +kernel
theorem d_Tok_digit_69 : decode b_Tok_digit 69 = .ok (.bipush 10, 2) := by decide +kernel
theorem d_Tok_digit_71 : decode b_Tok_digit 71 = .ok (.iadd, 1) := by decide +kernel
theorem d_Tok_digit_72 : decode b_Tok_digit 72 = .ok (.goto 4, 3) := by decide +kernel
theorem d_Tok_digit_75 : decode b_Tok_digit 75 = .ok (.iconst (-1), 1) := by decide +kernel
theorem d_Tok_digit_76 : decode b_Tok_digit 76 = .ok (.ireturn, 1) := by decide +kernel
theorem q_Tok_digit : px_y y_Tok_digit 1 := by unfold px_y; decide +kernel
set_option maxHeartbeats 4000000 in
set_option maxRecDepth 100000 in
theorem c_Tok_digit (l : Launch) (D : va_G) (cs : Nat → ClassId) (h : Nat) (r : Nat → Nat) (tp : Nat) (tb : Nat → Int32) (f : Nat → Int32) (a : Nat → Nat → Int32) (g : Nat → Nat → Option Nat) (b0 : Int32) (hok : TokOk (f 7) (f 8) (f 10) (f 11) (f 12) (f 13) (f 17) (a 4)) : MetI l y_Tok_digit b_Tok_digit 3 (.int) D cs 1 22 0 0 [.ref h, .int b0] [wd_Tok cs h r (fun _ => some tp) f a g, [(tp, .inl (cs 1, 2048, .inl tb))]] (fun _ => True) (fun v ps => (ps = [wd_Tok cs h r (fun _ => some tp) f a g, [(tp, .inl (cs 1, 2048, .inl tb))]])) := by
  refine px_enter (by decide) (Nat.le_of_ble_eq_true rfl) ?_
  intro p e s m below meth c A ls hAe S hr hlk hnm hA hT hX hw hl
  have hl : lv_has ls 3 [(0, .ref h), (1, .int b0)] := hl
  have lb0 := Int32.le_toInt b0
  have ub0 := Int32.toInt_lt b0
  have cstm1 : ((-1) : Int32).toInt = (-1) := rfl
  have cst10 : (10 : Int32).toInt = 10 := rfl
  have cst16 : (16 : Int32).toInt = 16 := rfl
  have cst48 : (48 : Int32).toInt = 48 := rfl
  have cst65 : (65 : Int32).toInt = 65 := rfl
  have cst70 : (70 : Int32).toInt = 70 := rfl
  have cst97 : (97 : Int32).toInt = 97 := rfl
  have cst102 : (102 : Int32).toInt = 102 := rfl
  obtain ⟨⟨o1, o2⟩, ⟨o3, o4⟩, ⟨o5, o6⟩, ⟨o7, o8⟩, ⟨o9, o10⟩, ⟨o11, o12⟩, o13, hn4⟩ := hok
  refine lv_aload_n S.x S.b d_Tok_digit_0 rfl (lv_at hl 0 rfl) ?_
  refine lv_aload_n S.x S.b d_Tok_digit_1 rfl (lv_at hl 0 rfl) ?_
  refine px_get S k_Tok hT hw 0 0 8 (v := .int (f 8)) rfl rfl rfl (by decide) m1_111 d_Tok_digit_2 ?_
  first | refine px_calli (pr := []) (px_runV (As := [.int (f 8)]) (rest := []) S (c_Tok_byteAt l D cs h r tp tb f a g (f 8) (show TokOk (f 7) (f 8) (f 10) (f 11) (f 12) (f 13) (f 17) (a 4) from ⟨⟨o1, o2⟩, ⟨o3, o4⟩, ⟨o5, o6⟩, ⟨o7, o8⟩, ⟨o9, o10⟩, ⟨o11, o12⟩, o13, hn4⟩)  _) hT (pr := []) (pcs := [wd_Tok cs h r (fun _ => some tp) f a g, [(tp, .inl (cs 1, 2048, .inl tb))]]) hw px_X.tt (px_recv hT hw 0 0 rfl rfl rfl) m3_186 m3_183 m3_185 ms_1_6 m1_2 q_Tok_byteAt ⟨Nat.le_of_ble_eq_true rfl, Nat.le_of_ble_eq_true rfl⟩ hl.1 rfl (Nat.le_of_ble_eq_true rfl) d_Tok_digit_5 ⟨Nat.le_of_ble_eq_true rfl, Nat.le_of_ble_eq_true rfl⟩) hw hA (fun v4 p3 H locs hp3 hw => ?_) | refine px_calli (pr := []) (px_runV (As := [.int (f 8)]) (rest := []) S (c_Tok_byteAt l D cs h r tp tb f a g (f 8) (show TokOk (f 7) (f 8) (f 10) (f 11) (f 12) (f 13) (f 17) (a 4) from ⟨⟨by first | exact o1 | omega, by first | exact o2 | omega⟩, ⟨by first | exact o3 | omega, by first | exact o4 | omega⟩, ⟨by first | exact o5 | omega, by first | exact o6 | omega⟩, ⟨by first | exact o7 | omega, by first | exact o8 | omega⟩, ⟨by first | exact o9 | omega, by first | exact o10 | omega⟩, ⟨by first | exact o11 | omega, by first | exact o12 | omega⟩, by first | exact o13 | omega, hn4⟩)  _) hT (pr := []) (pcs := [wd_Tok cs h r (fun _ => some tp) f a g, [(tp, .inl (cs 1, 2048, .inl tb))]]) hw px_X.tt (px_recv hT hw 0 0 rfl rfl rfl) m3_186 m3_183 m3_185 ms_1_6 m1_2 q_Tok_byteAt ⟨Nat.le_of_ble_eq_true rfl, Nat.le_of_ble_eq_true rfl⟩ hl.1 rfl (Nat.le_of_ble_eq_true rfl) d_Tok_digit_5 ⟨Nat.le_of_ble_eq_true rfl, Nat.le_of_ble_eq_true rfl⟩) hw hA (fun v4 p3 H locs hp3 hw => ?_)
  obtain ⟨rfl, e5, e6, e7⟩ := hp3
  have e5 : -1 ≤ v4.toInt := e5
  have e6 : v4.toInt ≤ 255 := e6
  have e7 : 0 ≤ v4.toInt → 0 ≤ (f 8).toInt ∧ (f 8).toInt < (f 7).toInt := e7
  have lv4 := Int32.le_toInt v4
  have uv4 := Int32.toInt_lt v4
  refine lv_istore_n (lv' := [(2, .int v4), (0, .ref h), (1, .int b0)]) S.x S.b d_Tok_digit_8 rfl hl (by decide) rfl (fun ls hl => ?_)
  refine lv_iload_n S.x S.b d_Tok_digit_9 rfl (lv_at hl 0 rfl) ?_
  refine px_calli (pr := [wd_Tok cs h r (fun _ => some tp) f a g, [(tp, .inl (cs 1, 2048, .inl tb))]]) (px_runS (As := [.int v4]) (rest := []) S (c_Tok_isDigit l D cs v4 _) hT (pr := [wd_Tok cs h r (fun _ => some tp) f a g, [(tp, .inl (cs 1, 2048, .inl tb))]]) (pcs := []) hw px_X.tt m3_208 m3_206 m3_207 m1_2 q_Tok_isDigit ⟨Nat.le_of_ble_eq_true rfl, Nat.le_of_ble_eq_true rfl⟩ hl.1 rfl (Nat.le_of_ble_eq_true rfl) d_Tok_digit_10 ⟨Nat.le_of_ble_eq_true rfl, Nat.le_of_ble_eq_true rfl⟩) hw hA (fun v11 p10 H locs hp10 hw => ?_)
  obtain ⟨rfl, e12⟩ := hp10
  have e12 := z_int e12
  have lv11 := Int32.le_toInt v11
  have uv11 := Int32.toInt_lt v11
  refine lv_if_eq (tgt := 21) S.x S.b d_Tok_digit_13 (by decide) (fun c13 => ?_) (fun c13 => ?_)
  · have nc13 : v11.toInt = (0 : Int) := (i_eq (x := v11) (y := 0)).mp c13
    refine lv_iload_n S.x S.b d_Tok_digit_21 rfl (lv_at hl 2 rfl) ?_
    refine lv_bipush (v := 16) S.x S.b d_Tok_digit_22 (by decide) ?_
    refine lv_icmp_ne (tgt := 47) S.x S.b d_Tok_digit_24 (by decide) (fun c14 => ?_) (fun c14 => ?_)
    · have nc14 : ¬ b0.toInt = (16 : Int) := mt (i_eq (x := b0) (y := 16)).mpr c14
      refine lv_iload_n S.x S.b d_Tok_digit_47 rfl (lv_at hl 2 rfl) ?_
      refine lv_bipush (v := 16) S.x S.b d_Tok_digit_48 (by decide) ?_
      refine lv_icmp_ne (tgt := 75) S.x S.b d_Tok_digit_50 (by decide) (fun c15 => ?_) (fun c15 => ?_)
      · have nc15 : ¬ b0.toInt = (16 : Int) := mt (i_eq (x := b0) (y := 16)).mpr c15
        refine lv_iconst (v := (-1)) S.x S.b d_Tok_digit_75 (by decide) ?_
        exact px_iret (v := (-1)) S hr rfl hlk hAe hw (Nat.le_of_ble_eq_true rfl) (Nat.le_of_ble_eq_true rfl) (rfl) d_Tok_digit_76
      · have nc15 : b0.toInt = (16 : Int) := (i_eq (x := b0) (y := 16)).mp c15
        refine lv_iload_n S.x S.b d_Tok_digit_53 rfl (lv_at hl 0 rfl) ?_
        refine lv_bipush (v := 65) S.x S.b d_Tok_digit_54 (by decide) ?_
        refine lv_icmp_lt (tgt := 75) S.x S.b d_Tok_digit_56 (by decide) (fun c16 => ?_) (fun c16 => ?_)
        · have nc16 : v4.toInt < (65 : Int) := (i_lt (x := v4) (y := 65)).mp c16
          refine lv_iconst (v := (-1)) S.x S.b d_Tok_digit_75 (by decide) ?_
          exact px_iret (v := (-1)) S hr rfl hlk hAe hw (Nat.le_of_ble_eq_true rfl) (Nat.le_of_ble_eq_true rfl) (rfl) d_Tok_digit_76
        · have nc16 : ¬ v4.toInt < (65 : Int) := mt (i_lt (x := v4) (y := 65)).mpr c16
          refine lv_iload_n S.x S.b d_Tok_digit_59 rfl (lv_at hl 0 rfl) ?_
          refine lv_bipush (v := 70) S.x S.b d_Tok_digit_60 (by decide) ?_
          refine lv_icmp_gt (tgt := 75) S.x S.b d_Tok_digit_62 (by decide) (fun c17 => ?_) (fun c17 => ?_)
          · have nc17 : (70 : Int) < v4.toInt := (i_lt (x := 70) (y := v4)).mp c17
            refine lv_iconst (v := (-1)) S.x S.b d_Tok_digit_75 (by decide) ?_
            exact px_iret (v := (-1)) S hr rfl hlk hAe hw (Nat.le_of_ble_eq_true rfl) (Nat.le_of_ble_eq_true rfl) (rfl) d_Tok_digit_76
          · have nc17 : ¬ (70 : Int) < v4.toInt := mt (i_lt (x := 70) (y := v4)).mpr c17
            refine lv_iload_n S.x S.b d_Tok_digit_65 rfl (lv_at hl 0 rfl) ?_
            refine lv_bipush (v := 65) S.x S.b d_Tok_digit_66 (by decide) ?_
            refine lv_isub S.x S.b d_Tok_digit_68 ?_
            refine lv_topi (fun z18 ez18 => ?_)
            have tz18 : z18.toInt = (v4.toInt - (65 : Int) + 2147483648) % 4294967296 - 2147483648 := by rw [ez18]; exact i_sub v4 65
            have lz18 := Int32.le_toInt z18
            have uz18 := Int32.toInt_lt z18
            refine lv_bipush (v := 10) S.x S.b d_Tok_digit_69 (by decide) ?_
            refine lv_iadd S.x S.b d_Tok_digit_71 ?_
            refine lv_topi (fun z19 ez19 => ?_)
            have tz19 : z19.toInt = (z18.toInt + (10 : Int) + 2147483648) % 4294967296 - 2147483648 := by rw [ez19]; exact i_add z18 10
            have lz19 := Int32.le_toInt z19
            have uz19 := Int32.toInt_lt z19
            refine lv_goto (tgt := 76) S.x S.b d_Tok_digit_72 (by decide) ?_
            exact px_iret (v := z19) S hr rfl hlk hAe hw (Nat.le_of_ble_eq_true rfl) (Nat.le_of_ble_eq_true rfl) (rfl) d_Tok_digit_76
    · have nc14 : b0.toInt = (16 : Int) := (i_eq (x := b0) (y := 16)).mp c14
      refine lv_iload_n S.x S.b d_Tok_digit_27 rfl (lv_at hl 0 rfl) ?_
      refine lv_bipush (v := 97) S.x S.b d_Tok_digit_28 (by decide) ?_
      refine lv_icmp_lt (tgt := 47) S.x S.b d_Tok_digit_30 (by decide) (fun c20 => ?_) (fun c20 => ?_)
      · have nc20 : v4.toInt < (97 : Int) := (i_lt (x := v4) (y := 97)).mp c20
        refine lv_iload_n S.x S.b d_Tok_digit_47 rfl (lv_at hl 2 rfl) ?_
        refine lv_bipush (v := 16) S.x S.b d_Tok_digit_48 (by decide) ?_
        refine lv_icmp_ne (tgt := 75) S.x S.b d_Tok_digit_50 (by decide) (fun c21 => ?_) (fun c21 => ?_)
        · have nc21 : ¬ b0.toInt = (16 : Int) := mt (i_eq (x := b0) (y := 16)).mpr c21
          refine lv_iconst (v := (-1)) S.x S.b d_Tok_digit_75 (by decide) ?_
          exact px_iret (v := (-1)) S hr rfl hlk hAe hw (Nat.le_of_ble_eq_true rfl) (Nat.le_of_ble_eq_true rfl) (rfl) d_Tok_digit_76
        · have nc21 : b0.toInt = (16 : Int) := (i_eq (x := b0) (y := 16)).mp c21
          refine lv_iload_n S.x S.b d_Tok_digit_53 rfl (lv_at hl 0 rfl) ?_
          refine lv_bipush (v := 65) S.x S.b d_Tok_digit_54 (by decide) ?_
          refine lv_icmp_lt (tgt := 75) S.x S.b d_Tok_digit_56 (by decide) (fun c22 => ?_) (fun c22 => ?_)
          · have nc22 : v4.toInt < (65 : Int) := (i_lt (x := v4) (y := 65)).mp c22
            refine lv_iconst (v := (-1)) S.x S.b d_Tok_digit_75 (by decide) ?_
            exact px_iret (v := (-1)) S hr rfl hlk hAe hw (Nat.le_of_ble_eq_true rfl) (Nat.le_of_ble_eq_true rfl) (rfl) d_Tok_digit_76
          · have nc22 : ¬ v4.toInt < (65 : Int) := mt (i_lt (x := v4) (y := 65)).mpr c22
            refine lv_iload_n S.x S.b d_Tok_digit_59 rfl (lv_at hl 0 rfl) ?_
            refine lv_bipush (v := 70) S.x S.b d_Tok_digit_60 (by decide) ?_
            refine lv_icmp_gt (tgt := 75) S.x S.b d_Tok_digit_62 (by decide) (fun c23 => ?_) (fun c23 => ?_)
            · have nc23 : (70 : Int) < v4.toInt := (i_lt (x := 70) (y := v4)).mp c23
              refine lv_iconst (v := (-1)) S.x S.b d_Tok_digit_75 (by decide) ?_
              exact px_iret (v := (-1)) S hr rfl hlk hAe hw (Nat.le_of_ble_eq_true rfl) (Nat.le_of_ble_eq_true rfl) (rfl) d_Tok_digit_76
            · have nc23 : ¬ (70 : Int) < v4.toInt := mt (i_lt (x := 70) (y := v4)).mpr c23
              refine lv_iload_n S.x S.b d_Tok_digit_65 rfl (lv_at hl 0 rfl) ?_
              refine lv_bipush (v := 65) S.x S.b d_Tok_digit_66 (by decide) ?_
              refine lv_isub S.x S.b d_Tok_digit_68 ?_
              refine lv_topi (fun z24 ez24 => ?_)
              have tz24 : z24.toInt = (v4.toInt - (65 : Int) + 2147483648) % 4294967296 - 2147483648 := by rw [ez24]; exact i_sub v4 65
              have lz24 := Int32.le_toInt z24
              have uz24 := Int32.toInt_lt z24
              refine lv_bipush (v := 10) S.x S.b d_Tok_digit_69 (by decide) ?_
              refine lv_iadd S.x S.b d_Tok_digit_71 ?_
              refine lv_topi (fun z25 ez25 => ?_)
              have tz25 : z25.toInt = (z24.toInt + (10 : Int) + 2147483648) % 4294967296 - 2147483648 := by rw [ez25]; exact i_add z24 10
              have lz25 := Int32.le_toInt z25
              have uz25 := Int32.toInt_lt z25
              refine lv_goto (tgt := 76) S.x S.b d_Tok_digit_72 (by decide) ?_
              exact px_iret (v := z25) S hr rfl hlk hAe hw (Nat.le_of_ble_eq_true rfl) (Nat.le_of_ble_eq_true rfl) (rfl) d_Tok_digit_76
      · have nc20 : ¬ v4.toInt < (97 : Int) := mt (i_lt (x := v4) (y := 97)).mpr c20
        refine lv_iload_n S.x S.b d_Tok_digit_33 rfl (lv_at hl 0 rfl) ?_
        refine lv_bipush (v := 102) S.x S.b d_Tok_digit_34 (by decide) ?_
        refine lv_icmp_gt (tgt := 47) S.x S.b d_Tok_digit_36 (by decide) (fun c26 => ?_) (fun c26 => ?_)
        · have nc26 : (102 : Int) < v4.toInt := (i_lt (x := 102) (y := v4)).mp c26
          refine lv_iload_n S.x S.b d_Tok_digit_47 rfl (lv_at hl 2 rfl) ?_
          refine lv_bipush (v := 16) S.x S.b d_Tok_digit_48 (by decide) ?_
          refine lv_icmp_ne (tgt := 75) S.x S.b d_Tok_digit_50 (by decide) (fun c27 => ?_) (fun c27 => ?_)
          · have nc27 : ¬ b0.toInt = (16 : Int) := mt (i_eq (x := b0) (y := 16)).mpr c27
            refine lv_iconst (v := (-1)) S.x S.b d_Tok_digit_75 (by decide) ?_
            exact px_iret (v := (-1)) S hr rfl hlk hAe hw (Nat.le_of_ble_eq_true rfl) (Nat.le_of_ble_eq_true rfl) (rfl) d_Tok_digit_76
          · have nc27 : b0.toInt = (16 : Int) := (i_eq (x := b0) (y := 16)).mp c27
            refine lv_iload_n S.x S.b d_Tok_digit_53 rfl (lv_at hl 0 rfl) ?_
            refine lv_bipush (v := 65) S.x S.b d_Tok_digit_54 (by decide) ?_
            refine lv_icmp_lt (tgt := 75) S.x S.b d_Tok_digit_56 (by decide) (fun c28 => ?_) (fun c28 => ?_)
            · have nc28 : v4.toInt < (65 : Int) := (i_lt (x := v4) (y := 65)).mp c28
              refine lv_iconst (v := (-1)) S.x S.b d_Tok_digit_75 (by decide) ?_
              exact px_iret (v := (-1)) S hr rfl hlk hAe hw (Nat.le_of_ble_eq_true rfl) (Nat.le_of_ble_eq_true rfl) (rfl) d_Tok_digit_76
            · have nc28 : ¬ v4.toInt < (65 : Int) := mt (i_lt (x := v4) (y := 65)).mpr c28
              refine lv_iload_n S.x S.b d_Tok_digit_59 rfl (lv_at hl 0 rfl) ?_
              refine lv_bipush (v := 70) S.x S.b d_Tok_digit_60 (by decide) ?_
              refine lv_icmp_gt (tgt := 75) S.x S.b d_Tok_digit_62 (by decide) (fun c29 => ?_) (fun c29 => ?_)
              · have nc29 : (70 : Int) < v4.toInt := (i_lt (x := 70) (y := v4)).mp c29
                refine lv_iconst (v := (-1)) S.x S.b d_Tok_digit_75 (by decide) ?_
                exact px_iret (v := (-1)) S hr rfl hlk hAe hw (Nat.le_of_ble_eq_true rfl) (Nat.le_of_ble_eq_true rfl) (rfl) d_Tok_digit_76
              · have nc29 : ¬ (70 : Int) < v4.toInt := mt (i_lt (x := 70) (y := v4)).mpr c29
                refine lv_iload_n S.x S.b d_Tok_digit_65 rfl (lv_at hl 0 rfl) ?_
                refine lv_bipush (v := 65) S.x S.b d_Tok_digit_66 (by decide) ?_
                refine lv_isub S.x S.b d_Tok_digit_68 ?_
                refine lv_topi (fun z30 ez30 => ?_)
                have tz30 : z30.toInt = (v4.toInt - (65 : Int) + 2147483648) % 4294967296 - 2147483648 := by rw [ez30]; exact i_sub v4 65
                have lz30 := Int32.le_toInt z30
                have uz30 := Int32.toInt_lt z30
                refine lv_bipush (v := 10) S.x S.b d_Tok_digit_69 (by decide) ?_
                refine lv_iadd S.x S.b d_Tok_digit_71 ?_
                refine lv_topi (fun z31 ez31 => ?_)
                have tz31 : z31.toInt = (z30.toInt + (10 : Int) + 2147483648) % 4294967296 - 2147483648 := by rw [ez31]; exact i_add z30 10
                have lz31 := Int32.le_toInt z31
                have uz31 := Int32.toInt_lt z31
                refine lv_goto (tgt := 76) S.x S.b d_Tok_digit_72 (by decide) ?_
                exact px_iret (v := z31) S hr rfl hlk hAe hw (Nat.le_of_ble_eq_true rfl) (Nat.le_of_ble_eq_true rfl) (rfl) d_Tok_digit_76
        · have nc26 : ¬ (102 : Int) < v4.toInt := mt (i_lt (x := 102) (y := v4)).mpr c26
          refine lv_iload_n S.x S.b d_Tok_digit_39 rfl (lv_at hl 0 rfl) ?_
          refine lv_bipush (v := 97) S.x S.b d_Tok_digit_40 (by decide) ?_
          refine lv_isub S.x S.b d_Tok_digit_42 ?_
          refine lv_topi (fun z32 ez32 => ?_)
          have tz32 : z32.toInt = (v4.toInt - (97 : Int) + 2147483648) % 4294967296 - 2147483648 := by rw [ez32]; exact i_sub v4 97
          have lz32 := Int32.le_toInt z32
          have uz32 := Int32.toInt_lt z32
          refine lv_bipush (v := 10) S.x S.b d_Tok_digit_43 (by decide) ?_
          refine lv_iadd S.x S.b d_Tok_digit_45 ?_
          refine lv_topi (fun z33 ez33 => ?_)
          have tz33 : z33.toInt = (z32.toInt + (10 : Int) + 2147483648) % 4294967296 - 2147483648 := by rw [ez33]; exact i_add z32 10
          have lz33 := Int32.le_toInt z33
          have uz33 := Int32.toInt_lt z33
          exact px_iret (v := z33) S hr rfl hlk hAe hw (Nat.le_of_ble_eq_true rfl) (Nat.le_of_ble_eq_true rfl) (rfl) d_Tok_digit_46
  · have nc13 : ¬ v11.toInt = (0 : Int) := mt (i_eq (x := v11) (y := 0)).mpr c13
    refine lv_iload_n S.x S.b d_Tok_digit_16 rfl (lv_at hl 0 rfl) ?_
    refine lv_bipush (v := 48) S.x S.b d_Tok_digit_17 (by decide) ?_
    refine lv_isub S.x S.b d_Tok_digit_19 ?_
    refine lv_topi (fun z34 ez34 => ?_)
    have tz34 : z34.toInt = (v4.toInt - (48 : Int) + 2147483648) % 4294967296 - 2147483648 := by rw [ez34]; exact i_sub v4 48
    have lz34 := Int32.le_toInt z34
    have uz34 := Int32.toInt_lt z34
    exact px_iret (v := z34) S hr rfl hlk hAe hw (Nat.le_of_ble_eq_true rfl) (Nat.le_of_ble_eq_true rfl) (rfl) d_Tok_digit_20
abbrev b_Tok_sameLetters : ByteArray := prog_12_method_12_code
def y_Tok_sameLetters : MethodName := ⟨"HomeSystem$Tokens", "sameLetters", "(III)Z"⟩
theorem d_Tok_sameLetters_0 : decode b_Tok_sameLetters 0 = .ok (.iconst 0, 1) := by decide +kernel
theorem d_Tok_sameLetters_1 : decode b_Tok_sameLetters 1 = .ok (.istore 4, 2) := by decide +kernel
theorem d_Tok_sameLetters_3 : decode b_Tok_sameLetters 3 = .ok (.iload 4, 2) := by decide +kernel
theorem d_Tok_sameLetters_5 : decode b_Tok_sameLetters 5 = .ok (.iload_n 3, 1) := by decide +kernel
theorem d_Tok_sameLetters_6 : decode b_Tok_sameLetters 6 = .ok (.if_icmp .ge 56, 3) := by decide +kernel
theorem d_Tok_sameLetters_9 : decode b_Tok_sameLetters 9 = .ok (.iload_n 1, 1) := by decide +kernel
theorem d_Tok_sameLetters_10 : decode b_Tok_sameLetters 10 = .ok (.iload 4, 2) := by decide +kernel
theorem d_Tok_sameLetters_12 : decode b_Tok_sameLetters 12 = .ok (.iadd, 1) := by decide +kernel
theorem d_Tok_sameLetters_13 : decode b_Tok_sameLetters 13 = .ok (.aload_n 0, 1) := by decide +kernel
theorem d_Tok_sameLetters_14 : decode b_Tok_sameLetters 14 = .ok (.getfield 29, 3) := by decide +kernel
theorem d_Tok_sameLetters_17 : decode b_Tok_sameLetters 17 = .ok (.arraylength, 1) := by decide +kernel
theorem d_Tok_sameLetters_18 : decode b_Tok_sameLetters 18 = .ok (.if_icmp .ge 36, 3) := by decide +kernel
theorem d_Tok_sameLetters_21 : decode b_Tok_sameLetters 21 = .ok (.iload_n 2, 1) := by decide +kernel
theorem d_Tok_sameLetters_22 : decode b_Tok_sameLetters 22 = .ok (.iload 4, 2) := by decide +kernel
theorem d_Tok_sameLetters_24 : decode b_Tok_sameLetters 24 = .ok (.iadd, 1) := by decide +kernel
theorem d_Tok_sameLetters_25 : decode b_Tok_sameLetters 25 = .ok (.aload_n 0, 1) := by decide +kernel
theorem d_Tok_sameLetters_26 : decode b_Tok_sameLetters 26 = .ok (.getfield 29, 3) := by decide +kernel
theorem d_Tok_sameLetters_29 : decode b_Tok_sameLetters 29 = .ok (.arraylength, 1) := by decide +kernel
theorem d_Tok_sameLetters_30 : decode b_Tok_sameLetters 30 = .ok (.if_icmp .ge 24, 3) := by decide +kernel
theorem d_Tok_sameLetters_33 : decode b_Tok_sameLetters 33 = .ok (.aload_n 0, 1) := by decide +kernel
theorem d_Tok_sameLetters_34 : decode b_Tok_sameLetters 34 = .ok (.getfield 29, 3) := by decide +kernel
theorem d_Tok_sameLetters_37 : decode b_Tok_sameLetters 37 = .ok (.iload_n 1, 1) := by decide +kernel
theorem d_Tok_sameLetters_38 : decode b_Tok_sameLetters 38 = .ok (.iload 4, 2) := by decide +kernel
theorem d_Tok_sameLetters_40 : decode b_Tok_sameLetters 40 = .ok (.iadd, 1) := by decide +kernel
theorem d_Tok_sameLetters_41 : decode b_Tok_sameLetters 41 = .ok (.caload, 1) := by decide +kernel
theorem d_Tok_sameLetters_42 : decode b_Tok_sameLetters 42 = .ok (.aload_n 0, 1) := by decide +kernel
theorem d_Tok_sameLetters_43 : decode b_Tok_sameLetters 43 = .ok (.getfield 29, 3) := by decide +kernel
theorem d_Tok_sameLetters_46 : decode b_Tok_sameLetters 46 = .ok (.iload_n 2, 1) := by decide +kernel
theorem d_Tok_sameLetters_47 : decode b_Tok_sameLetters 47 = .ok (.iload 4, 2) := by decide +kernel
theorem d_Tok_sameLetters_49 : decode b_Tok_sameLetters 49 = .ok (.iadd, 1) := by decide +kernel
theorem d_Tok_sameLetters_50 : decode b_Tok_sameLetters 50 = .ok (.caload, 1) := by decide +kernel
theorem d_Tok_sameLetters_51 : decode b_Tok_sameLetters 51 = .ok (.if_icmp .eq 5, 3) := by decide +kernel
theorem d_Tok_sameLetters_54 : decode b_Tok_sameLetters 54 = .ok (.iconst 0, 1) := by decide +kernel
theorem d_Tok_sameLetters_55 : decode b_Tok_sameLetters 55 = .ok (.ireturn, 1) := by decide +kernel
theorem d_Tok_sameLetters_56 : decode b_Tok_sameLetters 56 = .ok (.iinc 4 1, 3) := by decide +kernel
theorem d_Tok_sameLetters_59 : decode b_Tok_sameLetters 59 = .ok (.goto (-56), 3) := by decide +kernel
theorem d_Tok_sameLetters_62 : decode b_Tok_sameLetters 62 = .ok (.iconst 1, 1) := by decide +kernel
theorem d_Tok_sameLetters_63 : decode b_Tok_sameLetters 63 = .ok (.ireturn, 1) := by decide +kernel
theorem q_Tok_sameLetters : px_y y_Tok_sameLetters 3 := by unfold px_y; decide +kernel
set_option maxHeartbeats 4000000 in
set_option maxRecDepth 100000 in
theorem c_Tok_sameLetters (l : Launch) (D : va_G) (cs : Nat → ClassId) (h : Nat) (r : Nat → Nat) (tp : Nat) (tb : Nat → Int32) (f : Nat → Int32) (a : Nat → Nat → Int32) (g : Nat → Nat → Option Nat) (p0 p1 p2 : Int32) (hok : TokOk (f 7) (f 8) (f 10) (f 11) (f 12) (f 13) (f 17) (a 4)) (g0 : 0 ≤ p0.toInt) (g1 : p0.toInt ≤ 1000000) (g2 : 0 ≤ p1.toInt) (g3 : p1.toInt ≤ 1000000) (g4 : 0 ≤ p2.toInt) (g5 : p2.toInt ≤ 1000000) : MetI l y_Tok_sameLetters b_Tok_sameLetters 5 (.boolean) D cs 0 0 0 0 [.ref h, .int p0, .int p1, .int p2] [wd_Tok cs h r (fun _ => some tp) f a g, [(tp, .inl (cs 1, 2048, .inl tb))]] (fun _ => True) (fun v ps => (ps = [wd_Tok cs h r (fun _ => some tp) f a g, [(tp, .inl (cs 1, 2048, .inl tb))]]) ∧ (v = 0 ∨ v = 1)) := by
  refine px_enter (by decide) (Nat.le_of_ble_eq_true rfl) ?_
  intro p e s m below meth c A ls hAe S hr hlk hnm hA hT hX hw hl
  have hl : lv_has ls 5 [(0, .ref h), (1, .int p0), (2, .int p1), (3, .int p2)] := hl
  have lp0 := Int32.le_toInt p0
  have up0 := Int32.toInt_lt p0
  have lp1 := Int32.le_toInt p1
  have up1 := Int32.toInt_lt p1
  have lp2 := Int32.le_toInt p2
  have up2 := Int32.toInt_lt p2
  have cst0 : (0 : Int32).toInt = 0 := rfl
  have cst1 : (1 : Int32).toInt = 1 := rfl
  obtain ⟨⟨o1, o2⟩, ⟨o3, o4⟩, ⟨o5, o6⟩, ⟨o7, o8⟩, ⟨o9, o10⟩, ⟨o11, o12⟩, o13, hn4⟩ := hok
  have J3 : ∀ (n : Nat) (x3_4 : Int32) (H : Heap) (locs : List Loc) (ls : Array Slot), (0 ≤ x3_4.toInt) → (x3_4.toInt ≤ p2.toInt) → p2.toInt+1-x3_4.toInt < (n : Int) → pw D A s.heap H locs [wd_Tok cs h r (fun _ => some tp) f a g, [(tp, .inl (cs 1, 2048, .inl tb))]] → lv_has ls 5 [(0, .ref h), (1, .int p0), (2, .int p1), (3, .int p2), (4, .int x3_4)] → W p l e { frames := 0, cells := 0, slots := 0, locals := 0 } s m [.ref h, .int p0, .int p1, .int p2].toArray below meth c H locs 0 0 (MQ below (va_Qi (fun v ps => (ps = [wd_Tok cs h r (fun _ => some tp) f a g, [(tp, .inl (cs 1, 2048, .inl tb))]]) ∧ (v = 0 ∨ v = 1)) (pc_B D (va_A ([wd_Tok cs h r (fun _ => some tp) f a g, [(tp, .inl (cs 1, 2048, .inl tb))]] : List va_W).flatten s.heap.size)) (va_A ([wd_Tok cs h r (fun _ => some tp) f a g, [(tp, .inl (cs 1, 2048, .inl tb))]] : List va_W).flatten s.heap.size)) [.ref h, .int p0, .int p1, .int p2].toArray s 0 0 A) (F0 m 3 ls []) := by
    intro n
    induction n with
    | zero =>
      intro  x3_4 H locs ls k3_0 k3_1 hm hw hl
      have lx3_4 := Int32.le_toInt x3_4
      have ux3_4 := Int32.toInt_lt x3_4
      exact absurd hm (by omega)
    | succ n ih =>
      intro  x3_4 H locs ls k3_0 k3_1 hm hw hl
      have lx3_4 := Int32.le_toInt x3_4
      have ux3_4 := Int32.toInt_lt x3_4
      refine lv_iload S.x S.b d_Tok_sameLetters_3 (lv_at hl 4 rfl) ?_
      refine lv_iload_n S.x S.b d_Tok_sameLetters_5 rfl (lv_at hl 3 rfl) ?_
      refine lv_icmp_ge (tgt := 62) S.x S.b d_Tok_sameLetters_6 (by decide) (fun c1 => ?_) (fun c1 => ?_)
      · have nc1 : p2.toInt ≤ x3_4.toInt := (i_le (x := p2) (y := x3_4)).mp c1
        refine lv_iconst (v := 1) S.x S.b d_Tok_sameLetters_62 (by decide) ?_
        exact px_iret (v := 1) S hr rfl hlk hAe hw (Nat.le_of_ble_eq_true rfl) (Nat.le_of_ble_eq_true rfl) (⟨rfl, (show (1 : Int32) = 0 ∨ (1 : Int32) = 1 from by first | exact Or.inl rfl | exact Or.inr rfl | exact z_or (by omega))⟩) d_Tok_sameLetters_63
      · have nc1 : ¬ p2.toInt ≤ x3_4.toInt := mt (i_le (x := p2) (y := x3_4)).mpr c1
        refine lv_iload_n S.x S.b d_Tok_sameLetters_9 rfl (lv_at hl 1 rfl) ?_
        refine lv_iload S.x S.b d_Tok_sameLetters_10 (lv_at hl 4 rfl) ?_
        refine lv_iadd S.x S.b d_Tok_sameLetters_12 ?_
        refine lv_topi (fun z2 ez2 => ?_)
        have tz2 : z2.toInt = (p0.toInt + x3_4.toInt + 2147483648) % 4294967296 - 2147483648 := by rw [ez2]; exact i_add p0 x3_4
        have lz2 := Int32.le_toInt z2
        have uz2 := Int32.toInt_lt z2
        refine lv_aload_n S.x S.b d_Tok_sameLetters_13 rfl (lv_at hl 0 rfl) ?_
        refine px_get S k_Tok hT hw 0 0 3 (v := .ref (r 3)) rfl rfl rfl (by decide) m1_106 d_Tok_sameLetters_14 ?_
        refine px_len S hT hw 0 4 2 rfl rfl rfl (v := 2181) rfl d_Tok_sameLetters_17 ?_
        refine lv_icmp_ge (tgt := 54) S.x S.b d_Tok_sameLetters_18 (by decide) (fun c3 => ?_) (fun c3 => ?_)
        · have nc3 : (2181 : Int) ≤ z2.toInt := (i_le (x := 2181) (y := z2)).mp c3
          refine lv_iconst (v := 0) S.x S.b d_Tok_sameLetters_54 (by decide) ?_
          exact px_iret (v := 0) S hr rfl hlk hAe hw (Nat.le_of_ble_eq_true rfl) (Nat.le_of_ble_eq_true rfl) (⟨rfl, (show (0 : Int32) = 0 ∨ (0 : Int32) = 1 from by first | exact Or.inl rfl | exact Or.inr rfl | exact z_or (by omega))⟩) d_Tok_sameLetters_55
        · have nc3 : ¬ (2181 : Int) ≤ z2.toInt := mt (i_le (x := 2181) (y := z2)).mpr c3
          refine lv_iload_n S.x S.b d_Tok_sameLetters_21 rfl (lv_at hl 2 rfl) ?_
          refine lv_iload S.x S.b d_Tok_sameLetters_22 (lv_at hl 4 rfl) ?_
          refine lv_iadd S.x S.b d_Tok_sameLetters_24 ?_
          refine lv_topi (fun z4 ez4 => ?_)
          have tz4 : z4.toInt = (p1.toInt + x3_4.toInt + 2147483648) % 4294967296 - 2147483648 := by rw [ez4]; exact i_add p1 x3_4
          have lz4 := Int32.le_toInt z4
          have uz4 := Int32.toInt_lt z4
          refine lv_aload_n S.x S.b d_Tok_sameLetters_25 rfl (lv_at hl 0 rfl) ?_
          refine px_get S k_Tok hT hw 0 0 3 (v := .ref (r 3)) rfl rfl rfl (by decide) m1_106 d_Tok_sameLetters_26 ?_
          refine px_len S hT hw 0 4 2 rfl rfl rfl (v := 2181) rfl d_Tok_sameLetters_29 ?_
          refine lv_icmp_ge (tgt := 54) S.x S.b d_Tok_sameLetters_30 (by decide) (fun c5 => ?_) (fun c5 => ?_)
          · have nc5 : (2181 : Int) ≤ z4.toInt := (i_le (x := 2181) (y := z4)).mp c5
            refine lv_iconst (v := 0) S.x S.b d_Tok_sameLetters_54 (by decide) ?_
            exact px_iret (v := 0) S hr rfl hlk hAe hw (Nat.le_of_ble_eq_true rfl) (Nat.le_of_ble_eq_true rfl) (⟨rfl, (show (0 : Int32) = 0 ∨ (0 : Int32) = 1 from by first | exact Or.inl rfl | exact Or.inr rfl | exact z_or (by omega))⟩) d_Tok_sameLetters_55
          · have nc5 : ¬ (2181 : Int) ≤ z4.toInt := mt (i_le (x := 2181) (y := z4)).mpr c5
            refine lv_aload_n S.x S.b d_Tok_sameLetters_33 rfl (lv_at hl 0 rfl) ?_
            refine px_get S k_Tok hT hw 0 0 3 (v := .ref (r 3)) rfl rfl rfl (by decide) m1_106 d_Tok_sameLetters_34 ?_
            refine lv_iload_n S.x S.b d_Tok_sameLetters_37 rfl (lv_at hl 1 rfl) ?_
            refine lv_iload S.x S.b d_Tok_sameLetters_38 (lv_at hl 4 rfl) ?_
            refine lv_iadd S.x S.b d_Tok_sameLetters_40 ?_
            refine lv_topi (fun z6 ez6 => ?_)
            have tz6 : z6.toInt = (p0.toInt + x3_4.toInt + 2147483648) % 4294967296 - 2147483648 := by rw [ez6]; exact i_add p0 x3_4
            have lz6 := Int32.le_toInt z6
            have uz6 := Int32.toInt_lt z6
            refine px_cald S hT hw 0 4 (n := 2181) (f := (a 3)) rfl rfl (x := z6) (vp_in_iff.mpr (by constructor <;> omega)) d_Tok_sameLetters_41 ?_
            refine lv_topi (fun z7 ez7 => ?_)
            have lz7 := Int32.le_toInt z7
            have uz7 := Int32.toInt_lt z7
            refine lv_aload_n S.x S.b d_Tok_sameLetters_42 rfl (lv_at hl 0 rfl) ?_
            refine px_get S k_Tok hT hw 0 0 3 (v := .ref (r 3)) rfl rfl rfl (by decide) m1_106 d_Tok_sameLetters_43 ?_
            refine lv_iload_n S.x S.b d_Tok_sameLetters_46 rfl (lv_at hl 2 rfl) ?_
            refine lv_iload S.x S.b d_Tok_sameLetters_47 (lv_at hl 4 rfl) ?_
            refine lv_iadd S.x S.b d_Tok_sameLetters_49 ?_
            refine lv_topi (fun z8 ez8 => ?_)
            have tz8 : z8.toInt = (p1.toInt + x3_4.toInt + 2147483648) % 4294967296 - 2147483648 := by rw [ez8]; exact i_add p1 x3_4
            have lz8 := Int32.le_toInt z8
            have uz8 := Int32.toInt_lt z8
            refine px_cald S hT hw 0 4 (n := 2181) (f := (a 3)) rfl rfl (x := z8) (vp_in_iff.mpr (by constructor <;> omega)) d_Tok_sameLetters_50 ?_
            refine lv_topi (fun z9 ez9 => ?_)
            have lz9 := Int32.le_toInt z9
            have uz9 := Int32.toInt_lt z9
            refine lv_icmp_eq (tgt := 56) S.x S.b d_Tok_sameLetters_51 (by decide) (fun c10 => ?_) (fun c10 => ?_)
            · have nc10 : z7.toInt = z9.toInt := (i_eq (x := z7) (y := z9)).mp c10
              obtain ⟨z11, ez11⟩ : ∃ y : Int32, y = x3_4 + 1 := ⟨_, rfl⟩
              have tz11 : z11.toInt = (x3_4.toInt + 1 + 2147483648) % 4294967296 - 2147483648 := by rw [ez11]; exact i_add x3_4 1
              have lz11 := Int32.le_toInt z11
              have uz11 := Int32.toInt_lt z11
              refine lv_iinc (v := z11) (lv' := [(4, .int z11), (0, .ref h), (1, .int p0), (2, .int p1), (3, .int p2)]) S.x S.b d_Tok_sameLetters_56 hl (k := 4) rfl (by rw [ez11]; rfl) (by decide) rfl (fun ls hl => ?_)
              refine lv_goto (tgt := 3) S.x S.b d_Tok_sameLetters_59 (by decide) ?_
              exact ih  z11 _ _ ls  (show 0 ≤ z11.toInt from by first | with_reducible rfl | with_reducible assumption | omega) (show z11.toInt ≤ p2.toInt from by first | with_reducible rfl | with_reducible assumption | omega) (show p2.toInt+1-z11.toInt < (n : Int) from by first | with_reducible rfl | with_reducible assumption | omega) hw (lv_sub hl [1, 2, 3, 4, 0] rfl)
            · have nc10 : ¬ z7.toInt = z9.toInt := mt (i_eq (x := z7) (y := z9)).mpr c10
              refine lv_iconst (v := 0) S.x S.b d_Tok_sameLetters_54 (by decide) ?_
              exact px_iret (v := 0) S hr rfl hlk hAe hw (Nat.le_of_ble_eq_true rfl) (Nat.le_of_ble_eq_true rfl) (⟨rfl, (show (0 : Int32) = 0 ∨ (0 : Int32) = 1 from by first | exact Or.inl rfl | exact Or.inr rfl | exact z_or (by omega))⟩) d_Tok_sameLetters_55
  refine lv_iconst (v := 0) S.x S.b d_Tok_sameLetters_0 (by decide) ?_
  refine lv_istore (lv' := [(4, .int 0), (0, .ref h), (1, .int p0), (2, .int p1), (3, .int p2)]) S.x S.b d_Tok_sameLetters_1 hl (by decide) rfl (fun ls hl => ?_)
  first | exact J3 ((p2.toInt+1-(0 : Int)).toNat + 1)  (0 : Int32) _ _ ls  (show 0 ≤ (0 : Int) from by first | decide | omega) (show (0 : Int) ≤ p2.toInt from (oz_50c21e157e g4)) (show p2.toInt+1-(0 : Int) < ((((p2.toInt+1-(0 : Int)).toNat + 1 : Nat) : Int) : Int) from oz_natlt) hw (lv_sub hl [1, 2, 3, 4, 0] rfl) | exact J3 ((p2.toInt+1-(0 : Int)).toNat + 1)  (0 : Int32) _ _ ls  (show 0 ≤ (0 : Int) from by first | decide | omega) (show (0 : Int) ≤ p2.toInt from by first | exact oz_50c21e157e g4 | omega) (show p2.toInt+1-(0 : Int) < ((((p2.toInt+1-(0 : Int)).toNat + 1 : Nat) : Int) : Int) from by first | exact oz_natlt | omega) hw (lv_sub hl [1, 2, 3, 4, 0] rfl)
abbrev b_Tok_intern : ByteArray := prog_12_method_11_code
def y_Tok_intern : MethodName := ⟨"HomeSystem$Tokens", "intern", "(II)I"⟩
theorem d_Tok_intern_0 : decode b_Tok_intern 0 = .ok (.iconst 0, 1) := by decide +kernel
theorem d_Tok_intern_1 : decode b_Tok_intern 1 = .ok (.istore_n 3, 1) := by decide +kernel
theorem d_Tok_intern_2 : decode b_Tok_intern 2 = .ok (.iconst 0, 1) := by decide +kernel
theorem d_Tok_intern_3 : decode b_Tok_intern 3 = .ok (.istore 4, 2) := by decide +kernel
theorem d_Tok_intern_5 : decode b_Tok_intern 5 = .ok (.iload 4, 2) := by decide +kernel
theorem d_Tok_intern_7 : decode b_Tok_intern 7 = .ok (.aload_n 0, 1) := by decide +kernel
theorem d_Tok_intern_8 : decode b_Tok_intern 8 = .ok (.getfield 56, 3) := by decide +kernel
theorem d_Tok_intern_11 : decode b_Tok_intern 11 = .ok (.if_icmp .ge 43, 3) := by decide +kernel
theorem d_Tok_intern_14 : decode b_Tok_intern 14 = .ok (.aload_n 0, 1) := by decide +kernel
theorem d_Tok_intern_15 : decode b_Tok_intern 15 = .ok (.getfield 33, 3) := by decide +kernel
theorem d_Tok_intern_18 : decode b_Tok_intern 18 = .ok (.iload 4, 2) := by decide +kernel
theorem d_Tok_intern_20 : decode b_Tok_intern 20 = .ok (.iaload, 1) := by decide +kernel
theorem d_Tok_intern_21 : decode b_Tok_intern 21 = .ok (.iload_n 3, 1) := by decide +kernel
theorem d_Tok_intern_22 : decode b_Tok_intern 22 = .ok (.isub, 1) := by decide +kernel
theorem d_Tok_intern_23 : decode b_Tok_intern 23 = .ok (.iload_n 2, 1) := by decide +kernel
theorem d_Tok_intern_24 : decode b_Tok_intern 24 = .ok (.if_icmp .ne 16, 3) := by decide +kernel
theorem d_Tok_intern_27 : decode b_Tok_intern 27 = .ok (.aload_n 0, 1) := by decide +kernel
theorem d_Tok_intern_28 : decode b_Tok_intern 28 = .ok (.iload_n 3, 1) := by decide +kernel
theorem d_Tok_intern_29 : decode b_Tok_intern 29 = .ok (.iload_n 1, 1) := by decide +kernel
theorem d_Tok_intern_30 : decode b_Tok_intern 30 = .ok (.iload_n 2, 1) := by decide +kernel
theorem d_Tok_intern_31 : decode b_Tok_intern 31 = .ok (.invokevirtual 112, 3) := by decide +kernel
theorem d_Tok_intern_34 : decode b_Tok_intern 34 = .ok (.ifCond .eq 6, 3) := by decide +kernel
theorem d_Tok_intern_37 : decode b_Tok_intern 37 = .ok (.iload 4, 2) := by decide +kernel
theorem d_Tok_intern_39 : decode b_Tok_intern 39 = .ok (.ireturn, 1) := by decide +kernel
theorem d_Tok_intern_40 : decode b_Tok_intern 40 = .ok (.aload_n 0, 1) := by decide +kernel
theorem d_Tok_intern_41 : decode b_Tok_intern 41 = .ok (.getfield 33, 3) := by decide +kernel
theorem d_Tok_intern_44 : decode b_Tok_intern 44 = .ok (.iload 4, 2) := by decide +kernel
theorem d_Tok_intern_46 : decode b_Tok_intern 46 = .ok (.iaload, 1) := by decide +kernel
theorem d_Tok_intern_47 : decode b_Tok_intern 47 = .ok (.istore_n 3, 1) := by decide +kernel
theorem d_Tok_intern_48 : decode b_Tok_intern 48 = .ok (.iinc 4 1, 3) := by decide +kernel
theorem d_Tok_intern_51 : decode b_Tok_intern 51 = .ok (.goto (-46), 3) := by decide +kernel
theorem d_Tok_intern_54 : decode b_Tok_intern 54 = .ok (.aload_n 0, 1) := by decide +kernel
theorem d_Tok_intern_55 : decode b_Tok_intern 55 = .ok (.getfield 56, 3) := by decide +kernel
theorem d_Tok_intern_58 : decode b_Tok_intern 58 = .ok (.aload_n 0, 1) := by decide +kernel
theorem d_Tok_intern_59 : decode b_Tok_intern 59 = .ok (.getfield 33, 3) := by decide +kernel
theorem d_Tok_intern_62 : decode b_Tok_intern 62 = .ok (.arraylength, 1) := by decide +kernel
theorem d_Tok_intern_63 : decode b_Tok_intern 63 = .ok (.if_icmp .ge 25, 3) := by decide +kernel
theorem d_Tok_intern_66 : decode b_Tok_intern 66 = .ok (.aload_n 0, 1) := by decide +kernel
theorem d_Tok_intern_67 : decode b_Tok_intern 67 = .ok (.getfield 33, 3) := by decide +kernel
theorem d_Tok_intern_70 : decode b_Tok_intern 70 = .ok (.aload_n 0, 1) := by decide +kernel
theorem d_Tok_intern_71 : decode b_Tok_intern 71 = .ok (.getfield 56, 3) := by decide +kernel
theorem d_Tok_intern_74 : decode b_Tok_intern 74 = .ok (.iload_n 1, 1) := by decide +kernel
theorem d_Tok_intern_75 : decode b_Tok_intern 75 = .ok (.iload_n 2, 1) := by decide +kernel
theorem d_Tok_intern_76 : decode b_Tok_intern 76 = .ok (.iadd, 1) := by decide +kernel
theorem d_Tok_intern_77 : decode b_Tok_intern 77 = .ok (.iastore, 1) := by decide +kernel
theorem d_Tok_intern_78 : decode b_Tok_intern 78 = .ok (.aload_n 0, 1) := by decide +kernel
theorem d_Tok_intern_79 : decode b_Tok_intern 79 = .ok (.dup, 1) := by decide +kernel
theorem d_Tok_intern_80 : decode b_Tok_intern 80 = .ok (.getfield 56, 3) := by decide +kernel
theorem d_Tok_intern_83 : decode b_Tok_intern 83 = .ok (.iconst 1, 1) := by decide +kernel
theorem d_Tok_intern_84 : decode b_Tok_intern 84 = .ok (.iadd, 1) := by decide +kernel
theorem d_Tok_intern_85 : decode b_Tok_intern 85 = .ok (.putfield 56, 3) := by decide +kernel
theorem d_Tok_intern_88 : decode b_Tok_intern 88 = .ok (.aload_n 0, 1) := by decide +kernel
theorem d_Tok_intern_89 : decode b_Tok_intern 89 = .ok (.getfield 56, 3) := by decide +kernel
theorem d_Tok_intern_92 : decode b_Tok_intern 92 = .ok (.iconst 1, 1) := by decide +kernel
theorem d_Tok_intern_93 : decode b_Tok_intern 93 = .ok (.isub, 1) := by decide +kernel
theorem d_Tok_intern_94 : decode b_Tok_intern 94 = .ok (.ireturn, 1) := by decide +kernel
theorem q_Tok_intern : px_y y_Tok_intern 2 := by unfold px_y; decide +kernel
abbrev b_Tok_name : ByteArray := prog_12_method_10_code
def y_Tok_name : MethodName := ⟨"HomeSystem$Tokens", "name", "()I"⟩
theorem d_Tok_name_0 : decode b_Tok_name 0 = .ok (.aload_n 0, 1) := by decide +kernel
theorem d_Tok_name_1 : decode b_Tok_name 1 = .ok (.getfield 33, 3) := by decide +kernel
theorem d_Tok_name_4 : decode b_Tok_name 4 = .ok (.aload_n 0, 1) := by decide +kernel
theorem d_Tok_name_5 : decode b_Tok_name 5 = .ok (.getfield 56, 3) := by decide +kernel
theorem d_Tok_name_8 : decode b_Tok_name 8 = .ok (.iconst 1, 1) := by decide +kernel
theorem d_Tok_name_9 : decode b_Tok_name 9 = .ok (.isub, 1) := by decide +kernel
theorem d_Tok_name_10 : decode b_Tok_name 10 = .ok (.iaload, 1) := by decide +kernel
theorem d_Tok_name_11 : decode b_Tok_name 11 = .ok (.istore_n 1, 1) := by decide +kernel
theorem d_Tok_name_12 : decode b_Tok_name 12 = .ok (.iconst 0, 1) := by decide +kernel
theorem d_Tok_name_13 : decode b_Tok_name 13 = .ok (.istore_n 2, 1) := by decide +kernel
theorem d_Tok_name_14 : decode b_Tok_name 14 = .ok (.aload_n 0, 1) := by decide +kernel
theorem d_Tok_name_15 : decode b_Tok_name 15 = .ok (.aload_n 0, 1) := by decide +kernel
theorem d_Tok_name_16 : decode b_Tok_name 16 = .ok (.getfield 50, 3) := by decide +kernel
theorem d_Tok_name_19 : decode b_Tok_name 19 = .ok (.invokevirtual 73, 3) := by decide +kernel
theorem d_Tok_name_22 : decode b_Tok_name 22 = .ok (.istore_n 3, 1) := by decide +kernel
theorem d_Tok_name_23 : decode b_Tok_name 23 = .ok (.aload_n 0, 1) := by decide +kernel
theorem d_Tok_name_24 : decode b_Tok_name 24 = .ok (.getfield 50, 3) := by decide +kernel
theorem d_Tok_name_27 : decode b_Tok_name 27 = .ok (.aload_n 0, 1) := by decide +kernel
theorem d_Tok_name_28 : decode b_Tok_name 28 = .ok (.getfield 47, 3) := by decide +kernel
theorem d_Tok_name_31 : decode b_Tok_name 31 = .ok (.if_icmp .ge 63, 3) := by decide +kernel
theorem d_Tok_name_34 : decode b_Tok_name 34 = .ok (.iload_n 3, 1) := by decide +kernel
theorem d_Tok_name_35 : decode b_Tok_name 35 = .ok (.invokestatic 86, 3) := by decide +kernel
theorem d_Tok_name_38 : decode b_Tok_name 38 = .ok (.ifCond .ne 10, 3) := by decide +kernel
theorem d_Tok_name_41 : decode b_Tok_name 41 = .ok (.iload_n 3, 1) := by decide +kernel
theorem d_Tok_name_42 : decode b_Tok_name 42 = .ok (.invokestatic 93, 3) := by decide +kernel
theorem d_Tok_name_45 : decode b_Tok_name 45 = .ok (.ifCond .eq 49, 3) := by decide +kernel
theorem d_Tok_name_48 : decode b_Tok_name 48 = .ok (.iload_n 1, 1) := by decide +kernel
theorem d_Tok_name_49 : decode b_Tok_name 49 = .ok (.iload_n 2, 1) := by decide +kernel
theorem d_Tok_name_50 : decode b_Tok_name 50 = .ok (.iadd, 1) := by decide +kernel
theorem d_Tok_name_51 : decode b_Tok_name 51 = .ok (.aload_n 0, 1) := by decide +kernel
theorem d_Tok_name_52 : decode b_Tok_name 52 = .ok (.getfield 29, 3) := by decide +kernel
theorem d_Tok_name_55 : decode b_Tok_name 55 = .ok (.arraylength, 1) := by decide +kernel
theorem d_Tok_name_56 : decode b_Tok_name 56 = .ok (.if_icmp .ge 13, 3) := by decide +kernel
theorem d_Tok_name_59 : decode b_Tok_name 59 = .ok (.aload_n 0, 1) := by decide +kernel
theorem d_Tok_name_60 : decode b_Tok_name 60 = .ok (.getfield 29, 3) := by decide +kernel
theorem d_Tok_name_63 : decode b_Tok_name 63 = .ok (.iload_n 1, 1) := by decide +kernel
theorem d_Tok_name_64 : decode b_Tok_name 64 = .ok (.iload_n 2, 1) := by decide +kernel
theorem d_Tok_name_65 : decode b_Tok_name 65 = .ok (.iadd, 1) := by decide +kernel
theorem d_Tok_name_66 : decode b_Tok_name 66 = .ok (.iload_n 3, 1) := by decide +kernel
theorem d_Tok_name_67 : decode b_Tok_name 67 = .ok (.i2c, 1) := by decide +kernel
theorem d_Tok_name_68 : decode b_Tok_name 68 = .ok (.castore, 1) := by decide +kernel
theorem d_Tok_name_69 : decode b_Tok_name 69 = .ok (.iinc 2 1, 3) := by decide +kernel
theorem d_Tok_name_72 : decode b_Tok_name 72 = .ok (.aload_n 0, 1) := by decide +kernel
theorem d_Tok_name_73 : decode b_Tok_name 73 = .ok (.dup, 1) := by decide +kernel
theorem d_Tok_name_74 : decode b_Tok_name 74 = .ok (.getfield 50, 3) := by decide +kernel
theorem d_Tok_name_77 : decode b_Tok_name 77 = .ok (.iconst 1, 1) := by decide +kernel
theorem d_Tok_name_78 : decode b_Tok_name 78 = .ok (.iadd, 1) := by decide +kernel
theorem d_Tok_name_79 : decode b_Tok_name 79 = .ok (.putfield 50, 3) := by decide +kernel
theorem d_Tok_name_82 : decode b_Tok_name 82 = .ok (.aload_n 0, 1) := by decide +kernel
theorem d_Tok_name_83 : decode b_Tok_name 83 = .ok (.aload_n 0, 1) := by decide +kernel
theorem d_Tok_name_84 : decode b_Tok_name 84 = .ok (.getfield 50, 3) := by decide +kernel
theorem d_Tok_name_87 : decode b_Tok_name 87 = .ok (.invokevirtual 73, 3) := by decide +kernel
theorem d_Tok_name_90 : decode b_Tok_name 90 = .ok (.istore_n 3, 1) := by decide +kernel
theorem d_Tok_name_91 : decode b_Tok_name 91 = .ok (.goto (-68), 3) := by decide +kernel
theorem d_Tok_name_94 : decode b_Tok_name 94 = .ok (.iload_n 2, 1) := by decide +kernel
theorem d_Tok_name_95 : decode b_Tok_name 95 = .ok (.bipush 24, 2) := by decide +kernel
theorem d_Tok_name_97 : decode b_Tok_name 97 = .ok (.if_icmp .le 6, 3) := by decide +kernel
theorem d_Tok_name_100 : decode b_Tok_name 100 = .ok (.bipush 19, 2) := by decide +kernel
theorem d_Tok_name_102 : decode b_Tok_name 102 = .ok (.ireturn, 1) := by decide +kernel
theorem d_Tok_name_103 : decode b_Tok_name 103 = .ok (.aload_n 0, 1) := by decide +kernel
theorem d_Tok_name_104 : decode b_Tok_name 104 = .ok (.aload_n 0, 1) := by decide +kernel
theorem d_Tok_name_105 : decode b_Tok_name 105 = .ok (.iload_n 1, 1) := by decide +kernel
theorem d_Tok_name_106 : decode b_Tok_name 106 = .ok (.iload_n 2, 1) := by decide +kernel
theorem d_Tok_name_107 : decode b_Tok_name 107 = .ok (.invokevirtual 108, 3) := by decide +kernel
theorem d_Tok_name_110 : decode b_Tok_name 110 = .ok (.putfield 83, 3) := by decide +kernel
theorem d_Tok_name_113 : decode b_Tok_name 113 = .ok (.aload_n 0, 1) := by decide +kernel
theorem d_Tok_name_114 : decode b_Tok_name 114 = .ok (.getfield 83, 3) := by decide +kernel
theorem d_Tok_name_117 : decode b_Tok_name 117 = .ok (.bipush 15, 2) := by decide +kernel
theorem d_Tok_name_119 : decode b_Tok_name 119 = .ok (.if_icmp .ge 12, 3) := by decide +kernel
theorem d_Tok_name_122 : decode b_Tok_name 122 = .ok (.aload_n 0, 1) := by decide +kernel
theorem d_Tok_name_123 : decode b_Tok_name 123 = .ok (.getfield 83, 3) := by decide +kernel
theorem d_Tok_name_126 : decode b_Tok_name 126 = .ok (.iconst 1, 1) := by decide +kernel
theorem d_Tok_name_127 : decode b_Tok_name 127 = .ok (.iadd, 1) := by decide +kernel
theorem d_Tok_name_128 : decode b_Tok_name 128 = .ok (.goto 5, 3) := by decide +kernel
theorem d_Tok_name_131 : decode b_Tok_name 131 = .ok (.bipush 16, 2) := by decide +kernel
theorem d_Tok_name_133 : decode b_Tok_name 133 = .ok (.ireturn, 1) := by decide +kernel
theorem q_Tok_name : px_y y_Tok_name 0 := by unfold px_y; decide +kernel
abbrev b_Tok_number : ByteArray := prog_12_method_13_code
def y_Tok_number : MethodName := ⟨"HomeSystem$Tokens", "number", "()I"⟩
theorem d_Tok_number_0 : decode b_Tok_number 0 = .ok (.aload_n 0, 1) := by decide +kernel
theorem d_Tok_number_1 : decode b_Tok_number 1 = .ok (.aload_n 0, 1) := by decide +kernel
theorem d_Tok_number_2 : decode b_Tok_number 2 = .ok (.getfield 50, 3) := by decide +kernel
theorem d_Tok_number_5 : decode b_Tok_number 5 = .ok (.invokevirtual 73, 3) := by decide +kernel
theorem d_Tok_number_8 : decode b_Tok_number 8 = .ok (.bipush 48, 2) := by decide +kernel
theorem d_Tok_number_10 : decode b_Tok_number 10 = .ok (.if_icmp .ne 22, 3) := by decide +kernel
theorem d_Tok_number_13 : decode b_Tok_number 13 = .ok (.aload_n 0, 1) := by decide +kernel
theorem d_Tok_number_14 : decode b_Tok_number 14 = .ok (.aload_n 0, 1) := by decide +kernel
theorem d_Tok_number_15 : decode b_Tok_number 15 = .ok (.getfield 50, 3) := by decide +kernel
theorem d_Tok_number_18 : decode b_Tok_number 18 = .ok (.iconst 1, 1) := by decide +kernel
theorem d_Tok_number_19 : decode b_Tok_number 19 = .ok (.iadd, 1) := by decide +kernel
theorem d_Tok_number_20 : decode b_Tok_number 20 = .ok (.invokevirtual 73, 3) := by decide +kernel
theorem d_Tok_number_23 : decode b_Tok_number 23 = .ok (.bipush 120, 2) := by decide +kernel
theorem d_Tok_number_25 : decode b_Tok_number 25 = .ok (.if_icmp .ne 7, 3) := by decide +kernel
theorem d_Tok_number_28 : decode b_Tok_number 28 = .ok (.iconst 1, 1) := by decide +kernel
theorem d_Tok_number_29 : decode b_Tok_number 29 = .ok (.goto 4, 3) := by decide +kernel
theorem d_Tok_number_32 : decode b_Tok_number 32 = .ok (.iconst 0, 1) := by decide +kernel
theorem d_Tok_number_33 : decode b_Tok_number 33 = .ok (.istore_n 1, 1) := by decide +kernel
theorem d_Tok_number_34 : decode b_Tok_number 34 = .ok (.iload_n 1, 1) := by decide +kernel
theorem d_Tok_number_35 : decode b_Tok_number 35 = .ok (.ifCond .eq 8, 3) := by decide +kernel
theorem d_Tok_number_38 : decode b_Tok_number 38 = .ok (.bipush 16, 2) := by decide +kernel
theorem d_Tok_number_40 : decode b_Tok_number 40 = .ok (.goto 5, 3) := by decide +kernel
theorem d_Tok_number_43 : decode b_Tok_number 43 = .ok (.bipush 10, 2) := by decide +kernel
theorem d_Tok_number_45 : decode b_Tok_number 45 = .ok (.istore_n 2, 1) := by decide +kernel
theorem d_Tok_number_46 : decode b_Tok_number 46 = .ok (.iload_n 1, 1) := by decide +kernel
theorem d_Tok_number_47 : decode b_Tok_number 47 = .ok (.ifCond .eq 8, 3) := by decide +kernel
theorem d_Tok_number_50 : decode b_Tok_number 50 = .ok (.bipush 8, 2) := by decide +kernel
theorem d_Tok_number_52 : decode b_Tok_number 52 = .ok (.goto 5, 3) := by decide +kernel
theorem d_Tok_number_55 : decode b_Tok_number 55 = .ok (.bipush 10, 2) := by decide +kernel
theorem d_Tok_number_57 : decode b_Tok_number 57 = .ok (.istore_n 3, 1) := by decide +kernel
theorem d_Tok_number_58 : decode b_Tok_number 58 = .ok (.iconst 0, 1) := by decide +kernel
theorem d_Tok_number_59 : decode b_Tok_number 59 = .ok (.istore 4, 2) := by decide +kernel
theorem d_Tok_number_61 : decode b_Tok_number 61 = .ok (.lconst 0, 1) := by decide +kernel
theorem d_Tok_number_62 : decode b_Tok_number 62 = .ok (.lstore 5, 2) := by decide +kernel
theorem d_Tok_number_64 : decode b_Tok_number 64 = .ok (.aload_n 0, 1) := by decide +kernel
theorem d_Tok_number_65 : decode b_Tok_number 65 = .ok (.dup, 1) := by decide +kernel
theorem d_Tok_number_66 : decode b_Tok_number 66 = .ok (.getfield 50, 3) := by decide +kernel
theorem d_Tok_number_69 : decode b_Tok_number 69 = .ok (.iload_n 1, 1) := by decide +kernel
theorem d_Tok_number_70 : decode b_Tok_number 70 = .ok (.ifCond .eq 7, 3) := by decide +kernel
theorem d_Tok_number_73 : decode b_Tok_number 73 = .ok (.iconst 2, 1) := by decide +kernel
theorem d_Tok_number_74 : decode b_Tok_number 74 = .ok (.goto 4, 3) := by decide +kernel
theorem d_Tok_number_77 : decode b_Tok_number 77 = .ok (.iconst 0, 1) := by decide +kernel
theorem d_Tok_number_78 : decode b_Tok_number 78 = .ok (.iadd, 1) := by decide +kernel
theorem d_Tok_number_79 : decode b_Tok_number 79 = .ok (.putfield 50, 3) := by decide +kernel
theorem d_Tok_number_82 : decode b_Tok_number 82 = .ok (.aload_n 0, 1) := by decide +kernel
theorem d_Tok_number_83 : decode b_Tok_number 83 = .ok (.iload_n 2, 1) := by decide +kernel
theorem d_Tok_number_84 : decode b_Tok_number 84 = .ok (.invokevirtual 116, 3) := by decide +kernel
theorem d_Tok_number_87 : decode b_Tok_number 87 = .ok (.istore 7, 2) := by decide +kernel
theorem d_Tok_number_89 : decode b_Tok_number 89 = .ok (.aload_n 0, 1) := by decide +kernel
theorem d_Tok_number_90 : decode b_Tok_number 90 = .ok (.getfield 50, 3) := by decide +kernel
theorem d_Tok_number_93 : decode b_Tok_number 93 = .ok (.aload_n 0, 1) := by decide +kernel
theorem d_Tok_number_94 : decode b_Tok_number 94 = .ok (.getfield 47, 3) := by decide +kernel
theorem d_Tok_number_97 : decode b_Tok_number 97 = .ok (.if_icmp .ge 53, 3) := by decide +kernel
theorem d_Tok_number_100 : decode b_Tok_number 100 = .ok (.iload 7, 2) := by decide +kernel
theorem d_Tok_number_102 : decode b_Tok_number 102 = .ok (.ifCond .lt 48, 3) := by decide +kernel
theorem d_Tok_number_105 : decode b_Tok_number 105 = .ok (.iload 4, 2) := by decide +kernel
theorem d_Tok_number_107 : decode b_Tok_number 107 = .ok (.iload_n 3, 1) := by decide +kernel
theorem d_Tok_number_108 : decode b_Tok_number 108 = .ok (.if_icmp .ge 15, 3) := by decide +kernel
theorem d_Tok_number_111 : decode b_Tok_number 111 = .ok (.lload 5, 2) := by decide +kernel
theorem d_Tok_number_113 : decode b_Tok_number 113 = .ok (.iload_n 2, 1) := by decide +kernel
theorem d_Tok_number_114 : decode b_Tok_number 114 = .ok (.i2l, 1) := by decide +kernel
theorem d_Tok_number_115 : decode b_Tok_number 115 = .ok (.lmul, 1) := by decide +kernel
theorem d_Tok_number_116 : decode b_Tok_number 116 = .ok (.iload 7, 2) := by decide +kernel
theorem d_Tok_number_118 : decode b_Tok_number 118 = .ok (.i2l, 1) := by decide +kernel
theorem d_Tok_number_119 : decode b_Tok_number 119 = .ok (.ladd, 1) := by decide +kernel
theorem d_Tok_number_120 : decode b_Tok_number 120 = .ok (.goto 5, 3) := by decide +kernel
theorem d_Tok_number_123 : decode b_Tok_number 123 = .ok (.lload 5, 2) := by decide +kernel
theorem d_Tok_number_125 : decode b_Tok_number 125 = .ok (.lstore 5, 2) := by decide +kernel
theorem d_Tok_number_127 : decode b_Tok_number 127 = .ok (.iinc 4 1, 3) := by decide +kernel
theorem d_Tok_number_130 : decode b_Tok_number 130 = .ok (.aload_n 0, 1) := by decide +kernel
theorem d_Tok_number_131 : decode b_Tok_number 131 = .ok (.dup, 1) := by decide +kernel
theorem d_Tok_number_132 : decode b_Tok_number 132 = .ok (.getfield 50, 3) := by decide +kernel
theorem d_Tok_number_135 : decode b_Tok_number 135 = .ok (.iconst 1, 1) := by decide +kernel
theorem d_Tok_number_136 : decode b_Tok_number 136 = .ok (.iadd, 1) := by decide +kernel
theorem d_Tok_number_137 : decode b_Tok_number 137 = .ok (.putfield 50, 3) := by decide +kernel
theorem d_Tok_number_140 : decode b_Tok_number 140 = .ok (.aload_n 0, 1) := by decide +kernel
theorem d_Tok_number_141 : decode b_Tok_number 141 = .ok (.iload_n 2, 1) := by decide +kernel
theorem d_Tok_number_142 : decode b_Tok_number 142 = .ok (.invokevirtual 116, 3) := by decide +kernel
theorem d_Tok_number_145 : decode b_Tok_number 145 = .ok (.istore 7, 2) := by decide +kernel
theorem d_Tok_number_147 : decode b_Tok_number 147 = .ok (.goto (-58), 3) := by decide +kernel
theorem d_Tok_number_150 : decode b_Tok_number 150 = .ok (.iload 4, 2) := by decide +kernel
theorem d_Tok_number_152 : decode b_Tok_number 152 = .ok (.ifCond .eq 18, 3) := by decide +kernel
theorem d_Tok_number_155 : decode b_Tok_number 155 = .ok (.iload 4, 2) := by decide +kernel
theorem d_Tok_number_157 : decode b_Tok_number 157 = .ok (.iload_n 3, 1) := by decide +kernel
theorem d_Tok_number_158 : decode b_Tok_number 158 = .ok (.if_icmp .gt 12, 3) := by decide +kernel
theorem d_Tok_number_161 : decode b_Tok_number 161 = .ok (.lload 5, 2) := by decide +kernel
theorem d_Tok_number_163 : decode b_Tok_number 163 = .ok (.ldc2_w 119, 3) := by decide +kernel
theorem d_Tok_number_166 : decode b_Tok_number 166 = .ok (.lcmp, 1) := by decide +kernel
theorem d_Tok_number_167 : decode b_Tok_number 167 = .ok (.ifCond .le 6, 3) := by decide +kernel
theorem d_Tok_number_170 : decode b_Tok_number 170 = .ok (.bipush 19, 2) := by decide +kernel
theorem d_Tok_number_172 : decode b_Tok_number 172 = .ok (.ireturn, 1) := by decide +kernel
theorem d_Tok_number_173 : decode b_Tok_number 173 = .ok (.aload_n 0, 1) := by decide +kernel
theorem d_Tok_number_174 : decode b_Tok_number 174 = .ok (.lload 5, 2) := by decide +kernel
theorem d_Tok_number_176 : decode b_Tok_number 176 = .ok (.l2i, 1) := by decide +kernel
theorem d_Tok_number_177 : decode b_Tok_number 177 = .ok (.putfield 83, 3) := by decide +kernel
theorem d_Tok_number_180 : decode b_Tok_number 180 = .ok (.bipush 17, 2) := by decide +kernel
theorem d_Tok_number_182 : decode b_Tok_number 182 = .ok (.ireturn, 1) := by decide +kernel
theorem q_Tok_number : px_y y_Tok_number 0 := by unfold px_y; decide +kernel
abbrev b_Tok_character : ByteArray := prog_12_method_17_code
def y_Tok_character : MethodName := ⟨"HomeSystem$Tokens", "character", "()I"⟩
theorem d_Tok_character_0 : decode b_Tok_character 0 = .ok (.aload_n 0, 1) := by decide +kernel
theorem d_Tok_character_1 : decode b_Tok_character 1 = .ok (.aload_n 0, 1) := by decide +kernel
theorem d_Tok_character_2 : decode b_Tok_character 2 = .ok (.getfield 50, 3) := by decide +kernel
theorem d_Tok_character_5 : decode b_Tok_character 5 = .ok (.iconst 1, 1) := by decide +kernel
theorem d_Tok_character_6 : decode b_Tok_character 6 = .ok (.iadd, 1) := by decide +kernel
theorem d_Tok_character_7 : decode b_Tok_character 7 = .ok (.bipush 39, 2) := by decide +kernel
theorem d_Tok_character_9 : decode b_Tok_character 9 = .ok (.invokevirtual 121, 3) := by decide +kernel
theorem d_Tok_character_12 : decode b_Tok_character 12 = .ok (.istore_n 1, 1) := by decide +kernel
theorem d_Tok_character_13 : decode b_Tok_character 13 = .ok (.aload_n 0, 1) := by decide +kernel
theorem d_Tok_character_14 : decode b_Tok_character 14 = .ok (.getfield 50, 3) := by decide +kernel
theorem d_Tok_character_17 : decode b_Tok_character 17 = .ok (.iconst 1, 1) := by decide +kernel
theorem d_Tok_character_18 : decode b_Tok_character 18 = .ok (.iadd, 1) := by decide +kernel
theorem d_Tok_character_19 : decode b_Tok_character 19 = .ok (.aload_n 0, 1) := by decide +kernel
theorem d_Tok_character_20 : decode b_Tok_character 20 = .ok (.aload_n 0, 1) := by decide +kernel
theorem d_Tok_character_21 : decode b_Tok_character 21 = .ok (.getfield 50, 3) := by decide +kernel
theorem d_Tok_character_24 : decode b_Tok_character 24 = .ok (.iconst 1, 1) := by decide +kernel
theorem d_Tok_character_25 : decode b_Tok_character 25 = .ok (.iadd, 1) := by decide +kernel
theorem d_Tok_character_26 : decode b_Tok_character 26 = .ok (.invokevirtual 124, 3) := by decide +kernel
theorem d_Tok_character_29 : decode b_Tok_character 29 = .ok (.iadd, 1) := by decide +kernel
theorem d_Tok_character_30 : decode b_Tok_character 30 = .ok (.istore_n 2, 1) := by decide +kernel
theorem d_Tok_character_31 : decode b_Tok_character 31 = .ok (.iload_n 1, 1) := by decide +kernel
theorem d_Tok_character_32 : decode b_Tok_character 32 = .ok (.ifCond .lt 13, 3) := by decide +kernel
theorem d_Tok_character_35 : decode b_Tok_character 35 = .ok (.aload_n 0, 1) := by decide +kernel
theorem d_Tok_character_36 : decode b_Tok_character 36 = .ok (.iload_n 2, 1) := by decide +kernel
theorem d_Tok_character_37 : decode b_Tok_character 37 = .ok (.invokevirtual 73, 3) := by decide +kernel
theorem d_Tok_character_40 : decode b_Tok_character 40 = .ok (.bipush 39, 2) := by decide +kernel
theorem d_Tok_character_42 : decode b_Tok_character 42 = .ok (.if_icmp .eq 6, 3) := by decide +kernel
theorem d_Tok_character_45 : decode b_Tok_character 45 = .ok (.bipush 19, 2) := by decide +kernel
theorem d_Tok_character_47 : decode b_Tok_character 47 = .ok (.ireturn, 1) := by decide +kernel
theorem d_Tok_character_48 : decode b_Tok_character 48 = .ok (.aload_n 0, 1) := by decide +kernel
theorem d_Tok_character_49 : decode b_Tok_character 49 = .ok (.iload_n 1, 1) := by decide +kernel
theorem d_Tok_character_50 : decode b_Tok_character 50 = .ok (.putfield 83, 3) := by decide +kernel
theorem d_Tok_character_53 : decode b_Tok_character 53 = .ok (.aload_n 0, 1) := by decide +kernel
theorem d_Tok_character_54 : decode b_Tok_character 54 = .ok (.iload_n 2, 1) := by decide +kernel
theorem d_Tok_character_55 : decode b_Tok_character 55 = .ok (.iconst 1, 1) := by decide +kernel
theorem d_Tok_character_56 : decode b_Tok_character 56 = .ok (.iadd, 1) := by decide +kernel
theorem d_Tok_character_57 : decode b_Tok_character 57 = .ok (.putfield 50, 3) := by decide +kernel
theorem d_Tok_character_60 : decode b_Tok_character 60 = .ok (.bipush 17, 2) := by decide +kernel
theorem d_Tok_character_62 : decode b_Tok_character 62 = .ok (.ireturn, 1) := by decide +kernel
theorem q_Tok_character : px_y y_Tok_character 0 := by unfold px_y; decide +kernel
abbrev b_Tok_string : ByteArray := prog_12_method_18_code
def y_Tok_string : MethodName := ⟨"HomeSystem$Tokens", "string", "()I"⟩
theorem d_Tok_string_0 : decode b_Tok_string 0 = .ok (.aload_n 0, 1) := by decide +kernel
theorem d_Tok_string_1 : decode b_Tok_string 1 = .ok (.getfield 50, 3) := by decide +kernel
theorem d_Tok_string_4 : decode b_Tok_string 4 = .ok (.iconst 1, 1) := by decide +kernel
theorem d_Tok_string_5 : decode b_Tok_string 5 = .ok (.iadd, 1) := by decide +kernel
theorem d_Tok_string_6 : decode b_Tok_string 6 = .ok (.istore_n 1, 1) := by decide +kernel
theorem d_Tok_string_7 : decode b_Tok_string 7 = .ok (.iconst 0, 1) := by decide +kernel
theorem d_Tok_string_8 : decode b_Tok_string 8 = .ok (.istore_n 2, 1) := by decide +kernel
theorem d_Tok_string_9 : decode b_Tok_string 9 = .ok (.aload_n 0, 1) := by decide +kernel
theorem d_Tok_string_10 : decode b_Tok_string 10 = .ok (.iload_n 1, 1) := by decide +kernel
theorem d_Tok_string_11 : decode b_Tok_string 11 = .ok (.bipush 34, 2) := by decide +kernel
theorem d_Tok_string_13 : decode b_Tok_string 13 = .ok (.invokevirtual 121, 3) := by decide +kernel
theorem d_Tok_string_16 : decode b_Tok_string 16 = .ok (.istore_n 3, 1) := by decide +kernel
theorem d_Tok_string_17 : decode b_Tok_string 17 = .ok (.iload_n 3, 1) := by decide +kernel
theorem d_Tok_string_18 : decode b_Tok_string 18 = .ok (.ifCond .lt 62, 3) := by decide +kernel
theorem d_Tok_string_21 : decode b_Tok_string 21 = .ok (.iload_n 2, 1) := by decide +kernel
theorem d_Tok_string_22 : decode b_Tok_string 22 = .ok (.sipush 200, 3) := by decide +kernel
theorem d_Tok_string_25 : decode b_Tok_string 25 = .ok (.if_icmp .gt 55, 3) := by decide +kernel
theorem d_Tok_string_28 : decode b_Tok_string 28 = .ok (.aload_n 0, 1) := by decide +kernel
theorem d_Tok_string_29 : decode b_Tok_string 29 = .ok (.getfield 59, 3) := by decide +kernel
theorem d_Tok_string_32 : decode b_Tok_string 32 = .ok (.iconst 1, 1) := by decide +kernel
theorem d_Tok_string_33 : decode b_Tok_string 33 = .ok (.iadd, 1) := by decide +kernel
theorem d_Tok_string_34 : decode b_Tok_string 34 = .ok (.iload_n 2, 1) := by decide +kernel
theorem d_Tok_string_35 : decode b_Tok_string 35 = .ok (.iadd, 1) := by decide +kernel
theorem d_Tok_string_36 : decode b_Tok_string 36 = .ok (.aload_n 0, 1) := by decide +kernel
theorem d_Tok_string_37 : decode b_Tok_string 37 = .ok (.getfield 36, 3) := by decide +kernel
theorem d_Tok_string_40 : decode b_Tok_string 40 = .ok (.arraylength, 1) := by decide +kernel
theorem d_Tok_string_41 : decode b_Tok_string 41 = .ok (.if_icmp .ge 17, 3) := by decide +kernel
theorem d_Tok_string_44 : decode b_Tok_string 44 = .ok (.aload_n 0, 1) := by decide +kernel
theorem d_Tok_string_45 : decode b_Tok_string 45 = .ok (.getfield 36, 3) := by decide +kernel
theorem d_Tok_string_48 : decode b_Tok_string 48 = .ok (.aload_n 0, 1) := by decide +kernel
theorem d_Tok_string_49 : decode b_Tok_string 49 = .ok (.getfield 59, 3) := by decide +kernel
theorem d_Tok_string_52 : decode b_Tok_string 52 = .ok (.iconst 1, 1) := by decide +kernel
theorem d_Tok_string_53 : decode b_Tok_string 53 = .ok (.iadd, 1) := by decide +kernel
theorem d_Tok_string_54 : decode b_Tok_string 54 = .ok (.iload_n 2, 1) := by decide +kernel
theorem d_Tok_string_55 : decode b_Tok_string 55 = .ok (.iadd, 1) := by decide +kernel
theorem d_Tok_string_56 : decode b_Tok_string 56 = .ok (.iload_n 3, 1) := by decide +kernel
theorem d_Tok_string_57 : decode b_Tok_string 57 = .ok (.iastore, 1) := by decide +kernel
theorem d_Tok_string_58 : decode b_Tok_string 58 = .ok (.iinc 2 1, 3) := by decide +kernel
theorem d_Tok_string_61 : decode b_Tok_string 61 = .ok (.iload_n 1, 1) := by decide +kernel
theorem d_Tok_string_62 : decode b_Tok_string 62 = .ok (.aload_n 0, 1) := by decide +kernel
theorem d_Tok_string_63 : decode b_Tok_string 63 = .ok (.iload_n 1, 1) := by decide +kernel
theorem d_Tok_string_64 : decode b_Tok_string 64 = .ok (.invokevirtual 124, 3) := by decide +kernel
theorem d_Tok_string_67 : decode b_Tok_string 67 = .ok (.iadd, 1) := by decide +kernel
theorem d_Tok_string_68 : decode b_Tok_string 68 = .ok (.istore_n 1, 1) := by decide +kernel
theorem d_Tok_string_69 : decode b_Tok_string 69 = .ok (.aload_n 0, 1) := by decide +kernel
theorem d_Tok_string_70 : decode b_Tok_string 70 = .ok (.iload_n 1, 1) := by decide +kernel
theorem d_Tok_string_71 : decode b_Tok_string 71 = .ok (.bipush 34, 2) := by decide +kernel
theorem d_Tok_string_73 : decode b_Tok_string 73 = .ok (.invokevirtual 121, 3) := by decide +kernel
theorem d_Tok_string_76 : decode b_Tok_string 76 = .ok (.istore_n 3, 1) := by decide +kernel
theorem d_Tok_string_77 : decode b_Tok_string 77 = .ok (.goto (-60), 3) := by decide +kernel
theorem d_Tok_string_80 : decode b_Tok_string 80 = .ok (.iload_n 2, 1) := by decide +kernel
theorem d_Tok_string_81 : decode b_Tok_string 81 = .ok (.sipush 200, 3) := by decide +kernel
theorem d_Tok_string_84 : decode b_Tok_string 84 = .ok (.if_icmp .gt 27, 3) := by decide +kernel
theorem d_Tok_string_87 : decode b_Tok_string 87 = .ok (.aload_n 0, 1) := by decide +kernel
theorem d_Tok_string_88 : decode b_Tok_string 88 = .ok (.iload_n 1, 1) := by decide +kernel
theorem d_Tok_string_89 : decode b_Tok_string 89 = .ok (.invokevirtual 73, 3) := by decide +kernel
theorem d_Tok_string_92 : decode b_Tok_string 92 = .ok (.bipush 34, 2) := by decide +kernel
theorem d_Tok_string_94 : decode b_Tok_string 94 = .ok (.if_icmp .ne 17, 3) := by decide +kernel
theorem d_Tok_string_97 : decode b_Tok_string 97 = .ok (.aload_n 0, 1) := by decide +kernel
theorem d_Tok_string_98 : decode b_Tok_string 98 = .ok (.getfield 59, 3) := by decide +kernel
theorem d_Tok_string_101 : decode b_Tok_string 101 = .ok (.iload_n 2, 1) := by decide +kernel
theorem d_Tok_string_102 : decode b_Tok_string 102 = .ok (.iadd, 1) := by decide +kernel
theorem d_Tok_string_103 : decode b_Tok_string 103 = .ok (.aload_n 0, 1) := by decide +kernel
theorem d_Tok_string_104 : decode b_Tok_string 104 = .ok (.getfield 36, 3) := by decide +kernel
theorem d_Tok_string_107 : decode b_Tok_string 107 = .ok (.arraylength, 1) := by decide +kernel
theorem d_Tok_string_108 : decode b_Tok_string 108 = .ok (.if_icmp .lt 6, 3) := by decide +kernel
theorem d_Tok_string_111 : decode b_Tok_string 111 = .ok (.bipush 19, 2) := by decide +kernel
theorem d_Tok_string_113 : decode b_Tok_string 113 = .ok (.ireturn, 1) := by decide +kernel
theorem d_Tok_string_114 : decode b_Tok_string 114 = .ok (.aload_n 0, 1) := by decide +kernel
theorem d_Tok_string_115 : decode b_Tok_string 115 = .ok (.aload_n 0, 1) := by decide +kernel
theorem d_Tok_string_116 : decode b_Tok_string 116 = .ok (.getfield 59, 3) := by decide +kernel
theorem d_Tok_string_119 : decode b_Tok_string 119 = .ok (.putfield 83, 3) := by decide +kernel
theorem d_Tok_string_122 : decode b_Tok_string 122 = .ok (.aload_n 0, 1) := by decide +kernel
theorem d_Tok_string_123 : decode b_Tok_string 123 = .ok (.getfield 36, 3) := by decide +kernel
theorem d_Tok_string_126 : decode b_Tok_string 126 = .ok (.aload_n 0, 1) := by decide +kernel
theorem d_Tok_string_127 : decode b_Tok_string 127 = .ok (.getfield 59, 3) := by decide +kernel
theorem d_Tok_string_130 : decode b_Tok_string 130 = .ok (.iload_n 2, 1) := by decide +kernel
theorem d_Tok_string_131 : decode b_Tok_string 131 = .ok (.iastore, 1) := by decide +kernel
theorem d_Tok_string_132 : decode b_Tok_string 132 = .ok (.aload_n 0, 1) := by decide +kernel
theorem d_Tok_string_133 : decode b_Tok_string 133 = .ok (.dup, 1) := by decide +kernel
theorem d_Tok_string_134 : decode b_Tok_string 134 = .ok (.getfield 59, 3) := by decide +kernel
theorem d_Tok_string_137 : decode b_Tok_string 137 = .ok (.iload_n 2, 1) := by decide +kernel
theorem d_Tok_string_138 : decode b_Tok_string 138 = .ok (.iconst 1, 1) := by decide +kernel
theorem d_Tok_string_139 : decode b_Tok_string 139 = .ok (.iadd, 1) := by decide +kernel
theorem d_Tok_string_140 : decode b_Tok_string 140 = .ok (.iadd, 1) := by decide +kernel
theorem d_Tok_string_141 : decode b_Tok_string 141 = .ok (.putfield 59, 3) := by decide +kernel
theorem d_Tok_string_144 : decode b_Tok_string 144 = .ok (.aload_n 0, 1) := by decide +kernel
theorem d_Tok_string_145 : decode b_Tok_string 145 = .ok (.iload_n 1, 1) := by decide +kernel
theorem d_Tok_string_146 : decode b_Tok_string 146 = .ok (.iconst 1, 1) := by decide +kernel
theorem d_Tok_string_147 : decode b_Tok_string 147 = .ok (.iadd, 1) := by decide +kernel
theorem d_Tok_string_148 : decode b_Tok_string 148 = .ok (.putfield 50, 3) := by decide +kernel
theorem d_Tok_string_151 : decode b_Tok_string 151 = .ok (.bipush 18, 2) := by decide +kernel
theorem d_Tok_string_153 : decode b_Tok_string 153 = .ok (.ireturn, 1) := by decide +kernel
theorem q_Tok_string : px_y y_Tok_string 0 := by unfold px_y; decide +kernel
abbrev b_Tok_rewind : ByteArray := prog_12_method_22_code
def y_Tok_rewind : MethodName := ⟨"HomeSystem$Tokens", "rewind", "()V"⟩
theorem d_Tok_rewind_0 : decode b_Tok_rewind 0 = .ok (.aload_n 0, 1) := by decide +kernel
theorem d_Tok_rewind_1 : decode b_Tok_rewind 1 = .ok (.iconst 0, 1) := by decide +kernel
theorem d_Tok_rewind_2 : decode b_Tok_rewind 2 = .ok (.putfield 138, 3) := by decide +kernel
theorem d_Tok_rewind_5 : decode b_Tok_rewind 5 = .ok (.aload_n 0, 1) := by decide +kernel
theorem d_Tok_rewind_6 : decode b_Tok_rewind 6 = .ok (.iconst 0, 1) := by decide +kernel
theorem d_Tok_rewind_7 : decode b_Tok_rewind 7 = .ok (.putfield 141, 3) := by decide +kernel
theorem d_Tok_rewind_10 : decode b_Tok_rewind 10 = .ok (.aload_n 0, 1) := by decide +kernel
theorem d_Tok_rewind_11 : decode b_Tok_rewind 11 = .ok (.aload_n 0, 1) := by decide +kernel
theorem d_Tok_rewind_12 : decode b_Tok_rewind 12 = .ok (.getfield 53, 3) := by decide +kernel
theorem d_Tok_rewind_15 : decode b_Tok_rewind 15 = .ok (.putfield 144, 3) := by decide +kernel
theorem d_Tok_rewind_18 : decode b_Tok_rewind 18 = .ok (.aload_n 0, 1) := by decide +kernel
theorem d_Tok_rewind_19 : decode b_Tok_rewind 19 = .ok (.iconst 0, 1) := by decide +kernel
theorem d_Tok_rewind_20 : decode b_Tok_rewind 20 = .ok (.putfield 147, 3) := by decide +kernel
theorem d_Tok_rewind_23 : decode b_Tok_rewind 23 = .ok (.return_, 1) := by decide +kernel
theorem q_Tok_rewind : px_y y_Tok_rewind 0 := by unfold px_y; decide +kernel
abbrev b_Tok_kind : ByteArray := prog_12_method_23_code
def y_Tok_kind : MethodName := ⟨"HomeSystem$Tokens", "kind", "()I"⟩
theorem d_Tok_kind_0 : decode b_Tok_kind 0 = .ok (.aload_n 0, 1) := by decide +kernel
theorem d_Tok_kind_1 : decode b_Tok_kind 1 = .ok (.getfield 62, 3) := by decide +kernel
theorem d_Tok_kind_4 : decode b_Tok_kind 4 = .ok (.ifCond .ne 14, 3) := by decide +kernel
theorem d_Tok_kind_7 : decode b_Tok_kind 7 = .ok (.aload_n 0, 1) := by decide +kernel
theorem d_Tok_kind_8 : decode b_Tok_kind 8 = .ok (.getfield 138, 3) := by decide +kernel
theorem d_Tok_kind_11 : decode b_Tok_kind 11 = .ok (.aload_n 0, 1) := by decide +kernel
theorem d_Tok_kind_12 : decode b_Tok_kind 12 = .ok (.getfield 53, 3) := by decide +kernel
theorem d_Tok_kind_15 : decode b_Tok_kind 15 = .ok (.if_icmp .lt 8, 3) := by decide +kernel
theorem d_Tok_kind_18 : decode b_Tok_kind 18 = .ok (.bipush 19, 2) := by decide +kernel
theorem d_Tok_kind_20 : decode b_Tok_kind 20 = .ok (.goto 12, 3) := by decide +kernel
theorem d_Tok_kind_23 : decode b_Tok_kind 23 = .ok (.aload_n 0, 1) := by decide +kernel
theorem d_Tok_kind_24 : decode b_Tok_kind 24 = .ok (.getfield 9, 3) := by decide +kernel
theorem d_Tok_kind_27 : decode b_Tok_kind 27 = .ok (.aload_n 0, 1) := by decide +kernel
theorem d_Tok_kind_28 : decode b_Tok_kind 28 = .ok (.getfield 138, 3) := by decide +kernel
theorem d_Tok_kind_31 : decode b_Tok_kind 31 = .ok (.iaload, 1) := by decide +kernel
theorem d_Tok_kind_32 : decode b_Tok_kind 32 = .ok (.ireturn, 1) := by decide +kernel
theorem q_Tok_kind : px_y y_Tok_kind 0 := by unfold px_y; decide +kernel
abbrev b_Tok_kindBehind : ByteArray := prog_12_method_24_code
def y_Tok_kindBehind : MethodName := ⟨"HomeSystem$Tokens", "kindBehind", "()I"⟩
theorem d_Tok_kindBehind_0 : decode b_Tok_kindBehind 0 = .ok (.aload_n 0, 1) := by decide +kernel
theorem d_Tok_kindBehind_1 : decode b_Tok_kindBehind 1 = .ok (.getfield 138, 3) := by decide +kernel
theorem d_Tok_kindBehind_4 : decode b_Tok_kindBehind 4 = .ok (.iconst 1, 1) := by decide +kernel
theorem d_Tok_kindBehind_5 : decode b_Tok_kindBehind 5 = .ok (.iadd, 1) := by decide +kernel
theorem d_Tok_kindBehind_6 : decode b_Tok_kindBehind 6 = .ok (.aload_n 0, 1) := by decide +kernel
theorem d_Tok_kindBehind_7 : decode b_Tok_kindBehind 7 = .ok (.getfield 53, 3) := by decide +kernel
theorem d_Tok_kindBehind_10 : decode b_Tok_kindBehind 10 = .ok (.if_icmp .ge 17, 3) := by decide +kernel
theorem d_Tok_kindBehind_13 : decode b_Tok_kindBehind 13 = .ok (.aload_n 0, 1) := by decide +kernel
theorem d_Tok_kindBehind_14 : decode b_Tok_kindBehind 14 = .ok (.getfield 9, 3) := by decide +kernel
theorem d_Tok_kindBehind_17 : decode b_Tok_kindBehind 17 = .ok (.aload_n 0, 1) := by decide +kernel
theorem d_Tok_kindBehind_18 : decode b_Tok_kindBehind 18 = .ok (.getfield 138, 3) := by decide +kernel
theorem d_Tok_kindBehind_21 : decode b_Tok_kindBehind 21 = .ok (.iconst 1, 1) := by decide +kernel
theorem d_Tok_kindBehind_22 : decode b_Tok_kindBehind 22 = .ok (.iadd, 1) := by decide +kernel
theorem d_Tok_kindBehind_23 : decode b_Tok_kindBehind 23 = .ok (.iaload, 1) := by decide +kernel
theorem d_Tok_kindBehind_24 : decode b_Tok_kindBehind 24 = .ok (.goto 5, 3) := by decide +kernel
theorem d_Tok_kindBehind_27 : decode b_Tok_kindBehind 27 = .ok (.bipush 19, 2) := by decide +kernel
theorem d_Tok_kindBehind_29 : decode b_Tok_kindBehind 29 = .ok (.ireturn, 1) := by decide +kernel
theorem q_Tok_kindBehind : px_y y_Tok_kindBehind 0 := by unfold px_y; decide +kernel
abbrev b_Tok_meaning : ByteArray := prog_12_method_25_code
def y_Tok_meaning : MethodName := ⟨"HomeSystem$Tokens", "meaning", "()I"⟩
theorem d_Tok_meaning_0 : decode b_Tok_meaning 0 = .ok (.aload_n 0, 1) := by decide +kernel
theorem d_Tok_meaning_1 : decode b_Tok_meaning 1 = .ok (.getfield 138, 3) := by decide +kernel
theorem d_Tok_meaning_4 : decode b_Tok_meaning 4 = .ok (.aload_n 0, 1) := by decide +kernel
theorem d_Tok_meaning_5 : decode b_Tok_meaning 5 = .ok (.getfield 53, 3) := by decide +kernel
theorem d_Tok_meaning_8 : decode b_Tok_meaning 8 = .ok (.if_icmp .ge 15, 3) := by decide +kernel
theorem d_Tok_meaning_11 : decode b_Tok_meaning 11 = .ok (.aload_n 0, 1) := by decide +kernel
theorem d_Tok_meaning_12 : decode b_Tok_meaning 12 = .ok (.getfield 18, 3) := by decide +kernel
theorem d_Tok_meaning_15 : decode b_Tok_meaning 15 = .ok (.aload_n 0, 1) := by decide +kernel
theorem d_Tok_meaning_16 : decode b_Tok_meaning 16 = .ok (.getfield 138, 3) := by decide +kernel
theorem d_Tok_meaning_19 : decode b_Tok_meaning 19 = .ok (.iaload, 1) := by decide +kernel
theorem d_Tok_meaning_20 : decode b_Tok_meaning 20 = .ok (.goto 4, 3) := by decide +kernel
theorem d_Tok_meaning_23 : decode b_Tok_meaning 23 = .ok (.iconst 0, 1) := by decide +kernel
theorem d_Tok_meaning_24 : decode b_Tok_meaning 24 = .ok (.ireturn, 1) := by decide +kernel
theorem q_Tok_meaning : px_y y_Tok_meaning 0 := by unfold px_y; decide +kernel
abbrev b_Tok_quotedNumber : ByteArray := prog_12_method_26_code
def y_Tok_quotedNumber : MethodName := ⟨"HomeSystem$Tokens", "quotedNumber", "(I)I"⟩
theorem d_Tok_quotedNumber_0 : decode b_Tok_quotedNumber 0 = .ok (.iload_n 1, 1) := by decide +kernel
theorem d_Tok_quotedNumber_1 : decode b_Tok_quotedNumber 1 = .ok (.ifCond .lt 21, 3) := by decide +kernel
theorem d_Tok_quotedNumber_4 : decode b_Tok_quotedNumber 4 = .ok (.iload_n 1, 1) := by decide +kernel
theorem d_Tok_quotedNumber_5 : decode b_Tok_quotedNumber 5 = .ok (.aload_n 0, 1) := by decide +kernel
theorem d_Tok_quotedNumber_6 : decode b_Tok_quotedNumber 6 = .ok (.getfield 36, 3) := by decide +kernel
theorem d_Tok_quotedNumber_9 : decode b_Tok_quotedNumber 9 = .ok (.arraylength, 1) := by decide +kernel
theorem d_Tok_quotedNumber_10 : decode b_Tok_quotedNumber 10 = .ok (.if_icmp .ge 12, 3) := by decide +kernel
theorem d_Tok_quotedNumber_13 : decode b_Tok_quotedNumber 13 = .ok (.aload_n 0, 1) := by decide +kernel
theorem d_Tok_quotedNumber_14 : decode b_Tok_quotedNumber 14 = .ok (.getfield 36, 3) := by decide +kernel
theorem d_Tok_quotedNumber_17 : decode b_Tok_quotedNumber 17 = .ok (.iload_n 1, 1) := by decide +kernel
theorem d_Tok_quotedNumber_18 : decode b_Tok_quotedNumber 18 = .ok (.iaload, 1) := by decide +kernel
theorem d_Tok_quotedNumber_19 : decode b_Tok_quotedNumber 19 = .ok (.goto 4, 3) := by decide +kernel
theorem d_Tok_quotedNumber_22 : decode b_Tok_quotedNumber 22 = .ok (.iconst 0, 1) := by decide +kernel
theorem d_Tok_quotedNumber_23 : decode b_Tok_quotedNumber 23 = .ok (.ireturn, 1) := by decide +kernel
theorem q_Tok_quotedNumber : px_y y_Tok_quotedNumber 1 := by unfold px_y; decide +kernel
abbrev b_Tok_last : ByteArray := prog_12_method_27_code
def y_Tok_last : MethodName := ⟨"HomeSystem$Tokens", "last", "()I"⟩
theorem d_Tok_last_0 : decode b_Tok_last 0 = .ok (.aload_n 0, 1) := by decide +kernel
theorem d_Tok_last_1 : decode b_Tok_last 1 = .ok (.getfield 53, 3) := by decide +kernel
theorem d_Tok_last_4 : decode b_Tok_last 4 = .ok (.iconst 1, 1) := by decide +kernel
theorem d_Tok_last_5 : decode b_Tok_last 5 = .ok (.isub, 1) := by decide +kernel
theorem d_Tok_last_6 : decode b_Tok_last 6 = .ok (.ireturn, 1) := by decide +kernel
theorem q_Tok_last : px_y y_Tok_last 0 := by unfold px_y; decide +kernel
abbrev b_Tok_step : ByteArray := prog_12_method_28_code
def y_Tok_step : MethodName := ⟨"HomeSystem$Tokens", "step", "()V"⟩
theorem d_Tok_step_0 : decode b_Tok_step 0 = .ok (.aload_n 0, 1) := by decide +kernel
theorem d_Tok_step_1 : decode b_Tok_step 1 = .ok (.getfield 138, 3) := by decide +kernel
theorem d_Tok_step_4 : decode b_Tok_step 4 = .ok (.aload_n 0, 1) := by decide +kernel
theorem d_Tok_step_5 : decode b_Tok_step 5 = .ok (.getfield 53, 3) := by decide +kernel
theorem d_Tok_step_8 : decode b_Tok_step 8 = .ok (.iconst 1, 1) := by decide +kernel
theorem d_Tok_step_9 : decode b_Tok_step 9 = .ok (.isub, 1) := by decide +kernel
theorem d_Tok_step_10 : decode b_Tok_step 10 = .ok (.if_icmp .ge 13, 3) := by decide +kernel
theorem d_Tok_step_13 : decode b_Tok_step 13 = .ok (.aload_n 0, 1) := by decide +kernel
theorem d_Tok_step_14 : decode b_Tok_step 14 = .ok (.dup, 1) := by decide +kernel
theorem d_Tok_step_15 : decode b_Tok_step 15 = .ok (.getfield 138, 3) := by decide +kernel
theorem d_Tok_step_18 : decode b_Tok_step 18 = .ok (.iconst 1, 1) := by decide +kernel
theorem d_Tok_step_19 : decode b_Tok_step 19 = .ok (.iadd, 1) := by decide +kernel
theorem d_Tok_step_20 : decode b_Tok_step 20 = .ok (.putfield 138, 3) := by decide +kernel
theorem d_Tok_step_23 : decode b_Tok_step 23 = .ok (.return_, 1) := by decide +kernel
theorem q_Tok_step : px_y y_Tok_step 0 := by unfold px_y; decide +kernel
abbrev b_Tok_fail : ByteArray := prog_12_method_31_code
def y_Tok_fail : MethodName := ⟨"HomeSystem$Tokens", "fail", "()V"⟩
theorem d_Tok_fail_0 : decode b_Tok_fail 0 = .ok (.aload_n 0, 1) := by decide +kernel
theorem d_Tok_fail_1 : decode b_Tok_fail 1 = .ok (.getfield 62, 3) := by decide +kernel
theorem d_Tok_fail_4 : decode b_Tok_fail 4 = .ok (.ifCond .ne 39, 3) := by decide +kernel
theorem d_Tok_fail_7 : decode b_Tok_fail 7 = .ok (.aload_n 0, 1) := by decide +kernel
theorem d_Tok_fail_8 : decode b_Tok_fail 8 = .ok (.iconst 1, 1) := by decide +kernel
theorem d_Tok_fail_9 : decode b_Tok_fail 9 = .ok (.putfield 62, 3) := by decide +kernel
theorem d_Tok_fail_12 : decode b_Tok_fail 12 = .ok (.aload_n 0, 1) := by decide +kernel
theorem d_Tok_fail_13 : decode b_Tok_fail 13 = .ok (.aload_n 0, 1) := by decide +kernel
theorem d_Tok_fail_14 : decode b_Tok_fail 14 = .ok (.getfield 138, 3) := by decide +kernel
theorem d_Tok_fail_17 : decode b_Tok_fail 17 = .ok (.aload_n 0, 1) := by decide +kernel
theorem d_Tok_fail_18 : decode b_Tok_fail 18 = .ok (.getfield 53, 3) := by decide +kernel
theorem d_Tok_fail_21 : decode b_Tok_fail 21 = .ok (.if_icmp .ge 15, 3) := by decide +kernel
theorem d_Tok_fail_24 : decode b_Tok_fail 24 = .ok (.aload_n 0, 1) := by decide +kernel
theorem d_Tok_fail_25 : decode b_Tok_fail 25 = .ok (.getfield 15, 3) := by decide +kernel
theorem d_Tok_fail_28 : decode b_Tok_fail 28 = .ok (.aload_n 0, 1) := by decide +kernel
theorem d_Tok_fail_29 : decode b_Tok_fail 29 = .ok (.getfield 138, 3) := by decide +kernel
theorem d_Tok_fail_32 : decode b_Tok_fail 32 = .ok (.iaload, 1) := by decide +kernel
theorem d_Tok_fail_33 : decode b_Tok_fail 33 = .ok (.goto 7, 3) := by decide +kernel
theorem d_Tok_fail_36 : decode b_Tok_fail 36 = .ok (.aload_n 0, 1) := by decide +kernel
theorem d_Tok_fail_37 : decode b_Tok_fail 37 = .ok (.getfield 47, 3) := by decide +kernel
theorem d_Tok_fail_40 : decode b_Tok_fail 40 = .ok (.putfield 159, 3) := by decide +kernel
theorem d_Tok_fail_43 : decode b_Tok_fail 43 = .ok (.return_, 1) := by decide +kernel
theorem q_Tok_fail : px_y y_Tok_fail 0 := by unfold px_y; decide +kernel
abbrev b_Tok_accept : ByteArray := prog_12_method_29_code
def y_Tok_accept : MethodName := ⟨"HomeSystem$Tokens", "accept", "(I)Z"⟩
theorem d_Tok_accept_0 : decode b_Tok_accept 0 = .ok (.aload_n 0, 1) := by decide +kernel
theorem d_Tok_accept_1 : decode b_Tok_accept 1 = .ok (.invokevirtual 150, 3) := by decide +kernel
theorem d_Tok_accept_4 : decode b_Tok_accept 4 = .ok (.iload_n 1, 1) := by decide +kernel
theorem d_Tok_accept_5 : decode b_Tok_accept 5 = .ok (.if_icmp .ne 7, 3) := by decide +kernel
theorem d_Tok_accept_8 : decode b_Tok_accept 8 = .ok (.iconst 1, 1) := by decide +kernel
theorem d_Tok_accept_9 : decode b_Tok_accept 9 = .ok (.goto 4, 3) := by decide +kernel
theorem d_Tok_accept_12 : decode b_Tok_accept 12 = .ok (.iconst 0, 1) := by decide +kernel
theorem d_Tok_accept_13 : decode b_Tok_accept 13 = .ok (.istore_n 2, 1) := by decide +kernel
theorem d_Tok_accept_14 : decode b_Tok_accept 14 = .ok (.iload_n 2, 1) := by decide +kernel
theorem d_Tok_accept_15 : decode b_Tok_accept 15 = .ok (.ifCond .eq 7, 3) := by decide +kernel
theorem d_Tok_accept_18 : decode b_Tok_accept 18 = .ok (.aload_n 0, 1) := by decide +kernel
theorem d_Tok_accept_19 : decode b_Tok_accept 19 = .ok (.invokevirtual 153, 3) := by decide +kernel
theorem d_Tok_accept_22 : decode b_Tok_accept 22 = .ok (.iload_n 2, 1) := by decide +kernel
theorem d_Tok_accept_23 : decode b_Tok_accept 23 = .ok (.ireturn, 1) := by decide +kernel
theorem q_Tok_accept : px_y y_Tok_accept 1 := by unfold px_y; decide +kernel
abbrev b_Tok_expect : ByteArray := prog_12_method_30_code
def y_Tok_expect : MethodName := ⟨"HomeSystem$Tokens", "expect", "(I)V"⟩
theorem d_Tok_expect_0 : decode b_Tok_expect 0 = .ok (.aload_n 0, 1) := by decide +kernel
theorem d_Tok_expect_1 : decode b_Tok_expect 1 = .ok (.invokevirtual 150, 3) := by decide +kernel
theorem d_Tok_expect_4 : decode b_Tok_expect 4 = .ok (.iload_n 1, 1) := by decide +kernel
theorem d_Tok_expect_5 : decode b_Tok_expect 5 = .ok (.if_icmp .ne 10, 3) := by decide +kernel
theorem d_Tok_expect_8 : decode b_Tok_expect 8 = .ok (.aload_n 0, 1) := by decide +kernel
theorem d_Tok_expect_9 : decode b_Tok_expect 9 = .ok (.invokevirtual 153, 3) := by decide +kernel
theorem d_Tok_expect_12 : decode b_Tok_expect 12 = .ok (.goto 7, 3) := by decide +kernel
theorem d_Tok_expect_15 : decode b_Tok_expect 15 = .ok (.aload_n 0, 1) := by decide +kernel
theorem d_Tok_expect_16 : decode b_Tok_expect 16 = .ok (.invokevirtual 156, 3) := by decide +kernel
theorem d_Tok_expect_19 : decode b_Tok_expect 19 = .ok (.return_, 1) := by decide +kernel
theorem q_Tok_expect : px_y y_Tok_expect 1 := by unfold px_y; decide +kernel
abbrev b_Tok_open : ByteArray := prog_12_method_32_code
def y_Tok_open : MethodName := ⟨"HomeSystem$Tokens", "open", "(I)V"⟩
theorem d_Tok_open_0 : decode b_Tok_open 0 = .ok (.aload_n 0, 1) := by decide +kernel
theorem d_Tok_open_1 : decode b_Tok_open 1 = .ok (.invokevirtual 150, 3) := by decide +kernel
theorem d_Tok_open_4 : decode b_Tok_open 4 = .ok (.iload_n 1, 1) := by decide +kernel
theorem d_Tok_open_5 : decode b_Tok_open 5 = .ok (.if_icmp .ne 29, 3) := by decide +kernel
theorem d_Tok_open_8 : decode b_Tok_open 8 = .ok (.aload_n 0, 1) := by decide +kernel
theorem d_Tok_open_9 : decode b_Tok_open 9 = .ok (.getfield 141, 3) := by decide +kernel
theorem d_Tok_open_12 : decode b_Tok_open 12 = .ok (.bipush 60, 2) := by decide +kernel
theorem d_Tok_open_14 : decode b_Tok_open 14 = .ok (.if_icmp .ge 20, 3) := by decide +kernel
theorem d_Tok_open_17 : decode b_Tok_open 17 = .ok (.aload_n 0, 1) := by decide +kernel
theorem d_Tok_open_18 : decode b_Tok_open 18 = .ok (.dup, 1) := by decide +kernel
theorem d_Tok_open_19 : decode b_Tok_open 19 = .ok (.getfield 141, 3) := by decide +kernel
theorem d_Tok_open_22 : decode b_Tok_open 22 = .ok (.iconst 1, 1) := by decide +kernel
theorem d_Tok_open_23 : decode b_Tok_open 23 = .ok (.iadd, 1) := by decide +kernel
theorem d_Tok_open_24 : decode b_Tok_open 24 = .ok (.putfield 141, 3) := by decide +kernel
theorem d_Tok_open_27 : decode b_Tok_open 27 = .ok (.aload_n 0, 1) := by decide +kernel
theorem d_Tok_open_28 : decode b_Tok_open 28 = .ok (.invokevirtual 153, 3) := by decide +kernel
theorem d_Tok_open_31 : decode b_Tok_open 31 = .ok (.goto 7, 3) := by decide +kernel
theorem d_Tok_open_34 : decode b_Tok_open 34 = .ok (.aload_n 0, 1) := by decide +kernel
theorem d_Tok_open_35 : decode b_Tok_open 35 = .ok (.invokevirtual 156, 3) := by decide +kernel
theorem d_Tok_open_38 : decode b_Tok_open 38 = .ok (.return_, 1) := by decide +kernel
theorem q_Tok_open : px_y y_Tok_open 1 := by unfold px_y; decide +kernel
abbrev b_Tok_openBehind : ByteArray := prog_12_method_33_code
def y_Tok_openBehind : MethodName := ⟨"HomeSystem$Tokens", "openBehind", "(I)V"⟩
theorem d_Tok_openBehind_0 : decode b_Tok_openBehind 0 = .ok (.aload_n 0, 1) := by decide +kernel
theorem d_Tok_openBehind_1 : decode b_Tok_openBehind 1 = .ok (.getfield 141, 3) := by decide +kernel
theorem d_Tok_openBehind_4 : decode b_Tok_openBehind 4 = .ok (.iload_n 1, 1) := by decide +kernel
theorem d_Tok_openBehind_5 : decode b_Tok_openBehind 5 = .ok (.iadd, 1) := by decide +kernel
theorem d_Tok_openBehind_6 : decode b_Tok_openBehind 6 = .ok (.bipush 60, 2) := by decide +kernel
theorem d_Tok_openBehind_8 : decode b_Tok_openBehind 8 = .ok (.if_icmp .ge 27, 3) := by decide +kernel
theorem d_Tok_openBehind_11 : decode b_Tok_openBehind 11 = .ok (.aload_n 0, 1) := by decide +kernel
theorem d_Tok_openBehind_12 : decode b_Tok_openBehind 12 = .ok (.getfield 62, 3) := by decide +kernel
theorem d_Tok_openBehind_15 : decode b_Tok_openBehind 15 = .ok (.ifCond .ne 20, 3) := by decide +kernel
theorem d_Tok_openBehind_18 : decode b_Tok_openBehind 18 = .ok (.aload_n 0, 1) := by decide +kernel
theorem d_Tok_openBehind_19 : decode b_Tok_openBehind 19 = .ok (.dup, 1) := by decide +kernel
theorem d_Tok_openBehind_20 : decode b_Tok_openBehind 20 = .ok (.getfield 141, 3) := by decide +kernel
theorem d_Tok_openBehind_23 : decode b_Tok_openBehind 23 = .ok (.iconst 1, 1) := by decide +kernel
theorem d_Tok_openBehind_24 : decode b_Tok_openBehind 24 = .ok (.iadd, 1) := by decide +kernel
theorem d_Tok_openBehind_25 : decode b_Tok_openBehind 25 = .ok (.putfield 141, 3) := by decide +kernel
theorem d_Tok_openBehind_28 : decode b_Tok_openBehind 28 = .ok (.aload_n 0, 1) := by decide +kernel
theorem d_Tok_openBehind_29 : decode b_Tok_openBehind 29 = .ok (.invokevirtual 153, 3) := by decide +kernel
theorem d_Tok_openBehind_32 : decode b_Tok_openBehind 32 = .ok (.goto 7, 3) := by decide +kernel
theorem d_Tok_openBehind_35 : decode b_Tok_openBehind 35 = .ok (.aload_n 0, 1) := by decide +kernel
theorem d_Tok_openBehind_36 : decode b_Tok_openBehind 36 = .ok (.invokevirtual 156, 3) := by decide +kernel
theorem d_Tok_openBehind_39 : decode b_Tok_openBehind 39 = .ok (.return_, 1) := by decide +kernel
theorem q_Tok_openBehind : px_y y_Tok_openBehind 1 := by unfold px_y; decide +kernel
abbrev b_Tok_stepBehind : ByteArray := prog_12_method_34_code
def y_Tok_stepBehind : MethodName := ⟨"HomeSystem$Tokens", "stepBehind", "(I)V"⟩
theorem d_Tok_stepBehind_0 : decode b_Tok_stepBehind 0 = .ok (.aload_n 0, 1) := by decide +kernel
theorem d_Tok_stepBehind_1 : decode b_Tok_stepBehind 1 = .ok (.getfield 141, 3) := by decide +kernel
theorem d_Tok_stepBehind_4 : decode b_Tok_stepBehind 4 = .ok (.iload_n 1, 1) := by decide +kernel
theorem d_Tok_stepBehind_5 : decode b_Tok_stepBehind 5 = .ok (.iadd, 1) := by decide +kernel
theorem d_Tok_stepBehind_6 : decode b_Tok_stepBehind 6 = .ok (.bipush 60, 2) := by decide +kernel
theorem d_Tok_stepBehind_8 : decode b_Tok_stepBehind 8 = .ok (.if_icmp .ge 10, 3) := by decide +kernel
theorem d_Tok_stepBehind_11 : decode b_Tok_stepBehind 11 = .ok (.aload_n 0, 1) := by decide +kernel
theorem d_Tok_stepBehind_12 : decode b_Tok_stepBehind 12 = .ok (.invokevirtual 153, 3) := by decide +kernel
theorem d_Tok_stepBehind_15 : decode b_Tok_stepBehind 15 = .ok (.goto 7, 3) := by decide +kernel
theorem d_Tok_stepBehind_18 : decode b_Tok_stepBehind 18 = .ok (.aload_n 0, 1) := by decide +kernel
theorem d_Tok_stepBehind_19 : decode b_Tok_stepBehind 19 = .ok (.invokevirtual 156, 3) := by decide +kernel
theorem d_Tok_stepBehind_22 : decode b_Tok_stepBehind 22 = .ok (.return_, 1) := by decide +kernel
theorem q_Tok_stepBehind : px_y y_Tok_stepBehind 1 := by unfold px_y; decide +kernel
abbrev b_Tok_close : ByteArray := prog_12_method_35_code
def y_Tok_close : MethodName := ⟨"HomeSystem$Tokens", "close", "(I)V"⟩
theorem d_Tok_close_0 : decode b_Tok_close 0 = .ok (.aload_n 0, 1) := by decide +kernel
theorem d_Tok_close_1 : decode b_Tok_close 1 = .ok (.invokevirtual 150, 3) := by decide +kernel
theorem d_Tok_close_4 : decode b_Tok_close 4 = .ok (.iload_n 1, 1) := by decide +kernel
theorem d_Tok_close_5 : decode b_Tok_close 5 = .ok (.if_icmp .ne 10, 3) := by decide +kernel
theorem d_Tok_close_8 : decode b_Tok_close 8 = .ok (.aload_n 0, 1) := by decide +kernel
theorem d_Tok_close_9 : decode b_Tok_close 9 = .ok (.invokevirtual 153, 3) := by decide +kernel
theorem d_Tok_close_12 : decode b_Tok_close 12 = .ok (.goto 7, 3) := by decide +kernel
theorem d_Tok_close_15 : decode b_Tok_close 15 = .ok (.aload_n 0, 1) := by decide +kernel
theorem d_Tok_close_16 : decode b_Tok_close 16 = .ok (.invokevirtual 156, 3) := by decide +kernel
theorem d_Tok_close_19 : decode b_Tok_close 19 = .ok (.aload_n 0, 1) := by decide +kernel
theorem d_Tok_close_20 : decode b_Tok_close 20 = .ok (.dup, 1) := by decide +kernel
theorem d_Tok_close_21 : decode b_Tok_close 21 = .ok (.getfield 141, 3) := by decide +kernel
theorem d_Tok_close_24 : decode b_Tok_close 24 = .ok (.iconst 1, 1) := by decide +kernel
theorem d_Tok_close_25 : decode b_Tok_close 25 = .ok (.isub, 1) := by decide +kernel
theorem d_Tok_close_26 : decode b_Tok_close 26 = .ok (.putfield 141, 3) := by decide +kernel
theorem d_Tok_close_29 : decode b_Tok_close 29 = .ok (.return_, 1) := by decide +kernel
theorem q_Tok_close : px_y y_Tok_close 1 := by unfold px_y; decide +kernel
abbrev b_Tok_shut : ByteArray := prog_12_method_36_code
def y_Tok_shut : MethodName := ⟨"HomeSystem$Tokens", "shut", "()V"⟩
theorem d_Tok_shut_0 : decode b_Tok_shut 0 = .ok (.aload_n 0, 1) := by decide +kernel
theorem d_Tok_shut_1 : decode b_Tok_shut 1 = .ok (.dup, 1) := by decide +kernel
theorem d_Tok_shut_2 : decode b_Tok_shut 2 = .ok (.getfield 141, 3) := by decide +kernel
theorem d_Tok_shut_5 : decode b_Tok_shut 5 = .ok (.iconst 1, 1) := by decide +kernel
theorem d_Tok_shut_6 : decode b_Tok_shut 6 = .ok (.isub, 1) := by decide +kernel
theorem d_Tok_shut_7 : decode b_Tok_shut 7 = .ok (.putfield 141, 3) := by decide +kernel
theorem d_Tok_shut_10 : decode b_Tok_shut 10 = .ok (.return_, 1) := by decide +kernel
theorem q_Tok_shut : px_y y_Tok_shut 0 := by unfold px_y; decide +kernel
abbrev b_Tok_blame : ByteArray := prog_12_method_37_code
def y_Tok_blame : MethodName := ⟨"HomeSystem$Tokens", "blame", "(II)V"⟩
theorem d_Tok_blame_0 : decode b_Tok_blame 0 = .ok (.iload_n 2, 1) := by decide +kernel
theorem d_Tok_blame_1 : decode b_Tok_blame 1 = .ok (.aload_n 0, 1) := by decide +kernel
theorem d_Tok_blame_2 : decode b_Tok_blame 2 = .ok (.getfield 144, 3) := by decide +kernel
theorem d_Tok_blame_5 : decode b_Tok_blame 5 = .ok (.if_icmp .lt 19, 3) := by decide +kernel
theorem d_Tok_blame_8 : decode b_Tok_blame 8 = .ok (.iload_n 2, 1) := by decide +kernel
theorem d_Tok_blame_9 : decode b_Tok_blame 9 = .ok (.aload_n 0, 1) := by decide +kernel
theorem d_Tok_blame_10 : decode b_Tok_blame 10 = .ok (.getfield 144, 3) := by decide +kernel
theorem d_Tok_blame_13 : decode b_Tok_blame 13 = .ok (.if_icmp .ne 21, 3) := by decide +kernel
theorem d_Tok_blame_16 : decode b_Tok_blame 16 = .ok (.iload_n 1, 1) := by decide +kernel
theorem d_Tok_blame_17 : decode b_Tok_blame 17 = .ok (.aload_n 0, 1) := by decide +kernel
theorem d_Tok_blame_18 : decode b_Tok_blame 18 = .ok (.getfield 147, 3) := by decide +kernel
theorem d_Tok_blame_21 : decode b_Tok_blame 21 = .ok (.if_icmp .ge 13, 3) := by decide +kernel
theorem d_Tok_blame_24 : decode b_Tok_blame 24 = .ok (.aload_n 0, 1) := by decide +kernel
theorem d_Tok_blame_25 : decode b_Tok_blame 25 = .ok (.iload_n 2, 1) := by decide +kernel
theorem d_Tok_blame_26 : decode b_Tok_blame 26 = .ok (.putfield 144, 3) := by decide +kernel
theorem d_Tok_blame_29 : decode b_Tok_blame 29 = .ok (.aload_n 0, 1) := by decide +kernel
theorem d_Tok_blame_30 : decode b_Tok_blame 30 = .ok (.iload_n 1, 1) := by decide +kernel
theorem d_Tok_blame_31 : decode b_Tok_blame 31 = .ok (.putfield 147, 3) := by decide +kernel
theorem d_Tok_blame_34 : decode b_Tok_blame 34 = .ok (.return_, 1) := by decide +kernel
theorem q_Tok_blame : px_y y_Tok_blame 2 := by unfold px_y; decide +kernel
abbrev b_Tok_tellPlace : ByteArray := prog_12_method_38_code
def y_Tok_tellPlace : MethodName := ⟨"HomeSystem$Tokens", "tellPlace", "()I"⟩
theorem d_Tok_tellPlace_0 : decode b_Tok_tellPlace 0 = .ok (.aload_n 0, 1) := by decide +kernel
theorem d_Tok_tellPlace_1 : decode b_Tok_tellPlace 1 = .ok (.getfield 62, 3) := by decide +kernel
theorem d_Tok_tellPlace_4 : decode b_Tok_tellPlace 4 = .ok (.ifCond .eq 10, 3) := by decide +kernel
theorem d_Tok_tellPlace_7 : decode b_Tok_tellPlace 7 = .ok (.aload_n 0, 1) := by decide +kernel
theorem d_Tok_tellPlace_8 : decode b_Tok_tellPlace 8 = .ok (.getfield 159, 3) := by decide +kernel
theorem d_Tok_tellPlace_11 : decode b_Tok_tellPlace 11 = .ok (.iconst 1, 1) := by decide +kernel
theorem d_Tok_tellPlace_12 : decode b_Tok_tellPlace 12 = .ok (.iadd, 1) := by decide +kernel
theorem d_Tok_tellPlace_13 : decode b_Tok_tellPlace 13 = .ok (.ireturn, 1) := by decide +kernel
theorem d_Tok_tellPlace_14 : decode b_Tok_tellPlace 14 = .ok (.aload_n 0, 1) := by decide +kernel
theorem d_Tok_tellPlace_15 : decode b_Tok_tellPlace 15 = .ok (.getfield 147, 3) := by decide +kernel
theorem d_Tok_tellPlace_18 : decode b_Tok_tellPlace 18 = .ok (.ifCond .le 28, 3) := by decide +kernel
theorem d_Tok_tellPlace_21 : decode b_Tok_tellPlace 21 = .ok (.aload_n 0, 1) := by decide +kernel
theorem d_Tok_tellPlace_22 : decode b_Tok_tellPlace 22 = .ok (.getfield 144, 3) := by decide +kernel
theorem d_Tok_tellPlace_25 : decode b_Tok_tellPlace 25 = .ok (.aload_n 0, 1) := by decide +kernel
theorem d_Tok_tellPlace_26 : decode b_Tok_tellPlace 26 = .ok (.getfield 53, 3) := by decide +kernel
theorem d_Tok_tellPlace_29 : decode b_Tok_tellPlace 29 = .ok (.if_icmp .ge 17, 3) := by decide +kernel
theorem d_Tok_tellPlace_32 : decode b_Tok_tellPlace 32 = .ok (.aload_n 0, 1) := by decide +kernel
theorem d_Tok_tellPlace_33 : decode b_Tok_tellPlace 33 = .ok (.getfield 15, 3) := by decide +kernel
theorem d_Tok_tellPlace_36 : decode b_Tok_tellPlace 36 = .ok (.aload_n 0, 1) := by decide +kernel
theorem d_Tok_tellPlace_37 : decode b_Tok_tellPlace 37 = .ok (.getfield 144, 3) := by decide +kernel
theorem d_Tok_tellPlace_40 : decode b_Tok_tellPlace 40 = .ok (.iaload, 1) := by decide +kernel
theorem d_Tok_tellPlace_41 : decode b_Tok_tellPlace 41 = .ok (.iconst 1, 1) := by decide +kernel
theorem d_Tok_tellPlace_42 : decode b_Tok_tellPlace 42 = .ok (.iadd, 1) := by decide +kernel
theorem d_Tok_tellPlace_43 : decode b_Tok_tellPlace 43 = .ok (.goto 4, 3) := by decide +kernel
theorem d_Tok_tellPlace_46 : decode b_Tok_tellPlace 46 = .ok (.iconst 0, 1) := by decide +kernel
theorem d_Tok_tellPlace_47 : decode b_Tok_tellPlace 47 = .ok (.ireturn, 1) := by decide +kernel
theorem q_Tok_tellPlace : px_y y_Tok_tellPlace 0 := by unfold px_y; decide +kernel
