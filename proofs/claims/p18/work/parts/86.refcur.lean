theorem oz_12f535336e {a2 a3 : Int} {n0 n1 : Nat} (h0 : (n1 : Int) = a2) (h1 : (n0 : Int) = a3) (h2 : a3 = a2 + 1) : n0 = n1 + 1 := by omega
theorem oz_846323bf3a {a0 a1 : Int} (h0 : 0 ≤ a0) (h1 : a0 < a1) (h2 : a1 ≤ 2049) : 0 ≤ a0 ∧ a0 < ((2060 : Nat) : Int) := by omega
theorem oz_00605904cf {a0 : Int} {n1 : Nat} (h0 : (n1 : Int) = a0) (h1 : a0 < 43) : 0 ≤ a0 ∧ a0 < ((43 : Nat) : Int) := by omega
theorem oz_d1bf0849be {a0 a1 : Int} (h0 : 0 ≤ a1) (h1 : a1 = (0 : Int)) : a0 = a0 + a1 := by omega
theorem oz_43b7c41cbd {a0 a1 : Int} (h0 : a1 = (0 : Int)) : a0 + a1 ≤ a0 := by omega
theorem oz_cfd06fd58f {a0 a1 a2 : Int} (h0 : a0 = a1 + (1 : Int)) (h1 : 0 ≤ a2) (h2 : ¬ a2 = (0 : Int)) (h3 : a2 ≤ 1) : a0 = a1 + a2 := by omega
theorem oz_68ab0a010c {a0 a1 a2 a3 : Int} (h0 : a1 ≤ 1) (h1 : a0 + a3 ≤ a2) (h2 : 1 ≤ a3) : a0 + a1 ≤ a2 := by omega
theorem oz_37cf687dd6 {a0 a1 : Int} (h0 : ¬ a1 ≤ a0) : a0 ≤ a1 := by omega
theorem oz_06f8c32e81 {a1 : Int} {n0 : Nat} (h0 : a1 = (n0 : Int)) (h1 : a1 = (1 : Int)) : (n0) ≤ 1000000 := by omega
theorem oz_86e54fe7ec {a1 : Int} {n0 : Nat} (h0 : a1 = (n0 : Int)) (h1 : a1 = (1 : Int)) : (0 : Int) < (n0 : Int) := by omega
theorem oz_f8a16524ad {a1 : Int} {n0 : Nat} (h0 : a1 = (n0 : Int)) (h1 : a1 = (2 : Int)) : (n0) ≤ 1000000 := by omega
theorem oz_9a9b2fbcd1 {a0 a1 a2 : Int} (h0 : a2 = a1 + (1 : Int)) (h1 : a0 = a2 - (1 : Int)) : a0 = a1 := by omega
theorem m1_23 : Cond.initialized "java/lang/Throwable" ∈ AL := AL_1 (List.mem_of_getElem? (i := 23) rfl) rfl
theorem m3_77 : Cond.superclass "java/lang/Throwable" "java/lang/Object" ∈ AL := AL_3 (List.mem_of_getElem? (i := 77) rfl) rfl
theorem m3_86 : Cond.instanceMethod ⟨"java/lang/Throwable", "fillInStackTrace", "()Ljava/lang/Throwable;"⟩ ∈ AL := AL_3 (List.mem_of_getElem? (i := 86) rfl) rfl
theorem m3_92 : Cond.codeSync ⟨"java/lang/Throwable", "fillInStackTrace", "()Ljava/lang/Throwable;"⟩ prog_36_method_18_code 1 (Option.some (FieldType.object "java/lang/Throwable")) ∈ AL := AL_3 (List.mem_of_getElem? (i := 92) rfl) rfl
theorem m3_95 : Cond.instanceMethod ⟨"java/lang/Throwable", "fillInStackTrace", "(I)Ljava/lang/Throwable;"⟩ ∈ AL := AL_3 (List.mem_of_getElem? (i := 95) rfl) rfl
theorem m3_97 : Cond.native ⟨"java/lang/Throwable", "fillInStackTrace", "(I)Ljava/lang/Throwable;"⟩ ∈ AL := AL_3 (List.mem_of_getElem? (i := 97) rfl) rfl
theorem m3_78 : Cond.instanceMethod ⟨"java/lang/Throwable", "<init>", "()V"⟩ ∈ AL := AL_3 (List.mem_of_getElem? (i := 78) rfl) rfl
theorem m3_79 : Cond.code ⟨"java/lang/Throwable", "<init>", "()V"⟩ prog_36_method_1_code 1 (Option.none : Option Jvm.ClassFile.FieldType) ∈ AL := AL_3 (List.mem_of_getElem? (i := 79) rfl) rfl
theorem m3_80 : Cond.methodLink "java/lang/Throwable" 1 ⟨"java/lang/Object", "<init>", "()V"⟩ ∈ AL := AL_3 (List.mem_of_getElem? (i := 80) rfl) rfl
theorem m3_85 : Cond.methodLink "java/lang/Throwable" 27 ⟨"java/lang/Throwable", "fillInStackTrace", "()Ljava/lang/Throwable;"⟩ ∈ AL := AL_3 (List.mem_of_getElem? (i := 85) rfl) rfl
theorem m3_93 : Cond.methodLink "java/lang/Throwable" 202 ⟨"java/lang/Throwable", "fillInStackTrace", "(I)Ljava/lang/Throwable;"⟩ ∈ AL := AL_3 (List.mem_of_getElem? (i := 93) rfl) rfl
theorem m3_110 : Cond.fieldLink "java/lang/Throwable" 7 "java/lang/Throwable" "cause" "Ljava/lang/Throwable;" ∈ AL := AL_3 (List.mem_of_getElem? (i := 110) rfl) rfl
theorem m3_67 : Cond.lays "java/lang/Throwable" "java/lang/Throwable" "cause" "Ljava/lang/Throwable;" ∈ AL := AL_3 (List.mem_of_getElem? (i := 67) rfl) rfl
theorem m3_111 : Cond.fieldLink "java/lang/Throwable" 17 "java/lang/Throwable" "stackTrace" "[Ljava/lang/StackTraceElement;" ∈ AL := AL_3 (List.mem_of_getElem? (i := 111) rfl) rfl
theorem m3_69 : Cond.lays "java/lang/Throwable" "java/lang/Throwable" "stackTrace" "[Ljava/lang/StackTraceElement;" ∈ AL := AL_3 (List.mem_of_getElem? (i := 69) rfl) rfl
theorem m3_112 : Cond.fieldLink "java/lang/Throwable" 24 "java/lang/Throwable" "suppressedExceptions" "Ljava/util/List;" ∈ AL := AL_3 (List.mem_of_getElem? (i := 112) rfl) rfl
theorem m3_71 : Cond.lays "java/lang/Throwable" "java/lang/Throwable" "suppressedExceptions" "Ljava/util/List;" ∈ AL := AL_3 (List.mem_of_getElem? (i := 71) rfl) rfl
theorem m3_81 : Cond.fieldLink "java/lang/Throwable" 13 "java/lang/Throwable" "UNASSIGNED_STACK" "[Ljava/lang/StackTraceElement;" ∈ AL := AL_3 (List.mem_of_getElem? (i := 81) rfl) rfl
theorem m3_83 : Cond.fieldLink "java/lang/Throwable" 20 "java/lang/Throwable" "SUPPRESSED_SENTINEL" "Ljava/util/List;" ∈ AL := AL_3 (List.mem_of_getElem? (i := 83) rfl) rfl
theorem m3_73 : Cond.lays "java/lang/Throwable" "java/lang/Throwable" "detailMessage" "Ljava/lang/String;" ∈ AL := AL_3 (List.mem_of_getElem? (i := 73) rfl) rfl
theorem m3_143 : Cond.instanceMethod ⟨"java/lang/IllegalArgumentException", "<init>", "()V"⟩ ∈ AL := AL_3 (List.mem_of_getElem? (i := 143) rfl) rfl
theorem m3_144 : Cond.code ⟨"java/lang/IllegalArgumentException", "<init>", "()V"⟩ prog_24_method_1_code 1 (Option.none : Option Jvm.ClassFile.FieldType) ∈ AL := AL_3 (List.mem_of_getElem? (i := 144) rfl) rfl
theorem m3_145 : Cond.methodLink "java/lang/IllegalArgumentException" 1 ⟨"java/lang/RuntimeException", "<init>", "()V"⟩ ∈ AL := AL_3 (List.mem_of_getElem? (i := 145) rfl) rfl
theorem m3_102 : Cond.instanceMethod ⟨"java/lang/RuntimeException", "<init>", "()V"⟩ ∈ AL := AL_3 (List.mem_of_getElem? (i := 102) rfl) rfl
theorem m3_58n : Cond.declares ⟨"java/lang/RuntimeException", "<init>", "()V"⟩ ∈ tables_1 := by unfold tables_1; exact List.mem_append_right _ (List.mem_append_right _ (List.mem_append_left _ (List.mem_of_getElem? (i := 58) rfl)))
theorem m3_103 : Cond.code ⟨"java/lang/RuntimeException", "<init>", "()V"⟩ prog_30_method_1_code 1 (Option.none : Option Jvm.ClassFile.FieldType) ∈ AL := AL_3 (List.mem_of_getElem? (i := 103) rfl) rfl
theorem m3_104 : Cond.methodLink "java/lang/RuntimeException" 1 ⟨"java/lang/Exception", "<init>", "()V"⟩ ∈ AL := AL_3 (List.mem_of_getElem? (i := 104) rfl) rfl
theorem m3_105 : Cond.instanceMethod ⟨"java/lang/Exception", "<init>", "()V"⟩ ∈ AL := AL_3 (List.mem_of_getElem? (i := 105) rfl) rfl
theorem m3_60n : Cond.declares ⟨"java/lang/Exception", "<init>", "()V"⟩ ∈ tables_1 := by unfold tables_1; exact List.mem_append_right _ (List.mem_append_right _ (List.mem_append_left _ (List.mem_of_getElem? (i := 60) rfl)))
theorem m3_106 : Cond.code ⟨"java/lang/Exception", "<init>", "()V"⟩ prog_23_method_1_code 1 (Option.none : Option Jvm.ClassFile.FieldType) ∈ AL := AL_3 (List.mem_of_getElem? (i := 106) rfl) rfl
theorem m3_107 : Cond.methodLink "java/lang/Exception" 1 ⟨"java/lang/Throwable", "<init>", "()V"⟩ ∈ AL := AL_3 (List.mem_of_getElem? (i := 107) rfl) rfl
theorem m3_62n : Cond.declares ⟨"java/lang/Throwable", "<init>", "()V"⟩ ∈ tables_1 := by unfold tables_1; exact List.mem_append_right _ (List.mem_append_right _ (List.mem_append_left _ (List.mem_of_getElem? (i := 62) rfl)))
theorem m11_234 : Cond.methodLink "HomeSystemModel$Program" 355 ⟨"java/lang/IllegalArgumentException", "<init>", "()V"⟩ ∈ AL := AL_11 (List.mem_of_getElem? (i := 234) rfl) rfl
theorem m3_134 : Cond.instantiable "java/lang/IllegalArgumentException" 6 ∈ AL := AL_3 (List.mem_of_getElem? (i := 134) rfl) rfl
theorem m3_135n : Cond.castable "java/lang/IllegalArgumentException" "java/lang/IllegalArgumentException" ∈ tables_1 := by unfold tables_1; exact List.mem_append_right _ (List.mem_append_right _ (List.mem_append_left _ (List.mem_of_getElem? (i := 135) rfl)))
theorem m3_136 : Cond.selects "java/lang/IllegalArgumentException" ⟨"java/lang/Throwable", "fillInStackTrace", "(I)Ljava/lang/Throwable;"⟩ ⟨"java/lang/Throwable", "fillInStackTrace", "(I)Ljava/lang/Throwable;"⟩ ∈ AL := AL_3 (List.mem_of_getElem? (i := 136) rfl) rfl
theorem m3_90 : Cond.selects "java/lang/IllegalArgumentException" ⟨"java/lang/Throwable", "fillInStackTrace", "()Ljava/lang/Throwable;"⟩ ⟨"java/lang/Throwable", "fillInStackTrace", "()Ljava/lang/Throwable;"⟩ ∈ AL := AL_3 (List.mem_of_getElem? (i := 90) rfl) rfl
theorem m3_137 : Cond.lays "java/lang/IllegalArgumentException" "java/lang/Throwable" "cause" "Ljava/lang/Throwable;" ∈ AL := AL_3 (List.mem_of_getElem? (i := 137) rfl) rfl
theorem m3_138 : Cond.lays "java/lang/IllegalArgumentException" "java/lang/Throwable" "stackTrace" "[Ljava/lang/StackTraceElement;" ∈ AL := AL_3 (List.mem_of_getElem? (i := 138) rfl) rfl
theorem m3_139 : Cond.lays "java/lang/IllegalArgumentException" "java/lang/Throwable" "suppressedExceptions" "Ljava/util/List;" ∈ AL := AL_3 (List.mem_of_getElem? (i := 139) rfl) rfl
theorem m3_140 : Cond.lays "java/lang/IllegalArgumentException" "java/lang/Throwable" "detailMessage" "Ljava/lang/String;" ∈ AL := AL_3 (List.mem_of_getElem? (i := 140) rfl) rfl
theorem m3_76 : Cond.fieldLink "java/lang/Throwable" 198 "java/lang/Throwable" "backtrace" "Ljava/lang/Object;" ∈ AL := AL_3 (List.mem_of_getElem? (i := 76) rfl) rfl
theorem m3_75 : Cond.lays "java/lang/Throwable" "java/lang/Throwable" "backtrace" "Ljava/lang/Object;" ∈ AL := AL_3 (List.mem_of_getElem? (i := 75) rfl) rfl
theorem m3_141 : Cond.lays "java/lang/IllegalArgumentException" "java/lang/Throwable" "backtrace" "Ljava/lang/Object;" ∈ AL := AL_3 (List.mem_of_getElem? (i := 141) rfl) rfl
theorem m11_189 : Cond.classLink "HomeSystemModel$Program" 353 "java/lang/IllegalArgumentException" ∈ AL := AL_11 (List.mem_of_getElem? (i := 189) rfl) rfl
theorem m1_27 : Cond.initialized "java/lang/IllegalArgumentException" ∈ AL := AL_1 (List.mem_of_getElem? (i := 27) rfl) rfl
theorem m11_222 : Cond.methodLink "HomeSystemModel$Program" 356 ⟨"java/lang/String", "equals", "(Ljava/lang/Object;)Z"⟩ ∈ AL := AL_11 (List.mem_of_getElem? (i := 222) rfl) rfl
theorem m11_225 : Cond.code ⟨"java/lang/String", "equals", "(Ljava/lang/Object;)Z"⟩ prog_31_method_66_code 3 (Option.some FieldType.boolean) ∈ AL := AL_11 (List.mem_of_getElem? (i := 225) rfl) rfl
theorem m11_223 : Cond.instanceMethod ⟨"java/lang/String", "equals", "(Ljava/lang/Object;)Z"⟩ ∈ AL := AL_11 (List.mem_of_getElem? (i := 223) rfl) rfl
theorem m11_224 : Cond.selects "java/lang/String" ⟨"java/lang/String", "equals", "(Ljava/lang/Object;)Z"⟩ ⟨"java/lang/String", "equals", "(Ljava/lang/Object;)Z"⟩ ∈ AL := AL_11 (List.mem_of_getElem? (i := 224) rfl) rfl
theorem m9_235 : Cond.fieldLink "HomeSystemModel$Program" 360 "HomeSystemModel$Program" "at" "I" ∈ AL := AL_9 (List.mem_of_getElem? (i := 235) rfl) rfl
theorem m11_218 : Cond.methodLink "HomeSystemModel$Program" 363 ⟨"HomeSystemModel$Program", "isAt", "(ILjava/lang/String;)Z"⟩ ∈ AL := AL_11 (List.mem_of_getElem? (i := 218) rfl) rfl
theorem m11_221 : Cond.code ⟨"HomeSystemModel$Program", "isAt", "(ILjava/lang/String;)Z"⟩ prog_16_method_17_code 3 (Option.some FieldType.boolean) ∈ AL := AL_11 (List.mem_of_getElem? (i := 221) rfl) rfl
theorem ms_8_15 : Cond.selects "HomeSystemModel$Program" ⟨"HomeSystemModel$Program", "isAt", "(ILjava/lang/String;)Z"⟩ ⟨"HomeSystemModel$Program", "isAt", "(ILjava/lang/String;)Z"⟩ ∈ AL := AL_p (q := (⟨"HomeSystemModel$Program", "isAt", "(ILjava/lang/String;)Z"⟩, 69)) (by unfold lw_privs; exact List.mem_append_right _ (List.mem_append_right _ (List.mem_append_right _ (List.mem_append_right _ (List.mem_append_right _ (List.mem_append_right _ (List.mem_append_right _ (List.mem_append_left _ (List.mem_of_getElem? (i := 15) rfl)))))))))
theorem m11_220 : Cond.instanceMethod ⟨"HomeSystemModel$Program", "isAt", "(ILjava/lang/String;)Z"⟩ ∈ AL := AL_11 (List.mem_of_getElem? (i := 220) rfl) rfl
theorem m11_214 : Cond.methodLink "HomeSystemModel$Program" 366 ⟨"HomeSystemModel$Program", "is", "(Ljava/lang/String;)Z"⟩ ∈ AL := AL_11 (List.mem_of_getElem? (i := 214) rfl) rfl
theorem m11_217 : Cond.code ⟨"HomeSystemModel$Program", "is", "(Ljava/lang/String;)Z"⟩ prog_16_method_18_code 2 (Option.some FieldType.boolean) ∈ AL := AL_11 (List.mem_of_getElem? (i := 217) rfl) rfl
theorem ms_8_14 : Cond.selects "HomeSystemModel$Program" ⟨"HomeSystemModel$Program", "is", "(Ljava/lang/String;)Z"⟩ ⟨"HomeSystemModel$Program", "is", "(Ljava/lang/String;)Z"⟩ ∈ AL := AL_p (q := (⟨"HomeSystemModel$Program", "is", "(Ljava/lang/String;)Z"⟩, 69)) (by unfold lw_privs; exact List.mem_append_right _ (List.mem_append_right _ (List.mem_append_right _ (List.mem_append_right _ (List.mem_append_right _ (List.mem_append_right _ (List.mem_append_right _ (List.mem_append_left _ (List.mem_of_getElem? (i := 14) rfl)))))))))
theorem m11_216 : Cond.instanceMethod ⟨"HomeSystemModel$Program", "is", "(Ljava/lang/String;)Z"⟩ ∈ AL := AL_11 (List.mem_of_getElem? (i := 216) rfl) rfl
theorem m11_198 : Cond.methodLink "HomeSystemModel$Program" 377 ⟨"HomeSystemModel$Program", "isKey", "(I)Z"⟩ ∈ AL := AL_11 (List.mem_of_getElem? (i := 198) rfl) rfl
theorem m11_201 : Cond.code ⟨"HomeSystemModel$Program", "isKey", "(I)Z"⟩ prog_16_method_19_code 2 (Option.some FieldType.boolean) ∈ AL := AL_11 (List.mem_of_getElem? (i := 201) rfl) rfl
theorem ms_8_10 : Cond.selects "HomeSystemModel$Program" ⟨"HomeSystemModel$Program", "isKey", "(I)Z"⟩ ⟨"HomeSystemModel$Program", "isKey", "(I)Z"⟩ ∈ AL := AL_p (q := (⟨"HomeSystemModel$Program", "isKey", "(I)Z"⟩, 69)) (by unfold lw_privs; exact List.mem_append_right _ (List.mem_append_right _ (List.mem_append_right _ (List.mem_append_right _ (List.mem_append_right _ (List.mem_append_right _ (List.mem_append_right _ (List.mem_append_left _ (List.mem_of_getElem? (i := 10) rfl)))))))))
theorem m11_200 : Cond.instanceMethod ⟨"HomeSystemModel$Program", "isKey", "(I)Z"⟩ ∈ AL := AL_11 (List.mem_of_getElem? (i := 200) rfl) rfl
theorem m9_238 : Cond.fieldLink "HomeSystemModel$Program" 207 "HomeSystemModel$Program" "kinds" "[B" ∈ AL := AL_9 (List.mem_of_getElem? (i := 238) rfl) rfl
theorem m9_237 : Cond.fieldLink "HomeSystemModel$Program" 390 "HomeSystemModel$Program" "nodes" "I" ∈ AL := AL_9 (List.mem_of_getElem? (i := 237) rfl) rfl
theorem m9_239 : Cond.fieldLink "HomeSystemModel$Program" 210 "HomeSystemModel$Program" "tokens" "[I" ∈ AL := AL_9 (List.mem_of_getElem? (i := 239) rfl) rfl
theorem m10_0 : Cond.fieldLink "HomeSystemModel$Program" 213 "HomeSystemModel$Program" "firsts" "[I" ∈ AL := AL_10 (List.mem_of_getElem? (i := 0) rfl) rfl
theorem m10_1 : Cond.fieldLink "HomeSystemModel$Program" 216 "HomeSystemModel$Program" "kidA" "[I" ∈ AL := AL_10 (List.mem_of_getElem? (i := 1) rfl) rfl
theorem m10_3 : Cond.fieldLink "HomeSystemModel$Program" 219 "HomeSystemModel$Program" "kidB" "[I" ∈ AL := AL_10 (List.mem_of_getElem? (i := 3) rfl) rfl
theorem m10_5 : Cond.fieldLink "HomeSystemModel$Program" 222 "HomeSystemModel$Program" "kidC" "[I" ∈ AL := AL_10 (List.mem_of_getElem? (i := 5) rfl) rfl
theorem m10_6 : Cond.fieldLink "HomeSystemModel$Program" 225 "HomeSystemModel$Program" "kidD" "[I" ∈ AL := AL_10 (List.mem_of_getElem? (i := 6) rfl) rfl
theorem m10_7 : Cond.fieldLink "HomeSystemModel$Program" 228 "HomeSystemModel$Program" "nexts" "[I" ∈ AL := AL_10 (List.mem_of_getElem? (i := 7) rfl) rfl
theorem m10_9 : Cond.fieldLink "HomeSystemModel$Program" 231 "HomeSystemModel$Program" "ops" "[I" ∈ AL := AL_10 (List.mem_of_getElem? (i := 9) rfl) rfl
theorem m10_11 : Cond.fieldLink "HomeSystemModel$Program" 234 "HomeSystemModel$Program" "depths" "[I" ∈ AL := AL_10 (List.mem_of_getElem? (i := 11) rfl) rfl
/-! THE REFERENCE'S CURSOR -/
def bp (ta : Nat → Nat → Int32) (x : Int32) : Int := (ta 7 x.toNatClampNeg).toInt
def sz (ta : Nat → Nat → Int32) (x : Int32) : Int := (ta 8 x.toNatClampNeg).toInt
def so (ta : Nat → Nat → Int32) (x : Int32) : Int := (ta 9 x.toNatClampNeg).toInt
def wh (ta : Nat → Nat → Int32) (x : Int32) : Int := (ta 10 x.toNatClampNeg).toInt
theorem tk_s {tf : Nat → Int32} {ta : Nat → Nat → Int32} (h : TkI tf ta) {x z : Int32} (h0 : 0 ≤ x.toInt) (h1 : x.toInt < (tf 6).toInt) (e : z = ta 9 x.toNatClampNeg) : 1 ≤ z.toInt ∧ z.toInt ≤ 7 ∧ (z.toInt ≤ 5 → x.toInt + 1 < (tf 6).toInt) ∧ z.toInt = so ta x := by
  have hc := cl_nat h0
  have q := (h.2.2.1 x.toNatClampNeg (by omega)).1
  rw [e]
  refine ⟨q.1, q.2, fun h5 => ?_, rfl⟩
  by_cases h2 : x.toInt + 1 < (tf 6).toInt
  · exact h2
  · have := h.2.2.2.2 x.toNatClampNeg (by omega)
    omega
theorem tk_w5 {tf : Nat → Int32} {ta : Nat → Nat → Int32} (h : TkI tf ta) {x z : Int32} (h0 : 0 ≤ x.toInt) (h1 : x.toInt < (tf 6).toInt) (e : z = ta 10 x.toNatClampNeg) (h5 : so ta x = 5) : 0 ≤ z.toInt ∧ z.toInt < 43 ∧ sz ta x = (mlen z.toNatClampNeg : Int) := by
  have hc := cl_nat h0
  rw [e]
  exact (h.2.2.1 x.toNatClampNeg (by omega)).2.2.1 h5
theorem tk_w2 {tf : Nat → Int32} {ta : Nat → Nat → Int32} (h : TkI tf ta) {x z : Int32} (h0 : 0 ≤ x.toInt) (h1 : x.toInt < (tf 6).toInt) (e : z = ta 10 x.toNatClampNeg) (h5 : so ta x = 2) : 0 ≤ z.toInt ∧ z.toInt ≤ 14 := by
  have hc := cl_nat h0
  rw [e]
  have q := (h.2.2.1 x.toNatClampNeg (by omega)).2.2.2.1 h5
  exact ⟨q.1, q.2.1⟩
theorem tk_k3 {tf : Nat → Int32} {ta : Nat → Nat → Int32} (h : TkI tf ta) {x : Int32} (h0 : 0 ≤ x.toInt) (h1 : x.toInt < (tf 6).toInt) (h5 : so ta x = 2) (hw : wh ta x ≤ 3) : 3 ≤ sz ta x ∧ 0 ≤ wh ta x := by
  have hc := cl_nat h0
  have q := (h.2.2.1 x.toNatClampNeg (by omega)).2.2.2.1 h5
  have k : ∀ j : Nat, j < 4 → 3 ≤ klen j := by decide
  have hj := cl_nat q.1
  have k2 := k (ta 10 x.toNatClampNeg).toNatClampNeg (by unfold wh at hw; omega)
  refine ⟨?_, q.1⟩
  show 3 ≤ (ta 8 x.toNatClampNeg).toInt
  rw [q.2.2]
  omega
theorem tk_w4 {tf : Nat → Int32} {ta : Nat → Nat → Int32} (h : TkI tf ta) {x z : Int32} (h0 : 0 ≤ x.toInt) (h1 : x.toInt < (tf 6).toInt) (e : z = ta 10 x.toNatClampNeg) (h5 : so ta x = 4) : 0 ≤ z.toInt ∧ z.toInt ≤ 200 ∧ z.toInt + 2 ≤ sz ta x := by
  have hc := cl_nat h0
  rw [e]
  exact (h.2.2.1 x.toNatClampNeg (by omega)).2.2.2.2.1 h5
theorem tk_b {tf : Nat → Int32} {ta : Nat → Nat → Int32} (h : TkI tf ta) {x : Int32} (h0 : 0 ≤ x.toInt) (h1 : x.toInt < (tf 6).toInt) : 0 ≤ bp ta x ∧ 0 ≤ sz ta x ∧ bp ta x + sz ta x ≤ (tf 5).toInt ∧ (tf 5).toInt ≤ 2048 := by
  have hc := cl_nat h0
  have q := (h.2.2.1 x.toNatClampNeg (by omega)).2.1
  have q2 := h.1
  unfold bp sz
  omega
/-- behind a token -/
theorem tk_n {tf : Nat → Int32} {ta : Nat → Nat → Int32} (h : TkI tf ta) {x y : Int32} (h0 : 0 ≤ x.toInt) (h1 : x.toInt + 1 < (tf 6).toInt) (e : y.toInt = x.toInt + 1) : bp ta x + sz ta x ≤ bp ta y ∧ 1 ≤ sz ta x := by
  have hc := cl_nat h0
  first | have hy := cl_nat (x := y) ((oz_ae613611c0 e h0)) | (have hy := cl_nat (x := y) (by first | exact oz_ae613611c0 e h0 | omega))
  have q := h.2.2.2.1 x.toNatClampNeg (by omega)
  have q2 := (h.2.2.1 x.toNatClampNeg (by omega)).2.2.2.2.2 q.1
  first | have ey : y.toNatClampNeg = x.toNatClampNeg + 1 := (oz_12f535336e hc hy e) | (have ey : y.toNatClampNeg = x.toNatClampNeg + 1 := by first | exact oz_12f535336e hc hy e | omega)
  unfold bp sz
  rw [ey]
  exact ⟨q.2, q2⟩
/-- a new node -/
def MkN (na ma na' ma' : Nat → Nat → Int32) (n k t : Int32) : Prop := (∀ x : Nat, x ≠ n.toNatClampNeg → (∀ k, na' k x = na k x) ∧ ∀ k, ma' k x = ma k x) ∧ (-128 ≤ k.toInt → k.toInt ≤ 127 → na' 14 n.toNatClampNeg = k) ∧ na' 15 n.toNatClampNeg = t ∧ na' 16 n.toNatClampNeg = t ∧ na' 17 n.toNatClampNeg = -1 ∧ ma' 18 n.toNatClampNeg = -1 ∧ ma' 19 n.toNatClampNeg = -1 ∧ ma' 20 n.toNatClampNeg = -1 ∧ na' 21 n.toNatClampNeg = -1 ∧ ma' 22 n.toNatClampNeg = -1 ∧ na' 23 n.toNatClampNeg = 1
theorem up_far {f : Nat → Nat → Int32} {j k i x : Nat} {v : Int32} (h : x ≠ i) : va_up f j (upd (f j) i v) k x = f k x := by
  by_cases e : k = j
  · subst e; rw [va_up_s, pk_un h]
  · rw [va_up_n e]
theorem mkn_mk {na ma : Nat → Nat → Int32} {n k t z : Int32} (hz : z = k.toInt8.toInt32) {na1 na2 na3 na4 na5 na6 ma1 ma2 ma3 ma4 : Nat → Nat → Int32} (e1 : na1 = va_up na 14 (upd (na 14) n.toNatClampNeg (vp_nar .byte z))) (e2 : na2 = va_up na1 15 (upd (na1 15) n.toNatClampNeg t)) (e3 : na3 = va_up na2 16 (upd (na2 16) n.toNatClampNeg t)) (e4 : na4 = va_up na3 17 (upd (na3 17) n.toNatClampNeg (-1))) (e5 : na5 = va_up na4 21 (upd (na4 21) n.toNatClampNeg (-1))) (e6 : na6 = va_up na5 23 (upd (na5 23) n.toNatClampNeg 1))
    (f1 : ma1 = va_up ma 18 (upd (ma 18) n.toNatClampNeg (-1))) (f2 : ma2 = va_up ma1 19 (upd (ma1 19) n.toNatClampNeg (-1))) (f3 : ma3 = va_up ma2 20 (upd (ma2 20) n.toNatClampNeg (-1))) (f4 : ma4 = va_up ma3 22 (upd (ma3 22) n.toNatClampNeg (-1))) : MkN na ma na6 ma4 n k t := by
  subst e1 e2 e3 e4 e5 e6 f1 f2 f3 f4
  refine ⟨fun x hx => ⟨fun k => ?_, fun k => ?_⟩, fun h0 h1 => ?_, ?_, ?_, ?_, ?_, ?_, ?_, ?_, ?_, ?_⟩
  · rw [up_far hx, up_far hx, up_far hx, up_far hx, up_far hx, up_far hx]
  · rw [up_far hx, up_far hx, up_far hx, up_far hx]
  · rw [va_up_n (by decide), va_up_n (by decide), va_up_n (by decide), va_up_n (by decide), va_up_n (by decide), va_up_s, pk_us, hz, pk_vb, i8_id h0 h1]
  · rw [va_up_n (by decide), va_up_n (by decide), va_up_n (by decide), va_up_n (by decide), va_up_s, pk_us]
  · rw [va_up_n (by decide), va_up_n (by decide), va_up_n (by decide), va_up_s, pk_us]
  · rw [va_up_n (by decide), va_up_n (by decide), va_up_s, pk_us]
  · rw [va_up_n (by decide), va_up_n (by decide), va_up_n (by decide), va_up_s, pk_us]
  · rw [va_up_n (by decide), va_up_n (by decide), va_up_s, pk_us]
  · rw [va_up_n (by decide), va_up_s, pk_us]
  · rw [va_up_n (by decide), va_up_s, pk_us]
  · rw [va_up_s, pk_us]
  · rw [va_up_s, pk_us]
/-! what a throw wants to lie outside -/
def va_Y (C n d : String) (A : Nat → Prop) (U : State) (H : Heap) : Prop := ∃ (c : ClassId) (k : Class) (i : Nat) (f : Field) (a : Nat) (cell : Cell), U.vm.findClass C = some c ∧ U.fieldFound? C n d = some (c, k, i, f) ∧ f.isStatic = true ∧ k.statics = some a ∧ H[a]? = some cell ∧ cell.vm.isStatics = true ∧ cell.cls = c ∧ f.slot < cell.slots.size ∧ k.staticTypes[f.slot]? = some f.type ∧ ¬ A a
theorem va_Y.moved {C n d : String} {A : Nat → Prop} {u U : State} {H : Heap} (hvm : u.vm.Alike U.vm) (h : va_Y C n d A u H) : va_Y C n d A U H := by
  obtain ⟨c, k, i, f, a, cell, h0, h1, h2, h3, h4, h5, h6, h7, h8, h9⟩ := h
  obtain ⟨k', hi', he⟩ := State.fieldFound?_setVm hvm h1
  exact ⟨c, k', i, f, a, cell, by rw [hvm.findClass]; exact h0, hi', h2, by rw [he]; exact h3, h4, h5, h6, h7, by rw [he]; exact h8, h9⟩
theorem va_Y.kept {C n d : String} {A : Nat → Prop} {U : State} {H H1 : Heap} (h : va_Y C n d A U H) (hq : ∀ a : Nat, a < H.size → ¬ A a → H1[a]? = H[a]?) : va_Y C n d A U H1 := by
  obtain ⟨c, k, i, f, a, cell, h0, h1, h2, h3, h4, h5, h6, h7, h8, h9⟩ := h
  exact ⟨c, k, i, f, a, cell, h0, h1, h2, h3, by rw [hq a (Array.getElem?_eq_some_iff.mp h4).1 h9]; exact h4, h5, h6, h7, h8, h9⟩
theorem va_Y.narrow {C n d : String} {A B : Nat → Prop} {U : State} {H : Heap} (h : va_Y C n d A U H) (hAB : ∀ q, B q → A q) : va_Y C n d B U H := by
  obtain ⟨c, k, i, f, a, cell, h0, h1, h2, h3, h4, h5, h6, h7, h8, h9⟩ := h
  exact ⟨c, k, i, f, a, cell, h0, h1, h2, h3, h4, h5, h6, h7, h8, fun z => h9 (hAB a z)⟩
theorem va_Y.lays {C n d : String} {A : Nat → Prop} {U : State} {args : Array Value} (h : va_Y C n d A U U.heap) : (Cond.laysStatic C n d).before args U = true := by
  obtain ⟨c, k, i, f, a, cell, h0, h1, h2, h3, h4, h5, h6, h7, h8, h9⟩ := h
  simp [Cond.before, Cond.holds, Cond.value, h0, h1, h2, h3, h4, h5, h6, h7, h8]
def oN (A : Nat → Prop) (U : State) (H : Heap) : Prop := (va_Zq Bundle.tN "UNASSIGNED_STACK" Bundle.steD A U H ∧ va_Zq Bundle.tN "SUPPRESSED_SENTINEL" Bundle.listD A U H) ∧ va_Y Bundle.tN "UNASSIGNED_STACK" Bundle.steD A U H ∧ va_Y Bundle.tN "SUPPRESSED_SENTINEL" Bundle.listD A U H
theorem oG_N : oG oN := oG_of (fun h x => ⟨⟨va_Zq.moved h x.1.1, va_Zq.moved h x.1.2⟩, va_Y.moved h x.2.1, va_Y.moved h x.2.2⟩) (fun x h => ⟨⟨va_Zq.kept x.1.1 h, va_Zq.kept x.1.2 h⟩, va_Y.kept x.2.1 h, va_Y.kept x.2.2 h⟩) (fun x h => ⟨⟨va_Zq.narrow x.1.1 h, va_Zq.narrow x.1.2 h⟩, va_Y.narrow x.2.1 h, va_Y.narrow x.2.2 h⟩)
theorem zq_ref {C n d : String} {A : Nat → Prop} {U : State} (h : va_Zq C n d A U U.heap) : (Cond.isRef (.static C n d)).before #[] U = true := by
  have key : ∀ v : Value, va_Z C n d v A U U.heap → (v = .null ∨ ∃ t, v = .ref t) → (Cond.isRef (.static C n d)).before #[] U = true := by
    rintro v ⟨cf, kf, fi, f, a, cell, h1, h2, h3, h4, h5, h6, h7, -⟩ hv
    have hev := Term.static_eval (args := #[]) (first := U) (o := none) (idx := []) h1 h2 h4 h5 h6 h7
    rcases hv with rfl | ⟨t, rfl⟩ <;> simp [Cond.before, Cond.holds, Cond.value, hev]
  rcases h with h | ⟨t, h⟩
  · exact key _ h (Or.inl rfl)
  · exact key _ h (Or.inr ⟨t, rfl⟩)
theorem oN.sent {A : Nat → Prop} {U : State} (h : oN A U U.heap) : tx_Sent U := ⟨zq_ref h.1.1, zq_ref h.1.2⟩
/-- a + that does nothing -/
def PlT (ta : Nat → Nat → Int32) (t : Nat) : Prop := (ta 8 t).toInt = 1 ∧ (ta 4 (ta 7 t).toNatClampNeg).toInt = 43
def PlV (ta : Nat → Nat → Int32) (x : Int32) (v : Int) : Prop := (v = 1 → PlT ta x.toNatClampNeg) ∧ (v = 0 → ¬ PlT ta x.toNatClampNeg)
/-- where each node begins is a token -/
def FsI (c N : Int) (na : Nat → Nat → Int32) : Prop := ∀ x : Nat, (x : Int) < N → 0 ≤ (na 16 x).toInt ∧ (na 16 x).toInt < c
theorem FsI.le {c N N' : Int} {na : Nat → Nat → Int32} (h : FsI c N na) (hN : N' ≤ N) : FsI c N' na := fun x hx => h x (by omega)
theorem FsI.un {c N : Int} {na : Nat → Nat → Int32} {k : Nat} {X : Nat → Int32} (h : FsI c N na) (hk : 16 ≠ k) : FsI c N (va_up na k X) := fun x hx => by rw [va_up_n hk]; exact h x hx
theorem FsI.us {c N : Int} {na : Nat → Nat → Int32} {i : Nat} {v : Int32} (h : FsI c N na) (h0 : 0 ≤ v.toInt) (h1 : v.toInt < c) : FsI c N (va_up na 16 (upd (na 16) i v)) := fun x hx => by
  rw [va_up_s]
  by_cases e : x = i
  · subst e; rw [pk_us]; exact ⟨h0, h1⟩
  · rw [pk_un e]; exact h x hx
theorem FsI.mk {c : Int} {na ma na' ma' : Nat → Nat → Int32} {n k t : Int32} {N : Int} (h : FsI c N na) (m : MkN na ma na' ma' n k t) (h0 : 0 ≤ n.toInt) (hN : n.toInt ≤ N) (ht : 0 ≤ t.toInt) (ht2 : t.toInt < c) : FsI c (n.toInt + 1) na' := fun x hx => by
  have hc := cl_nat h0
  by_cases e : x = n.toNatClampNeg
  · subst e; rw [m.2.2.2.1]; exact ⟨ht, ht2⟩
  · rw [(m.1 x e).1 16]; exact h x (by omega)
theorem FsI.at {c N : Int} {na : Nat → Nat → Int32} {x z : Int32} (h : FsI c N na) (h0 : 0 ≤ x.toInt) (h1 : x.toInt < N) (e : z = na 16 x.toNatClampNeg) : 0 ≤ z.toInt ∧ z.toInt < c := by
  rw [e]; exact h _ (by have := cl_nat h0; omega)
theorem FsI.ag {c N : Int} {na na' : Nat → Nat → Int32} (h : FsI c N na) (e : ∀ x, na' 16 x = na 16 x) : FsI c N na' := fun x hx => by rw [e x]; exact h x hx
abbrev b_Mpg_need : ByteArray := prog_16_method_15_code
def y_Mpg_need : MethodName := ⟨"HomeSystemModel$Program", "need", "(Z)V"⟩
theorem d_Mpg_need_0 : decode b_Mpg_need 0 = .ok (.iload_n 1, 1) := by decide +kernel
theorem d_Mpg_need_1 : decode b_Mpg_need 1 = .ok (.ifCond .ne 11, 3) := by decide +kernel
theorem d_Mpg_need_4 : decode b_Mpg_need 4 = .ok (.new 353, 3) := by decide +kernel
theorem d_Mpg_need_7 : decode b_Mpg_need 7 = .ok (.dup, 1) := by decide +kernel
theorem d_Mpg_need_8 : decode b_Mpg_need 8 = .ok (.invokespecial 355, 3) := by decide +kernel
theorem d_Mpg_need_11 : decode b_Mpg_need 11 = .ok (.athrow, 1) := by decide +kernel
theorem d_Mpg_need_12 : decode b_Mpg_need 12 = .ok (.return_, 1) := by decide +kernel
theorem q_Mpg_need : px_y y_Mpg_need 1 := by unfold px_y; decide +kernel
theorem sent_at {t : Term} {args : Array Value} {s : State} (h : (Cond.isRef t).before #[] s = true) (ht : ∀ A B : Array Value, ∀ u v : State, ∀ o o2, ∀ i, t.eval A u o i s = t.eval B v o2 i s := by intros; rfl) : (Cond.isRef t).before args s = true := by
  simp only [Cond.before, Cond.holds, Cond.value] at h ⊢
  rw [ht args #[] s s none none []]
  exact h
set_option maxHeartbeats 4000000 in
set_option maxRecDepth 100000 in
theorem c_mp_need (l : Launch) (hlf : l.flags = pinnedFlags ++ [noTraceFlag]) (D : va_G) (cs : Nat → ClassId) (h : Nat) (p0 : Int32) : ThV l y_Mpg_need b_Mpg_need 2 D cs 6 100 [.ref h, .int p0] [] (oX (fun A U H => (oN A U H)) []) "java/lang/IllegalArgumentException" (fun ps => ps = [] ∧ ¬ p0.toInt = 0) (fun ps => ps = [] ∧ p0.toInt = 0) := by
  refine th_enter (by decide) (Nat.le_of_ble_eq_true rfl) ?_
  intro p e s m below meth c A ls hAe S hr hlk hnm hA hT hX hw hl hne hadm
  have hl : lv_has ls 2 [(0, .ref h), (1, .int p0)] := hl
  have hN : oN A s s.heap := by rw [hAe]; exact hX
  have hsent := hN.sent
  have htr := Launch.traces_off hlf hadm
  refine lv_iload_n S.x S.b d_Mpg_need_0 rfl (lv_at hl 1 rfl) ?_
  refine lv_if_ne (tgt := 12) S.x S.b d_Mpg_need_1 (by decide) (fun c1 => ?_) (fun c1 => ?_)
  · exact th_vret S hr hlk hAe hw ⟨rfl, fun h0 => c1 (i_eq.mpr h0)⟩ d_Mpg_need_12
  ·
    have hA1 : ∀ a ∈ Bundle.throwableAtoms, a.before [Value.ref h, Value.int p0].toArray s = true := by unfold Bundle.throwableAtoms; exact List.forall_mem_cons.mpr ⟨(S.w m1_23), List.forall_mem_cons.mpr ⟨(S.w m3_77), List.forall_mem_cons.mpr ⟨(S.w m3_86), List.forall_mem_cons.mpr ⟨(S.w m3_92), List.forall_mem_cons.mpr ⟨(S.w m3_95), List.forall_mem_cons.mpr ⟨(S.w m3_97), List.forall_mem_cons.mpr ⟨(S.w m3_78), List.forall_mem_cons.mpr ⟨(S.w m3_79), List.forall_mem_cons.mpr ⟨(S.w m1_46), List.forall_mem_cons.mpr ⟨(S.w m1_47), List.forall_mem_cons.mpr ⟨(S.w m3_80), List.forall_mem_cons.mpr ⟨(S.w m3_85), List.forall_mem_cons.mpr ⟨(S.w m3_93), List.forall_mem_cons.mpr ⟨(S.w m3_110), List.forall_mem_cons.mpr ⟨(S.w m3_67), List.forall_mem_cons.mpr ⟨(S.w m3_111), List.forall_mem_cons.mpr ⟨(S.w m3_69), List.forall_mem_cons.mpr ⟨(S.w m3_112), List.forall_mem_cons.mpr ⟨(S.w m3_71), List.forall_mem_cons.mpr ⟨(S.w m3_81), List.forall_mem_cons.mpr ⟨hN.2.1.lays, List.forall_mem_cons.mpr ⟨(S.w m3_83), List.forall_mem_cons.mpr ⟨hN.2.2.lays, List.forall_mem_cons.mpr ⟨(S.w m3_73), fun _ h => absurd h List.not_mem_nil⟩⟩⟩⟩⟩⟩⟩⟩⟩⟩⟩⟩⟩⟩⟩⟩⟩⟩⟩⟩⟩⟩⟩⟩
    have hA2 : ∀ a ∈ Bundle.chain0Atoms "java/lang/IllegalArgumentException" ["java/lang/RuntimeException", "java/lang/Exception"], a.before [Value.ref h, Value.int p0].toArray s = true := by unfold Bundle.chain0Atoms Bundle.chain0Atoms Bundle.chain0Atoms Bundle.passAtoms; exact List.forall_mem_cons.mpr ⟨(S.w m3_143), List.forall_mem_cons.mpr ⟨(S.w m3_144), List.forall_mem_cons.mpr ⟨(S.w m3_145), List.forall_mem_cons.mpr ⟨(S.w m3_102), List.forall_mem_cons.mpr ⟨(va_Nw.use rfl (hT.2.2 _ m3_58n rfl)), List.forall_mem_cons.mpr ⟨(S.w m3_102), List.forall_mem_cons.mpr ⟨(S.w m3_103), List.forall_mem_cons.mpr ⟨(S.w m3_104), List.forall_mem_cons.mpr ⟨(S.w m3_105), List.forall_mem_cons.mpr ⟨(va_Nw.use rfl (hT.2.2 _ m3_60n rfl)), List.forall_mem_cons.mpr ⟨(S.w m3_105), List.forall_mem_cons.mpr ⟨(S.w m3_106), List.forall_mem_cons.mpr ⟨(S.w m3_107), List.forall_mem_cons.mpr ⟨(S.w m3_78), List.forall_mem_cons.mpr ⟨(va_Nw.use rfl (hT.2.2 _ m3_62n rfl)), fun _ h => absurd h List.not_mem_nil⟩⟩⟩⟩⟩⟩⟩⟩⟩⟩⟩⟩⟩⟩⟩
    have hA3 : ∀ a ∈ ([Cond.methodLink "HomeSystemModel$Program" 355 ⟨"java/lang/IllegalArgumentException", "<init>", "()V"⟩, Cond.instantiable "java/lang/IllegalArgumentException" 6, Cond.castable "java/lang/IllegalArgumentException" "java/lang/IllegalArgumentException", Cond.selects "java/lang/IllegalArgumentException" ⟨"java/lang/Throwable", "fillInStackTrace", "(I)Ljava/lang/Throwable;"⟩ ⟨"java/lang/Throwable", "fillInStackTrace", "(I)Ljava/lang/Throwable;"⟩, Cond.selects "java/lang/IllegalArgumentException" ⟨"java/lang/Throwable", "fillInStackTrace", "()Ljava/lang/Throwable;"⟩ ⟨"java/lang/Throwable", "fillInStackTrace", "()Ljava/lang/Throwable;"⟩, Cond.lays "java/lang/IllegalArgumentException" "java/lang/Throwable" "cause" "Ljava/lang/Throwable;", Cond.lays "java/lang/IllegalArgumentException" "java/lang/Throwable" "stackTrace" "[Ljava/lang/StackTraceElement;", Cond.lays "java/lang/IllegalArgumentException" "java/lang/Throwable" "suppressedExceptions" "Ljava/util/List;", Cond.lays "java/lang/IllegalArgumentException" "java/lang/Throwable" "detailMessage" "Ljava/lang/String;", Cond.isRef (.static Bundle.tN "UNASSIGNED_STACK" Bundle.steD), Cond.isRef (.static Bundle.tN "SUPPRESSED_SENTINEL" Bundle.listD), Cond.fieldLink "java/lang/Throwable" 198 "java/lang/Throwable" "backtrace" "Ljava/lang/Object;", Cond.lays "java/lang/Throwable" "java/lang/Throwable" "backtrace" "Ljava/lang/Object;", Cond.lays "java/lang/IllegalArgumentException" "java/lang/Throwable" "backtrace" "Ljava/lang/Object;"] : List Cond), a.before [Value.ref h, Value.int p0].toArray s = true := List.forall_mem_cons.mpr ⟨(S.w m11_234), List.forall_mem_cons.mpr ⟨(S.w m3_134), List.forall_mem_cons.mpr ⟨(va_Nw.use rfl (hT.2.2 _ m3_135n rfl)), List.forall_mem_cons.mpr ⟨(S.w m3_136), List.forall_mem_cons.mpr ⟨(S.w m3_90), List.forall_mem_cons.mpr ⟨(S.w m3_137), List.forall_mem_cons.mpr ⟨(S.w m3_138), List.forall_mem_cons.mpr ⟨(S.w m3_139), List.forall_mem_cons.mpr ⟨(S.w m3_140), List.forall_mem_cons.mpr ⟨(sent_at hsent.1), List.forall_mem_cons.mpr ⟨(sent_at hsent.2), List.forall_mem_cons.mpr ⟨(S.w m3_76), List.forall_mem_cons.mpr ⟨(S.w m3_75), List.forall_mem_cons.mpr ⟨(S.w m3_141), fun _ h => absurd h List.not_mem_nil⟩⟩⟩⟩⟩⟩⟩⟩⟩⟩⟩⟩⟩⟩
    have hat : ∀ a ∈ Bundle.ownAtoms0 "HomeSystemModel$Program" 355 "java/lang/IllegalArgumentException" ["java/lang/RuntimeException", "java/lang/Exception"], a.before [Value.ref h, Value.int p0].toArray s = true := by
      unfold Bundle.ownAtoms0
      exact fun a ha => (List.mem_append.mp ha).elim (fun ha => (List.mem_append.mp ha).elim (hA1 a) (hA2 a)) (hA3 a)
    exact tx_throw (own := "HomeSystemModel$Program") (E := "java/lang/IllegalArgumentException") (names := ["java/lang/RuntimeException", "java/lang/Exception"]) S.x S.b hlk htr S.own (S.w m11_189) (S.w m1_27) (by decide +kernel) (by decide +kernel) hat (hl.1.trans S.ml.symm) d_Mpg_need_4 d_Mpg_need_7 d_Mpg_need_8 d_Mpg_need_11 hne (Nat.le_of_ble_eq_true rfl) (Nat.le_of_ble_eq_true rfl) (Nat.le_of_ble_eq_true rfl) (Nat.le_of_ble_eq_true rfl) (fun x t hW hn => Or.inr ⟨x, [], rfl, ⟨rfl, i_eq.mp c1⟩, ⟨fun k q hk => by simp at hk, ⟨fun i j x y hx => by simp at hx, fun k q hk => by simp at hk⟩⟩, ⟨hn.2.1, fun q h1 _ => hn.2.2.1 q h1⟩, hn.2.2.2⟩)
abbrev b_Mpg_isAt : ByteArray := prog_16_method_17_code
def y_Mpg_isAt : MethodName := ⟨"HomeSystemModel$Program", "isAt", "(ILjava/lang/String;)Z"⟩
theorem d_Mpg_isAt_0 : decode b_Mpg_isAt 0 = .ok (.aload_n 0, 1) := by decide +kernel
theorem d_Mpg_isAt_1 : decode b_Mpg_isAt 1 = .ok (.getfield 201, 3) := by decide +kernel
theorem d_Mpg_isAt_4 : decode b_Mpg_isAt 4 = .ok (.iload_n 1, 1) := by decide +kernel
theorem d_Mpg_isAt_5 : decode b_Mpg_isAt 5 = .ok (.baload, 1) := by decide +kernel
theorem d_Mpg_isAt_6 : decode b_Mpg_isAt 6 = .ok (.iconst 5, 1) := by decide +kernel
theorem d_Mpg_isAt_7 : decode b_Mpg_isAt 7 = .ok (.if_icmp .ne 25, 3) := by decide +kernel
theorem d_Mpg_isAt_10 : decode b_Mpg_isAt 10 = .ok (.aload_n 0, 1) := by decide +kernel
theorem d_Mpg_isAt_11 : decode b_Mpg_isAt 11 = .ok (.getfield 133, 3) := by decide +kernel
theorem d_Mpg_isAt_14 : decode b_Mpg_isAt 14 = .ok (.aload_n 0, 1) := by decide +kernel
theorem d_Mpg_isAt_15 : decode b_Mpg_isAt 15 = .ok (.getfield 204, 3) := by decide +kernel
theorem d_Mpg_isAt_18 : decode b_Mpg_isAt 18 = .ok (.iload_n 1, 1) := by decide +kernel
theorem d_Mpg_isAt_19 : decode b_Mpg_isAt 19 = .ok (.iaload, 1) := by decide +kernel
theorem d_Mpg_isAt_20 : decode b_Mpg_isAt 20 = .ok (.aaload, 1) := by decide +kernel
theorem d_Mpg_isAt_21 : decode b_Mpg_isAt 21 = .ok (.aload_n 2, 1) := by decide +kernel
theorem d_Mpg_isAt_22 : decode b_Mpg_isAt 22 = .ok (.invokevirtual 356, 3) := by decide +kernel
theorem d_Mpg_isAt_25 : decode b_Mpg_isAt 25 = .ok (.ifCond .eq 7, 3) := by decide +kernel
theorem d_Mpg_isAt_28 : decode b_Mpg_isAt 28 = .ok (.iconst 1, 1) := by decide +kernel
theorem d_Mpg_isAt_29 : decode b_Mpg_isAt 29 = .ok (.goto 4, 3) := by decide +kernel
theorem d_Mpg_isAt_32 : decode b_Mpg_isAt 32 = .ok (.iconst 0, 1) := by decide +kernel
theorem d_Mpg_isAt_33 : decode b_Mpg_isAt 33 = .ok (.ireturn, 1) := by decide +kernel
theorem q_Mpg_isAt : px_y y_Mpg_isAt 2 := by unfold px_y; decide +kernel
set_option maxHeartbeats 4000000 in
set_option maxRecDepth 100000 in
theorem c_mp_isAt (l : Launch) (D : va_G) (cs : Nat → ClassId) (sk : Nat) (sn : Nat) (sb : Nat → Int32) (h : Nat) (r : Nat → Nat) (g : Nat → Nat → Option Nat) (tf : Nat → Int32) (ta : Nat → Nat → Int32) (pf : Nat → Int32) (na : Nat → Nat → Int32) (ma : Nat → Nat → Int32) (wa : Nat → Nat → Int32) (cf : Nat → Int32) (ca : Nat → Nat → Int32) (ef : Nat → Int32) (ea : Nat → Nat → Int32) (xf : Nat → Int32) (xa : Nat → Nat → Int32) (p0 : Int32)  (g0 : 0 ≤ p0.toInt) (g1 : p0.toInt < (tf 6).toInt) (g2 : (tf 6).toInt ≤ 2049) (g3 : sn ≤ 100) (htk : TkI tf ta) : MetI l y_Mpg_isAt b_Mpg_isAt 3 (.boolean) D cs 2 80 (0) (0) [.ref h, .int p0, .ref sk] [wdP cs h r g tf ta pf na ma wa cf ca ef ea xf xa] (oX (fun A U H => (oP A g U H) ∧ (StLt A sk sn sb U H)) [wdP cs h r g tf ta pf na ma wa cf ca ef ea xf xa]) (fun v ps => (ps = [wdP cs h r g tf ta pf na ma wa cf ca ef ea xf xa]) ∧ (v = 0 ∨ v = 1) ∧ (v.toInt = 1 → p0.toInt + 1 < (tf 6).toInt ∧ so ta p0 = 5) ∧ (R_mp_isAt sn sb ta p0 v)) := by
  refine px_enter (by decide) (Nat.le_of_ble_eq_true rfl) ?_
  intro p e s m below meth c A ls hAe S hr hlk hnm hA hT hX hw hl
  have hl : lv_has ls 3 [(0, .ref h), (1, .int p0), (2, .ref sk)] := hl
  have lp0 := Int32.le_toInt p0
  have up0 := Int32.toInt_lt p0
  have cst0 : (0 : Int32).toInt = 0 := rfl
  have cst1 : (1 : Int32).toInt = 1 := rfl
  have cst5 : (5 : Int32).toInt = 5 := rfl
  have hX : (fun A U H => (oP A g U H) ∧ (StLt A sk sn sb U H)) A s s.heap := by rw [hAe]; exact hX
  obtain ⟨hP, hQ0⟩ := hX
  obtain ⟨st0, hQ1⟩ := hQ0
  have hZ := hP.1
  have hF0 := hP.2.1
  refine lv_aload_n S.x S.b d_Mpg_isAt_0 rfl (lv_at hl 0 rfl) ?_
  refine gP_9 S hT hw 0 rfl m9_233 d_Mpg_isAt_1 ?_
  refine lv_iload_n S.x S.b d_Mpg_isAt_4 rfl (lv_at hl 1 rfl) ?_
  refine px_bald S hT hw 0 8 (n := 2060) (f := (ta 9)) rfl gp_9 (x := p0) (vp_in_iff.mpr (by first | exact oz_846323bf3a g0 g1 g2 | (constructor <;> omega))) d_Mpg_isAt_5 ?_
  refine lv_topi (fun z1 ez1 => ?_)
  have lz1 := Int32.le_toInt z1
  have uz1 := Int32.toInt_lt z1
  have rz1 := tk_s htk (x := p0) (by omega) (by omega) ez1
  refine lv_iconst (v := 5) S.x S.b d_Mpg_isAt_6 (by decide) ?_
  refine lv_icmp_ne (tgt := 32) S.x S.b d_Mpg_isAt_7 (by decide) (fun c2 => ?_) (fun c2 => ?_)
  · have nc2 : ¬ z1.toInt = (5 : Int) := mt (i_eq (x := z1) (y := 5)).mpr c2
    refine lv_iconst (v := 0) S.x S.b d_Mpg_isAt_32 (by decide) ?_
    exact px_iret (v := 0) S hr rfl hlk hAe hw (Nat.le_of_ble_eq_true rfl) (Nat.le_of_ble_eq_true rfl) (⟨rfl, (show (0 : Int32) = 0 ∨ (0 : Int32) = 1 from by first | exact Or.inl rfl | exact Or.inr rfl | exact z_or (by omega)), (show (0 : Int) = 1 → p0.toInt + 1 < (tf 6).toInt ∧ so ta p0 = 5 from by omega), (show R_mp_isAt sn sb ta p0 (0 : Int32) from (Or.inl ⟨z1, ez1, Or.inl ⟨nc2, rfl⟩⟩))⟩) d_Mpg_isAt_33
  · have nc2 : z1.toInt = (5 : Int) := (i_eq (x := z1) (y := 5)).mp c2
    refine lv_aload_n S.x S.b d_Mpg_isAt_10 rfl (lv_at hl 0 rfl) ?_
    refine gP_1 S hT hw 0 rfl m9_224 d_Mpg_isAt_11 ?_
    refine lv_aload_n S.x S.b d_Mpg_isAt_14 rfl (lv_at hl 0 rfl) ?_
    refine gP_10 S hT hw 0 rfl m9_234 d_Mpg_isAt_15 ?_
    refine lv_iload_n S.x S.b d_Mpg_isAt_18 rfl (lv_at hl 1 rfl) ?_
    refine px_iald S hT hw 0 9 (n := 2060) (f := (ta 10)) rfl gp_10 (x := p0) (vp_in_iff.mpr (by first | exact oz_846323bf3a g0 g1 g2 | (constructor <;> omega))) d_Mpg_isAt_19 ?_
    refine lv_topi (fun z4 ez4 => ?_)
    have lz4 := Int32.le_toInt z4
    have uz4 := Int32.toInt_lt z4
    have wz4 := tk_w5 htk (by omega) (by omega) ez4 (by omega)
    first | have hclsk5 := cl_nat (x := z4) (wz4.1) | (have hclsk5 := cl_nat (x := z4) (by first | exact wz4.1 | omega))
    obtain ⟨sk5, hgsk5, st6, hSsk5⟩ := oP_1B hP (i := z4.toNatClampNeg) (by omega)
    have hmsk5 := len_1 (i := z4.toNatClampNeg) (by omega)
    refine px_aaldS S hT hw 0 2 11 (n := 43) (f := (g 1)) rfl rfl rfl (x := z4) (vp_in_iff.mpr (by first | exact oz_00605904cf hclsk5 wz4.2.1 | (constructor <;> omega))) hgsk5 d_Mpg_isAt_20 ?_
    refine lv_aload_n S.x S.b d_Mpg_isAt_21 rfl (lv_at hl 2 rfl) ?_
    first | refine px_calli (pr := [wdP cs h r g tf ta pf na ma wa cf ca ef ea xf xa]) (px_runV (As := [.ref sk]) (rest := []) S (c_sg_equals l D cs sk5 st6 (mlen z4.toNatClampNeg) (mby z4.toNatClampNeg) sk st0 sn sb   (show (mlen z4.toNatClampNeg) ≤ 1000000 from by omega) (show sn ≤ 1000000 from (oz_202527c70a g3)) _) hT (pr := [wdP cs h r g tf ta pf na ma wa cf ca ef ea xf xa]) (pcs := []) hw (oX_call (P := (fun A U H => (oZ A U H) ∧ (oS A sk5 st6 (mlen z4.toNatClampNeg) (mby z4.toNatClampNeg) U H) ∧ (oS A sk st0 sn sb U H))) (pr := [wdP cs h r g tf ta pf na ma wa cf ca ef ea xf xa]) (oG_and oG_Z (oG_and oG_S oG_S)) hw hA ⟨hZ, hSsk5, hQ1⟩) (oS_recv hw hSsk5) m11_225 m11_222 m11_223 m11_224 m1_3 q_String_equals ⟨Nat.le_of_ble_eq_true rfl, Nat.le_of_ble_eq_true rfl⟩ hl.1 rfl (Nat.le_of_ble_eq_true rfl) d_Mpg_isAt_22 ⟨Nat.le_of_ble_eq_true rfl, Nat.le_of_ble_eq_true rfl⟩) hw hA (fun v9 p8 H locs hp8 hw => ?_) | (refine px_calli (pr := [wdP cs h r g tf ta pf na ma wa cf ca ef ea xf xa]) (px_runV (As := [.ref sk]) (rest := []) S (c_sg_equals l D cs sk5 st6 (mlen z4.toNatClampNeg) (mby z4.toNatClampNeg) sk st0 sn sb   (show (mlen z4.toNatClampNeg) ≤ 1000000 from by omega) (show sn ≤ 1000000 from by first | exact oz_202527c70a g3 | omega) _) hT (pr := [wdP cs h r g tf ta pf na ma wa cf ca ef ea xf xa]) (pcs := []) hw (oX_call (P := (fun A U H => (oZ A U H) ∧ (oS A sk5 st6 (mlen z4.toNatClampNeg) (mby z4.toNatClampNeg) U H) ∧ (oS A sk st0 sn sb U H))) (pr := [wdP cs h r g tf ta pf na ma wa cf ca ef ea xf xa]) (oG_and oG_Z (oG_and oG_S oG_S)) hw hA ⟨hZ, hSsk5, hQ1⟩) (oS_recv hw hSsk5) m11_225 m11_222 m11_223 m11_224 m1_3 q_String_equals ⟨Nat.le_of_ble_eq_true rfl, Nat.le_of_ble_eq_true rfl⟩ hl.1 rfl (Nat.le_of_ble_eq_true rfl) d_Mpg_isAt_22 ⟨Nat.le_of_ble_eq_true rfl, Nat.le_of_ble_eq_true rfl⟩) hw hA (fun v9 p8 H locs hp8 hw => ?_))
    obtain ⟨rfl, e10, e11⟩ := hp8
    have e10 := z_rng e10
    have e11 : R_sg_equals (mlen z4.toNatClampNeg) (mby z4.toNatClampNeg) sn sb v9 := e11
    have lv9 := Int32.le_toInt v9
    have uv9 := Int32.toInt_lt v9
    refine lv_if_eq (tgt := 32) S.x S.b d_Mpg_isAt_25 (by decide) (fun c12 => ?_) (fun c12 => ?_)
    · have nc12 : v9.toInt = (0 : Int) := (i_eq (x := v9) (y := 0)).mp c12
      refine lv_iconst (v := 0) S.x S.b d_Mpg_isAt_32 (by decide) ?_
      exact px_iret (v := 0) S hr rfl hlk hAe hw (Nat.le_of_ble_eq_true rfl) (Nat.le_of_ble_eq_true rfl) (⟨rfl, (show (0 : Int32) = 0 ∨ (0 : Int32) = 1 from by first | exact Or.inl rfl | exact Or.inr rfl | exact z_or (by omega)), (show (0 : Int) = 1 → p0.toInt + 1 < (tf 6).toInt ∧ so ta p0 = 5 from by omega), (show R_mp_isAt sn sb ta p0 (0 : Int32) from (Or.inl ⟨z1, ez1, Or.inr ⟨nc2, z4, ez4, v9, e11, Or.inl ⟨nc12, rfl⟩⟩⟩))⟩) d_Mpg_isAt_33
    · have nc12 : ¬ v9.toInt = (0 : Int) := mt (i_eq (x := v9) (y := 0)).mpr c12
      refine lv_iconst (v := 1) S.x S.b d_Mpg_isAt_28 (by decide) ?_
      refine lv_goto (tgt := 33) S.x S.b d_Mpg_isAt_29 (by decide) ?_
      exact px_iret (v := 1) S hr rfl hlk hAe hw (Nat.le_of_ble_eq_true rfl) (Nat.le_of_ble_eq_true rfl) (⟨rfl, (show (1 : Int32) = 0 ∨ (1 : Int32) = 1 from by first | exact Or.inl rfl | exact Or.inr rfl | exact z_or (by omega)), (show (1 : Int) = 1 → p0.toInt + 1 < (tf 6).toInt ∧ so ta p0 = 5 from by omega), (show R_mp_isAt sn sb ta p0 (1 : Int32) from (Or.inl ⟨z1, ez1, Or.inr ⟨nc2, z4, ez4, v9, e11, Or.inr ⟨nc12, rfl⟩⟩⟩))⟩) d_Mpg_isAt_33
abbrev b_Mpg_is : ByteArray := prog_16_method_18_code
def y_Mpg_is : MethodName := ⟨"HomeSystemModel$Program", "is", "(Ljava/lang/String;)Z"⟩
theorem d_Mpg_is_0 : decode b_Mpg_is 0 = .ok (.aload_n 0, 1) := by decide +kernel
theorem d_Mpg_is_1 : decode b_Mpg_is 1 = .ok (.aload_n 0, 1) := by decide +kernel
theorem d_Mpg_is_2 : decode b_Mpg_is 2 = .ok (.getfield 360, 3) := by decide +kernel
theorem d_Mpg_is_5 : decode b_Mpg_is 5 = .ok (.aload_n 1, 1) := by decide +kernel
theorem d_Mpg_is_6 : decode b_Mpg_is 6 = .ok (.invokevirtual 363, 3) := by decide +kernel
theorem d_Mpg_is_9 : decode b_Mpg_is 9 = .ok (.ireturn, 1) := by decide +kernel
theorem q_Mpg_is : px_y y_Mpg_is 1 := by unfold px_y; decide +kernel
set_option maxHeartbeats 4000000 in
set_option maxRecDepth 100000 in
theorem c_mp_is (l : Launch) (D : va_G) (cs : Nat → ClassId) (sk : Nat) (sn : Nat) (sb : Nat → Int32) (h : Nat) (r : Nat → Nat) (g : Nat → Nat → Option Nat) (tf : Nat → Int32) (ta : Nat → Nat → Int32) (pf : Nat → Int32) (na : Nat → Nat → Int32) (ma : Nat → Nat → Int32) (wa : Nat → Nat → Int32) (cf : Nat → Int32) (ca : Nat → Nat → Int32) (ef : Nat → Int32) (ea : Nat → Nat → Int32) (xf : Nat → Int32) (xa : Nat → Nat → Int32)  (g0 : 0 ≤ (pf 11).toInt) (g1 : (pf 11).toInt < (tf 6).toInt) (g2 : (tf 6).toInt ≤ 2049) (g3 : sn ≤ 100) (htk : TkI tf ta) : MetI l y_Mpg_is b_Mpg_is 2 (.boolean) D cs 3 120 (0) (0) [.ref h, .ref sk] [wdP cs h r g tf ta pf na ma wa cf ca ef ea xf xa] (oX (fun A U H => (oP A g U H) ∧ (StLt A sk sn sb U H)) [wdP cs h r g tf ta pf na ma wa cf ca ef ea xf xa]) (fun v ps => (ps = [wdP cs h r g tf ta pf na ma wa cf ca ef ea xf xa]) ∧ (v = 0 ∨ v = 1) ∧ (v.toInt = 1 → (pf 11).toInt + 1 < (tf 6).toInt ∧ so ta (pf 11) = 5) ∧ (R_mp_is sn sb ta pf v)) := by
  refine px_enter (by decide) (Nat.le_of_ble_eq_true rfl) ?_
  intro p e s m below meth c A ls hAe S hr hlk hnm hA hT hX hw hl
  have hl : lv_has ls 2 [(0, .ref h), (1, .ref sk)] := hl
  have hX : (fun A U H => (oP A g U H) ∧ (StLt A sk sn sb U H)) A s s.heap := by rw [hAe]; exact hX
  obtain ⟨hP, hQ0⟩ := hX
  obtain ⟨st0, hQ1⟩ := hQ0
  have hZ := hP.1
  have hF0 := hP.2.1
  refine lv_aload_n S.x S.b d_Mpg_is_0 rfl (lv_at hl 0 rfl) ?_
  refine lv_aload_n S.x S.b d_Mpg_is_1 rfl (lv_at hl 0 rfl) ?_
  refine gP_11 (v := (pf 11)) S hT hw 0 rfl rfl m9_235 d_Mpg_is_2 ?_
  refine lv_aload_n S.x S.b d_Mpg_is_5 rfl (lv_at hl 1 rfl) ?_
  first | refine px_calli (pr := []) (px_runV (As := [.int (pf 11), .ref sk]) (rest := []) S (c_mp_isAt l D cs sk sn sb h r g tf ta pf na ma wa cf ca ef ea xf xa (pf 11)  (show 0 ≤ (pf 11).toInt from g0) (show (pf 11).toInt < (tf 6).toInt from g1) (show (tf 6).toInt ≤ 2049 from g2) (show sn ≤ 100 from g3) htk _) hT (pr := []) (pcs := [wdP cs h r g tf ta pf na ma wa cf ca ef ea xf xa]) hw (oX_call (P := (fun A U H => (oP A g U H) ∧ (StLt A sk sn sb U H))) (pr := []) (oG_and oG_P oG_QB) hw hA ⟨hP, ⟨_, hQ1⟩⟩) (px_recv hT hw 0 0 rfl rfl rfl) m11_221 m11_218 m11_220 ms_8_15 m1_21 q_Mpg_isAt ⟨Nat.le_of_ble_eq_true rfl, Nat.le_of_ble_eq_true rfl⟩ hl.1 rfl (Nat.le_of_ble_eq_true rfl) d_Mpg_is_6 ⟨Nat.le_of_ble_eq_true rfl, Nat.le_of_ble_eq_true rfl⟩) hw hA (fun v2 p1 H locs hp1 hw => ?_) | (refine px_calli (pr := []) (px_runV (As := [.int (pf 11), .ref sk]) (rest := []) S (c_mp_isAt l D cs sk sn sb h r g tf ta pf na ma wa cf ca ef ea xf xa (pf 11)  (show 0 ≤ (pf 11).toInt from by first | exact g0 | omega) (show (pf 11).toInt < (tf 6).toInt from by first | exact g1 | omega) (show (tf 6).toInt ≤ 2049 from by first | exact g2 | omega) (show sn ≤ 100 from by first | exact g3 | omega) htk _) hT (pr := []) (pcs := [wdP cs h r g tf ta pf na ma wa cf ca ef ea xf xa]) hw (oX_call (P := (fun A U H => (oP A g U H) ∧ (StLt A sk sn sb U H))) (pr := []) (oG_and oG_P oG_QB) hw hA ⟨hP, ⟨_, hQ1⟩⟩) (px_recv hT hw 0 0 rfl rfl rfl) m11_221 m11_218 m11_220 ms_8_15 m1_21 q_Mpg_isAt ⟨Nat.le_of_ble_eq_true rfl, Nat.le_of_ble_eq_true rfl⟩ hl.1 rfl (Nat.le_of_ble_eq_true rfl) d_Mpg_is_6 ⟨Nat.le_of_ble_eq_true rfl, Nat.le_of_ble_eq_true rfl⟩) hw hA (fun v2 p1 H locs hp1 hw => ?_))
  obtain ⟨rfl, e3, e4, e5⟩ := hp1
  have e3 := z_rng e3
  have e4 : v2.toInt = 1 → (pf 11).toInt + 1 < (tf 6).toInt ∧ so ta (pf 11) = 5 := e4
  have e5 : R_mp_isAt sn sb ta (pf 11) v2 := e5
  have lv2 := Int32.le_toInt v2
  have uv2 := Int32.toInt_lt v2
  first | exact px_iret (v := v2) S hr (z_nar (by omega)) hlk hAe hw (Nat.le_of_ble_eq_true rfl) (Nat.le_of_ble_eq_true rfl) (⟨rfl, (show v2 = 0 ∨ v2 = 1 from by first | exact Or.inl rfl | exact Or.inr rfl | exact z_or (by omega)), (show v2.toInt = 1 → (pf 11).toInt + 1 < (tf 6).toInt ∧ so ta (pf 11) = 5 from e4), (show R_mp_is sn sb ta pf v2 from (Or.inl ⟨v2, e5, rfl⟩))⟩) d_Mpg_is_9 | (exact px_iret (v := v2) S hr (z_nar (by omega)) hlk hAe hw (Nat.le_of_ble_eq_true rfl) (Nat.le_of_ble_eq_true rfl) (⟨rfl, (show v2 = 0 ∨ v2 = 1 from by first | exact Or.inl rfl | exact Or.inr rfl | exact z_or (by omega)), (show v2.toInt = 1 → (pf 11).toInt + 1 < (tf 6).toInt ∧ so ta (pf 11) = 5 from by first | exact e4 | omega), (show R_mp_is sn sb ta pf v2 from (Or.inl ⟨v2, e5, rfl⟩))⟩) d_Mpg_is_9)
abbrev b_Mpg_isKey : ByteArray := prog_16_method_19_code
def y_Mpg_isKey : MethodName := ⟨"HomeSystemModel$Program", "isKey", "(I)Z"⟩
theorem d_Mpg_isKey_0 : decode b_Mpg_isKey 0 = .ok (.aload_n 0, 1) := by decide +kernel
theorem d_Mpg_isKey_1 : decode b_Mpg_isKey 1 = .ok (.getfield 201, 3) := by decide +kernel
theorem d_Mpg_isKey_4 : decode b_Mpg_isKey 4 = .ok (.aload_n 0, 1) := by decide +kernel
theorem d_Mpg_isKey_5 : decode b_Mpg_isKey 5 = .ok (.getfield 360, 3) := by decide +kernel
theorem d_Mpg_isKey_8 : decode b_Mpg_isKey 8 = .ok (.baload, 1) := by decide +kernel
theorem d_Mpg_isKey_9 : decode b_Mpg_isKey 9 = .ok (.iconst 2, 1) := by decide +kernel
theorem d_Mpg_isKey_10 : decode b_Mpg_isKey 10 = .ok (.if_icmp .ne 20, 3) := by decide +kernel
theorem d_Mpg_isKey_13 : decode b_Mpg_isKey 13 = .ok (.aload_n 0, 1) := by decide +kernel
theorem d_Mpg_isKey_14 : decode b_Mpg_isKey 14 = .ok (.getfield 204, 3) := by decide +kernel
theorem d_Mpg_isKey_17 : decode b_Mpg_isKey 17 = .ok (.aload_n 0, 1) := by decide +kernel
theorem d_Mpg_isKey_18 : decode b_Mpg_isKey 18 = .ok (.getfield 360, 3) := by decide +kernel
theorem d_Mpg_isKey_21 : decode b_Mpg_isKey 21 = .ok (.iaload, 1) := by decide +kernel
theorem d_Mpg_isKey_22 : decode b_Mpg_isKey 22 = .ok (.iload_n 1, 1) := by decide +kernel
theorem d_Mpg_isKey_23 : decode b_Mpg_isKey 23 = .ok (.if_icmp .ne 7, 3) := by decide +kernel
theorem d_Mpg_isKey_26 : decode b_Mpg_isKey 26 = .ok (.iconst 1, 1) := by decide +kernel
theorem d_Mpg_isKey_27 : decode b_Mpg_isKey 27 = .ok (.goto 4, 3) := by decide +kernel
theorem d_Mpg_isKey_30 : decode b_Mpg_isKey 30 = .ok (.iconst 0, 1) := by decide +kernel
theorem d_Mpg_isKey_31 : decode b_Mpg_isKey 31 = .ok (.ireturn, 1) := by decide +kernel
theorem q_Mpg_isKey : px_y y_Mpg_isKey 1 := by unfold px_y; decide +kernel
set_option maxHeartbeats 4000000 in
set_option maxRecDepth 100000 in
theorem c_mp_isKey (l : Launch) (D : va_G) (cs : Nat → ClassId) (h : Nat) (r : Nat → Nat) (g : Nat → Nat → Option Nat) (tf : Nat → Int32) (ta : Nat → Nat → Int32) (pf : Nat → Int32) (na : Nat → Nat → Int32) (ma : Nat → Nat → Int32) (wa : Nat → Nat → Int32) (cf : Nat → Int32) (ca : Nat → Nat → Int32) (ef : Nat → Int32) (ea : Nat → Nat → Int32) (xf : Nat → Int32) (xa : Nat → Nat → Int32) (p0 : Int32)  (g0 : 0 ≤ (pf 11).toInt) (g1 : (pf 11).toInt < (tf 6).toInt) (g2 : (tf 6).toInt ≤ 2049) (htk : TkI tf ta) : MetI l y_Mpg_isKey b_Mpg_isKey 2 (.boolean) D cs 0 0 (0) (0) [.ref h, .int p0] [wdP cs h r g tf ta pf na ma wa cf ca ef ea xf xa] (fun _ => True) (fun v ps => (ps = [wdP cs h r g tf ta pf na ma wa cf ca ef ea xf xa]) ∧ (v = 0 ∨ v = 1) ∧ (v.toInt = 1 → (pf 11).toInt + 1 < (tf 6).toInt ∧ so ta (pf 11) = 2 ∧ wh ta (pf 11) = p0.toInt) ∧ (R_mp_isKey ta pf p0 v)) := by
  refine px_enter (by decide) (Nat.le_of_ble_eq_true rfl) ?_
  intro p e s m below meth c A ls hAe S hr hlk hnm hA hT hX hw hl
  have hl : lv_has ls 2 [(0, .ref h), (1, .int p0)] := hl
  have lp0 := Int32.le_toInt p0
  have up0 := Int32.toInt_lt p0
  have cst0 : (0 : Int32).toInt = 0 := rfl
  have cst1 : (1 : Int32).toInt = 1 := rfl
  have cst2 : (2 : Int32).toInt = 2 := rfl
  refine lv_aload_n S.x S.b d_Mpg_isKey_0 rfl (lv_at hl 0 rfl) ?_
  refine gP_9 S hT hw 0 rfl m9_233 d_Mpg_isKey_1 ?_
  refine lv_aload_n S.x S.b d_Mpg_isKey_4 rfl (lv_at hl 0 rfl) ?_
  refine gP_11 (v := (pf 11)) S hT hw 0 rfl rfl m9_235 d_Mpg_isKey_5 ?_
  refine px_bald S hT hw 0 8 (n := 2060) (f := (ta 9)) rfl gp_9 (x := (pf 11)) (vp_in_iff.mpr (by first | exact oz_846323bf3a g0 g1 g2 | (constructor <;> omega))) d_Mpg_isKey_8 ?_
  refine lv_topi (fun z1 ez1 => ?_)
  have lz1 := Int32.le_toInt z1
  have uz1 := Int32.toInt_lt z1
  have rz1 := tk_s htk (x := (pf 11)) (by omega) (by omega) ez1
  refine lv_iconst (v := 2) S.x S.b d_Mpg_isKey_9 (by decide) ?_
  refine lv_icmp_ne (tgt := 30) S.x S.b d_Mpg_isKey_10 (by decide) (fun c2 => ?_) (fun c2 => ?_)
  · have nc2 : ¬ z1.toInt = (2 : Int) := mt (i_eq (x := z1) (y := 2)).mpr c2
    refine lv_iconst (v := 0) S.x S.b d_Mpg_isKey_30 (by decide) ?_
    exact px_iret (v := 0) S hr rfl hlk hAe hw (Nat.le_of_ble_eq_true rfl) (Nat.le_of_ble_eq_true rfl) (⟨rfl, (show (0 : Int32) = 0 ∨ (0 : Int32) = 1 from by first | exact Or.inl rfl | exact Or.inr rfl | exact z_or (by omega)), (show (0 : Int) = 1 → (pf 11).toInt + 1 < (tf 6).toInt ∧ so ta (pf 11) = 2 ∧ wh ta (pf 11) = p0.toInt from by omega), (show R_mp_isKey ta pf p0 (0 : Int32) from (Or.inl ⟨z1, ez1, Or.inl ⟨nc2, rfl⟩⟩))⟩) d_Mpg_isKey_31
  · have nc2 : z1.toInt = (2 : Int) := (i_eq (x := z1) (y := 2)).mp c2
    refine lv_aload_n S.x S.b d_Mpg_isKey_13 rfl (lv_at hl 0 rfl) ?_
    refine gP_10 S hT hw 0 rfl m9_234 d_Mpg_isKey_14 ?_
    refine lv_aload_n S.x S.b d_Mpg_isKey_17 rfl (lv_at hl 0 rfl) ?_
    refine gP_11 (v := (pf 11)) S hT hw 0 rfl rfl m9_235 d_Mpg_isKey_18 ?_
    refine px_iald S hT hw 0 9 (n := 2060) (f := (ta 10)) rfl gp_10 (x := (pf 11)) (vp_in_iff.mpr (by first | exact oz_846323bf3a g0 g1 g2 | (constructor <;> omega))) d_Mpg_isKey_21 ?_
    refine lv_topi (fun z4 ez4 => ?_)
    have lz4 := Int32.le_toInt z4
    have uz4 := Int32.toInt_lt z4
    have rz4 : z4.toInt = wh ta (pf 11) := by rw [ez4]; rfl
    refine lv_iload_n S.x S.b d_Mpg_isKey_22 rfl (lv_at hl 1 rfl) ?_
    refine lv_icmp_ne (tgt := 30) S.x S.b d_Mpg_isKey_23 (by decide) (fun c5 => ?_) (fun c5 => ?_)
    · have nc5 : ¬ z4.toInt = p0.toInt := mt (i_eq (x := z4) (y := p0)).mpr c5
      refine lv_iconst (v := 0) S.x S.b d_Mpg_isKey_30 (by decide) ?_
      exact px_iret (v := 0) S hr rfl hlk hAe hw (Nat.le_of_ble_eq_true rfl) (Nat.le_of_ble_eq_true rfl) (⟨rfl, (show (0 : Int32) = 0 ∨ (0 : Int32) = 1 from by first | exact Or.inl rfl | exact Or.inr rfl | exact z_or (by omega)), (show (0 : Int) = 1 → (pf 11).toInt + 1 < (tf 6).toInt ∧ so ta (pf 11) = 2 ∧ wh ta (pf 11) = p0.toInt from by omega), (show R_mp_isKey ta pf p0 (0 : Int32) from (Or.inl ⟨z1, ez1, Or.inr ⟨nc2, z4, ez4, Or.inl ⟨nc5, rfl⟩⟩⟩))⟩) d_Mpg_isKey_31
    · have nc5 : z4.toInt = p0.toInt := (i_eq (x := z4) (y := p0)).mp c5
      refine lv_iconst (v := 1) S.x S.b d_Mpg_isKey_26 (by decide) ?_
      refine lv_goto (tgt := 31) S.x S.b d_Mpg_isKey_27 (by decide) ?_
      exact px_iret (v := 1) S hr rfl hlk hAe hw (Nat.le_of_ble_eq_true rfl) (Nat.le_of_ble_eq_true rfl) (⟨rfl, (show (1 : Int32) = 0 ∨ (1 : Int32) = 1 from by first | exact Or.inl rfl | exact Or.inr rfl | exact z_or (by omega)), (show (1 : Int) = 1 → (pf 11).toInt + 1 < (tf 6).toInt ∧ so ta (pf 11) = 2 ∧ wh ta (pf 11) = p0.toInt from by omega), (show R_mp_isKey ta pf p0 (1 : Int32) from (Or.inl ⟨z1, ez1, Or.inr ⟨nc2, z4, ez4, Or.inr ⟨nc5, rfl⟩⟩⟩))⟩) d_Mpg_isKey_31
abbrev b_Mpg_takes : ByteArray := prog_16_method_20_code
def y_Mpg_takes : MethodName := ⟨"HomeSystemModel$Program", "takes", "(Ljava/lang/String;)Z"⟩
theorem d_Mpg_takes_0 : decode b_Mpg_takes 0 = .ok (.aload_n 0, 1) := by decide +kernel
theorem d_Mpg_takes_1 : decode b_Mpg_takes 1 = .ok (.aload_n 1, 1) := by decide +kernel
theorem d_Mpg_takes_2 : decode b_Mpg_takes 2 = .ok (.invokevirtual 366, 3) := by decide +kernel
theorem d_Mpg_takes_5 : decode b_Mpg_takes 5 = .ok (.istore_n 2, 1) := by decide +kernel
theorem d_Mpg_takes_6 : decode b_Mpg_takes 6 = .ok (.aload_n 0, 1) := by decide +kernel
theorem d_Mpg_takes_7 : decode b_Mpg_takes 7 = .ok (.iload_n 2, 1) := by decide +kernel
theorem d_Mpg_takes_8 : decode b_Mpg_takes 8 = .ok (.ifCond .eq 12, 3) := by decide +kernel
theorem d_Mpg_takes_11 : decode b_Mpg_takes 11 = .ok (.aload_n 0, 1) := by decide +kernel
theorem d_Mpg_takes_12 : decode b_Mpg_takes 12 = .ok (.getfield 360, 3) := by decide +kernel
theorem d_Mpg_takes_15 : decode b_Mpg_takes 15 = .ok (.iconst 1, 1) := by decide +kernel
theorem d_Mpg_takes_16 : decode b_Mpg_takes 16 = .ok (.iadd, 1) := by decide +kernel
theorem d_Mpg_takes_17 : decode b_Mpg_takes 17 = .ok (.goto 7, 3) := by decide +kernel
theorem d_Mpg_takes_20 : decode b_Mpg_takes 20 = .ok (.aload_n 0, 1) := by decide +kernel
theorem d_Mpg_takes_21 : decode b_Mpg_takes 21 = .ok (.getfield 360, 3) := by decide +kernel
theorem d_Mpg_takes_24 : decode b_Mpg_takes 24 = .ok (.putfield 360, 3) := by decide +kernel
theorem d_Mpg_takes_27 : decode b_Mpg_takes 27 = .ok (.iload_n 2, 1) := by decide +kernel
theorem d_Mpg_takes_28 : decode b_Mpg_takes 28 = .ok (.ireturn, 1) := by decide +kernel
theorem q_Mpg_takes : px_y y_Mpg_takes 1 := by unfold px_y; decide +kernel
set_option maxHeartbeats 4000000 in
set_option maxRecDepth 100000 in
theorem c_mp_takes (l : Launch) (D : va_G) (cs : Nat → ClassId) (sk : Nat) (sn : Nat) (sb : Nat → Int32) (h : Nat) (r : Nat → Nat) (g : Nat → Nat → Option Nat) (tf : Nat → Int32) (ta : Nat → Nat → Int32) (na : Nat → Nat → Int32) (ma : Nat → Nat → Int32) (wa : Nat → Nat → Int32) (cf : Nat → Int32) (ca : Nat → Nat → Int32) (ef : Nat → Int32) (ea : Nat → Nat → Int32) (xf : Nat → Int32) (xa : Nat → Nat → Int32) (pf : Nat → Int32)  (g0 : 0 ≤ (pf 11).toInt) (g1 : (pf 11).toInt < (tf 6).toInt) (g2 : (tf 6).toInt ≤ 2049) (g3 : sn ≤ 100) (htk : TkI tf ta) : MetI l y_Mpg_takes b_Mpg_takes 3 (.boolean) D cs 4 160 (0) (0) [.ref h, .ref sk] [wdP cs h r g tf ta pf na ma wa cf ca ef ea xf xa] (oX (fun A U H => (oP A g U H) ∧ (StLt A sk sn sb U H)) [wdP cs h r g tf ta pf na ma wa cf ca ef ea xf xa]) (fun v ps => ∃ (pf' : Nat → Int32), (ps = [wdP cs h r g tf ta pf' na ma wa cf ca ef ea xf xa]) ∧ (v = 0 ∨ v = 1) ∧ ((pf' 11).toInt = (pf 11).toInt + v.toInt) ∧ ((pf' 11).toInt < (tf 6).toInt) ∧ (bp ta (pf 11) + v.toInt ≤ bp ta (pf' 11)) ∧ ((pf' 12).toInt = (pf 12).toInt) ∧ ((pf' 13).toInt = (pf 13).toInt) ∧ ((pf' 24).toInt = (pf 24).toInt) ∧ ((pf' 25).toInt = (pf 25).toInt) ∧ ((pf' 26).toInt = (pf 26).toInt) ∧ (R_mp_takes sn sb ta pf pf' v)) := by
  refine px_enter (by decide) (Nat.le_of_ble_eq_true rfl) ?_
  intro p e s m below meth c A ls hAe S hr hlk hnm hA hT hX hw hl
  have hl : lv_has ls 3 [(0, .ref h), (1, .ref sk)] := hl
  have cst1 : (1 : Int32).toInt = 1 := rfl
  have hX : (fun A U H => (oP A g U H) ∧ (StLt A sk sn sb U H)) A s s.heap := by rw [hAe]; exact hX
  obtain ⟨hP, hQ0⟩ := hX
  obtain ⟨st0, hQ1⟩ := hQ0
  have hZ := hP.1
  have hF0 := hP.2.1
  refine lv_aload_n S.x S.b d_Mpg_takes_0 rfl (lv_at hl 0 rfl) ?_
  refine lv_aload_n S.x S.b d_Mpg_takes_1 rfl (lv_at hl 1 rfl) ?_
  first | refine px_calli (pr := []) (px_runV (As := [.ref sk]) (rest := []) S (c_mp_is l D cs sk sn sb h r g tf ta pf na ma wa cf ca ef ea xf xa   (show 0 ≤ (pf 11).toInt from g0) (show (pf 11).toInt < (tf 6).toInt from g1) (show (tf 6).toInt ≤ 2049 from g2) (show sn ≤ 100 from g3) htk _) hT (pr := []) (pcs := [wdP cs h r g tf ta pf na ma wa cf ca ef ea xf xa]) hw (oX_call (P := (fun A U H => (oP A g U H) ∧ (StLt A sk sn sb U H))) (pr := []) (oG_and oG_P oG_QB) hw hA ⟨hP, ⟨_, hQ1⟩⟩) (px_recv hT hw 0 0 rfl rfl rfl) m11_217 m11_214 m11_216 ms_8_14 m1_21 q_Mpg_is ⟨Nat.le_of_ble_eq_true rfl, Nat.le_of_ble_eq_true rfl⟩ hl.1 rfl (Nat.le_of_ble_eq_true rfl) d_Mpg_takes_2 ⟨Nat.le_of_ble_eq_true rfl, Nat.le_of_ble_eq_true rfl⟩) hw hA (fun v2 p1 H locs hp1 hw => ?_) | (refine px_calli (pr := []) (px_runV (As := [.ref sk]) (rest := []) S (c_mp_is l D cs sk sn sb h r g tf ta pf na ma wa cf ca ef ea xf xa   (show 0 ≤ (pf 11).toInt from by first | exact g0 | omega) (show (pf 11).toInt < (tf 6).toInt from by first | exact g1 | omega) (show (tf 6).toInt ≤ 2049 from by first | exact g2 | omega) (show sn ≤ 100 from by first | exact g3 | omega) htk _) hT (pr := []) (pcs := [wdP cs h r g tf ta pf na ma wa cf ca ef ea xf xa]) hw (oX_call (P := (fun A U H => (oP A g U H) ∧ (StLt A sk sn sb U H))) (pr := []) (oG_and oG_P oG_QB) hw hA ⟨hP, ⟨_, hQ1⟩⟩) (px_recv hT hw 0 0 rfl rfl rfl) m11_217 m11_214 m11_216 ms_8_14 m1_21 q_Mpg_is ⟨Nat.le_of_ble_eq_true rfl, Nat.le_of_ble_eq_true rfl⟩ hl.1 rfl (Nat.le_of_ble_eq_true rfl) d_Mpg_takes_2 ⟨Nat.le_of_ble_eq_true rfl, Nat.le_of_ble_eq_true rfl⟩) hw hA (fun v2 p1 H locs hp1 hw => ?_))
  obtain ⟨rfl, e3, e4, e5⟩ := hp1
  have e3 := z_rng e3
  have e4 : v2.toInt = 1 → (pf 11).toInt + 1 < (tf 6).toInt ∧ so ta (pf 11) = 5 := e4
  have e5 : R_mp_is sn sb ta pf v2 := e5
  have lv2 := Int32.le_toInt v2
  have uv2 := Int32.toInt_lt v2
  refine lv_istore_n (lv' := [(2, .int v2), (0, .ref h), (1, .ref sk)]) S.x S.b d_Mpg_takes_5 rfl hl (by decide) rfl (fun ls hl => ?_)
  refine lv_aload_n S.x S.b d_Mpg_takes_6 rfl (lv_at hl 1 rfl) ?_
  refine lv_iload_n S.x S.b d_Mpg_takes_7 rfl (lv_at hl 0 rfl) ?_
  refine lv_if_eq (tgt := 20) S.x S.b d_Mpg_takes_8 (by decide) (fun c6 => ?_) (fun c6 => ?_)
  · have nc6 : v2.toInt = (0 : Int) := (i_eq (x := v2) (y := 0)).mp c6
    refine lv_aload_n S.x S.b d_Mpg_takes_20 rfl (lv_at hl 1 rfl) ?_
    refine gP_11 (v := (pf 11)) S hT hw 0 rfl rfl m9_235 d_Mpg_takes_21 ?_
    refine pP_11 S hT hw 0 rfl m9_235 rfl rfl rfl d_Mpg_takes_24 (ps' := [wdP cs h r g tf ta (upd pf 11 (pf 11)) na ma wa cf ca ef ea xf xa]) rfl (fun H locs hw => ?_)
    refine lv_iload_n S.x S.b d_Mpg_takes_27 rfl (lv_at hl 0 rfl) ?_
    first | exact px_iret (v := v2) S hr (z_nar (by omega)) hlk hAe hw (Nat.le_of_ble_eq_true rfl) (Nat.le_of_ble_eq_true rfl) (⟨(upd pf 11 (pf 11)), rfl, (show v2 = 0 ∨ v2 = 1 from by first | exact Or.inl rfl | exact Or.inr rfl | exact z_or (by omega)), (show (pf 11).toInt = (pf 11).toInt + v2.toInt from (oz_d1bf0849be e3.1 nc6)), (show (pf 11).toInt < (tf 6).toInt from g1), (show bp ta (pf 11) + v2.toInt ≤ bp ta (pf 11) from (oz_43b7c41cbd nc6)), (show (pf 12).toInt = (pf 12).toInt from rfl), (show (pf 13).toInt = (pf 13).toInt from rfl), (show (pf 24).toInt = (pf 24).toInt from rfl), (show (pf 25).toInt = (pf 25).toInt from rfl), (show (pf 26).toInt = (pf 26).toInt from rfl), (show R_mp_takes sn sb ta pf (upd pf 11 (pf 11)) v2 from (Or.inl ⟨v2, e5, Or.inl ⟨nc6, rfl, rfl⟩⟩))⟩) d_Mpg_takes_28 | (exact px_iret (v := v2) S hr (z_nar (by omega)) hlk hAe hw (Nat.le_of_ble_eq_true rfl) (Nat.le_of_ble_eq_true rfl) (⟨(upd pf 11 (pf 11)), rfl, (show v2 = 0 ∨ v2 = 1 from by first | exact Or.inl rfl | exact Or.inr rfl | exact z_or (by omega)), (show (pf 11).toInt = (pf 11).toInt + v2.toInt from by first | exact oz_d1bf0849be e3.1 nc6 | omega), (show (pf 11).toInt < (tf 6).toInt from by first | exact g1 | omega), (show bp ta (pf 11) + v2.toInt ≤ bp ta (pf 11) from by first | exact oz_43b7c41cbd nc6 | omega), (show (pf 12).toInt = (pf 12).toInt from rfl), (show (pf 13).toInt = (pf 13).toInt from rfl), (show (pf 24).toInt = (pf 24).toInt from rfl), (show (pf 25).toInt = (pf 25).toInt from rfl), (show (pf 26).toInt = (pf 26).toInt from rfl), (show R_mp_takes sn sb ta pf (upd pf 11 (pf 11)) v2 from (Or.inl ⟨v2, e5, Or.inl ⟨nc6, rfl, rfl⟩⟩))⟩) d_Mpg_takes_28)
  · have nc6 : ¬ v2.toInt = (0 : Int) := mt (i_eq (x := v2) (y := 0)).mpr c6
    refine lv_aload_n S.x S.b d_Mpg_takes_11 rfl (lv_at hl 1 rfl) ?_
    refine gP_11 (v := (pf 11)) S hT hw 0 rfl rfl m9_235 d_Mpg_takes_12 ?_
    refine lv_iconst (v := 1) S.x S.b d_Mpg_takes_15 (by decide) ?_
    refine lv_iadd S.x S.b d_Mpg_takes_16 ?_
    have lr8 := Int32.le_toInt (pf 11)
    have ur8 := Int32.toInt_lt (pf 11)
    refine lv_topi (fun z9 ez9 => ?_)
    have tz9 : z9.toInt = ((pf 11).toInt + (1 : Int) + 2147483648) % 4294967296 - 2147483648 := by rw [ez9]; exact i_add (pf 11) 1
    have lz9 := Int32.le_toInt z9
    have uz9 := Int32.toInt_lt z9
    try replace tz9 : z9.toInt = (pf 11).toInt + (1 : Int) := by omega
    have hnx := tk_n htk (x := (pf 11)) (y := z9) (by omega) (by omega) (by omega)
    refine lv_goto (tgt := 24) S.x S.b d_Mpg_takes_17 (by decide) ?_
    refine pP_11 S hT hw 0 rfl m9_235 rfl rfl rfl d_Mpg_takes_24 (ps' := [wdP cs h r g tf ta (upd pf 11 z9) na ma wa cf ca ef ea xf xa]) rfl (fun H locs hw => ?_)
    refine lv_iload_n S.x S.b d_Mpg_takes_27 rfl (lv_at hl 0 rfl) ?_
    first | exact px_iret (v := v2) S hr (z_nar (by omega)) hlk hAe hw (Nat.le_of_ble_eq_true rfl) (Nat.le_of_ble_eq_true rfl) (⟨(upd pf 11 z9), rfl, (show v2 = 0 ∨ v2 = 1 from by first | exact Or.inl rfl | exact Or.inr rfl | exact z_or (by omega)), (show z9.toInt = (pf 11).toInt + v2.toInt from (oz_cfd06fd58f tz9 e3.1 nc6 e3.2)), (show z9.toInt < (tf 6).toInt from by omega), (show bp ta (pf 11) + v2.toInt ≤ bp ta z9 from (oz_68ab0a010c e3.2 hnx.1 hnx.2)), (show (pf 12).toInt = (pf 12).toInt from rfl), (show (pf 13).toInt = (pf 13).toInt from rfl), (show (pf 24).toInt = (pf 24).toInt from rfl), (show (pf 25).toInt = (pf 25).toInt from rfl), (show (pf 26).toInt = (pf 26).toInt from rfl), (show R_mp_takes sn sb ta pf (upd pf 11 z9) v2 from (Or.inl ⟨v2, e5, Or.inr ⟨nc6, z9, ez9, rfl, rfl⟩⟩))⟩) d_Mpg_takes_28 | (exact px_iret (v := v2) S hr (z_nar (by omega)) hlk hAe hw (Nat.le_of_ble_eq_true rfl) (Nat.le_of_ble_eq_true rfl) (⟨(upd pf 11 z9), rfl, (show v2 = 0 ∨ v2 = 1 from by first | exact Or.inl rfl | exact Or.inr rfl | exact z_or (by omega)), (show z9.toInt = (pf 11).toInt + v2.toInt from by first | exact oz_cfd06fd58f tz9 e3.1 nc6 e3.2 | omega), (show z9.toInt < (tf 6).toInt from by omega), (show bp ta (pf 11) + v2.toInt ≤ bp ta z9 from by first | exact oz_68ab0a010c e3.2 hnx.1 hnx.2 | omega), (show (pf 12).toInt = (pf 12).toInt from rfl), (show (pf 13).toInt = (pf 13).toInt from rfl), (show (pf 24).toInt = (pf 24).toInt from rfl), (show (pf 25).toInt = (pf 25).toInt from rfl), (show (pf 26).toInt = (pf 26).toInt from rfl), (show R_mp_takes sn sb ta pf (upd pf 11 z9) v2 from (Or.inl ⟨v2, e5, Or.inr ⟨nc6, z9, ez9, rfl, rfl⟩⟩))⟩) d_Mpg_takes_28)
abbrev b_Mpg_takesKey : ByteArray := prog_16_method_22_code
def y_Mpg_takesKey : MethodName := ⟨"HomeSystemModel$Program", "takesKey", "(I)Z"⟩
theorem d_Mpg_takesKey_0 : decode b_Mpg_takesKey 0 = .ok (.aload_n 0, 1) := by decide +kernel
theorem d_Mpg_takesKey_1 : decode b_Mpg_takesKey 1 = .ok (.iload_n 1, 1) := by decide +kernel
theorem d_Mpg_takesKey_2 : decode b_Mpg_takesKey 2 = .ok (.invokevirtual 377, 3) := by decide +kernel
theorem d_Mpg_takesKey_5 : decode b_Mpg_takesKey 5 = .ok (.istore_n 2, 1) := by decide +kernel
theorem d_Mpg_takesKey_6 : decode b_Mpg_takesKey 6 = .ok (.aload_n 0, 1) := by decide +kernel
theorem d_Mpg_takesKey_7 : decode b_Mpg_takesKey 7 = .ok (.iload_n 2, 1) := by decide +kernel
theorem d_Mpg_takesKey_8 : decode b_Mpg_takesKey 8 = .ok (.ifCond .eq 12, 3) := by decide +kernel
theorem d_Mpg_takesKey_11 : decode b_Mpg_takesKey 11 = .ok (.aload_n 0, 1) := by decide +kernel
theorem d_Mpg_takesKey_12 : decode b_Mpg_takesKey 12 = .ok (.getfield 360, 3) := by decide +kernel
theorem d_Mpg_takesKey_15 : decode b_Mpg_takesKey 15 = .ok (.iconst 1, 1) := by decide +kernel
theorem d_Mpg_takesKey_16 : decode b_Mpg_takesKey 16 = .ok (.iadd, 1) := by decide +kernel
theorem d_Mpg_takesKey_17 : decode b_Mpg_takesKey 17 = .ok (.goto 7, 3) := by decide +kernel
theorem d_Mpg_takesKey_20 : decode b_Mpg_takesKey 20 = .ok (.aload_n 0, 1) := by decide +kernel
theorem d_Mpg_takesKey_21 : decode b_Mpg_takesKey 21 = .ok (.getfield 360, 3) := by decide +kernel
theorem d_Mpg_takesKey_24 : decode b_Mpg_takesKey 24 = .ok (.putfield 360, 3) := by decide +kernel
theorem d_Mpg_takesKey_27 : decode b_Mpg_takesKey 27 = .ok (.iload_n 2, 1) := by decide +kernel
theorem d_Mpg_takesKey_28 : decode b_Mpg_takesKey 28 = .ok (.ireturn, 1) := by decide +kernel
theorem q_Mpg_takesKey : px_y y_Mpg_takesKey 1 := by unfold px_y; decide +kernel
set_option maxHeartbeats 4000000 in
set_option maxRecDepth 100000 in
theorem c_mp_takesKey (l : Launch) (D : va_G) (cs : Nat → ClassId) (h : Nat) (r : Nat → Nat) (g : Nat → Nat → Option Nat) (tf : Nat → Int32) (ta : Nat → Nat → Int32) (na : Nat → Nat → Int32) (ma : Nat → Nat → Int32) (wa : Nat → Nat → Int32) (cf : Nat → Int32) (ca : Nat → Nat → Int32) (ef : Nat → Int32) (ea : Nat → Nat → Int32) (xf : Nat → Int32) (xa : Nat → Nat → Int32) (pf : Nat → Int32) (p0 : Int32)  (g0 : 0 ≤ (pf 11).toInt) (g1 : (pf 11).toInt < (tf 6).toInt) (g2 : (tf 6).toInt ≤ 2049) (htk : TkI tf ta) : MetI l y_Mpg_takesKey b_Mpg_takesKey 3 (.boolean) D cs 1 40 (0) (0) [.ref h, .int p0] [wdP cs h r g tf ta pf na ma wa cf ca ef ea xf xa] (fun _ => True) (fun v ps => ∃ (pf' : Nat → Int32), (ps = [wdP cs h r g tf ta pf' na ma wa cf ca ef ea xf xa]) ∧ (v = 0 ∨ v = 1) ∧ ((pf' 11).toInt = (pf 11).toInt + v.toInt) ∧ ((pf' 11).toInt < (tf 6).toInt) ∧ (bp ta (pf 11) + v.toInt ≤ bp ta (pf' 11)) ∧ ((pf' 12).toInt = (pf 12).toInt) ∧ ((pf' 13).toInt = (pf 13).toInt) ∧ ((pf' 24).toInt = (pf 24).toInt) ∧ ((pf' 25).toInt = (pf 25).toInt) ∧ ((pf' 26).toInt = (pf 26).toInt) ∧ (R_mp_takesKey ta p0 pf pf' v)) := by
  refine px_enter (by decide) (Nat.le_of_ble_eq_true rfl) ?_
  intro p e s m below meth c A ls hAe S hr hlk hnm hA hT hX hw hl
  have hl : lv_has ls 3 [(0, .ref h), (1, .int p0)] := hl
  have lp0 := Int32.le_toInt p0
  have up0 := Int32.toInt_lt p0
  have cst1 : (1 : Int32).toInt = 1 := rfl
  refine lv_aload_n S.x S.b d_Mpg_takesKey_0 rfl (lv_at hl 0 rfl) ?_
  refine lv_iload_n S.x S.b d_Mpg_takesKey_1 rfl (lv_at hl 1 rfl) ?_
  first | refine px_calli (pr := []) (px_runV (As := [.int p0]) (rest := []) S (c_mp_isKey l D cs h r g tf ta pf na ma wa cf ca ef ea xf xa p0  (show 0 ≤ (pf 11).toInt from g0) (show (pf 11).toInt < (tf 6).toInt from g1) (show (tf 6).toInt ≤ 2049 from g2) htk _) hT (pr := []) (pcs := [wdP cs h r g tf ta pf na ma wa cf ca ef ea xf xa]) hw px_X.tt (px_recv hT hw 0 0 rfl rfl rfl) m11_201 m11_198 m11_200 ms_8_10 m1_21 q_Mpg_isKey ⟨Nat.le_of_ble_eq_true rfl, Nat.le_of_ble_eq_true rfl⟩ hl.1 rfl (Nat.le_of_ble_eq_true rfl) d_Mpg_takesKey_2 ⟨Nat.le_of_ble_eq_true rfl, Nat.le_of_ble_eq_true rfl⟩) hw hA (fun v2 p1 H locs hp1 hw => ?_) | (refine px_calli (pr := []) (px_runV (As := [.int p0]) (rest := []) S (c_mp_isKey l D cs h r g tf ta pf na ma wa cf ca ef ea xf xa p0  (show 0 ≤ (pf 11).toInt from by first | exact g0 | omega) (show (pf 11).toInt < (tf 6).toInt from by first | exact g1 | omega) (show (tf 6).toInt ≤ 2049 from by first | exact g2 | omega) htk _) hT (pr := []) (pcs := [wdP cs h r g tf ta pf na ma wa cf ca ef ea xf xa]) hw px_X.tt (px_recv hT hw 0 0 rfl rfl rfl) m11_201 m11_198 m11_200 ms_8_10 m1_21 q_Mpg_isKey ⟨Nat.le_of_ble_eq_true rfl, Nat.le_of_ble_eq_true rfl⟩ hl.1 rfl (Nat.le_of_ble_eq_true rfl) d_Mpg_takesKey_2 ⟨Nat.le_of_ble_eq_true rfl, Nat.le_of_ble_eq_true rfl⟩) hw hA (fun v2 p1 H locs hp1 hw => ?_))
  obtain ⟨rfl, e3, e4, e5⟩ := hp1
  have e3 := z_rng e3
  have e4 : v2.toInt = 1 → (pf 11).toInt + 1 < (tf 6).toInt ∧ so ta (pf 11) = 2 ∧ wh ta (pf 11) = p0.toInt := e4
  have e5 : R_mp_isKey ta pf p0 v2 := e5
  have lv2 := Int32.le_toInt v2
  have uv2 := Int32.toInt_lt v2
  refine lv_istore_n (lv' := [(2, .int v2), (0, .ref h), (1, .int p0)]) S.x S.b d_Mpg_takesKey_5 rfl hl (by decide) rfl (fun ls hl => ?_)
  refine lv_aload_n S.x S.b d_Mpg_takesKey_6 rfl (lv_at hl 1 rfl) ?_
  refine lv_iload_n S.x S.b d_Mpg_takesKey_7 rfl (lv_at hl 0 rfl) ?_
  refine lv_if_eq (tgt := 20) S.x S.b d_Mpg_takesKey_8 (by decide) (fun c6 => ?_) (fun c6 => ?_)
  · have nc6 : v2.toInt = (0 : Int) := (i_eq (x := v2) (y := 0)).mp c6
    refine lv_aload_n S.x S.b d_Mpg_takesKey_20 rfl (lv_at hl 1 rfl) ?_
    refine gP_11 (v := (pf 11)) S hT hw 0 rfl rfl m9_235 d_Mpg_takesKey_21 ?_
    refine pP_11 S hT hw 0 rfl m9_235 rfl rfl rfl d_Mpg_takesKey_24 (ps' := [wdP cs h r g tf ta (upd pf 11 (pf 11)) na ma wa cf ca ef ea xf xa]) rfl (fun H locs hw => ?_)
    refine lv_iload_n S.x S.b d_Mpg_takesKey_27 rfl (lv_at hl 0 rfl) ?_
    first | exact px_iret (v := v2) S hr (z_nar (by omega)) hlk hAe hw (Nat.le_of_ble_eq_true rfl) (Nat.le_of_ble_eq_true rfl) (⟨(upd pf 11 (pf 11)), rfl, (show v2 = 0 ∨ v2 = 1 from by first | exact Or.inl rfl | exact Or.inr rfl | exact z_or (by omega)), (show (pf 11).toInt = (pf 11).toInt + v2.toInt from (oz_d1bf0849be e3.1 nc6)), (show (pf 11).toInt < (tf 6).toInt from g1), (show bp ta (pf 11) + v2.toInt ≤ bp ta (pf 11) from (oz_43b7c41cbd nc6)), (show (pf 12).toInt = (pf 12).toInt from rfl), (show (pf 13).toInt = (pf 13).toInt from rfl), (show (pf 24).toInt = (pf 24).toInt from rfl), (show (pf 25).toInt = (pf 25).toInt from rfl), (show (pf 26).toInt = (pf 26).toInt from rfl), (show R_mp_takesKey ta p0 pf (upd pf 11 (pf 11)) v2 from (Or.inl ⟨v2, e5, Or.inl ⟨nc6, rfl, rfl⟩⟩))⟩) d_Mpg_takesKey_28 | (exact px_iret (v := v2) S hr (z_nar (by omega)) hlk hAe hw (Nat.le_of_ble_eq_true rfl) (Nat.le_of_ble_eq_true rfl) (⟨(upd pf 11 (pf 11)), rfl, (show v2 = 0 ∨ v2 = 1 from by first | exact Or.inl rfl | exact Or.inr rfl | exact z_or (by omega)), (show (pf 11).toInt = (pf 11).toInt + v2.toInt from by first | exact oz_d1bf0849be e3.1 nc6 | omega), (show (pf 11).toInt < (tf 6).toInt from by first | exact g1 | omega), (show bp ta (pf 11) + v2.toInt ≤ bp ta (pf 11) from by first | exact oz_43b7c41cbd nc6 | omega), (show (pf 12).toInt = (pf 12).toInt from rfl), (show (pf 13).toInt = (pf 13).toInt from rfl), (show (pf 24).toInt = (pf 24).toInt from rfl), (show (pf 25).toInt = (pf 25).toInt from rfl), (show (pf 26).toInt = (pf 26).toInt from rfl), (show R_mp_takesKey ta p0 pf (upd pf 11 (pf 11)) v2 from (Or.inl ⟨v2, e5, Or.inl ⟨nc6, rfl, rfl⟩⟩))⟩) d_Mpg_takesKey_28)
  · have nc6 : ¬ v2.toInt = (0 : Int) := mt (i_eq (x := v2) (y := 0)).mpr c6
    refine lv_aload_n S.x S.b d_Mpg_takesKey_11 rfl (lv_at hl 1 rfl) ?_
    refine gP_11 (v := (pf 11)) S hT hw 0 rfl rfl m9_235 d_Mpg_takesKey_12 ?_
    refine lv_iconst (v := 1) S.x S.b d_Mpg_takesKey_15 (by decide) ?_
    refine lv_iadd S.x S.b d_Mpg_takesKey_16 ?_
    have lr8 := Int32.le_toInt (pf 11)
    have ur8 := Int32.toInt_lt (pf 11)
    refine lv_topi (fun z9 ez9 => ?_)
    have tz9 : z9.toInt = ((pf 11).toInt + (1 : Int) + 2147483648) % 4294967296 - 2147483648 := by rw [ez9]; exact i_add (pf 11) 1
    have lz9 := Int32.le_toInt z9
    have uz9 := Int32.toInt_lt z9
    try replace tz9 : z9.toInt = (pf 11).toInt + (1 : Int) := by omega
    have hnx := tk_n htk (x := (pf 11)) (y := z9) (by omega) (by omega) (by omega)
    refine lv_goto (tgt := 24) S.x S.b d_Mpg_takesKey_17 (by decide) ?_
    refine pP_11 S hT hw 0 rfl m9_235 rfl rfl rfl d_Mpg_takesKey_24 (ps' := [wdP cs h r g tf ta (upd pf 11 z9) na ma wa cf ca ef ea xf xa]) rfl (fun H locs hw => ?_)
    refine lv_iload_n S.x S.b d_Mpg_takesKey_27 rfl (lv_at hl 0 rfl) ?_
    first | exact px_iret (v := v2) S hr (z_nar (by omega)) hlk hAe hw (Nat.le_of_ble_eq_true rfl) (Nat.le_of_ble_eq_true rfl) (⟨(upd pf 11 z9), rfl, (show v2 = 0 ∨ v2 = 1 from by first | exact Or.inl rfl | exact Or.inr rfl | exact z_or (by omega)), (show z9.toInt = (pf 11).toInt + v2.toInt from (oz_cfd06fd58f tz9 e3.1 nc6 e3.2)), (show z9.toInt < (tf 6).toInt from by omega), (show bp ta (pf 11) + v2.toInt ≤ bp ta z9 from (oz_68ab0a010c e3.2 hnx.1 hnx.2)), (show (pf 12).toInt = (pf 12).toInt from rfl), (show (pf 13).toInt = (pf 13).toInt from rfl), (show (pf 24).toInt = (pf 24).toInt from rfl), (show (pf 25).toInt = (pf 25).toInt from rfl), (show (pf 26).toInt = (pf 26).toInt from rfl), (show R_mp_takesKey ta p0 pf (upd pf 11 z9) v2 from (Or.inl ⟨v2, e5, Or.inr ⟨nc6, z9, ez9, rfl, rfl⟩⟩))⟩) d_Mpg_takesKey_28 | (exact px_iret (v := v2) S hr (z_nar (by omega)) hlk hAe hw (Nat.le_of_ble_eq_true rfl) (Nat.le_of_ble_eq_true rfl) (⟨(upd pf 11 z9), rfl, (show v2 = 0 ∨ v2 = 1 from by first | exact Or.inl rfl | exact Or.inr rfl | exact z_or (by omega)), (show z9.toInt = (pf 11).toInt + v2.toInt from by first | exact oz_cfd06fd58f tz9 e3.1 nc6 e3.2 | omega), (show z9.toInt < (tf 6).toInt from by omega), (show bp ta (pf 11) + v2.toInt ≤ bp ta z9 from by first | exact oz_68ab0a010c e3.2 hnx.1 hnx.2 | omega), (show (pf 12).toInt = (pf 12).toInt from rfl), (show (pf 13).toInt = (pf 13).toInt from rfl), (show (pf 24).toInt = (pf 24).toInt from rfl), (show (pf 25).toInt = (pf 25).toInt from rfl), (show (pf 26).toInt = (pf 26).toInt from rfl), (show R_mp_takesKey ta p0 pf (upd pf 11 z9) v2 from (Or.inl ⟨v2, e5, Or.inr ⟨nc6, z9, ez9, rfl, rfl⟩⟩))⟩) d_Mpg_takesKey_28)
abbrev b_Mpg_isType : ByteArray := prog_16_method_48_code
def y_Mpg_isType : MethodName := ⟨"HomeSystemModel$Program", "isType", "()Z"⟩
theorem d_Mpg_isType_0 : decode b_Mpg_isType 0 = .ok (.aload_n 0, 1) := by decide +kernel
theorem d_Mpg_isType_1 : decode b_Mpg_isType 1 = .ok (.iconst 0, 1) := by decide +kernel
theorem d_Mpg_isType_2 : decode b_Mpg_isType 2 = .ok (.invokevirtual 377, 3) := by decide +kernel
theorem d_Mpg_isType_5 : decode b_Mpg_isType 5 = .ok (.ifCond .ne 11, 3) := by decide +kernel
theorem d_Mpg_isType_8 : decode b_Mpg_isType 8 = .ok (.aload_n 0, 1) := by decide +kernel
theorem d_Mpg_isType_9 : decode b_Mpg_isType 9 = .ok (.iconst 1, 1) := by decide +kernel
theorem d_Mpg_isType_10 : decode b_Mpg_isType 10 = .ok (.invokevirtual 377, 3) := by decide +kernel
theorem d_Mpg_isType_13 : decode b_Mpg_isType 13 = .ok (.ifCond .eq 7, 3) := by decide +kernel
theorem d_Mpg_isType_16 : decode b_Mpg_isType 16 = .ok (.iconst 1, 1) := by decide +kernel
theorem d_Mpg_isType_17 : decode b_Mpg_isType 17 = .ok (.goto 4, 3) := by decide +kernel
theorem d_Mpg_isType_20 : decode b_Mpg_isType 20 = .ok (.iconst 0, 1) := by decide +kernel
theorem d_Mpg_isType_21 : decode b_Mpg_isType 21 = .ok (.ireturn, 1) := by decide +kernel
theorem q_Mpg_isType : px_y y_Mpg_isType 0 := by unfold px_y; decide +kernel
set_option maxHeartbeats 4000000 in
set_option maxRecDepth 100000 in
theorem c_mp_isType (l : Launch) (D : va_G) (cs : Nat → ClassId) (h : Nat) (r : Nat → Nat) (g : Nat → Nat → Option Nat) (tf : Nat → Int32) (ta : Nat → Nat → Int32) (pf : Nat → Int32) (na : Nat → Nat → Int32) (ma : Nat → Nat → Int32) (wa : Nat → Nat → Int32) (cf : Nat → Int32) (ca : Nat → Nat → Int32) (ef : Nat → Int32) (ea : Nat → Nat → Int32) (xf : Nat → Int32) (xa : Nat → Nat → Int32)  (g0 : 0 ≤ (pf 11).toInt) (g1 : (pf 11).toInt < (tf 6).toInt) (g2 : (tf 6).toInt ≤ 2049) (htk : TkI tf ta) : MetI l y_Mpg_isType b_Mpg_isType 1 (.boolean) D cs 1 40 (0) (0) [.ref h] [wdP cs h r g tf ta pf na ma wa cf ca ef ea xf xa] (fun _ => True) (fun v ps => (ps = [wdP cs h r g tf ta pf na ma wa cf ca ef ea xf xa]) ∧ (v = 0 ∨ v = 1) ∧ (v.toInt = 1 → (pf 11).toInt + 1 < (tf 6).toInt ∧ so ta (pf 11) = 2 ∧ 0 ≤ wh ta (pf 11) ∧ wh ta (pf 11) ≤ 1) ∧ (R_mp_isType ta pf v)) := by
  refine px_enter (by decide) (Nat.le_of_ble_eq_true rfl) ?_
  intro p e s m below meth c A ls hAe S hr hlk hnm hA hT hX hw hl
  have hl : lv_has ls 1 [(0, .ref h)] := hl
  have cst0 : (0 : Int32).toInt = 0 := rfl
  have cst1 : (1 : Int32).toInt = 1 := rfl
  refine lv_aload_n S.x S.b d_Mpg_isType_0 rfl (lv_at hl 0 rfl) ?_
  refine lv_iconst (v := 0) S.x S.b d_Mpg_isType_1 (by decide) ?_
  first | refine px_calli (pr := []) (px_runV (As := [.int 0]) (rest := []) S (c_mp_isKey l D cs h r g tf ta pf na ma wa cf ca ef ea xf xa 0  (show 0 ≤ (pf 11).toInt from g0) (show (pf 11).toInt < (tf 6).toInt from g1) (show (tf 6).toInt ≤ 2049 from g2) htk _) hT (pr := []) (pcs := [wdP cs h r g tf ta pf na ma wa cf ca ef ea xf xa]) hw px_X.tt (px_recv hT hw 0 0 rfl rfl rfl) m11_201 m11_198 m11_200 ms_8_10 m1_21 q_Mpg_isKey ⟨Nat.le_of_ble_eq_true rfl, Nat.le_of_ble_eq_true rfl⟩ hl.1 rfl (Nat.le_of_ble_eq_true rfl) d_Mpg_isType_2 ⟨Nat.le_of_ble_eq_true rfl, Nat.le_of_ble_eq_true rfl⟩) hw hA (fun v2 p1 H locs hp1 hw => ?_) | (refine px_calli (pr := []) (px_runV (As := [.int 0]) (rest := []) S (c_mp_isKey l D cs h r g tf ta pf na ma wa cf ca ef ea xf xa 0  (show 0 ≤ (pf 11).toInt from by first | exact g0 | omega) (show (pf 11).toInt < (tf 6).toInt from by first | exact g1 | omega) (show (tf 6).toInt ≤ 2049 from by first | exact g2 | omega) htk _) hT (pr := []) (pcs := [wdP cs h r g tf ta pf na ma wa cf ca ef ea xf xa]) hw px_X.tt (px_recv hT hw 0 0 rfl rfl rfl) m11_201 m11_198 m11_200 ms_8_10 m1_21 q_Mpg_isKey ⟨Nat.le_of_ble_eq_true rfl, Nat.le_of_ble_eq_true rfl⟩ hl.1 rfl (Nat.le_of_ble_eq_true rfl) d_Mpg_isType_2 ⟨Nat.le_of_ble_eq_true rfl, Nat.le_of_ble_eq_true rfl⟩) hw hA (fun v2 p1 H locs hp1 hw => ?_))
  obtain ⟨rfl, e3, e4, e5⟩ := hp1
  have e3 := z_rng e3
  have e4 : v2.toInt = 1 → (pf 11).toInt + 1 < (tf 6).toInt ∧ so ta (pf 11) = 2 ∧ wh ta (pf 11) = (0 : Int) := e4
  have e5 : R_mp_isKey ta pf (0 : Int32) v2 := e5
  have lv2 := Int32.le_toInt v2
  have uv2 := Int32.toInt_lt v2
  refine lv_if_ne (tgt := 16) S.x S.b d_Mpg_isType_5 (by decide) (fun c6 => ?_) (fun c6 => ?_)
  · have nc6 : ¬ v2.toInt = (0 : Int) := mt (i_eq (x := v2) (y := 0)).mpr c6
    refine lv_iconst (v := 1) S.x S.b d_Mpg_isType_16 (by decide) ?_
    refine lv_goto (tgt := 21) S.x S.b d_Mpg_isType_17 (by decide) ?_
    exact px_iret (v := 1) S hr rfl hlk hAe hw (Nat.le_of_ble_eq_true rfl) (Nat.le_of_ble_eq_true rfl) (⟨rfl, (show (1 : Int32) = 0 ∨ (1 : Int32) = 1 from by first | exact Or.inl rfl | exact Or.inr rfl | exact z_or (by omega)), (show (1 : Int) = 1 → (pf 11).toInt + 1 < (tf 6).toInt ∧ so ta (pf 11) = 2 ∧ 0 ≤ wh ta (pf 11) ∧ wh ta (pf 11) ≤ 1 from by omega), (show R_mp_isType ta pf (1 : Int32) from (Or.inl ⟨v2, e5, Or.inl ⟨nc6, rfl⟩⟩))⟩) d_Mpg_isType_21
  · have nc6 : v2.toInt = (0 : Int) := (i_eq (x := v2) (y := 0)).mp c6
    refine lv_aload_n S.x S.b d_Mpg_isType_8 rfl (lv_at hl 0 rfl) ?_
    refine lv_iconst (v := 1) S.x S.b d_Mpg_isType_9 (by decide) ?_
    first | refine px_calli (pr := []) (px_runV (As := [.int 1]) (rest := []) S (c_mp_isKey l D cs h r g tf ta pf na ma wa cf ca ef ea xf xa 1  (show 0 ≤ (pf 11).toInt from g0) (show (pf 11).toInt < (tf 6).toInt from g1) (show (tf 6).toInt ≤ 2049 from g2) htk _) hT (pr := []) (pcs := [wdP cs h r g tf ta pf na ma wa cf ca ef ea xf xa]) hw px_X.tt (px_recv hT hw 0 0 rfl rfl rfl) m11_201 m11_198 m11_200 ms_8_10 m1_21 q_Mpg_isKey ⟨Nat.le_of_ble_eq_true rfl, Nat.le_of_ble_eq_true rfl⟩ hl.1 rfl (Nat.le_of_ble_eq_true rfl) d_Mpg_isType_10 ⟨Nat.le_of_ble_eq_true rfl, Nat.le_of_ble_eq_true rfl⟩) hw hA (fun v9 p8 H locs hp8 hw => ?_) | (refine px_calli (pr := []) (px_runV (As := [.int 1]) (rest := []) S (c_mp_isKey l D cs h r g tf ta pf na ma wa cf ca ef ea xf xa 1  (show 0 ≤ (pf 11).toInt from by first | exact g0 | omega) (show (pf 11).toInt < (tf 6).toInt from by first | exact g1 | omega) (show (tf 6).toInt ≤ 2049 from by first | exact g2 | omega) htk _) hT (pr := []) (pcs := [wdP cs h r g tf ta pf na ma wa cf ca ef ea xf xa]) hw px_X.tt (px_recv hT hw 0 0 rfl rfl rfl) m11_201 m11_198 m11_200 ms_8_10 m1_21 q_Mpg_isKey ⟨Nat.le_of_ble_eq_true rfl, Nat.le_of_ble_eq_true rfl⟩ hl.1 rfl (Nat.le_of_ble_eq_true rfl) d_Mpg_isType_10 ⟨Nat.le_of_ble_eq_true rfl, Nat.le_of_ble_eq_true rfl⟩) hw hA (fun v9 p8 H locs hp8 hw => ?_))
    obtain ⟨rfl, e10, e11, e12⟩ := hp8
    have e10 := z_rng e10
    have e11 : v9.toInt = 1 → (pf 11).toInt + 1 < (tf 6).toInt ∧ so ta (pf 11) = 2 ∧ wh ta (pf 11) = (1 : Int) := e11
    have e12 : R_mp_isKey ta pf (1 : Int32) v9 := e12
    have lv9 := Int32.le_toInt v9
    have uv9 := Int32.toInt_lt v9
    refine lv_if_eq (tgt := 20) S.x S.b d_Mpg_isType_13 (by decide) (fun c13 => ?_) (fun c13 => ?_)
    · have nc13 : v9.toInt = (0 : Int) := (i_eq (x := v9) (y := 0)).mp c13
      refine lv_iconst (v := 0) S.x S.b d_Mpg_isType_20 (by decide) ?_
      exact px_iret (v := 0) S hr rfl hlk hAe hw (Nat.le_of_ble_eq_true rfl) (Nat.le_of_ble_eq_true rfl) (⟨rfl, (show (0 : Int32) = 0 ∨ (0 : Int32) = 1 from by first | exact Or.inl rfl | exact Or.inr rfl | exact z_or (by omega)), (show (0 : Int) = 1 → (pf 11).toInt + 1 < (tf 6).toInt ∧ so ta (pf 11) = 2 ∧ 0 ≤ wh ta (pf 11) ∧ wh ta (pf 11) ≤ 1 from by omega), (show R_mp_isType ta pf (0 : Int32) from (Or.inl ⟨v2, e5, Or.inr ⟨nc6, v9, e12, Or.inl ⟨nc13, rfl⟩⟩⟩))⟩) d_Mpg_isType_21
    · have nc13 : ¬ v9.toInt = (0 : Int) := mt (i_eq (x := v9) (y := 0)).mpr c13
      refine lv_iconst (v := 1) S.x S.b d_Mpg_isType_16 (by decide) ?_
      refine lv_goto (tgt := 21) S.x S.b d_Mpg_isType_17 (by decide) ?_
      exact px_iret (v := 1) S hr rfl hlk hAe hw (Nat.le_of_ble_eq_true rfl) (Nat.le_of_ble_eq_true rfl) (⟨rfl, (show (1 : Int32) = 0 ∨ (1 : Int32) = 1 from by first | exact Or.inl rfl | exact Or.inr rfl | exact z_or (by omega)), (show (1 : Int) = 1 → (pf 11).toInt + 1 < (tf 6).toInt ∧ so ta (pf 11) = 2 ∧ 0 ≤ wh ta (pf 11) ∧ wh ta (pf 11) ≤ 1 from by omega), (show R_mp_isType ta pf (1 : Int32) from (Or.inl ⟨v2, e5, Or.inr ⟨nc6, v9, e12, Or.inr ⟨nc13, rfl⟩⟩⟩))⟩) d_Mpg_isType_21
abbrev b_Mpg_isAssigning : ByteArray := prog_16_method_29_code
def y_Mpg_isAssigning : MethodName := ⟨"HomeSystemModel$Program", "isAssigning", "()Z"⟩
theorem d_Mpg_isAssigning_0 : decode b_Mpg_isAssigning 0 = .ok (.aload_n 0, 1) := by decide +kernel
theorem d_Mpg_isAssigning_1 : decode b_Mpg_isAssigning 1 = .ok (.getfield 201, 3) := by decide +kernel
theorem d_Mpg_isAssigning_4 : decode b_Mpg_isAssigning 4 = .ok (.aload_n 0, 1) := by decide +kernel
theorem d_Mpg_isAssigning_5 : decode b_Mpg_isAssigning 5 = .ok (.getfield 360, 3) := by decide +kernel
theorem d_Mpg_isAssigning_8 : decode b_Mpg_isAssigning 8 = .ok (.baload, 1) := by decide +kernel
theorem d_Mpg_isAssigning_9 : decode b_Mpg_isAssigning 9 = .ok (.iconst 5, 1) := by decide +kernel
theorem d_Mpg_isAssigning_10 : decode b_Mpg_isAssigning 10 = .ok (.if_icmp .eq 5, 3) := by decide +kernel
theorem d_Mpg_isAssigning_13 : decode b_Mpg_isAssigning 13 = .ok (.iconst 0, 1) := by decide +kernel
theorem d_Mpg_isAssigning_14 : decode b_Mpg_isAssigning 14 = .ok (.ireturn, 1) := by decide +kernel
theorem d_Mpg_isAssigning_15 : decode b_Mpg_isAssigning 15 = .ok (.aload_n 0, 1) := by decide +kernel
theorem d_Mpg_isAssigning_16 : decode b_Mpg_isAssigning 16 = .ok (.getfield 204, 3) := by decide +kernel
theorem d_Mpg_isAssigning_19 : decode b_Mpg_isAssigning 19 = .ok (.aload_n 0, 1) := by decide +kernel
theorem d_Mpg_isAssigning_20 : decode b_Mpg_isAssigning 20 = .ok (.getfield 360, 3) := by decide +kernel
theorem d_Mpg_isAssigning_23 : decode b_Mpg_isAssigning 23 = .ok (.iaload, 1) := by decide +kernel
theorem d_Mpg_isAssigning_24 : decode b_Mpg_isAssigning 24 = .ok (.istore_n 1, 1) := by decide +kernel
theorem d_Mpg_isAssigning_25 : decode b_Mpg_isAssigning 25 = .ok (.iload_n 1, 1) := by decide +kernel
theorem d_Mpg_isAssigning_26 : decode b_Mpg_isAssigning 26 = .ok (.bipush 10, 2) := by decide +kernel
theorem d_Mpg_isAssigning_28 : decode b_Mpg_isAssigning 28 = .ok (.if_icmp .lt 12, 3) := by decide +kernel
theorem d_Mpg_isAssigning_31 : decode b_Mpg_isAssigning 31 = .ok (.aload_n 0, 1) := by decide +kernel
theorem d_Mpg_isAssigning_32 : decode b_Mpg_isAssigning 32 = .ok (.ldc 107, 2) := by decide +kernel
theorem d_Mpg_isAssigning_34 : decode b_Mpg_isAssigning 34 = .ok (.invokevirtual 366, 3) := by decide +kernel
theorem d_Mpg_isAssigning_37 : decode b_Mpg_isAssigning 37 = .ok (.ifCond .eq 7, 3) := by decide +kernel
theorem d_Mpg_isAssigning_40 : decode b_Mpg_isAssigning 40 = .ok (.iconst 1, 1) := by decide +kernel
theorem d_Mpg_isAssigning_41 : decode b_Mpg_isAssigning 41 = .ok (.goto 4, 3) := by decide +kernel
theorem d_Mpg_isAssigning_44 : decode b_Mpg_isAssigning 44 = .ok (.iconst 0, 1) := by decide +kernel
theorem d_Mpg_isAssigning_45 : decode b_Mpg_isAssigning 45 = .ok (.ireturn, 1) := by decide +kernel
theorem q_Mpg_isAssigning : px_y y_Mpg_isAssigning 0 := by unfold px_y; decide +kernel
set_option maxHeartbeats 4000000 in
set_option maxRecDepth 100000 in
theorem c_mp_isAssigning (l : Launch) (D : va_G) (cs : Nat → ClassId) (h : Nat) (r : Nat → Nat) (g : Nat → Nat → Option Nat) (tf : Nat → Int32) (ta : Nat → Nat → Int32) (pf : Nat → Int32) (na : Nat → Nat → Int32) (ma : Nat → Nat → Int32) (wa : Nat → Nat → Int32) (cf : Nat → Int32) (ca : Nat → Nat → Int32) (ef : Nat → Int32) (ea : Nat → Nat → Int32) (xf : Nat → Int32) (xa : Nat → Nat → Int32)  (g0 : 0 ≤ (pf 11).toInt) (g1 : (pf 11).toInt < (tf 6).toInt) (g2 : (tf 6).toInt ≤ 2049) (htk : TkI tf ta) : MetI l y_Mpg_isAssigning b_Mpg_isAssigning 2 (.boolean) D cs 4 160 (0) (0) [.ref h] [wdP cs h r g tf ta pf na ma wa cf ca ef ea xf xa] (oX (fun A U H => (oP A g U H)) [wdP cs h r g tf ta pf na ma wa cf ca ef ea xf xa]) (fun v ps => (ps = [wdP cs h r g tf ta pf na ma wa cf ca ef ea xf xa]) ∧ (v = 0 ∨ v = 1) ∧ (v.toInt = 1 → (pf 11).toInt + 1 < (tf 6).toInt ∧ so ta (pf 11) = 5) ∧ (R_mp_isAssigning ta pf v)) := by
  refine px_enter (by decide) (Nat.le_of_ble_eq_true rfl) ?_
  intro p e s m below meth c A ls hAe S hr hlk hnm hA hT hX hw hl
  have hl : lv_has ls 2 [(0, .ref h)] := hl
  have cst0 : (0 : Int32).toInt = 0 := rfl
  have cst1 : (1 : Int32).toInt = 1 := rfl
  have cst5 : (5 : Int32).toInt = 5 := rfl
  have cst10 : (10 : Int32).toInt = 10 := rfl
  have hX : (fun A U H => (oP A g U H)) A s s.heap := by rw [hAe]; exact hX
  have hP := hX
  have hZ := hP.1
  have hF0 := hP.2.1
  refine lv_aload_n S.x S.b d_Mpg_isAssigning_0 rfl (lv_at hl 0 rfl) ?_
  refine gP_9 S hT hw 0 rfl m9_233 d_Mpg_isAssigning_1 ?_
  refine lv_aload_n S.x S.b d_Mpg_isAssigning_4 rfl (lv_at hl 0 rfl) ?_
  refine gP_11 (v := (pf 11)) S hT hw 0 rfl rfl m9_235 d_Mpg_isAssigning_5 ?_
  refine px_bald S hT hw 0 8 (n := 2060) (f := (ta 9)) rfl gp_9 (x := (pf 11)) (vp_in_iff.mpr (by first | exact oz_846323bf3a g0 g1 g2 | (constructor <;> omega))) d_Mpg_isAssigning_8 ?_
  refine lv_topi (fun z1 ez1 => ?_)
  have lz1 := Int32.le_toInt z1
  have uz1 := Int32.toInt_lt z1
  have rz1 := tk_s htk (x := (pf 11)) (by omega) (by omega) ez1
  refine lv_iconst (v := 5) S.x S.b d_Mpg_isAssigning_9 (by decide) ?_
  refine lv_icmp_eq (tgt := 15) S.x S.b d_Mpg_isAssigning_10 (by decide) (fun c2 => ?_) (fun c2 => ?_)
  · have nc2 : z1.toInt = (5 : Int) := (i_eq (x := z1) (y := 5)).mp c2
    refine lv_aload_n S.x S.b d_Mpg_isAssigning_15 rfl (lv_at hl 0 rfl) ?_
    refine gP_10 S hT hw 0 rfl m9_234 d_Mpg_isAssigning_16 ?_
    refine lv_aload_n S.x S.b d_Mpg_isAssigning_19 rfl (lv_at hl 0 rfl) ?_
    refine gP_11 (v := (pf 11)) S hT hw 0 rfl rfl m9_235 d_Mpg_isAssigning_20 ?_
    refine px_iald S hT hw 0 9 (n := 2060) (f := (ta 10)) rfl gp_10 (x := (pf 11)) (vp_in_iff.mpr (by first | exact oz_846323bf3a g0 g1 g2 | (constructor <;> omega))) d_Mpg_isAssigning_23 ?_
    refine lv_topi (fun z4 ez4 => ?_)
    have lz4 := Int32.le_toInt z4
    have uz4 := Int32.toInt_lt z4
    have wz4 := tk_w5 htk (by omega) (by omega) ez4 (by omega)
    refine lv_istore_n (lv' := [(1, .int z4), (0, .ref h)]) S.x S.b d_Mpg_isAssigning_24 rfl hl (by decide) rfl (fun ls hl => ?_)
    refine lv_iload_n S.x S.b d_Mpg_isAssigning_25 rfl (lv_at hl 0 rfl) ?_
    refine lv_bipush (v := 10) S.x S.b d_Mpg_isAssigning_26 (by decide) ?_
    refine lv_icmp_lt (tgt := 40) S.x S.b d_Mpg_isAssigning_28 (by decide) (fun c5 => ?_) (fun c5 => ?_)
    · have nc5 : z4.toInt < (10 : Int) := (i_lt (x := z4) (y := 10)).mp c5
      refine lv_iconst (v := 1) S.x S.b d_Mpg_isAssigning_40 (by decide) ?_
      refine lv_goto (tgt := 45) S.x S.b d_Mpg_isAssigning_41 (by decide) ?_
      exact px_iret (v := 1) S hr rfl hlk hAe hw (Nat.le_of_ble_eq_true rfl) (Nat.le_of_ble_eq_true rfl) (⟨rfl, (show (1 : Int32) = 0 ∨ (1 : Int32) = 1 from by first | exact Or.inl rfl | exact Or.inr rfl | exact z_or (by omega)), (show (1 : Int) = 1 → (pf 11).toInt + 1 < (tf 6).toInt ∧ so ta (pf 11) = 5 from by omega), (show R_mp_isAssigning ta pf (1 : Int32) from (Or.inl ⟨z1, ez1, Or.inl ⟨nc2, z4, ez4, Or.inl ⟨nc5, rfl⟩⟩⟩))⟩) d_Mpg_isAssigning_45
    · have nc5 : ¬ z4.toInt < (10 : Int) := mt (i_lt (x := z4) (y := 10)).mpr c5
      refine lv_aload_n S.x S.b d_Mpg_isAssigning_31 rfl (lv_at hl 1 rfl) ?_
      obtain ⟨sk7, hRsk7, st8, hSsk7⟩ := oP_litB hP (k := 107) (tx := "=") (n := 1) (List.mem_of_getElem? (i := 45) rfl)
      refine va_ldcS S.x S.b S.own hRsk7 d_Mpg_isAssigning_32 ?_
      first | refine px_calli (pr := []) (px_runV (As := [.ref sk7]) (rest := []) S (c_mp_is l D cs sk7 1 (lby "=") h r g tf ta pf na ma wa cf ca ef ea xf xa   (show 0 ≤ (pf 11).toInt from g0) (show (pf 11).toInt < (tf 6).toInt from g1) (show (tf 6).toInt ≤ 2049 from g2) (show 1 ≤ 100 from by omega) htk _) hT (pr := []) (pcs := [wdP cs h r g tf ta pf na ma wa cf ca ef ea xf xa]) hw (oX_call (P := (fun A U H => (oP A g U H) ∧ (StLt A sk7 1 (lby "=") U H))) (pr := []) (oG_and oG_P oG_QB) hw hA ⟨hP, ⟨_, hSsk7⟩⟩) (px_recv hT hw 0 0 rfl rfl rfl) m11_217 m11_214 m11_216 ms_8_14 m1_21 q_Mpg_is ⟨Nat.le_of_ble_eq_true rfl, Nat.le_of_ble_eq_true rfl⟩ hl.1 rfl (Nat.le_of_ble_eq_true rfl) d_Mpg_isAssigning_34 ⟨Nat.le_of_ble_eq_true rfl, Nat.le_of_ble_eq_true rfl⟩) hw hA (fun v11 p10 H locs hp10 hw => ?_) | (refine px_calli (pr := []) (px_runV (As := [.ref sk7]) (rest := []) S (c_mp_is l D cs sk7 1 (lby "=") h r g tf ta pf na ma wa cf ca ef ea xf xa   (show 0 ≤ (pf 11).toInt from by first | exact g0 | omega) (show (pf 11).toInt < (tf 6).toInt from by first | exact g1 | omega) (show (tf 6).toInt ≤ 2049 from by first | exact g2 | omega) (show 1 ≤ 100 from by omega) htk _) hT (pr := []) (pcs := [wdP cs h r g tf ta pf na ma wa cf ca ef ea xf xa]) hw (oX_call (P := (fun A U H => (oP A g U H) ∧ (StLt A sk7 1 (lby "=") U H))) (pr := []) (oG_and oG_P oG_QB) hw hA ⟨hP, ⟨_, hSsk7⟩⟩) (px_recv hT hw 0 0 rfl rfl rfl) m11_217 m11_214 m11_216 ms_8_14 m1_21 q_Mpg_is ⟨Nat.le_of_ble_eq_true rfl, Nat.le_of_ble_eq_true rfl⟩ hl.1 rfl (Nat.le_of_ble_eq_true rfl) d_Mpg_isAssigning_34 ⟨Nat.le_of_ble_eq_true rfl, Nat.le_of_ble_eq_true rfl⟩) hw hA (fun v11 p10 H locs hp10 hw => ?_))
      obtain ⟨rfl, e12, e13, e14⟩ := hp10
      have e12 := z_rng e12
      have e13 : v11.toInt = 1 → (pf 11).toInt + 1 < (tf 6).toInt ∧ so ta (pf 11) = 5 := e13
      have e14 : R_mp_is 1 (lby "=") ta pf v11 := e14
      have lv11 := Int32.le_toInt v11
      have uv11 := Int32.toInt_lt v11
      refine lv_if_eq (tgt := 44) S.x S.b d_Mpg_isAssigning_37 (by decide) (fun c15 => ?_) (fun c15 => ?_)
      · have nc15 : v11.toInt = (0 : Int) := (i_eq (x := v11) (y := 0)).mp c15
        refine lv_iconst (v := 0) S.x S.b d_Mpg_isAssigning_44 (by decide) ?_
        exact px_iret (v := 0) S hr rfl hlk hAe hw (Nat.le_of_ble_eq_true rfl) (Nat.le_of_ble_eq_true rfl) (⟨rfl, (show (0 : Int32) = 0 ∨ (0 : Int32) = 1 from by first | exact Or.inl rfl | exact Or.inr rfl | exact z_or (by omega)), (show (0 : Int) = 1 → (pf 11).toInt + 1 < (tf 6).toInt ∧ so ta (pf 11) = 5 from by omega), (show R_mp_isAssigning ta pf (0 : Int32) from (Or.inl ⟨z1, ez1, Or.inl ⟨nc2, z4, ez4, Or.inr ⟨nc5, v11, e14, Or.inl ⟨nc15, rfl⟩⟩⟩⟩))⟩) d_Mpg_isAssigning_45
      · have nc15 : ¬ v11.toInt = (0 : Int) := mt (i_eq (x := v11) (y := 0)).mpr c15
        refine lv_iconst (v := 1) S.x S.b d_Mpg_isAssigning_40 (by decide) ?_
        refine lv_goto (tgt := 45) S.x S.b d_Mpg_isAssigning_41 (by decide) ?_
        exact px_iret (v := 1) S hr rfl hlk hAe hw (Nat.le_of_ble_eq_true rfl) (Nat.le_of_ble_eq_true rfl) (⟨rfl, (show (1 : Int32) = 0 ∨ (1 : Int32) = 1 from by first | exact Or.inl rfl | exact Or.inr rfl | exact z_or (by omega)), (show (1 : Int) = 1 → (pf 11).toInt + 1 < (tf 6).toInt ∧ so ta (pf 11) = 5 from by omega), (show R_mp_isAssigning ta pf (1 : Int32) from (Or.inl ⟨z1, ez1, Or.inl ⟨nc2, z4, ez4, Or.inr ⟨nc5, v11, e14, Or.inr ⟨nc15, rfl⟩⟩⟩⟩))⟩) d_Mpg_isAssigning_45
  · have nc2 : ¬ z1.toInt = (5 : Int) := mt (i_eq (x := z1) (y := 5)).mpr c2
    refine lv_iconst (v := 0) S.x S.b d_Mpg_isAssigning_13 (by decide) ?_
    exact px_iret (v := 0) S hr rfl hlk hAe hw (Nat.le_of_ble_eq_true rfl) (Nat.le_of_ble_eq_true rfl) (⟨rfl, (show (0 : Int32) = 0 ∨ (0 : Int32) = 1 from by first | exact Or.inl rfl | exact Or.inr rfl | exact z_or (by omega)), (show (0 : Int) = 1 → (pf 11).toInt + 1 < (tf 6).toInt ∧ so ta (pf 11) = 5 from by omega), (show R_mp_isAssigning ta pf (0 : Int32) from (Or.inl ⟨z1, ez1, Or.inr ⟨nc2, rfl⟩⟩))⟩) d_Mpg_isAssigning_14
abbrev b_Mpg_isPrefix : ByteArray := prog_16_method_30_code
def y_Mpg_isPrefix : MethodName := ⟨"HomeSystemModel$Program", "isPrefix", "()Z"⟩
theorem d_Mpg_isPrefix_0 : decode b_Mpg_isPrefix 0 = .ok (.aload_n 0, 1) := by decide +kernel
theorem d_Mpg_isPrefix_1 : decode b_Mpg_isPrefix 1 = .ok (.ldc 121, 2) := by decide +kernel
theorem d_Mpg_isPrefix_3 : decode b_Mpg_isPrefix 3 = .ok (.invokevirtual 366, 3) := by decide +kernel
theorem d_Mpg_isPrefix_6 : decode b_Mpg_isPrefix 6 = .ok (.ifCond .ne 48, 3) := by decide +kernel
theorem d_Mpg_isPrefix_9 : decode b_Mpg_isPrefix 9 = .ok (.aload_n 0, 1) := by decide +kernel
theorem d_Mpg_isPrefix_10 : decode b_Mpg_isPrefix 10 = .ok (.ldc 119, 2) := by decide +kernel
theorem d_Mpg_isPrefix_12 : decode b_Mpg_isPrefix 12 = .ok (.invokevirtual 366, 3) := by decide +kernel
theorem d_Mpg_isPrefix_15 : decode b_Mpg_isPrefix 15 = .ok (.ifCond .ne 39, 3) := by decide +kernel
theorem d_Mpg_isPrefix_18 : decode b_Mpg_isPrefix 18 = .ok (.aload_n 0, 1) := by decide +kernel
theorem d_Mpg_isPrefix_19 : decode b_Mpg_isPrefix 19 = .ok (.ldc 129, 2) := by decide +kernel
theorem d_Mpg_isPrefix_21 : decode b_Mpg_isPrefix 21 = .ok (.invokevirtual 366, 3) := by decide +kernel
theorem d_Mpg_isPrefix_24 : decode b_Mpg_isPrefix 24 = .ok (.ifCond .ne 30, 3) := by decide +kernel
theorem d_Mpg_isPrefix_27 : decode b_Mpg_isPrefix 27 = .ok (.aload_n 0, 1) := by decide +kernel
theorem d_Mpg_isPrefix_28 : decode b_Mpg_isPrefix 28 = .ok (.ldc 131, 2) := by decide +kernel
theorem d_Mpg_isPrefix_30 : decode b_Mpg_isPrefix 30 = .ok (.invokevirtual 366, 3) := by decide +kernel
theorem d_Mpg_isPrefix_33 : decode b_Mpg_isPrefix 33 = .ok (.ifCond .ne 21, 3) := by decide +kernel
theorem d_Mpg_isPrefix_36 : decode b_Mpg_isPrefix 36 = .ok (.aload_n 0, 1) := by decide +kernel
theorem d_Mpg_isPrefix_37 : decode b_Mpg_isPrefix 37 = .ok (.ldc 83, 2) := by decide +kernel
theorem d_Mpg_isPrefix_39 : decode b_Mpg_isPrefix 39 = .ok (.invokevirtual 366, 3) := by decide +kernel
theorem d_Mpg_isPrefix_42 : decode b_Mpg_isPrefix 42 = .ok (.ifCond .ne 12, 3) := by decide +kernel
theorem d_Mpg_isPrefix_45 : decode b_Mpg_isPrefix 45 = .ok (.aload_n 0, 1) := by decide +kernel
theorem d_Mpg_isPrefix_46 : decode b_Mpg_isPrefix 46 = .ok (.ldc 85, 2) := by decide +kernel
theorem d_Mpg_isPrefix_48 : decode b_Mpg_isPrefix 48 = .ok (.invokevirtual 366, 3) := by decide +kernel
theorem d_Mpg_isPrefix_51 : decode b_Mpg_isPrefix 51 = .ok (.ifCond .eq 7, 3) := by decide +kernel
theorem d_Mpg_isPrefix_54 : decode b_Mpg_isPrefix 54 = .ok (.iconst 1, 1) := by decide +kernel
theorem d_Mpg_isPrefix_55 : decode b_Mpg_isPrefix 55 = .ok (.goto 4, 3) := by decide +kernel
theorem d_Mpg_isPrefix_58 : decode b_Mpg_isPrefix 58 = .ok (.iconst 0, 1) := by decide +kernel
theorem d_Mpg_isPrefix_59 : decode b_Mpg_isPrefix 59 = .ok (.ireturn, 1) := by decide +kernel
theorem q_Mpg_isPrefix : px_y y_Mpg_isPrefix 0 := by unfold px_y; decide +kernel
set_option maxHeartbeats 4000000 in
set_option maxRecDepth 100000 in
theorem c_mp_isPrefix (l : Launch) (D : va_G) (cs : Nat → ClassId) (h : Nat) (r : Nat → Nat) (g : Nat → Nat → Option Nat) (tf : Nat → Int32) (ta : Nat → Nat → Int32) (pf : Nat → Int32) (na : Nat → Nat → Int32) (ma : Nat → Nat → Int32) (wa : Nat → Nat → Int32) (cf : Nat → Int32) (ca : Nat → Nat → Int32) (ef : Nat → Int32) (ea : Nat → Nat → Int32) (xf : Nat → Int32) (xa : Nat → Nat → Int32)  (g0 : 0 ≤ (pf 11).toInt) (g1 : (pf 11).toInt < (tf 6).toInt) (g2 : (tf 6).toInt ≤ 2049) (htk : TkI tf ta) : MetI l y_Mpg_isPrefix b_Mpg_isPrefix 1 (.boolean) D cs 4 160 (0) (0) [.ref h] [wdP cs h r g tf ta pf na ma wa cf ca ef ea xf xa] (oX (fun A U H => (oP A g U H)) [wdP cs h r g tf ta pf na ma wa cf ca ef ea xf xa]) (fun v ps => (ps = [wdP cs h r g tf ta pf na ma wa cf ca ef ea xf xa]) ∧ (v = 0 ∨ v = 1) ∧ (v.toInt = 1 → (pf 11).toInt + 1 < (tf 6).toInt ∧ so ta (pf 11) = 5) ∧ (R_mp_isPrefix ta pf v)) := by
  refine px_enter (by decide) (Nat.le_of_ble_eq_true rfl) ?_
  intro p e s m below meth c A ls hAe S hr hlk hnm hA hT hX hw hl
  have hl : lv_has ls 1 [(0, .ref h)] := hl
  have cst0 : (0 : Int32).toInt = 0 := rfl
  have cst1 : (1 : Int32).toInt = 1 := rfl
  have hX : (fun A U H => (oP A g U H)) A s s.heap := by rw [hAe]; exact hX
  have hP := hX
  have hZ := hP.1
  have hF0 := hP.2.1
  refine lv_aload_n S.x S.b d_Mpg_isPrefix_0 rfl (lv_at hl 0 rfl) ?_
  obtain ⟨sk1, hRsk1, st2, hSsk1⟩ := oP_litB hP (k := 121) (tx := "-") (n := 1) (List.mem_of_getElem? (i := 52) rfl)
  refine va_ldcS S.x S.b S.own hRsk1 d_Mpg_isPrefix_1 ?_
  first | refine px_calli (pr := []) (px_runV (As := [.ref sk1]) (rest := []) S (c_mp_is l D cs sk1 1 (lby "-") h r g tf ta pf na ma wa cf ca ef ea xf xa   (show 0 ≤ (pf 11).toInt from g0) (show (pf 11).toInt < (tf 6).toInt from g1) (show (tf 6).toInt ≤ 2049 from g2) (show 1 ≤ 100 from by omega) htk _) hT (pr := []) (pcs := [wdP cs h r g tf ta pf na ma wa cf ca ef ea xf xa]) hw (oX_call (P := (fun A U H => (oP A g U H) ∧ (StLt A sk1 1 (lby "-") U H))) (pr := []) (oG_and oG_P oG_QB) hw hA ⟨hP, ⟨_, hSsk1⟩⟩) (px_recv hT hw 0 0 rfl rfl rfl) m11_217 m11_214 m11_216 ms_8_14 m1_21 q_Mpg_is ⟨Nat.le_of_ble_eq_true rfl, Nat.le_of_ble_eq_true rfl⟩ hl.1 rfl (Nat.le_of_ble_eq_true rfl) d_Mpg_isPrefix_3 ⟨Nat.le_of_ble_eq_true rfl, Nat.le_of_ble_eq_true rfl⟩) hw hA (fun v5 p4 H locs hp4 hw => ?_) | (refine px_calli (pr := []) (px_runV (As := [.ref sk1]) (rest := []) S (c_mp_is l D cs sk1 1 (lby "-") h r g tf ta pf na ma wa cf ca ef ea xf xa   (show 0 ≤ (pf 11).toInt from by first | exact g0 | omega) (show (pf 11).toInt < (tf 6).toInt from by first | exact g1 | omega) (show (tf 6).toInt ≤ 2049 from by first | exact g2 | omega) (show 1 ≤ 100 from by omega) htk _) hT (pr := []) (pcs := [wdP cs h r g tf ta pf na ma wa cf ca ef ea xf xa]) hw (oX_call (P := (fun A U H => (oP A g U H) ∧ (StLt A sk1 1 (lby "-") U H))) (pr := []) (oG_and oG_P oG_QB) hw hA ⟨hP, ⟨_, hSsk1⟩⟩) (px_recv hT hw 0 0 rfl rfl rfl) m11_217 m11_214 m11_216 ms_8_14 m1_21 q_Mpg_is ⟨Nat.le_of_ble_eq_true rfl, Nat.le_of_ble_eq_true rfl⟩ hl.1 rfl (Nat.le_of_ble_eq_true rfl) d_Mpg_isPrefix_3 ⟨Nat.le_of_ble_eq_true rfl, Nat.le_of_ble_eq_true rfl⟩) hw hA (fun v5 p4 H locs hp4 hw => ?_))
  obtain ⟨rfl, e6, e7, e8⟩ := hp4
  have e6 := z_rng e6
  have e7 : v5.toInt = 1 → (pf 11).toInt + 1 < (tf 6).toInt ∧ so ta (pf 11) = 5 := e7
  have e8 : R_mp_is 1 (lby "-") ta pf v5 := e8
  have lv5 := Int32.le_toInt v5
  have uv5 := Int32.toInt_lt v5
  refine lv_if_ne (tgt := 54) S.x S.b d_Mpg_isPrefix_6 (by decide) (fun c9 => ?_) (fun c9 => ?_)
  · have nc9 : ¬ v5.toInt = (0 : Int) := mt (i_eq (x := v5) (y := 0)).mpr c9
    refine lv_iconst (v := 1) S.x S.b d_Mpg_isPrefix_54 (by decide) ?_
    refine lv_goto (tgt := 59) S.x S.b d_Mpg_isPrefix_55 (by decide) ?_
    exact px_iret (v := 1) S hr rfl hlk hAe hw (Nat.le_of_ble_eq_true rfl) (Nat.le_of_ble_eq_true rfl) (⟨rfl, (show (1 : Int32) = 0 ∨ (1 : Int32) = 1 from by first | exact Or.inl rfl | exact Or.inr rfl | exact z_or (by omega)), (show (1 : Int) = 1 → (pf 11).toInt + 1 < (tf 6).toInt ∧ so ta (pf 11) = 5 from by omega), (show R_mp_isPrefix ta pf (1 : Int32) from (Or.inl ⟨v5, e8, Or.inl ⟨nc9, rfl⟩⟩))⟩) d_Mpg_isPrefix_59
  · have nc9 : v5.toInt = (0 : Int) := (i_eq (x := v5) (y := 0)).mp c9
    refine lv_aload_n S.x S.b d_Mpg_isPrefix_9 rfl (lv_at hl 0 rfl) ?_
    obtain ⟨sk11, hRsk11, st12, hSsk11⟩ := oP_litB hP (k := 119) (tx := "+") (n := 1) (List.mem_of_getElem? (i := 51) rfl)
    refine va_ldcS S.x S.b S.own hRsk11 d_Mpg_isPrefix_10 ?_
    first | refine px_calli (pr := []) (px_runV (As := [.ref sk11]) (rest := []) S (c_mp_is l D cs sk11 1 (lby "+") h r g tf ta pf na ma wa cf ca ef ea xf xa   (show 0 ≤ (pf 11).toInt from g0) (show (pf 11).toInt < (tf 6).toInt from g1) (show (tf 6).toInt ≤ 2049 from g2) (show 1 ≤ 100 from by omega) htk _) hT (pr := []) (pcs := [wdP cs h r g tf ta pf na ma wa cf ca ef ea xf xa]) hw (oX_call (P := (fun A U H => (oP A g U H) ∧ (StLt A sk11 1 (lby "+") U H))) (pr := []) (oG_and oG_P oG_QB) hw hA ⟨hP, ⟨_, hSsk11⟩⟩) (px_recv hT hw 0 0 rfl rfl rfl) m11_217 m11_214 m11_216 ms_8_14 m1_21 q_Mpg_is ⟨Nat.le_of_ble_eq_true rfl, Nat.le_of_ble_eq_true rfl⟩ hl.1 rfl (Nat.le_of_ble_eq_true rfl) d_Mpg_isPrefix_12 ⟨Nat.le_of_ble_eq_true rfl, Nat.le_of_ble_eq_true rfl⟩) hw hA (fun v15 p14 H locs hp14 hw => ?_) | (refine px_calli (pr := []) (px_runV (As := [.ref sk11]) (rest := []) S (c_mp_is l D cs sk11 1 (lby "+") h r g tf ta pf na ma wa cf ca ef ea xf xa   (show 0 ≤ (pf 11).toInt from by first | exact g0 | omega) (show (pf 11).toInt < (tf 6).toInt from by first | exact g1 | omega) (show (tf 6).toInt ≤ 2049 from by first | exact g2 | omega) (show 1 ≤ 100 from by omega) htk _) hT (pr := []) (pcs := [wdP cs h r g tf ta pf na ma wa cf ca ef ea xf xa]) hw (oX_call (P := (fun A U H => (oP A g U H) ∧ (StLt A sk11 1 (lby "+") U H))) (pr := []) (oG_and oG_P oG_QB) hw hA ⟨hP, ⟨_, hSsk11⟩⟩) (px_recv hT hw 0 0 rfl rfl rfl) m11_217 m11_214 m11_216 ms_8_14 m1_21 q_Mpg_is ⟨Nat.le_of_ble_eq_true rfl, Nat.le_of_ble_eq_true rfl⟩ hl.1 rfl (Nat.le_of_ble_eq_true rfl) d_Mpg_isPrefix_12 ⟨Nat.le_of_ble_eq_true rfl, Nat.le_of_ble_eq_true rfl⟩) hw hA (fun v15 p14 H locs hp14 hw => ?_))
    obtain ⟨rfl, e16, e17, e18⟩ := hp14
    have e16 := z_rng e16
    have e17 : v15.toInt = 1 → (pf 11).toInt + 1 < (tf 6).toInt ∧ so ta (pf 11) = 5 := e17
    have e18 : R_mp_is 1 (lby "+") ta pf v15 := e18
    have lv15 := Int32.le_toInt v15
    have uv15 := Int32.toInt_lt v15
    refine lv_if_ne (tgt := 54) S.x S.b d_Mpg_isPrefix_15 (by decide) (fun c19 => ?_) (fun c19 => ?_)
    · have nc19 : ¬ v15.toInt = (0 : Int) := mt (i_eq (x := v15) (y := 0)).mpr c19
      refine lv_iconst (v := 1) S.x S.b d_Mpg_isPrefix_54 (by decide) ?_
      refine lv_goto (tgt := 59) S.x S.b d_Mpg_isPrefix_55 (by decide) ?_
      exact px_iret (v := 1) S hr rfl hlk hAe hw (Nat.le_of_ble_eq_true rfl) (Nat.le_of_ble_eq_true rfl) (⟨rfl, (show (1 : Int32) = 0 ∨ (1 : Int32) = 1 from by first | exact Or.inl rfl | exact Or.inr rfl | exact z_or (by omega)), (show (1 : Int) = 1 → (pf 11).toInt + 1 < (tf 6).toInt ∧ so ta (pf 11) = 5 from by omega), (show R_mp_isPrefix ta pf (1 : Int32) from (Or.inl ⟨v5, e8, Or.inr ⟨nc9, v15, e18, Or.inl ⟨nc19, rfl⟩⟩⟩))⟩) d_Mpg_isPrefix_59
    · have nc19 : v15.toInt = (0 : Int) := (i_eq (x := v15) (y := 0)).mp c19
      refine lv_aload_n S.x S.b d_Mpg_isPrefix_18 rfl (lv_at hl 0 rfl) ?_
      obtain ⟨sk21, hRsk21, st22, hSsk21⟩ := oP_litB hP (k := 129) (tx := "!") (n := 1) (List.mem_of_getElem? (i := 56) rfl)
      refine va_ldcS S.x S.b S.own hRsk21 d_Mpg_isPrefix_19 ?_
      first | refine px_calli (pr := []) (px_runV (As := [.ref sk21]) (rest := []) S (c_mp_is l D cs sk21 1 (lby "!") h r g tf ta pf na ma wa cf ca ef ea xf xa   (show 0 ≤ (pf 11).toInt from g0) (show (pf 11).toInt < (tf 6).toInt from g1) (show (tf 6).toInt ≤ 2049 from g2) (show 1 ≤ 100 from by omega) htk _) hT (pr := []) (pcs := [wdP cs h r g tf ta pf na ma wa cf ca ef ea xf xa]) hw (oX_call (P := (fun A U H => (oP A g U H) ∧ (StLt A sk21 1 (lby "!") U H))) (pr := []) (oG_and oG_P oG_QB) hw hA ⟨hP, ⟨_, hSsk21⟩⟩) (px_recv hT hw 0 0 rfl rfl rfl) m11_217 m11_214 m11_216 ms_8_14 m1_21 q_Mpg_is ⟨Nat.le_of_ble_eq_true rfl, Nat.le_of_ble_eq_true rfl⟩ hl.1 rfl (Nat.le_of_ble_eq_true rfl) d_Mpg_isPrefix_21 ⟨Nat.le_of_ble_eq_true rfl, Nat.le_of_ble_eq_true rfl⟩) hw hA (fun v25 p24 H locs hp24 hw => ?_) | (refine px_calli (pr := []) (px_runV (As := [.ref sk21]) (rest := []) S (c_mp_is l D cs sk21 1 (lby "!") h r g tf ta pf na ma wa cf ca ef ea xf xa   (show 0 ≤ (pf 11).toInt from by first | exact g0 | omega) (show (pf 11).toInt < (tf 6).toInt from by first | exact g1 | omega) (show (tf 6).toInt ≤ 2049 from by first | exact g2 | omega) (show 1 ≤ 100 from by omega) htk _) hT (pr := []) (pcs := [wdP cs h r g tf ta pf na ma wa cf ca ef ea xf xa]) hw (oX_call (P := (fun A U H => (oP A g U H) ∧ (StLt A sk21 1 (lby "!") U H))) (pr := []) (oG_and oG_P oG_QB) hw hA ⟨hP, ⟨_, hSsk21⟩⟩) (px_recv hT hw 0 0 rfl rfl rfl) m11_217 m11_214 m11_216 ms_8_14 m1_21 q_Mpg_is ⟨Nat.le_of_ble_eq_true rfl, Nat.le_of_ble_eq_true rfl⟩ hl.1 rfl (Nat.le_of_ble_eq_true rfl) d_Mpg_isPrefix_21 ⟨Nat.le_of_ble_eq_true rfl, Nat.le_of_ble_eq_true rfl⟩) hw hA (fun v25 p24 H locs hp24 hw => ?_))
      obtain ⟨rfl, e26, e27, e28⟩ := hp24
      have e26 := z_rng e26
      have e27 : v25.toInt = 1 → (pf 11).toInt + 1 < (tf 6).toInt ∧ so ta (pf 11) = 5 := e27
      have e28 : R_mp_is 1 (lby "!") ta pf v25 := e28
      have lv25 := Int32.le_toInt v25
      have uv25 := Int32.toInt_lt v25
      refine lv_if_ne (tgt := 54) S.x S.b d_Mpg_isPrefix_24 (by decide) (fun c29 => ?_) (fun c29 => ?_)
      · have nc29 : ¬ v25.toInt = (0 : Int) := mt (i_eq (x := v25) (y := 0)).mpr c29
        refine lv_iconst (v := 1) S.x S.b d_Mpg_isPrefix_54 (by decide) ?_
        refine lv_goto (tgt := 59) S.x S.b d_Mpg_isPrefix_55 (by decide) ?_
        exact px_iret (v := 1) S hr rfl hlk hAe hw (Nat.le_of_ble_eq_true rfl) (Nat.le_of_ble_eq_true rfl) (⟨rfl, (show (1 : Int32) = 0 ∨ (1 : Int32) = 1 from by first | exact Or.inl rfl | exact Or.inr rfl | exact z_or (by omega)), (show (1 : Int) = 1 → (pf 11).toInt + 1 < (tf 6).toInt ∧ so ta (pf 11) = 5 from by omega), (show R_mp_isPrefix ta pf (1 : Int32) from (Or.inl ⟨v5, e8, Or.inr ⟨nc9, v15, e18, Or.inr ⟨nc19, v25, e28, Or.inl ⟨nc29, rfl⟩⟩⟩⟩))⟩) d_Mpg_isPrefix_59
      · have nc29 : v25.toInt = (0 : Int) := (i_eq (x := v25) (y := 0)).mp c29
        refine lv_aload_n S.x S.b d_Mpg_isPrefix_27 rfl (lv_at hl 0 rfl) ?_
        obtain ⟨sk31, hRsk31, st32, hSsk31⟩ := oP_litB hP (k := 131) (tx := "~") (n := 1) (List.mem_of_getElem? (i := 57) rfl)
        refine va_ldcS S.x S.b S.own hRsk31 d_Mpg_isPrefix_28 ?_
        first | refine px_calli (pr := []) (px_runV (As := [.ref sk31]) (rest := []) S (c_mp_is l D cs sk31 1 (lby "~") h r g tf ta pf na ma wa cf ca ef ea xf xa   (show 0 ≤ (pf 11).toInt from g0) (show (pf 11).toInt < (tf 6).toInt from g1) (show (tf 6).toInt ≤ 2049 from g2) (show 1 ≤ 100 from by omega) htk _) hT (pr := []) (pcs := [wdP cs h r g tf ta pf na ma wa cf ca ef ea xf xa]) hw (oX_call (P := (fun A U H => (oP A g U H) ∧ (StLt A sk31 1 (lby "~") U H))) (pr := []) (oG_and oG_P oG_QB) hw hA ⟨hP, ⟨_, hSsk31⟩⟩) (px_recv hT hw 0 0 rfl rfl rfl) m11_217 m11_214 m11_216 ms_8_14 m1_21 q_Mpg_is ⟨Nat.le_of_ble_eq_true rfl, Nat.le_of_ble_eq_true rfl⟩ hl.1 rfl (Nat.le_of_ble_eq_true rfl) d_Mpg_isPrefix_30 ⟨Nat.le_of_ble_eq_true rfl, Nat.le_of_ble_eq_true rfl⟩) hw hA (fun v35 p34 H locs hp34 hw => ?_) | (refine px_calli (pr := []) (px_runV (As := [.ref sk31]) (rest := []) S (c_mp_is l D cs sk31 1 (lby "~") h r g tf ta pf na ma wa cf ca ef ea xf xa   (show 0 ≤ (pf 11).toInt from by first | exact g0 | omega) (show (pf 11).toInt < (tf 6).toInt from by first | exact g1 | omega) (show (tf 6).toInt ≤ 2049 from by first | exact g2 | omega) (show 1 ≤ 100 from by omega) htk _) hT (pr := []) (pcs := [wdP cs h r g tf ta pf na ma wa cf ca ef ea xf xa]) hw (oX_call (P := (fun A U H => (oP A g U H) ∧ (StLt A sk31 1 (lby "~") U H))) (pr := []) (oG_and oG_P oG_QB) hw hA ⟨hP, ⟨_, hSsk31⟩⟩) (px_recv hT hw 0 0 rfl rfl rfl) m11_217 m11_214 m11_216 ms_8_14 m1_21 q_Mpg_is ⟨Nat.le_of_ble_eq_true rfl, Nat.le_of_ble_eq_true rfl⟩ hl.1 rfl (Nat.le_of_ble_eq_true rfl) d_Mpg_isPrefix_30 ⟨Nat.le_of_ble_eq_true rfl, Nat.le_of_ble_eq_true rfl⟩) hw hA (fun v35 p34 H locs hp34 hw => ?_))
        obtain ⟨rfl, e36, e37, e38⟩ := hp34
        have e36 := z_rng e36
        have e37 : v35.toInt = 1 → (pf 11).toInt + 1 < (tf 6).toInt ∧ so ta (pf 11) = 5 := e37
        have e38 : R_mp_is 1 (lby "~") ta pf v35 := e38
        have lv35 := Int32.le_toInt v35
        have uv35 := Int32.toInt_lt v35
        refine lv_if_ne (tgt := 54) S.x S.b d_Mpg_isPrefix_33 (by decide) (fun c39 => ?_) (fun c39 => ?_)
        · have nc39 : ¬ v35.toInt = (0 : Int) := mt (i_eq (x := v35) (y := 0)).mpr c39
          refine lv_iconst (v := 1) S.x S.b d_Mpg_isPrefix_54 (by decide) ?_
          refine lv_goto (tgt := 59) S.x S.b d_Mpg_isPrefix_55 (by decide) ?_
          exact px_iret (v := 1) S hr rfl hlk hAe hw (Nat.le_of_ble_eq_true rfl) (Nat.le_of_ble_eq_true rfl) (⟨rfl, (show (1 : Int32) = 0 ∨ (1 : Int32) = 1 from by first | exact Or.inl rfl | exact Or.inr rfl | exact z_or (by omega)), (show (1 : Int) = 1 → (pf 11).toInt + 1 < (tf 6).toInt ∧ so ta (pf 11) = 5 from by omega), (show R_mp_isPrefix ta pf (1 : Int32) from (Or.inl ⟨v5, e8, Or.inr ⟨nc9, v15, e18, Or.inr ⟨nc19, v25, e28, Or.inr ⟨nc29, v35, e38, Or.inl ⟨nc39, rfl⟩⟩⟩⟩⟩))⟩) d_Mpg_isPrefix_59
        · have nc39 : v35.toInt = (0 : Int) := (i_eq (x := v35) (y := 0)).mp c39
          refine lv_aload_n S.x S.b d_Mpg_isPrefix_36 rfl (lv_at hl 0 rfl) ?_
          obtain ⟨sk41, hRsk41, st42, hSsk41⟩ := oP_litB hP (k := 83) (tx := "++") (n := 2) (List.mem_of_getElem? (i := 33) rfl)
          refine va_ldcS S.x S.b S.own hRsk41 d_Mpg_isPrefix_37 ?_
          first | refine px_calli (pr := []) (px_runV (As := [.ref sk41]) (rest := []) S (c_mp_is l D cs sk41 2 (lby "++") h r g tf ta pf na ma wa cf ca ef ea xf xa   (show 0 ≤ (pf 11).toInt from g0) (show (pf 11).toInt < (tf 6).toInt from g1) (show (tf 6).toInt ≤ 2049 from g2) (show 2 ≤ 100 from by omega) htk _) hT (pr := []) (pcs := [wdP cs h r g tf ta pf na ma wa cf ca ef ea xf xa]) hw (oX_call (P := (fun A U H => (oP A g U H) ∧ (StLt A sk41 2 (lby "++") U H))) (pr := []) (oG_and oG_P oG_QB) hw hA ⟨hP, ⟨_, hSsk41⟩⟩) (px_recv hT hw 0 0 rfl rfl rfl) m11_217 m11_214 m11_216 ms_8_14 m1_21 q_Mpg_is ⟨Nat.le_of_ble_eq_true rfl, Nat.le_of_ble_eq_true rfl⟩ hl.1 rfl (Nat.le_of_ble_eq_true rfl) d_Mpg_isPrefix_39 ⟨Nat.le_of_ble_eq_true rfl, Nat.le_of_ble_eq_true rfl⟩) hw hA (fun v45 p44 H locs hp44 hw => ?_) | (refine px_calli (pr := []) (px_runV (As := [.ref sk41]) (rest := []) S (c_mp_is l D cs sk41 2 (lby "++") h r g tf ta pf na ma wa cf ca ef ea xf xa   (show 0 ≤ (pf 11).toInt from by first | exact g0 | omega) (show (pf 11).toInt < (tf 6).toInt from by first | exact g1 | omega) (show (tf 6).toInt ≤ 2049 from by first | exact g2 | omega) (show 2 ≤ 100 from by omega) htk _) hT (pr := []) (pcs := [wdP cs h r g tf ta pf na ma wa cf ca ef ea xf xa]) hw (oX_call (P := (fun A U H => (oP A g U H) ∧ (StLt A sk41 2 (lby "++") U H))) (pr := []) (oG_and oG_P oG_QB) hw hA ⟨hP, ⟨_, hSsk41⟩⟩) (px_recv hT hw 0 0 rfl rfl rfl) m11_217 m11_214 m11_216 ms_8_14 m1_21 q_Mpg_is ⟨Nat.le_of_ble_eq_true rfl, Nat.le_of_ble_eq_true rfl⟩ hl.1 rfl (Nat.le_of_ble_eq_true rfl) d_Mpg_isPrefix_39 ⟨Nat.le_of_ble_eq_true rfl, Nat.le_of_ble_eq_true rfl⟩) hw hA (fun v45 p44 H locs hp44 hw => ?_))
          obtain ⟨rfl, e46, e47, e48⟩ := hp44
          have e46 := z_rng e46
          have e47 : v45.toInt = 1 → (pf 11).toInt + 1 < (tf 6).toInt ∧ so ta (pf 11) = 5 := e47
          have e48 : R_mp_is 2 (lby "++") ta pf v45 := e48
          have lv45 := Int32.le_toInt v45
          have uv45 := Int32.toInt_lt v45
          refine lv_if_ne (tgt := 54) S.x S.b d_Mpg_isPrefix_42 (by decide) (fun c49 => ?_) (fun c49 => ?_)
          · have nc49 : ¬ v45.toInt = (0 : Int) := mt (i_eq (x := v45) (y := 0)).mpr c49
            refine lv_iconst (v := 1) S.x S.b d_Mpg_isPrefix_54 (by decide) ?_
            refine lv_goto (tgt := 59) S.x S.b d_Mpg_isPrefix_55 (by decide) ?_
            exact px_iret (v := 1) S hr rfl hlk hAe hw (Nat.le_of_ble_eq_true rfl) (Nat.le_of_ble_eq_true rfl) (⟨rfl, (show (1 : Int32) = 0 ∨ (1 : Int32) = 1 from by first | exact Or.inl rfl | exact Or.inr rfl | exact z_or (by omega)), (show (1 : Int) = 1 → (pf 11).toInt + 1 < (tf 6).toInt ∧ so ta (pf 11) = 5 from by omega), (show R_mp_isPrefix ta pf (1 : Int32) from (Or.inl ⟨v5, e8, Or.inr ⟨nc9, v15, e18, Or.inr ⟨nc19, v25, e28, Or.inr ⟨nc29, v35, e38, Or.inr ⟨nc39, v45, e48, Or.inl ⟨nc49, rfl⟩⟩⟩⟩⟩⟩))⟩) d_Mpg_isPrefix_59
          · have nc49 : v45.toInt = (0 : Int) := (i_eq (x := v45) (y := 0)).mp c49
            refine lv_aload_n S.x S.b d_Mpg_isPrefix_45 rfl (lv_at hl 0 rfl) ?_
            obtain ⟨sk51, hRsk51, st52, hSsk51⟩ := oP_litB hP (k := 85) (tx := "--") (n := 2) (List.mem_of_getElem? (i := 34) rfl)
            refine va_ldcS S.x S.b S.own hRsk51 d_Mpg_isPrefix_46 ?_
            first | refine px_calli (pr := []) (px_runV (As := [.ref sk51]) (rest := []) S (c_mp_is l D cs sk51 2 (lby "--") h r g tf ta pf na ma wa cf ca ef ea xf xa   (show 0 ≤ (pf 11).toInt from g0) (show (pf 11).toInt < (tf 6).toInt from g1) (show (tf 6).toInt ≤ 2049 from g2) (show 2 ≤ 100 from by omega) htk _) hT (pr := []) (pcs := [wdP cs h r g tf ta pf na ma wa cf ca ef ea xf xa]) hw (oX_call (P := (fun A U H => (oP A g U H) ∧ (StLt A sk51 2 (lby "--") U H))) (pr := []) (oG_and oG_P oG_QB) hw hA ⟨hP, ⟨_, hSsk51⟩⟩) (px_recv hT hw 0 0 rfl rfl rfl) m11_217 m11_214 m11_216 ms_8_14 m1_21 q_Mpg_is ⟨Nat.le_of_ble_eq_true rfl, Nat.le_of_ble_eq_true rfl⟩ hl.1 rfl (Nat.le_of_ble_eq_true rfl) d_Mpg_isPrefix_48 ⟨Nat.le_of_ble_eq_true rfl, Nat.le_of_ble_eq_true rfl⟩) hw hA (fun v55 p54 H locs hp54 hw => ?_) | (refine px_calli (pr := []) (px_runV (As := [.ref sk51]) (rest := []) S (c_mp_is l D cs sk51 2 (lby "--") h r g tf ta pf na ma wa cf ca ef ea xf xa   (show 0 ≤ (pf 11).toInt from by first | exact g0 | omega) (show (pf 11).toInt < (tf 6).toInt from by first | exact g1 | omega) (show (tf 6).toInt ≤ 2049 from by first | exact g2 | omega) (show 2 ≤ 100 from by omega) htk _) hT (pr := []) (pcs := [wdP cs h r g tf ta pf na ma wa cf ca ef ea xf xa]) hw (oX_call (P := (fun A U H => (oP A g U H) ∧ (StLt A sk51 2 (lby "--") U H))) (pr := []) (oG_and oG_P oG_QB) hw hA ⟨hP, ⟨_, hSsk51⟩⟩) (px_recv hT hw 0 0 rfl rfl rfl) m11_217 m11_214 m11_216 ms_8_14 m1_21 q_Mpg_is ⟨Nat.le_of_ble_eq_true rfl, Nat.le_of_ble_eq_true rfl⟩ hl.1 rfl (Nat.le_of_ble_eq_true rfl) d_Mpg_isPrefix_48 ⟨Nat.le_of_ble_eq_true rfl, Nat.le_of_ble_eq_true rfl⟩) hw hA (fun v55 p54 H locs hp54 hw => ?_))
            obtain ⟨rfl, e56, e57, e58⟩ := hp54
            have e56 := z_rng e56
            have e57 : v55.toInt = 1 → (pf 11).toInt + 1 < (tf 6).toInt ∧ so ta (pf 11) = 5 := e57
            have e58 : R_mp_is 2 (lby "--") ta pf v55 := e58
            have lv55 := Int32.le_toInt v55
            have uv55 := Int32.toInt_lt v55
            refine lv_if_eq (tgt := 58) S.x S.b d_Mpg_isPrefix_51 (by decide) (fun c59 => ?_) (fun c59 => ?_)
            · have nc59 : v55.toInt = (0 : Int) := (i_eq (x := v55) (y := 0)).mp c59
              refine lv_iconst (v := 0) S.x S.b d_Mpg_isPrefix_58 (by decide) ?_
              exact px_iret (v := 0) S hr rfl hlk hAe hw (Nat.le_of_ble_eq_true rfl) (Nat.le_of_ble_eq_true rfl) (⟨rfl, (show (0 : Int32) = 0 ∨ (0 : Int32) = 1 from by first | exact Or.inl rfl | exact Or.inr rfl | exact z_or (by omega)), (show (0 : Int) = 1 → (pf 11).toInt + 1 < (tf 6).toInt ∧ so ta (pf 11) = 5 from by omega), (show R_mp_isPrefix ta pf (0 : Int32) from (Or.inl ⟨v5, e8, Or.inr ⟨nc9, v15, e18, Or.inr ⟨nc19, v25, e28, Or.inr ⟨nc29, v35, e38, Or.inr ⟨nc39, v45, e48, Or.inr ⟨nc49, v55, e58, Or.inl ⟨nc59, rfl⟩⟩⟩⟩⟩⟩⟩))⟩) d_Mpg_isPrefix_59
            · have nc59 : ¬ v55.toInt = (0 : Int) := mt (i_eq (x := v55) (y := 0)).mpr c59
              refine lv_iconst (v := 1) S.x S.b d_Mpg_isPrefix_54 (by decide) ?_
              refine lv_goto (tgt := 59) S.x S.b d_Mpg_isPrefix_55 (by decide) ?_
              exact px_iret (v := 1) S hr rfl hlk hAe hw (Nat.le_of_ble_eq_true rfl) (Nat.le_of_ble_eq_true rfl) (⟨rfl, (show (1 : Int32) = 0 ∨ (1 : Int32) = 1 from by first | exact Or.inl rfl | exact Or.inr rfl | exact z_or (by omega)), (show (1 : Int) = 1 → (pf 11).toInt + 1 < (tf 6).toInt ∧ so ta (pf 11) = 5 from by omega), (show R_mp_isPrefix ta pf (1 : Int32) from (Or.inl ⟨v5, e8, Or.inr ⟨nc9, v15, e18, Or.inr ⟨nc19, v25, e28, Or.inr ⟨nc29, v35, e38, Or.inr ⟨nc39, v45, e48, Or.inr ⟨nc49, v55, e58, Or.inr ⟨nc59, rfl⟩⟩⟩⟩⟩⟩⟩))⟩) d_Mpg_isPrefix_59
abbrev b_Mpg_deeper : ByteArray := prog_16_method_33_code
def y_Mpg_deeper : MethodName := ⟨"HomeSystemModel$Program", "deeper", "(II)I"⟩
theorem d_Mpg_deeper_0 : decode b_Mpg_deeper 0 = .ok (.iload_n 0, 1) := by decide +kernel
theorem d_Mpg_deeper_1 : decode b_Mpg_deeper 1 = .ok (.iload_n 1, 1) := by decide +kernel
theorem d_Mpg_deeper_2 : decode b_Mpg_deeper 2 = .ok (.if_icmp .le 7, 3) := by decide +kernel
theorem d_Mpg_deeper_5 : decode b_Mpg_deeper 5 = .ok (.iload_n 0, 1) := by decide +kernel
theorem d_Mpg_deeper_6 : decode b_Mpg_deeper 6 = .ok (.goto 4, 3) := by decide +kernel
theorem d_Mpg_deeper_9 : decode b_Mpg_deeper 9 = .ok (.iload_n 1, 1) := by decide +kernel
theorem d_Mpg_deeper_10 : decode b_Mpg_deeper 10 = .ok (.ireturn, 1) := by decide +kernel
theorem q_Mpg_deeper : px_y y_Mpg_deeper 2 := by unfold px_y; decide +kernel
set_option maxHeartbeats 4000000 in
set_option maxRecDepth 100000 in
theorem c_mp_deeper (l : Launch) (D : va_G) (cs : Nat → ClassId)  (p0 p1 : Int32)   : MetI l y_Mpg_deeper b_Mpg_deeper 2 (.int) D cs 0 0 (0) (0) [.int p0, .int p1] [] (fun _ => True) (fun v ps => (ps = []) ∧ (p0.toInt ≤ v.toInt) ∧ (p1.toInt ≤ v.toInt) ∧ (v.toInt = p0.toInt ∨ v.toInt = p1.toInt) ∧ (R_mp_deeper p0 p1 v)) := by
  refine px_enter (by decide) (Nat.le_of_ble_eq_true rfl) ?_
  intro p e s m below meth c A ls hAe S hr hlk hnm hA hT hX hw hl
  have hl : lv_has ls 2 [(0, .int p0), (1, .int p1)] := hl
  have lp0 := Int32.le_toInt p0
  have up0 := Int32.toInt_lt p0
  have lp1 := Int32.le_toInt p1
  have up1 := Int32.toInt_lt p1
  refine lv_iload_n S.x S.b d_Mpg_deeper_0 rfl (lv_at hl 0 rfl) ?_
  refine lv_iload_n S.x S.b d_Mpg_deeper_1 rfl (lv_at hl 1 rfl) ?_
  refine lv_icmp_le (tgt := 9) S.x S.b d_Mpg_deeper_2 (by decide) (fun c1 => ?_) (fun c1 => ?_)
  · have nc1 : p0.toInt ≤ p1.toInt := (i_le (x := p0) (y := p1)).mp c1
    refine lv_iload_n S.x S.b d_Mpg_deeper_9 rfl (lv_at hl 1 rfl) ?_
    first | exact px_iret (v := p1) S hr rfl hlk hAe hw (Nat.le_of_ble_eq_true rfl) (Nat.le_of_ble_eq_true rfl) (⟨rfl, (show p0.toInt ≤ p1.toInt from nc1), (show p1.toInt ≤ p1.toInt from oz_1cb5f934a5), (show p1.toInt = p0.toInt ∨ p1.toInt = p1.toInt from by omega), (show R_mp_deeper p0 p1 p1 from (Or.inl (Or.inl ⟨nc1, rfl⟩)))⟩) d_Mpg_deeper_10 | (exact px_iret (v := p1) S hr rfl hlk hAe hw (Nat.le_of_ble_eq_true rfl) (Nat.le_of_ble_eq_true rfl) (⟨rfl, (show p0.toInt ≤ p1.toInt from by first | exact nc1 | omega), (show p1.toInt ≤ p1.toInt from by first | exact oz_1cb5f934a5 | omega), (show p1.toInt = p0.toInt ∨ p1.toInt = p1.toInt from by omega), (show R_mp_deeper p0 p1 p1 from (Or.inl (Or.inl ⟨nc1, rfl⟩)))⟩) d_Mpg_deeper_10)
  · have nc1 : ¬ p0.toInt ≤ p1.toInt := mt (i_le (x := p0) (y := p1)).mpr c1
    refine lv_iload_n S.x S.b d_Mpg_deeper_5 rfl (lv_at hl 0 rfl) ?_
    refine lv_goto (tgt := 10) S.x S.b d_Mpg_deeper_6 (by decide) ?_
    first | exact px_iret (v := p0) S hr rfl hlk hAe hw (Nat.le_of_ble_eq_true rfl) (Nat.le_of_ble_eq_true rfl) (⟨rfl, (show p0.toInt ≤ p0.toInt from oz_1cb5f934a5), (show p1.toInt ≤ p0.toInt from (oz_37cf687dd6 nc1)), (show p0.toInt = p0.toInt ∨ p0.toInt = p1.toInt from by omega), (show R_mp_deeper p0 p1 p0 from (Or.inl (Or.inr ⟨nc1, rfl⟩)))⟩) d_Mpg_deeper_10 | (exact px_iret (v := p0) S hr rfl hlk hAe hw (Nat.le_of_ble_eq_true rfl) (Nat.le_of_ble_eq_true rfl) (⟨rfl, (show p0.toInt ≤ p0.toInt from by first | exact oz_1cb5f934a5 | omega), (show p1.toInt ≤ p0.toInt from by first | exact oz_37cf687dd6 nc1 | omega), (show p0.toInt = p0.toInt ∨ p0.toInt = p1.toInt from by omega), (show R_mp_deeper p0 p1 p0 from (Or.inl (Or.inr ⟨nc1, rfl⟩)))⟩) d_Mpg_deeper_10)
abbrev b_Mpg_isNothing : ByteArray := prog_16_method_35_code
def y_Mpg_isNothing : MethodName := ⟨"HomeSystemModel$Program", "isNothing", "(I)Z"⟩
theorem d_Mpg_isNothing_0 : decode b_Mpg_isNothing 0 = .ok (.aload_n 0, 1) := by decide +kernel
theorem d_Mpg_isNothing_1 : decode b_Mpg_isNothing 1 = .ok (.getfield 198, 3) := by decide +kernel
theorem d_Mpg_isNothing_4 : decode b_Mpg_isNothing 4 = .ok (.iload_n 1, 1) := by decide +kernel
theorem d_Mpg_isNothing_5 : decode b_Mpg_isNothing 5 = .ok (.iaload, 1) := by decide +kernel
theorem d_Mpg_isNothing_6 : decode b_Mpg_isNothing 6 = .ok (.iconst 1, 1) := by decide +kernel
theorem d_Mpg_isNothing_7 : decode b_Mpg_isNothing 7 = .ok (.if_icmp .ne 23, 3) := by decide +kernel
theorem d_Mpg_isNothing_10 : decode b_Mpg_isNothing 10 = .ok (.aload_n 0, 1) := by decide +kernel
theorem d_Mpg_isNothing_11 : decode b_Mpg_isNothing 11 = .ok (.getfield 190, 3) := by decide +kernel
theorem d_Mpg_isNothing_14 : decode b_Mpg_isNothing 14 = .ok (.aload_n 0, 1) := by decide +kernel
theorem d_Mpg_isNothing_15 : decode b_Mpg_isNothing 15 = .ok (.getfield 194, 3) := by decide +kernel
theorem d_Mpg_isNothing_18 : decode b_Mpg_isNothing 18 = .ok (.iload_n 1, 1) := by decide +kernel
theorem d_Mpg_isNothing_19 : decode b_Mpg_isNothing 19 = .ok (.iaload, 1) := by decide +kernel
theorem d_Mpg_isNothing_20 : decode b_Mpg_isNothing 20 = .ok (.baload, 1) := by decide +kernel
theorem d_Mpg_isNothing_21 : decode b_Mpg_isNothing 21 = .ok (.bipush 43, 2) := by decide +kernel
theorem d_Mpg_isNothing_23 : decode b_Mpg_isNothing 23 = .ok (.if_icmp .ne 7, 3) := by decide +kernel
theorem d_Mpg_isNothing_26 : decode b_Mpg_isNothing 26 = .ok (.iconst 1, 1) := by decide +kernel
theorem d_Mpg_isNothing_27 : decode b_Mpg_isNothing 27 = .ok (.goto 4, 3) := by decide +kernel
theorem d_Mpg_isNothing_30 : decode b_Mpg_isNothing 30 = .ok (.iconst 0, 1) := by decide +kernel
theorem d_Mpg_isNothing_31 : decode b_Mpg_isNothing 31 = .ok (.ireturn, 1) := by decide +kernel
theorem q_Mpg_isNothing : px_y y_Mpg_isNothing 1 := by unfold px_y; decide +kernel
set_option maxHeartbeats 4000000 in
set_option maxRecDepth 100000 in
theorem c_mp_isNothing (l : Launch) (D : va_G) (cs : Nat → ClassId) (h : Nat) (r : Nat → Nat) (g : Nat → Nat → Option Nat) (tf : Nat → Int32) (ta : Nat → Nat → Int32) (pf : Nat → Int32) (na : Nat → Nat → Int32) (ma : Nat → Nat → Int32) (wa : Nat → Nat → Int32) (cf : Nat → Int32) (ca : Nat → Nat → Int32) (ef : Nat → Int32) (ea : Nat → Nat → Int32) (xf : Nat → Int32) (xa : Nat → Nat → Int32) (p0 : Int32)  (g0 : 0 ≤ p0.toInt) (g1 : p0.toInt < (tf 6).toInt) (g2 : (tf 6).toInt ≤ 2049) (htk : TkI tf ta) : MetI l y_Mpg_isNothing b_Mpg_isNothing 2 (.boolean) D cs 0 0 (0) (0) [.ref h, .int p0] [wdP cs h r g tf ta pf na ma wa cf ca ef ea xf xa] (fun _ => True) (fun v ps => (ps = [wdP cs h r g tf ta pf na ma wa cf ca ef ea xf xa]) ∧ (v = 0 ∨ v = 1) ∧ (PlV ta p0 v.toInt) ∧ (R_mp_isNothing ta p0 v)) := by
  refine px_enter (by decide) (Nat.le_of_ble_eq_true rfl) ?_
  intro p e s m below meth c A ls hAe S hr hlk hnm hA hT hX hw hl
  have hl : lv_has ls 2 [(0, .ref h), (1, .int p0)] := hl
  have lp0 := Int32.le_toInt p0
  have up0 := Int32.toInt_lt p0
  have cst0 : (0 : Int32).toInt = 0 := rfl
  have cst1 : (1 : Int32).toInt = 1 := rfl
  have cst43 : (43 : Int32).toInt = 43 := rfl
  refine lv_aload_n S.x S.b d_Mpg_isNothing_0 rfl (lv_at hl 0 rfl) ?_
  refine gP_8 S hT hw 0 rfl m9_232 d_Mpg_isNothing_1 ?_
  refine lv_iload_n S.x S.b d_Mpg_isNothing_4 rfl (lv_at hl 1 rfl) ?_
  refine px_iald S hT hw 0 7 (n := 2060) (f := (ta 8)) rfl gp_8 (x := p0) (vp_in_iff.mpr (by first | exact oz_846323bf3a g0 g1 g2 | (constructor <;> omega))) d_Mpg_isNothing_5 ?_
  refine lv_topi (fun z1 ez1 => ?_)
  have lz1 := Int32.le_toInt z1
  have uz1 := Int32.toInt_lt z1
  have hbb := tk_b htk (x := p0) (by omega) (by omega); unfold bp sz at hbb; rw [← ez1] at hbb
  refine lv_iconst (v := 1) S.x S.b d_Mpg_isNothing_6 (by decide) ?_
  refine lv_icmp_ne (tgt := 30) S.x S.b d_Mpg_isNothing_7 (by decide) (fun c2 => ?_) (fun c2 => ?_)
  · have nc2 : ¬ z1.toInt = (1 : Int) := mt (i_eq (x := z1) (y := 1)).mpr c2
    refine lv_iconst (v := 0) S.x S.b d_Mpg_isNothing_30 (by decide) ?_
    exact px_iret (v := 0) S hr rfl hlk hAe hw (Nat.le_of_ble_eq_true rfl) (Nat.le_of_ble_eq_true rfl) (⟨rfl, (show (0 : Int32) = 0 ∨ (0 : Int32) = 1 from by first | exact Or.inl rfl | exact Or.inr rfl | exact z_or (by omega)), (show PlV ta p0 (0 : Int) from ⟨fun h => absurd h (by decide), fun _ hh => by first | (have q := hh.2; rw [← ezz, ← ezz] at q; omega) | (have q := hh.1; rw [← ez1] at q; omega)⟩), (show R_mp_isNothing ta p0 (0 : Int32) from (Or.inl ⟨z1, ez1, Or.inl ⟨nc2, rfl⟩⟩))⟩) d_Mpg_isNothing_31
  · have nc2 : z1.toInt = (1 : Int) := (i_eq (x := z1) (y := 1)).mp c2
    refine lv_aload_n S.x S.b d_Mpg_isNothing_10 rfl (lv_at hl 0 rfl) ?_
    refine gP_4 S hT hw 0 rfl m9_228 d_Mpg_isNothing_11 ?_
    refine lv_aload_n S.x S.b d_Mpg_isNothing_14 rfl (lv_at hl 0 rfl) ?_
    refine gP_7 S hT hw 0 rfl m9_231 d_Mpg_isNothing_15 ?_
    refine lv_iload_n S.x S.b d_Mpg_isNothing_18 rfl (lv_at hl 1 rfl) ?_
    refine px_iald S hT hw 0 6 (n := 2060) (f := (ta 7)) rfl gp_7 (x := p0) (vp_in_iff.mpr (by first | exact oz_846323bf3a g0 g1 g2 | (constructor <;> omega))) d_Mpg_isNothing_19 ?_
    refine lv_topi (fun z4 ez4 => ?_)
    have lz4 := Int32.le_toInt z4
    have uz4 := Int32.toInt_lt z4
    rw [← ez4] at hbb
    refine px_bald S hT hw 0 5 (n := 2048) (f := (ta 4)) rfl gp_4 (x := z4) (vp_in_iff.mpr (by constructor <;> omega)) d_Mpg_isNothing_20 ?_
    refine lv_topi (fun z5 ez5 => ?_)
    have lz5 := Int32.le_toInt z5
    have uz5 := Int32.toInt_lt z5
    refine lv_bipush (v := 43) S.x S.b d_Mpg_isNothing_21 (by decide) ?_
    refine lv_icmp_ne (tgt := 30) S.x S.b d_Mpg_isNothing_23 (by decide) (fun c6 => ?_) (fun c6 => ?_)
    · have nc6 : ¬ z5.toInt = (43 : Int) := mt (i_eq (x := z5) (y := 43)).mpr c6
      refine lv_iconst (v := 0) S.x S.b d_Mpg_isNothing_30 (by decide) ?_
      exact px_iret (v := 0) S hr rfl hlk hAe hw (Nat.le_of_ble_eq_true rfl) (Nat.le_of_ble_eq_true rfl) (⟨rfl, (show (0 : Int32) = 0 ∨ (0 : Int32) = 1 from by first | exact Or.inl rfl | exact Or.inr rfl | exact z_or (by omega)), (show PlV ta p0 (0 : Int) from ⟨fun h => absurd h (by decide), fun _ hh => by first | (have q := hh.2; rw [← ez4, ← ez5] at q; omega) | (have q := hh.1; rw [← ez1] at q; omega)⟩), (show R_mp_isNothing ta p0 (0 : Int32) from (Or.inl ⟨z1, ez1, Or.inr ⟨nc2, z4, ez4, z5, ez5, Or.inl ⟨nc6, rfl⟩⟩⟩))⟩) d_Mpg_isNothing_31
    · have nc6 : z5.toInt = (43 : Int) := (i_eq (x := z5) (y := 43)).mp c6
      refine lv_iconst (v := 1) S.x S.b d_Mpg_isNothing_26 (by decide) ?_
      refine lv_goto (tgt := 31) S.x S.b d_Mpg_isNothing_27 (by decide) ?_
      exact px_iret (v := 1) S hr rfl hlk hAe hw (Nat.le_of_ble_eq_true rfl) (Nat.le_of_ble_eq_true rfl) (⟨rfl, (show (1 : Int32) = 0 ∨ (1 : Int32) = 1 from by first | exact Or.inl rfl | exact Or.inr rfl | exact z_or (by omega)), (show PlV ta p0 (1 : Int) from ⟨fun _ => ⟨by rw [← ez1]; omega, by rw [← ez4, ← ez5]; omega⟩, fun h => absurd h (by decide)⟩), (show R_mp_isNothing ta p0 (1 : Int32) from (Or.inl ⟨z1, ez1, Or.inr ⟨nc2, z4, ez4, z5, ez5, Or.inr ⟨nc6, rfl⟩⟩⟩))⟩) d_Mpg_isNothing_31
abbrev b_Mpg_rank : ByteArray := prog_16_method_28_code
def y_Mpg_rank : MethodName := ⟨"HomeSystemModel$Program", "rank", "(I)I"⟩
theorem d_Mpg_rank_0 : decode b_Mpg_rank 0 = .ok (.aload_n 0, 1) := by decide +kernel
theorem d_Mpg_rank_1 : decode b_Mpg_rank 1 = .ok (.getfield 201, 3) := by decide +kernel
theorem d_Mpg_rank_4 : decode b_Mpg_rank 4 = .ok (.iload_n 1, 1) := by decide +kernel
theorem d_Mpg_rank_5 : decode b_Mpg_rank 5 = .ok (.baload, 1) := by decide +kernel
theorem d_Mpg_rank_6 : decode b_Mpg_rank 6 = .ok (.iconst 5, 1) := by decide +kernel
theorem d_Mpg_rank_7 : decode b_Mpg_rank 7 = .ok (.if_icmp .eq 5, 3) := by decide +kernel
theorem d_Mpg_rank_10 : decode b_Mpg_rank 10 = .ok (.iconst 0, 1) := by decide +kernel
theorem d_Mpg_rank_11 : decode b_Mpg_rank 11 = .ok (.ireturn, 1) := by decide +kernel
theorem d_Mpg_rank_12 : decode b_Mpg_rank 12 = .ok (.aload_n 0, 1) := by decide +kernel
theorem d_Mpg_rank_13 : decode b_Mpg_rank 13 = .ok (.getfield 133, 3) := by decide +kernel
theorem d_Mpg_rank_16 : decode b_Mpg_rank 16 = .ok (.aload_n 0, 1) := by decide +kernel
theorem d_Mpg_rank_17 : decode b_Mpg_rank 17 = .ok (.getfield 204, 3) := by decide +kernel
theorem d_Mpg_rank_20 : decode b_Mpg_rank 20 = .ok (.iload_n 1, 1) := by decide +kernel
theorem d_Mpg_rank_21 : decode b_Mpg_rank 21 = .ok (.iaload, 1) := by decide +kernel
theorem d_Mpg_rank_22 : decode b_Mpg_rank 22 = .ok (.aaload, 1) := by decide +kernel
theorem d_Mpg_rank_23 : decode b_Mpg_rank 23 = .ok (.astore_n 2, 1) := by decide +kernel
theorem d_Mpg_rank_24 : decode b_Mpg_rank 24 = .ok (.aload_n 2, 1) := by decide +kernel
theorem d_Mpg_rank_25 : decode b_Mpg_rank 25 = .ok (.invokevirtual 307, 3) := by decide +kernel
theorem d_Mpg_rank_28 : decode b_Mpg_rank 28 = .ok (.iconst 2, 1) := by decide +kernel
theorem d_Mpg_rank_29 : decode b_Mpg_rank 29 = .ok (.if_icmp .ne 100, 3) := by decide +kernel
theorem d_Mpg_rank_32 : decode b_Mpg_rank 32 = .ok (.aload_n 2, 1) := by decide +kernel
theorem d_Mpg_rank_33 : decode b_Mpg_rank 33 = .ok (.ldc 67, 2) := by decide +kernel
theorem d_Mpg_rank_35 : decode b_Mpg_rank 35 = .ok (.invokevirtual 356, 3) := by decide +kernel
theorem d_Mpg_rank_38 : decode b_Mpg_rank 38 = .ok (.ifCond .eq 7, 3) := by decide +kernel
theorem d_Mpg_rank_41 : decode b_Mpg_rank 41 = .ok (.iconst 1, 1) := by decide +kernel
theorem d_Mpg_rank_42 : decode b_Mpg_rank 42 = .ok (.goto 86, 3) := by decide +kernel
theorem d_Mpg_rank_45 : decode b_Mpg_rank 45 = .ok (.aload_n 2, 1) := by decide +kernel
theorem d_Mpg_rank_46 : decode b_Mpg_rank 46 = .ok (.ldc 69, 2) := by decide +kernel
theorem d_Mpg_rank_48 : decode b_Mpg_rank 48 = .ok (.invokevirtual 356, 3) := by decide +kernel
theorem d_Mpg_rank_51 : decode b_Mpg_rank 51 = .ok (.ifCond .eq 7, 3) := by decide +kernel
theorem d_Mpg_rank_54 : decode b_Mpg_rank 54 = .ok (.iconst 2, 1) := by decide +kernel
theorem d_Mpg_rank_55 : decode b_Mpg_rank 55 = .ok (.goto 73, 3) := by decide +kernel
theorem d_Mpg_rank_58 : decode b_Mpg_rank 58 = .ok (.aload_n 2, 1) := by decide +kernel
theorem d_Mpg_rank_59 : decode b_Mpg_rank 59 = .ok (.ldc 71, 2) := by decide +kernel
theorem d_Mpg_rank_61 : decode b_Mpg_rank 61 = .ok (.invokevirtual 356, 3) := by decide +kernel
theorem d_Mpg_rank_64 : decode b_Mpg_rank 64 = .ok (.ifCond .ne 12, 3) := by decide +kernel
theorem d_Mpg_rank_67 : decode b_Mpg_rank 67 = .ok (.aload_n 2, 1) := by decide +kernel
theorem d_Mpg_rank_68 : decode b_Mpg_rank 68 = .ok (.ldc 73, 2) := by decide +kernel
theorem d_Mpg_rank_70 : decode b_Mpg_rank 70 = .ok (.invokevirtual 356, 3) := by decide +kernel
theorem d_Mpg_rank_73 : decode b_Mpg_rank 73 = .ok (.ifCond .eq 8, 3) := by decide +kernel
theorem d_Mpg_rank_76 : decode b_Mpg_rank 76 = .ok (.bipush 6, 2) := by decide +kernel
theorem d_Mpg_rank_78 : decode b_Mpg_rank 78 = .ok (.goto 50, 3) := by decide +kernel
theorem d_Mpg_rank_81 : decode b_Mpg_rank 81 = .ok (.aload_n 2, 1) := by decide +kernel
theorem d_Mpg_rank_82 : decode b_Mpg_rank 82 = .ok (.ldc 75, 2) := by decide +kernel
theorem d_Mpg_rank_84 : decode b_Mpg_rank 84 = .ok (.invokevirtual 356, 3) := by decide +kernel
theorem d_Mpg_rank_87 : decode b_Mpg_rank 87 = .ok (.ifCond .ne 12, 3) := by decide +kernel
theorem d_Mpg_rank_90 : decode b_Mpg_rank 90 = .ok (.aload_n 2, 1) := by decide +kernel
theorem d_Mpg_rank_91 : decode b_Mpg_rank 91 = .ok (.ldc 77, 2) := by decide +kernel
theorem d_Mpg_rank_93 : decode b_Mpg_rank 93 = .ok (.invokevirtual 356, 3) := by decide +kernel
theorem d_Mpg_rank_96 : decode b_Mpg_rank 96 = .ok (.ifCond .eq 8, 3) := by decide +kernel
theorem d_Mpg_rank_99 : decode b_Mpg_rank 99 = .ok (.bipush 7, 2) := by decide +kernel
theorem d_Mpg_rank_101 : decode b_Mpg_rank 101 = .ok (.goto 27, 3) := by decide +kernel
theorem d_Mpg_rank_104 : decode b_Mpg_rank 104 = .ok (.aload_n 2, 1) := by decide +kernel
theorem d_Mpg_rank_105 : decode b_Mpg_rank 105 = .ok (.ldc 79, 2) := by decide +kernel
theorem d_Mpg_rank_107 : decode b_Mpg_rank 107 = .ok (.invokevirtual 356, 3) := by decide +kernel
theorem d_Mpg_rank_110 : decode b_Mpg_rank 110 = .ok (.ifCond .ne 12, 3) := by decide +kernel
theorem d_Mpg_rank_113 : decode b_Mpg_rank 113 = .ok (.aload_n 2, 1) := by decide +kernel
theorem d_Mpg_rank_114 : decode b_Mpg_rank 114 = .ok (.ldc 81, 2) := by decide +kernel
theorem d_Mpg_rank_116 : decode b_Mpg_rank 116 = .ok (.invokevirtual 356, 3) := by decide +kernel
theorem d_Mpg_rank_119 : decode b_Mpg_rank 119 = .ok (.ifCond .eq 8, 3) := by decide +kernel
theorem d_Mpg_rank_122 : decode b_Mpg_rank 122 = .ok (.bipush 8, 2) := by decide +kernel
theorem d_Mpg_rank_124 : decode b_Mpg_rank 124 = .ok (.goto 4, 3) := by decide +kernel
theorem d_Mpg_rank_127 : decode b_Mpg_rank 127 = .ok (.iconst 0, 1) := by decide +kernel
theorem d_Mpg_rank_128 : decode b_Mpg_rank 128 = .ok (.ireturn, 1) := by decide +kernel
theorem d_Mpg_rank_129 : decode b_Mpg_rank 129 = .ok (.aload_n 2, 1) := by decide +kernel
theorem d_Mpg_rank_130 : decode b_Mpg_rank 130 = .ok (.invokevirtual 307, 3) := by decide +kernel
theorem d_Mpg_rank_133 : decode b_Mpg_rank 133 = .ok (.iconst 1, 1) := by decide +kernel
theorem d_Mpg_rank_134 : decode b_Mpg_rank 134 = .ok (.if_icmp .eq 5, 3) := by decide +kernel
theorem d_Mpg_rank_137 : decode b_Mpg_rank 137 = .ok (.iconst 0, 1) := by decide +kernel
theorem d_Mpg_rank_138 : decode b_Mpg_rank 138 = .ok (.ireturn, 1) := by decide +kernel
theorem d_Mpg_rank_139 : decode b_Mpg_rank 139 = .ok (.aload_n 2, 1) := by decide +kernel
theorem d_Mpg_rank_140 : decode b_Mpg_rank 140 = .ok (.iconst 0, 1) := by decide +kernel
theorem d_Mpg_rank_141 : decode b_Mpg_rank 141 = .ok (.invokevirtual 310, 3) := by decide +kernel
theorem d_Mpg_rank_144 : decode b_Mpg_rank 144 = .ok (.istore_n 3, 1) := by decide +kernel
theorem d_Mpg_rank_145 : decode b_Mpg_rank 145 = .ok (.iload_n 3, 1) := by decide +kernel
theorem d_Mpg_rank_146 : decode b_Mpg_rank 146 = .ok (.bipush 124, 2) := by decide +kernel
theorem d_Mpg_rank_148 : decode b_Mpg_rank 148 = .ok (.if_icmp .ne 7, 3) := by decide +kernel
theorem d_Mpg_rank_151 : decode b_Mpg_rank 151 = .ok (.iconst 3, 1) := by decide +kernel
theorem d_Mpg_rank_152 : decode b_Mpg_rank 152 = .ok (.goto 81, 3) := by decide +kernel
theorem d_Mpg_rank_155 : decode b_Mpg_rank 155 = .ok (.iload_n 3, 1) := by decide +kernel
theorem d_Mpg_rank_156 : decode b_Mpg_rank 156 = .ok (.bipush 94, 2) := by decide +kernel
theorem d_Mpg_rank_158 : decode b_Mpg_rank 158 = .ok (.if_icmp .ne 7, 3) := by decide +kernel
theorem d_Mpg_rank_161 : decode b_Mpg_rank 161 = .ok (.iconst 4, 1) := by decide +kernel
theorem d_Mpg_rank_162 : decode b_Mpg_rank 162 = .ok (.goto 71, 3) := by decide +kernel
theorem d_Mpg_rank_165 : decode b_Mpg_rank 165 = .ok (.iload_n 3, 1) := by decide +kernel
theorem d_Mpg_rank_166 : decode b_Mpg_rank 166 = .ok (.bipush 38, 2) := by decide +kernel
theorem d_Mpg_rank_168 : decode b_Mpg_rank 168 = .ok (.if_icmp .ne 7, 3) := by decide +kernel
theorem d_Mpg_rank_171 : decode b_Mpg_rank 171 = .ok (.iconst 5, 1) := by decide +kernel
theorem d_Mpg_rank_172 : decode b_Mpg_rank 172 = .ok (.goto 61, 3) := by decide +kernel
theorem d_Mpg_rank_175 : decode b_Mpg_rank 175 = .ok (.iload_n 3, 1) := by decide +kernel
theorem d_Mpg_rank_176 : decode b_Mpg_rank 176 = .ok (.bipush 60, 2) := by decide +kernel
theorem d_Mpg_rank_178 : decode b_Mpg_rank 178 = .ok (.if_icmp .eq 9, 3) := by decide +kernel
theorem d_Mpg_rank_181 : decode b_Mpg_rank 181 = .ok (.iload_n 3, 1) := by decide +kernel
theorem d_Mpg_rank_182 : decode b_Mpg_rank 182 = .ok (.bipush 62, 2) := by decide +kernel
theorem d_Mpg_rank_184 : decode b_Mpg_rank 184 = .ok (.if_icmp .ne 8, 3) := by decide +kernel
theorem d_Mpg_rank_187 : decode b_Mpg_rank 187 = .ok (.bipush 7, 2) := by decide +kernel
theorem d_Mpg_rank_189 : decode b_Mpg_rank 189 = .ok (.goto 44, 3) := by decide +kernel
theorem d_Mpg_rank_192 : decode b_Mpg_rank 192 = .ok (.iload_n 3, 1) := by decide +kernel
theorem d_Mpg_rank_193 : decode b_Mpg_rank 193 = .ok (.bipush 43, 2) := by decide +kernel
theorem d_Mpg_rank_195 : decode b_Mpg_rank 195 = .ok (.if_icmp .eq 9, 3) := by decide +kernel
theorem d_Mpg_rank_198 : decode b_Mpg_rank 198 = .ok (.iload_n 3, 1) := by decide +kernel
theorem d_Mpg_rank_199 : decode b_Mpg_rank 199 = .ok (.bipush 45, 2) := by decide +kernel
theorem d_Mpg_rank_201 : decode b_Mpg_rank 201 = .ok (.if_icmp .ne 8, 3) := by decide +kernel
theorem d_Mpg_rank_204 : decode b_Mpg_rank 204 = .ok (.bipush 9, 2) := by decide +kernel
theorem d_Mpg_rank_206 : decode b_Mpg_rank 206 = .ok (.goto 27, 3) := by decide +kernel
theorem d_Mpg_rank_209 : decode b_Mpg_rank 209 = .ok (.iload_n 3, 1) := by decide +kernel
theorem d_Mpg_rank_210 : decode b_Mpg_rank 210 = .ok (.bipush 42, 2) := by decide +kernel
theorem d_Mpg_rank_212 : decode b_Mpg_rank 212 = .ok (.if_icmp .eq 15, 3) := by decide +kernel
theorem d_Mpg_rank_215 : decode b_Mpg_rank 215 = .ok (.iload_n 3, 1) := by decide +kernel
theorem d_Mpg_rank_216 : decode b_Mpg_rank 216 = .ok (.bipush 47, 2) := by decide +kernel
theorem d_Mpg_rank_218 : decode b_Mpg_rank 218 = .ok (.if_icmp .eq 9, 3) := by decide +kernel
theorem d_Mpg_rank_221 : decode b_Mpg_rank 221 = .ok (.iload_n 3, 1) := by decide +kernel
theorem d_Mpg_rank_222 : decode b_Mpg_rank 222 = .ok (.bipush 37, 2) := by decide +kernel
theorem d_Mpg_rank_224 : decode b_Mpg_rank 224 = .ok (.if_icmp .ne 8, 3) := by decide +kernel
theorem d_Mpg_rank_227 : decode b_Mpg_rank 227 = .ok (.bipush 10, 2) := by decide +kernel
theorem d_Mpg_rank_229 : decode b_Mpg_rank 229 = .ok (.goto 4, 3) := by decide +kernel
theorem d_Mpg_rank_232 : decode b_Mpg_rank 232 = .ok (.iconst 0, 1) := by decide +kernel
theorem d_Mpg_rank_233 : decode b_Mpg_rank 233 = .ok (.ireturn, 1) := by decide +kernel
theorem q_Mpg_rank : px_y y_Mpg_rank 1 := by unfold px_y; decide +kernel
set_option maxHeartbeats 4000000 in
set_option maxRecDepth 100000 in
theorem c_mp_rank (l : Launch) (D : va_G) (cs : Nat → ClassId) (h : Nat) (r : Nat → Nat) (g : Nat → Nat → Option Nat) (tf : Nat → Int32) (ta : Nat → Nat → Int32) (pf : Nat → Int32) (na : Nat → Nat → Int32) (ma : Nat → Nat → Int32) (wa : Nat → Nat → Int32) (cf : Nat → Int32) (ca : Nat → Nat → Int32) (ef : Nat → Int32) (ea : Nat → Nat → Int32) (xf : Nat → Int32) (xa : Nat → Nat → Int32) (p0 : Int32)  (g0 : 0 ≤ p0.toInt) (g1 : p0.toInt < (tf 6).toInt) (g2 : (tf 6).toInt ≤ 2049) (htk : TkI tf ta) : MetI l y_Mpg_rank b_Mpg_rank 4 (.int) D cs 4 160 (0) (0) [.ref h, .int p0] [wdP cs h r g tf ta pf na ma wa cf ca ef ea xf xa] (oX (fun A U H => (oP A g U H)) [wdP cs h r g tf ta pf na ma wa cf ca ef ea xf xa]) (fun v ps => (ps = [wdP cs h r g tf ta pf na ma wa cf ca ef ea xf xa]) ∧ (0 ≤ v.toInt) ∧ (v.toInt ≤ 10) ∧ (1 ≤ v.toInt → p0.toInt + 1 < (tf 6).toInt ∧ so ta p0 = 5) ∧ (1 ≤ v.toInt → v.toInt ≤ 2 → sz ta p0 = 2) ∧ (R_mp_rank ta p0 v)) := by
  refine px_enter (by decide) (Nat.le_of_ble_eq_true rfl) ?_
  intro p e s m below meth c A ls hAe S hr hlk hnm hA hT hX hw hl
  have hl : lv_has ls 4 [(0, .ref h), (1, .int p0)] := hl
  have lp0 := Int32.le_toInt p0
  have up0 := Int32.toInt_lt p0
  have cst0 : (0 : Int32).toInt = 0 := rfl
  have cst1 : (1 : Int32).toInt = 1 := rfl
  have cst2 : (2 : Int32).toInt = 2 := rfl
  have cst3 : (3 : Int32).toInt = 3 := rfl
  have cst4 : (4 : Int32).toInt = 4 := rfl
  have cst5 : (5 : Int32).toInt = 5 := rfl
  have cst6 : (6 : Int32).toInt = 6 := rfl
  have cst7 : (7 : Int32).toInt = 7 := rfl
  have cst8 : (8 : Int32).toInt = 8 := rfl
  have cst9 : (9 : Int32).toInt = 9 := rfl
  have cst10 : (10 : Int32).toInt = 10 := rfl
  have cst37 : (37 : Int32).toInt = 37 := rfl
  have cst38 : (38 : Int32).toInt = 38 := rfl
  have cst42 : (42 : Int32).toInt = 42 := rfl
  have cst43 : (43 : Int32).toInt = 43 := rfl
  have cst45 : (45 : Int32).toInt = 45 := rfl
  have cst47 : (47 : Int32).toInt = 47 := rfl
  have cst60 : (60 : Int32).toInt = 60 := rfl
  have cst62 : (62 : Int32).toInt = 62 := rfl
  have cst94 : (94 : Int32).toInt = 94 := rfl
  have cst124 : (124 : Int32).toInt = 124 := rfl
  have hX : (fun A U H => (oP A g U H)) A s s.heap := by rw [hAe]; exact hX
  have hP := hX
  have hZ := hP.1
  have hF0 := hP.2.1
  refine lv_aload_n S.x S.b d_Mpg_rank_0 rfl (lv_at hl 0 rfl) ?_
  refine gP_9 S hT hw 0 rfl m9_233 d_Mpg_rank_1 ?_
  refine lv_iload_n S.x S.b d_Mpg_rank_4 rfl (lv_at hl 1 rfl) ?_
  refine px_bald S hT hw 0 8 (n := 2060) (f := (ta 9)) rfl gp_9 (x := p0) (vp_in_iff.mpr (by first | exact oz_846323bf3a g0 g1 g2 | (constructor <;> omega))) d_Mpg_rank_5 ?_
  refine lv_topi (fun z1 ez1 => ?_)
  have lz1 := Int32.le_toInt z1
  have uz1 := Int32.toInt_lt z1
  have rz1 := tk_s htk (x := p0) (by omega) (by omega) ez1
  refine lv_iconst (v := 5) S.x S.b d_Mpg_rank_6 (by decide) ?_
  refine lv_icmp_eq (tgt := 12) S.x S.b d_Mpg_rank_7 (by decide) (fun c2 => ?_) (fun c2 => ?_)
  · have nc2 : z1.toInt = (5 : Int) := (i_eq (x := z1) (y := 5)).mp c2
    refine lv_aload_n S.x S.b d_Mpg_rank_12 rfl (lv_at hl 0 rfl) ?_
    refine gP_1 S hT hw 0 rfl m9_224 d_Mpg_rank_13 ?_
    refine lv_aload_n S.x S.b d_Mpg_rank_16 rfl (lv_at hl 0 rfl) ?_
    refine gP_10 S hT hw 0 rfl m9_234 d_Mpg_rank_17 ?_
    refine lv_iload_n S.x S.b d_Mpg_rank_20 rfl (lv_at hl 1 rfl) ?_
    refine px_iald S hT hw 0 9 (n := 2060) (f := (ta 10)) rfl gp_10 (x := p0) (vp_in_iff.mpr (by first | exact oz_846323bf3a g0 g1 g2 | (constructor <;> omega))) d_Mpg_rank_21 ?_
    refine lv_topi (fun z4 ez4 => ?_)
    have lz4 := Int32.le_toInt z4
    have uz4 := Int32.toInt_lt z4
    have wz4 := tk_w5 htk (by omega) (by omega) ez4 (by omega)
    first | have hclsk5 := cl_nat (x := z4) (wz4.1) | (have hclsk5 := cl_nat (x := z4) (by first | exact wz4.1 | omega))
    obtain ⟨sk5, hgsk5, st6, hSsk5⟩ := oP_1B hP (i := z4.toNatClampNeg) (by omega)
    have hmsk5 := len_1 (i := z4.toNatClampNeg) (by omega)
    refine px_aaldS S hT hw 0 2 11 (n := 43) (f := (g 1)) rfl rfl rfl (x := z4) (vp_in_iff.mpr (by first | exact oz_00605904cf hclsk5 wz4.2.1 | (constructor <;> omega))) hgsk5 d_Mpg_rank_22 ?_
    refine lv_astore_n (lv' := [(2, .ref sk5), (0, .ref h), (1, .int p0)]) S.x S.b d_Mpg_rank_23 rfl hl (by decide) rfl (fun ls hl => ?_)
    refine lv_aload_n S.x S.b d_Mpg_rank_24 rfl (lv_at hl 0 rfl) ?_
    refine px_calli (pr := [wdP cs h r g tf ta pf na ma wa cf ca ef ea xf xa]) (px_runV (As := []) (rest := []) S (c_String_length l D cs sk5 st6 (mlen z4.toNatClampNeg) (mby z4.toNatClampNeg)   (show (mlen z4.toNatClampNeg) ≤ 1000000 from by omega) _) hT (pr := [wdP cs h r g tf ta pf na ma wa cf ca ef ea xf xa]) (pcs := []) hw (oX_call (P := (fun A U H => (oZ A U H) ∧ (oS A sk5 st6 (mlen z4.toNatClampNeg) (mby z4.toNatClampNeg) U H))) (pr := [wdP cs h r g tf ta pf na ma wa cf ca ef ea xf xa]) (oG_and oG_Z oG_S) hw hA ⟨hZ, hSsk5⟩) (oS_recv hw hSsk5) m1_58 m11_157 m1_56 m1_57 m1_3 q_String_length ⟨Nat.le_of_ble_eq_true rfl, Nat.le_of_ble_eq_true rfl⟩ hl.1 rfl (Nat.le_of_ble_eq_true rfl) d_Mpg_rank_25 ⟨Nat.le_of_ble_eq_true rfl, Nat.le_of_ble_eq_true rfl⟩) hw hA (fun v9 p8 H locs hp8 hw => ?_)
    obtain ⟨rfl, e10, e11⟩ := hp8
    have e10 : v9.toInt = ((mlen z4.toNatClampNeg) : Int) := e10
    have e11 : R_String_length (mlen z4.toNatClampNeg) v9 := e11
    have lv9 := Int32.le_toInt v9
    have uv9 := Int32.toInt_lt v9
    refine lv_iconst (v := 2) S.x S.b d_Mpg_rank_28 (by decide) ?_
    refine lv_icmp_ne (tgt := 129) S.x S.b d_Mpg_rank_29 (by decide) (fun c12 => ?_) (fun c12 => ?_)
    · have nc12 : ¬ v9.toInt = (2 : Int) := mt (i_eq (x := v9) (y := 2)).mpr c12
      refine lv_aload_n S.x S.b d_Mpg_rank_129 rfl (lv_at hl 0 rfl) ?_
      refine px_calli (pr := [wdP cs h r g tf ta pf na ma wa cf ca ef ea xf xa]) (px_runV (As := []) (rest := []) S (c_String_length l D cs sk5 st6 (mlen z4.toNatClampNeg) (mby z4.toNatClampNeg)   (show (mlen z4.toNatClampNeg) ≤ 1000000 from by omega) _) hT (pr := [wdP cs h r g tf ta pf na ma wa cf ca ef ea xf xa]) (pcs := []) hw (oX_call (P := (fun A U H => (oZ A U H) ∧ (oS A sk5 st6 (mlen z4.toNatClampNeg) (mby z4.toNatClampNeg) U H))) (pr := [wdP cs h r g tf ta pf na ma wa cf ca ef ea xf xa]) (oG_and oG_Z oG_S) hw hA ⟨hZ, hSsk5⟩) (oS_recv hw hSsk5) m1_58 m11_157 m1_56 m1_57 m1_3 q_String_length ⟨Nat.le_of_ble_eq_true rfl, Nat.le_of_ble_eq_true rfl⟩ hl.1 rfl (Nat.le_of_ble_eq_true rfl) d_Mpg_rank_130 ⟨Nat.le_of_ble_eq_true rfl, Nat.le_of_ble_eq_true rfl⟩) hw hA (fun v15 p14 H locs hp14 hw => ?_)
      obtain ⟨rfl, e16, e17⟩ := hp14
      have e16 : v15.toInt = ((mlen z4.toNatClampNeg) : Int) := e16
      have e17 : R_String_length (mlen z4.toNatClampNeg) v15 := e17
      have lv15 := Int32.le_toInt v15
      have uv15 := Int32.toInt_lt v15
      refine lv_iconst (v := 1) S.x S.b d_Mpg_rank_133 (by decide) ?_
      refine lv_icmp_eq (tgt := 139) S.x S.b d_Mpg_rank_134 (by decide) (fun c18 => ?_) (fun c18 => ?_)
      · have nc18 : v15.toInt = (1 : Int) := (i_eq (x := v15) (y := 1)).mp c18
        refine lv_aload_n S.x S.b d_Mpg_rank_139 rfl (lv_at hl 0 rfl) ?_
        refine lv_iconst (v := 0) S.x S.b d_Mpg_rank_140 (by decide) ?_
        first | refine px_calli (pr := [wdP cs h r g tf ta pf na ma wa cf ca ef ea xf xa]) (px_runV (As := [.int 0]) (rest := []) S (c_String_charAt l D cs sk5 st6 (mlen z4.toNatClampNeg) (mby z4.toNatClampNeg) 0  (show (mlen z4.toNatClampNeg) ≤ 1000000 from (oz_06f8c32e81 e16 nc18)) (show 0 ≤ (0 : Int) from oz_5a341f00aa) (show (0 : Int) < ((mlen z4.toNatClampNeg) : Int) from (oz_86e54fe7ec e16 nc18)) _) hT (pr := [wdP cs h r g tf ta pf na ma wa cf ca ef ea xf xa]) (pcs := []) hw (oX_call (P := (fun A U H => (oF A U H) ∧ (oZ A U H) ∧ (oS A sk5 st6 (mlen z4.toNatClampNeg) (mby z4.toNatClampNeg) U H))) (pr := [wdP cs h r g tf ta pf na ma wa cf ca ef ea xf xa]) (oG_and oG_F (oG_and oG_Z oG_S)) hw hA ⟨hF0, hZ, hSsk5⟩) (oS_recv hw hSsk5) m1_68 m11_162 m1_66 m1_67 m1_3 q_String_charAt ⟨Nat.le_of_ble_eq_true rfl, Nat.le_of_ble_eq_true rfl⟩ hl.1 rfl (Nat.le_of_ble_eq_true rfl) d_Mpg_rank_141 ⟨Nat.le_of_ble_eq_true rfl, Nat.le_of_ble_eq_true rfl⟩) hw hA (fun v21 p20 H locs hp20 hw => ?_) | (refine px_calli (pr := [wdP cs h r g tf ta pf na ma wa cf ca ef ea xf xa]) (px_runV (As := [.int 0]) (rest := []) S (c_String_charAt l D cs sk5 st6 (mlen z4.toNatClampNeg) (mby z4.toNatClampNeg) 0  (show (mlen z4.toNatClampNeg) ≤ 1000000 from by first | exact oz_06f8c32e81 e16 nc18 | omega) (show 0 ≤ (0 : Int) from by first | exact oz_5a341f00aa | omega) (show (0 : Int) < ((mlen z4.toNatClampNeg) : Int) from by first | exact oz_86e54fe7ec e16 nc18 | omega) _) hT (pr := [wdP cs h r g tf ta pf na ma wa cf ca ef ea xf xa]) (pcs := []) hw (oX_call (P := (fun A U H => (oF A U H) ∧ (oZ A U H) ∧ (oS A sk5 st6 (mlen z4.toNatClampNeg) (mby z4.toNatClampNeg) U H))) (pr := [wdP cs h r g tf ta pf na ma wa cf ca ef ea xf xa]) (oG_and oG_F (oG_and oG_Z oG_S)) hw hA ⟨hF0, hZ, hSsk5⟩) (oS_recv hw hSsk5) m1_68 m11_162 m1_66 m1_67 m1_3 q_String_charAt ⟨Nat.le_of_ble_eq_true rfl, Nat.le_of_ble_eq_true rfl⟩ hl.1 rfl (Nat.le_of_ble_eq_true rfl) d_Mpg_rank_141 ⟨Nat.le_of_ble_eq_true rfl, Nat.le_of_ble_eq_true rfl⟩) hw hA (fun v21 p20 H locs hp20 hw => ?_))
        obtain ⟨rfl, e22, e23⟩ := hp20
        have e22 : narrow .char (.int v21) = .int v21 := e22
        have e23 : R_String_charAt (mby z4.toNatClampNeg) (0 : Int32) v21 := e23
        have lv21 := Int32.le_toInt v21
        have uv21 := Int32.toInt_lt v21
        refine lv_istore_n (lv' := [(3, .int v21), (2, .ref sk5), (0, .ref h), (1, .int p0)]) S.x S.b d_Mpg_rank_144 rfl hl (by decide) rfl (fun ls hl => ?_)
        refine lv_iload_n S.x S.b d_Mpg_rank_145 rfl (lv_at hl 0 rfl) ?_
        refine lv_bipush (v := 124) S.x S.b d_Mpg_rank_146 (by decide) ?_
        refine lv_icmp_ne (tgt := 155) S.x S.b d_Mpg_rank_148 (by decide) (fun c24 => ?_) (fun c24 => ?_)
        · have nc24 : ¬ v21.toInt = (124 : Int) := mt (i_eq (x := v21) (y := 124)).mpr c24
          refine lv_iload_n S.x S.b d_Mpg_rank_155 rfl (lv_at hl 0 rfl) ?_
          refine lv_bipush (v := 94) S.x S.b d_Mpg_rank_156 (by decide) ?_
          refine lv_icmp_ne (tgt := 165) S.x S.b d_Mpg_rank_158 (by decide) (fun c26 => ?_) (fun c26 => ?_)
          · have nc26 : ¬ v21.toInt = (94 : Int) := mt (i_eq (x := v21) (y := 94)).mpr c26
            refine lv_iload_n S.x S.b d_Mpg_rank_165 rfl (lv_at hl 0 rfl) ?_
            refine lv_bipush (v := 38) S.x S.b d_Mpg_rank_166 (by decide) ?_
            refine lv_icmp_ne (tgt := 175) S.x S.b d_Mpg_rank_168 (by decide) (fun c28 => ?_) (fun c28 => ?_)
            · have nc28 : ¬ v21.toInt = (38 : Int) := mt (i_eq (x := v21) (y := 38)).mpr c28
              refine lv_iload_n S.x S.b d_Mpg_rank_175 rfl (lv_at hl 0 rfl) ?_
              refine lv_bipush (v := 60) S.x S.b d_Mpg_rank_176 (by decide) ?_
              refine lv_icmp_eq (tgt := 187) S.x S.b d_Mpg_rank_178 (by decide) (fun c30 => ?_) (fun c30 => ?_)
              · have nc30 : v21.toInt = (60 : Int) := (i_eq (x := v21) (y := 60)).mp c30
                refine lv_bipush (v := 7) S.x S.b d_Mpg_rank_187 (by decide) ?_
                refine lv_goto (tgt := 233) S.x S.b d_Mpg_rank_189 (by decide) ?_
                first | exact px_iret (v := 7) S hr rfl hlk hAe hw (Nat.le_of_ble_eq_true rfl) (Nat.le_of_ble_eq_true rfl) (⟨rfl, (show 0 ≤ (7 : Int) from oz_096f6f1d83), (show (7 : Int) ≤ 10 from oz_8cd2080322), (show 1 ≤ (7 : Int) → p0.toInt + 1 < (tf 6).toInt ∧ so ta p0 = 5 from by omega), (show 1 ≤ (7 : Int) → (7 : Int) ≤ 2 → sz ta p0 = 2 from by omega), (show R_mp_rank ta p0 (7 : Int32) from (Or.inl ⟨z1, ez1, Or.inl ⟨nc2, z4, ez4, v9, e11, Or.inl ⟨nc12, v15, e17, Or.inl ⟨nc18, v21, e23, Or.inl ⟨nc24, Or.inl ⟨nc26, Or.inl ⟨nc28, Or.inl ⟨nc30, rfl⟩⟩⟩⟩⟩⟩⟩⟩))⟩) d_Mpg_rank_233 | (exact px_iret (v := 7) S hr rfl hlk hAe hw (Nat.le_of_ble_eq_true rfl) (Nat.le_of_ble_eq_true rfl) (⟨rfl, (show 0 ≤ (7 : Int) from by first | exact oz_096f6f1d83 | omega), (show (7 : Int) ≤ 10 from by first | exact oz_8cd2080322 | omega), (show 1 ≤ (7 : Int) → p0.toInt + 1 < (tf 6).toInt ∧ so ta p0 = 5 from by omega), (show 1 ≤ (7 : Int) → (7 : Int) ≤ 2 → sz ta p0 = 2 from by omega), (show R_mp_rank ta p0 (7 : Int32) from (Or.inl ⟨z1, ez1, Or.inl ⟨nc2, z4, ez4, v9, e11, Or.inl ⟨nc12, v15, e17, Or.inl ⟨nc18, v21, e23, Or.inl ⟨nc24, Or.inl ⟨nc26, Or.inl ⟨nc28, Or.inl ⟨nc30, rfl⟩⟩⟩⟩⟩⟩⟩⟩))⟩) d_Mpg_rank_233)
              · have nc30 : ¬ v21.toInt = (60 : Int) := mt (i_eq (x := v21) (y := 60)).mpr c30
                refine lv_iload_n S.x S.b d_Mpg_rank_181 rfl (lv_at hl 0 rfl) ?_
                refine lv_bipush (v := 62) S.x S.b d_Mpg_rank_182 (by decide) ?_
                refine lv_icmp_ne (tgt := 192) S.x S.b d_Mpg_rank_184 (by decide) (fun c32 => ?_) (fun c32 => ?_)
                · have nc32 : ¬ v21.toInt = (62 : Int) := mt (i_eq (x := v21) (y := 62)).mpr c32
                  refine lv_iload_n S.x S.b d_Mpg_rank_192 rfl (lv_at hl 0 rfl) ?_
                  refine lv_bipush (v := 43) S.x S.b d_Mpg_rank_193 (by decide) ?_
                  refine lv_icmp_eq (tgt := 204) S.x S.b d_Mpg_rank_195 (by decide) (fun c34 => ?_) (fun c34 => ?_)
                  · have nc34 : v21.toInt = (43 : Int) := (i_eq (x := v21) (y := 43)).mp c34
                    refine lv_bipush (v := 9) S.x S.b d_Mpg_rank_204 (by decide) ?_
                    refine lv_goto (tgt := 233) S.x S.b d_Mpg_rank_206 (by decide) ?_
                    first | exact px_iret (v := 9) S hr rfl hlk hAe hw (Nat.le_of_ble_eq_true rfl) (Nat.le_of_ble_eq_true rfl) (⟨rfl, (show 0 ≤ (9 : Int) from oz_ef1109059f), (show (9 : Int) ≤ 10 from oz_3e940f027f), (show 1 ≤ (9 : Int) → p0.toInt + 1 < (tf 6).toInt ∧ so ta p0 = 5 from by omega), (show 1 ≤ (9 : Int) → (9 : Int) ≤ 2 → sz ta p0 = 2 from by omega), (show R_mp_rank ta p0 (9 : Int32) from (Or.inl ⟨z1, ez1, Or.inl ⟨nc2, z4, ez4, v9, e11, Or.inl ⟨nc12, v15, e17, Or.inl ⟨nc18, v21, e23, Or.inl ⟨nc24, Or.inl ⟨nc26, Or.inl ⟨nc28, Or.inr ⟨nc30, Or.inl ⟨nc32, Or.inl ⟨nc34, rfl⟩⟩⟩⟩⟩⟩⟩⟩⟩⟩))⟩) d_Mpg_rank_233 | (exact px_iret (v := 9) S hr rfl hlk hAe hw (Nat.le_of_ble_eq_true rfl) (Nat.le_of_ble_eq_true rfl) (⟨rfl, (show 0 ≤ (9 : Int) from by first | exact oz_ef1109059f | omega), (show (9 : Int) ≤ 10 from by first | exact oz_3e940f027f | omega), (show 1 ≤ (9 : Int) → p0.toInt + 1 < (tf 6).toInt ∧ so ta p0 = 5 from by omega), (show 1 ≤ (9 : Int) → (9 : Int) ≤ 2 → sz ta p0 = 2 from by omega), (show R_mp_rank ta p0 (9 : Int32) from (Or.inl ⟨z1, ez1, Or.inl ⟨nc2, z4, ez4, v9, e11, Or.inl ⟨nc12, v15, e17, Or.inl ⟨nc18, v21, e23, Or.inl ⟨nc24, Or.inl ⟨nc26, Or.inl ⟨nc28, Or.inr ⟨nc30, Or.inl ⟨nc32, Or.inl ⟨nc34, rfl⟩⟩⟩⟩⟩⟩⟩⟩⟩⟩))⟩) d_Mpg_rank_233)
                  · have nc34 : ¬ v21.toInt = (43 : Int) := mt (i_eq (x := v21) (y := 43)).mpr c34
                    refine lv_iload_n S.x S.b d_Mpg_rank_198 rfl (lv_at hl 0 rfl) ?_
                    refine lv_bipush (v := 45) S.x S.b d_Mpg_rank_199 (by decide) ?_
                    refine lv_icmp_ne (tgt := 209) S.x S.b d_Mpg_rank_201 (by decide) (fun c36 => ?_) (fun c36 => ?_)
                    · have nc36 : ¬ v21.toInt = (45 : Int) := mt (i_eq (x := v21) (y := 45)).mpr c36
                      refine lv_iload_n S.x S.b d_Mpg_rank_209 rfl (lv_at hl 0 rfl) ?_
                      refine lv_bipush (v := 42) S.x S.b d_Mpg_rank_210 (by decide) ?_
                      refine lv_icmp_eq (tgt := 227) S.x S.b d_Mpg_rank_212 (by decide) (fun c38 => ?_) (fun c38 => ?_)
                      · have nc38 : v21.toInt = (42 : Int) := (i_eq (x := v21) (y := 42)).mp c38
                        refine lv_bipush (v := 10) S.x S.b d_Mpg_rank_227 (by decide) ?_
                        refine lv_goto (tgt := 233) S.x S.b d_Mpg_rank_229 (by decide) ?_
                        first | exact px_iret (v := 10) S hr rfl hlk hAe hw (Nat.le_of_ble_eq_true rfl) (Nat.le_of_ble_eq_true rfl) (⟨rfl, (show 0 ≤ (10 : Int) from oz_b9672dc21f), (show (10 : Int) ≤ 10 from oz_8b73a41944), (show 1 ≤ (10 : Int) → p0.toInt + 1 < (tf 6).toInt ∧ so ta p0 = 5 from by omega), (show 1 ≤ (10 : Int) → (10 : Int) ≤ 2 → sz ta p0 = 2 from by omega), (show R_mp_rank ta p0 (10 : Int32) from (Or.inl ⟨z1, ez1, Or.inl ⟨nc2, z4, ez4, v9, e11, Or.inl ⟨nc12, v15, e17, Or.inl ⟨nc18, v21, e23, Or.inl ⟨nc24, Or.inl ⟨nc26, Or.inl ⟨nc28, Or.inr ⟨nc30, Or.inl ⟨nc32, Or.inr ⟨nc34, Or.inl ⟨nc36, Or.inl ⟨nc38, rfl⟩⟩⟩⟩⟩⟩⟩⟩⟩⟩⟩⟩))⟩) d_Mpg_rank_233 | (exact px_iret (v := 10) S hr rfl hlk hAe hw (Nat.le_of_ble_eq_true rfl) (Nat.le_of_ble_eq_true rfl) (⟨rfl, (show 0 ≤ (10 : Int) from by first | exact oz_b9672dc21f | omega), (show (10 : Int) ≤ 10 from by first | exact oz_8b73a41944 | omega), (show 1 ≤ (10 : Int) → p0.toInt + 1 < (tf 6).toInt ∧ so ta p0 = 5 from by omega), (show 1 ≤ (10 : Int) → (10 : Int) ≤ 2 → sz ta p0 = 2 from by omega), (show R_mp_rank ta p0 (10 : Int32) from (Or.inl ⟨z1, ez1, Or.inl ⟨nc2, z4, ez4, v9, e11, Or.inl ⟨nc12, v15, e17, Or.inl ⟨nc18, v21, e23, Or.inl ⟨nc24, Or.inl ⟨nc26, Or.inl ⟨nc28, Or.inr ⟨nc30, Or.inl ⟨nc32, Or.inr ⟨nc34, Or.inl ⟨nc36, Or.inl ⟨nc38, rfl⟩⟩⟩⟩⟩⟩⟩⟩⟩⟩⟩⟩))⟩) d_Mpg_rank_233)
                      · have nc38 : ¬ v21.toInt = (42 : Int) := mt (i_eq (x := v21) (y := 42)).mpr c38
                        refine lv_iload_n S.x S.b d_Mpg_rank_215 rfl (lv_at hl 0 rfl) ?_
                        refine lv_bipush (v := 47) S.x S.b d_Mpg_rank_216 (by decide) ?_
                        refine lv_icmp_eq (tgt := 227) S.x S.b d_Mpg_rank_218 (by decide) (fun c40 => ?_) (fun c40 => ?_)
                        · have nc40 : v21.toInt = (47 : Int) := (i_eq (x := v21) (y := 47)).mp c40
                          refine lv_bipush (v := 10) S.x S.b d_Mpg_rank_227 (by decide) ?_
                          refine lv_goto (tgt := 233) S.x S.b d_Mpg_rank_229 (by decide) ?_
                          first | exact px_iret (v := 10) S hr rfl hlk hAe hw (Nat.le_of_ble_eq_true rfl) (Nat.le_of_ble_eq_true rfl) (⟨rfl, (show 0 ≤ (10 : Int) from oz_b9672dc21f), (show (10 : Int) ≤ 10 from oz_8b73a41944), (show 1 ≤ (10 : Int) → p0.toInt + 1 < (tf 6).toInt ∧ so ta p0 = 5 from by omega), (show 1 ≤ (10 : Int) → (10 : Int) ≤ 2 → sz ta p0 = 2 from by omega), (show R_mp_rank ta p0 (10 : Int32) from (Or.inl ⟨z1, ez1, Or.inl ⟨nc2, z4, ez4, v9, e11, Or.inl ⟨nc12, v15, e17, Or.inl ⟨nc18, v21, e23, Or.inl ⟨nc24, Or.inl ⟨nc26, Or.inl ⟨nc28, Or.inr ⟨nc30, Or.inl ⟨nc32, Or.inr ⟨nc34, Or.inl ⟨nc36, Or.inr ⟨nc38, Or.inl ⟨nc40, rfl⟩⟩⟩⟩⟩⟩⟩⟩⟩⟩⟩⟩⟩))⟩) d_Mpg_rank_233 | (exact px_iret (v := 10) S hr rfl hlk hAe hw (Nat.le_of_ble_eq_true rfl) (Nat.le_of_ble_eq_true rfl) (⟨rfl, (show 0 ≤ (10 : Int) from by first | exact oz_b9672dc21f | omega), (show (10 : Int) ≤ 10 from by first | exact oz_8b73a41944 | omega), (show 1 ≤ (10 : Int) → p0.toInt + 1 < (tf 6).toInt ∧ so ta p0 = 5 from by omega), (show 1 ≤ (10 : Int) → (10 : Int) ≤ 2 → sz ta p0 = 2 from by omega), (show R_mp_rank ta p0 (10 : Int32) from (Or.inl ⟨z1, ez1, Or.inl ⟨nc2, z4, ez4, v9, e11, Or.inl ⟨nc12, v15, e17, Or.inl ⟨nc18, v21, e23, Or.inl ⟨nc24, Or.inl ⟨nc26, Or.inl ⟨nc28, Or.inr ⟨nc30, Or.inl ⟨nc32, Or.inr ⟨nc34, Or.inl ⟨nc36, Or.inr ⟨nc38, Or.inl ⟨nc40, rfl⟩⟩⟩⟩⟩⟩⟩⟩⟩⟩⟩⟩⟩))⟩) d_Mpg_rank_233)
                        · have nc40 : ¬ v21.toInt = (47 : Int) := mt (i_eq (x := v21) (y := 47)).mpr c40
                          refine lv_iload_n S.x S.b d_Mpg_rank_221 rfl (lv_at hl 0 rfl) ?_
                          refine lv_bipush (v := 37) S.x S.b d_Mpg_rank_222 (by decide) ?_
                          refine lv_icmp_ne (tgt := 232) S.x S.b d_Mpg_rank_224 (by decide) (fun c42 => ?_) (fun c42 => ?_)
                          · have nc42 : ¬ v21.toInt = (37 : Int) := mt (i_eq (x := v21) (y := 37)).mpr c42
                            refine lv_iconst (v := 0) S.x S.b d_Mpg_rank_232 (by decide) ?_
                            first | exact px_iret (v := 0) S hr rfl hlk hAe hw (Nat.le_of_ble_eq_true rfl) (Nat.le_of_ble_eq_true rfl) (⟨rfl, (show 0 ≤ (0 : Int) from oz_5a341f00aa), (show (0 : Int) ≤ 10 from oz_117e7b2a6a), (show 1 ≤ (0 : Int) → p0.toInt + 1 < (tf 6).toInt ∧ so ta p0 = 5 from by omega), (show 1 ≤ (0 : Int) → (0 : Int) ≤ 2 → sz ta p0 = 2 from by omega), (show R_mp_rank ta p0 (0 : Int32) from (Or.inl ⟨z1, ez1, Or.inl ⟨nc2, z4, ez4, v9, e11, Or.inl ⟨nc12, v15, e17, Or.inl ⟨nc18, v21, e23, Or.inl ⟨nc24, Or.inl ⟨nc26, Or.inl ⟨nc28, Or.inr ⟨nc30, Or.inl ⟨nc32, Or.inr ⟨nc34, Or.inl ⟨nc36, Or.inr ⟨nc38, Or.inr ⟨nc40, Or.inl ⟨nc42, rfl⟩⟩⟩⟩⟩⟩⟩⟩⟩⟩⟩⟩⟩⟩))⟩) d_Mpg_rank_233 | (exact px_iret (v := 0) S hr rfl hlk hAe hw (Nat.le_of_ble_eq_true rfl) (Nat.le_of_ble_eq_true rfl) (⟨rfl, (show 0 ≤ (0 : Int) from by first | exact oz_5a341f00aa | omega), (show (0 : Int) ≤ 10 from by first | exact oz_117e7b2a6a | omega), (show 1 ≤ (0 : Int) → p0.toInt + 1 < (tf 6).toInt ∧ so ta p0 = 5 from by omega), (show 1 ≤ (0 : Int) → (0 : Int) ≤ 2 → sz ta p0 = 2 from by omega), (show R_mp_rank ta p0 (0 : Int32) from (Or.inl ⟨z1, ez1, Or.inl ⟨nc2, z4, ez4, v9, e11, Or.inl ⟨nc12, v15, e17, Or.inl ⟨nc18, v21, e23, Or.inl ⟨nc24, Or.inl ⟨nc26, Or.inl ⟨nc28, Or.inr ⟨nc30, Or.inl ⟨nc32, Or.inr ⟨nc34, Or.inl ⟨nc36, Or.inr ⟨nc38, Or.inr ⟨nc40, Or.inl ⟨nc42, rfl⟩⟩⟩⟩⟩⟩⟩⟩⟩⟩⟩⟩⟩⟩))⟩) d_Mpg_rank_233)
                          · have nc42 : v21.toInt = (37 : Int) := (i_eq (x := v21) (y := 37)).mp c42
                            refine lv_bipush (v := 10) S.x S.b d_Mpg_rank_227 (by decide) ?_
                            refine lv_goto (tgt := 233) S.x S.b d_Mpg_rank_229 (by decide) ?_
                            first | exact px_iret (v := 10) S hr rfl hlk hAe hw (Nat.le_of_ble_eq_true rfl) (Nat.le_of_ble_eq_true rfl) (⟨rfl, (show 0 ≤ (10 : Int) from oz_b9672dc21f), (show (10 : Int) ≤ 10 from oz_8b73a41944), (show 1 ≤ (10 : Int) → p0.toInt + 1 < (tf 6).toInt ∧ so ta p0 = 5 from by omega), (show 1 ≤ (10 : Int) → (10 : Int) ≤ 2 → sz ta p0 = 2 from by omega), (show R_mp_rank ta p0 (10 : Int32) from (Or.inl ⟨z1, ez1, Or.inl ⟨nc2, z4, ez4, v9, e11, Or.inl ⟨nc12, v15, e17, Or.inl ⟨nc18, v21, e23, Or.inl ⟨nc24, Or.inl ⟨nc26, Or.inl ⟨nc28, Or.inr ⟨nc30, Or.inl ⟨nc32, Or.inr ⟨nc34, Or.inl ⟨nc36, Or.inr ⟨nc38, Or.inr ⟨nc40, Or.inr ⟨nc42, rfl⟩⟩⟩⟩⟩⟩⟩⟩⟩⟩⟩⟩⟩⟩))⟩) d_Mpg_rank_233 | (exact px_iret (v := 10) S hr rfl hlk hAe hw (Nat.le_of_ble_eq_true rfl) (Nat.le_of_ble_eq_true rfl) (⟨rfl, (show 0 ≤ (10 : Int) from by first | exact oz_b9672dc21f | omega), (show (10 : Int) ≤ 10 from by first | exact oz_8b73a41944 | omega), (show 1 ≤ (10 : Int) → p0.toInt + 1 < (tf 6).toInt ∧ so ta p0 = 5 from by omega), (show 1 ≤ (10 : Int) → (10 : Int) ≤ 2 → sz ta p0 = 2 from by omega), (show R_mp_rank ta p0 (10 : Int32) from (Or.inl ⟨z1, ez1, Or.inl ⟨nc2, z4, ez4, v9, e11, Or.inl ⟨nc12, v15, e17, Or.inl ⟨nc18, v21, e23, Or.inl ⟨nc24, Or.inl ⟨nc26, Or.inl ⟨nc28, Or.inr ⟨nc30, Or.inl ⟨nc32, Or.inr ⟨nc34, Or.inl ⟨nc36, Or.inr ⟨nc38, Or.inr ⟨nc40, Or.inr ⟨nc42, rfl⟩⟩⟩⟩⟩⟩⟩⟩⟩⟩⟩⟩⟩⟩))⟩) d_Mpg_rank_233)
                    · have nc36 : v21.toInt = (45 : Int) := (i_eq (x := v21) (y := 45)).mp c36
                      refine lv_bipush (v := 9) S.x S.b d_Mpg_rank_204 (by decide) ?_
                      refine lv_goto (tgt := 233) S.x S.b d_Mpg_rank_206 (by decide) ?_
                      first | exact px_iret (v := 9) S hr rfl hlk hAe hw (Nat.le_of_ble_eq_true rfl) (Nat.le_of_ble_eq_true rfl) (⟨rfl, (show 0 ≤ (9 : Int) from oz_ef1109059f), (show (9 : Int) ≤ 10 from oz_3e940f027f), (show 1 ≤ (9 : Int) → p0.toInt + 1 < (tf 6).toInt ∧ so ta p0 = 5 from by omega), (show 1 ≤ (9 : Int) → (9 : Int) ≤ 2 → sz ta p0 = 2 from by omega), (show R_mp_rank ta p0 (9 : Int32) from (Or.inl ⟨z1, ez1, Or.inl ⟨nc2, z4, ez4, v9, e11, Or.inl ⟨nc12, v15, e17, Or.inl ⟨nc18, v21, e23, Or.inl ⟨nc24, Or.inl ⟨nc26, Or.inl ⟨nc28, Or.inr ⟨nc30, Or.inl ⟨nc32, Or.inr ⟨nc34, Or.inr ⟨nc36, rfl⟩⟩⟩⟩⟩⟩⟩⟩⟩⟩⟩))⟩) d_Mpg_rank_233 | (exact px_iret (v := 9) S hr rfl hlk hAe hw (Nat.le_of_ble_eq_true rfl) (Nat.le_of_ble_eq_true rfl) (⟨rfl, (show 0 ≤ (9 : Int) from by first | exact oz_ef1109059f | omega), (show (9 : Int) ≤ 10 from by first | exact oz_3e940f027f | omega), (show 1 ≤ (9 : Int) → p0.toInt + 1 < (tf 6).toInt ∧ so ta p0 = 5 from by omega), (show 1 ≤ (9 : Int) → (9 : Int) ≤ 2 → sz ta p0 = 2 from by omega), (show R_mp_rank ta p0 (9 : Int32) from (Or.inl ⟨z1, ez1, Or.inl ⟨nc2, z4, ez4, v9, e11, Or.inl ⟨nc12, v15, e17, Or.inl ⟨nc18, v21, e23, Or.inl ⟨nc24, Or.inl ⟨nc26, Or.inl ⟨nc28, Or.inr ⟨nc30, Or.inl ⟨nc32, Or.inr ⟨nc34, Or.inr ⟨nc36, rfl⟩⟩⟩⟩⟩⟩⟩⟩⟩⟩⟩))⟩) d_Mpg_rank_233)
                · have nc32 : v21.toInt = (62 : Int) := (i_eq (x := v21) (y := 62)).mp c32
                  refine lv_bipush (v := 7) S.x S.b d_Mpg_rank_187 (by decide) ?_
                  refine lv_goto (tgt := 233) S.x S.b d_Mpg_rank_189 (by decide) ?_
                  first | exact px_iret (v := 7) S hr rfl hlk hAe hw (Nat.le_of_ble_eq_true rfl) (Nat.le_of_ble_eq_true rfl) (⟨rfl, (show 0 ≤ (7 : Int) from oz_096f6f1d83), (show (7 : Int) ≤ 10 from oz_8cd2080322), (show 1 ≤ (7 : Int) → p0.toInt + 1 < (tf 6).toInt ∧ so ta p0 = 5 from by omega), (show 1 ≤ (7 : Int) → (7 : Int) ≤ 2 → sz ta p0 = 2 from by omega), (show R_mp_rank ta p0 (7 : Int32) from (Or.inl ⟨z1, ez1, Or.inl ⟨nc2, z4, ez4, v9, e11, Or.inl ⟨nc12, v15, e17, Or.inl ⟨nc18, v21, e23, Or.inl ⟨nc24, Or.inl ⟨nc26, Or.inl ⟨nc28, Or.inr ⟨nc30, Or.inr ⟨nc32, rfl⟩⟩⟩⟩⟩⟩⟩⟩⟩))⟩) d_Mpg_rank_233 | (exact px_iret (v := 7) S hr rfl hlk hAe hw (Nat.le_of_ble_eq_true rfl) (Nat.le_of_ble_eq_true rfl) (⟨rfl, (show 0 ≤ (7 : Int) from by first | exact oz_096f6f1d83 | omega), (show (7 : Int) ≤ 10 from by first | exact oz_8cd2080322 | omega), (show 1 ≤ (7 : Int) → p0.toInt + 1 < (tf 6).toInt ∧ so ta p0 = 5 from by omega), (show 1 ≤ (7 : Int) → (7 : Int) ≤ 2 → sz ta p0 = 2 from by omega), (show R_mp_rank ta p0 (7 : Int32) from (Or.inl ⟨z1, ez1, Or.inl ⟨nc2, z4, ez4, v9, e11, Or.inl ⟨nc12, v15, e17, Or.inl ⟨nc18, v21, e23, Or.inl ⟨nc24, Or.inl ⟨nc26, Or.inl ⟨nc28, Or.inr ⟨nc30, Or.inr ⟨nc32, rfl⟩⟩⟩⟩⟩⟩⟩⟩⟩))⟩) d_Mpg_rank_233)
            · have nc28 : v21.toInt = (38 : Int) := (i_eq (x := v21) (y := 38)).mp c28
              refine lv_iconst (v := 5) S.x S.b d_Mpg_rank_171 (by decide) ?_
              refine lv_goto (tgt := 233) S.x S.b d_Mpg_rank_172 (by decide) ?_
              first | exact px_iret (v := 5) S hr rfl hlk hAe hw (Nat.le_of_ble_eq_true rfl) (Nat.le_of_ble_eq_true rfl) (⟨rfl, (show 0 ≤ (5 : Int) from oz_f21dceca30), (show (5 : Int) ≤ 10 from oz_1e2ee4b499), (show 1 ≤ (5 : Int) → p0.toInt + 1 < (tf 6).toInt ∧ so ta p0 = 5 from by omega), (show 1 ≤ (5 : Int) → (5 : Int) ≤ 2 → sz ta p0 = 2 from by omega), (show R_mp_rank ta p0 (5 : Int32) from (Or.inl ⟨z1, ez1, Or.inl ⟨nc2, z4, ez4, v9, e11, Or.inl ⟨nc12, v15, e17, Or.inl ⟨nc18, v21, e23, Or.inl ⟨nc24, Or.inl ⟨nc26, Or.inr ⟨nc28, rfl⟩⟩⟩⟩⟩⟩⟩))⟩) d_Mpg_rank_233 | (exact px_iret (v := 5) S hr rfl hlk hAe hw (Nat.le_of_ble_eq_true rfl) (Nat.le_of_ble_eq_true rfl) (⟨rfl, (show 0 ≤ (5 : Int) from by first | exact oz_f21dceca30 | omega), (show (5 : Int) ≤ 10 from by first | exact oz_1e2ee4b499 | omega), (show 1 ≤ (5 : Int) → p0.toInt + 1 < (tf 6).toInt ∧ so ta p0 = 5 from by omega), (show 1 ≤ (5 : Int) → (5 : Int) ≤ 2 → sz ta p0 = 2 from by omega), (show R_mp_rank ta p0 (5 : Int32) from (Or.inl ⟨z1, ez1, Or.inl ⟨nc2, z4, ez4, v9, e11, Or.inl ⟨nc12, v15, e17, Or.inl ⟨nc18, v21, e23, Or.inl ⟨nc24, Or.inl ⟨nc26, Or.inr ⟨nc28, rfl⟩⟩⟩⟩⟩⟩⟩))⟩) d_Mpg_rank_233)
          · have nc26 : v21.toInt = (94 : Int) := (i_eq (x := v21) (y := 94)).mp c26
            refine lv_iconst (v := 4) S.x S.b d_Mpg_rank_161 (by decide) ?_
            refine lv_goto (tgt := 233) S.x S.b d_Mpg_rank_162 (by decide) ?_
            first | exact px_iret (v := 4) S hr rfl hlk hAe hw (Nat.le_of_ble_eq_true rfl) (Nat.le_of_ble_eq_true rfl) (⟨rfl, (show 0 ≤ (4 : Int) from oz_8aa1b7a920), (show (4 : Int) ≤ 10 from oz_e3980d5913), (show 1 ≤ (4 : Int) → p0.toInt + 1 < (tf 6).toInt ∧ so ta p0 = 5 from by omega), (show 1 ≤ (4 : Int) → (4 : Int) ≤ 2 → sz ta p0 = 2 from by omega), (show R_mp_rank ta p0 (4 : Int32) from (Or.inl ⟨z1, ez1, Or.inl ⟨nc2, z4, ez4, v9, e11, Or.inl ⟨nc12, v15, e17, Or.inl ⟨nc18, v21, e23, Or.inl ⟨nc24, Or.inr ⟨nc26, rfl⟩⟩⟩⟩⟩⟩))⟩) d_Mpg_rank_233 | (exact px_iret (v := 4) S hr rfl hlk hAe hw (Nat.le_of_ble_eq_true rfl) (Nat.le_of_ble_eq_true rfl) (⟨rfl, (show 0 ≤ (4 : Int) from by first | exact oz_8aa1b7a920 | omega), (show (4 : Int) ≤ 10 from by first | exact oz_e3980d5913 | omega), (show 1 ≤ (4 : Int) → p0.toInt + 1 < (tf 6).toInt ∧ so ta p0 = 5 from by omega), (show 1 ≤ (4 : Int) → (4 : Int) ≤ 2 → sz ta p0 = 2 from by omega), (show R_mp_rank ta p0 (4 : Int32) from (Or.inl ⟨z1, ez1, Or.inl ⟨nc2, z4, ez4, v9, e11, Or.inl ⟨nc12, v15, e17, Or.inl ⟨nc18, v21, e23, Or.inl ⟨nc24, Or.inr ⟨nc26, rfl⟩⟩⟩⟩⟩⟩))⟩) d_Mpg_rank_233)
        · have nc24 : v21.toInt = (124 : Int) := (i_eq (x := v21) (y := 124)).mp c24
          refine lv_iconst (v := 3) S.x S.b d_Mpg_rank_151 (by decide) ?_
          refine lv_goto (tgt := 233) S.x S.b d_Mpg_rank_152 (by decide) ?_
          first | exact px_iret (v := 3) S hr rfl hlk hAe hw (Nat.le_of_ble_eq_true rfl) (Nat.le_of_ble_eq_true rfl) (⟨rfl, (show 0 ≤ (3 : Int) from oz_e98d287a2d), (show (3 : Int) ≤ 10 from oz_9d2271b33c), (show 1 ≤ (3 : Int) → p0.toInt + 1 < (tf 6).toInt ∧ so ta p0 = 5 from by omega), (show 1 ≤ (3 : Int) → (3 : Int) ≤ 2 → sz ta p0 = 2 from by omega), (show R_mp_rank ta p0 (3 : Int32) from (Or.inl ⟨z1, ez1, Or.inl ⟨nc2, z4, ez4, v9, e11, Or.inl ⟨nc12, v15, e17, Or.inl ⟨nc18, v21, e23, Or.inr ⟨nc24, rfl⟩⟩⟩⟩⟩))⟩) d_Mpg_rank_233 | (exact px_iret (v := 3) S hr rfl hlk hAe hw (Nat.le_of_ble_eq_true rfl) (Nat.le_of_ble_eq_true rfl) (⟨rfl, (show 0 ≤ (3 : Int) from by first | exact oz_e98d287a2d | omega), (show (3 : Int) ≤ 10 from by first | exact oz_9d2271b33c | omega), (show 1 ≤ (3 : Int) → p0.toInt + 1 < (tf 6).toInt ∧ so ta p0 = 5 from by omega), (show 1 ≤ (3 : Int) → (3 : Int) ≤ 2 → sz ta p0 = 2 from by omega), (show R_mp_rank ta p0 (3 : Int32) from (Or.inl ⟨z1, ez1, Or.inl ⟨nc2, z4, ez4, v9, e11, Or.inl ⟨nc12, v15, e17, Or.inl ⟨nc18, v21, e23, Or.inr ⟨nc24, rfl⟩⟩⟩⟩⟩))⟩) d_Mpg_rank_233)
      · have nc18 : ¬ v15.toInt = (1 : Int) := mt (i_eq (x := v15) (y := 1)).mpr c18
        refine lv_iconst (v := 0) S.x S.b d_Mpg_rank_137 (by decide) ?_
        first | exact px_iret (v := 0) S hr rfl hlk hAe hw (Nat.le_of_ble_eq_true rfl) (Nat.le_of_ble_eq_true rfl) (⟨rfl, (show 0 ≤ (0 : Int) from oz_5a341f00aa), (show (0 : Int) ≤ 10 from oz_117e7b2a6a), (show 1 ≤ (0 : Int) → p0.toInt + 1 < (tf 6).toInt ∧ so ta p0 = 5 from by omega), (show 1 ≤ (0 : Int) → (0 : Int) ≤ 2 → sz ta p0 = 2 from by omega), (show R_mp_rank ta p0 (0 : Int32) from (Or.inl ⟨z1, ez1, Or.inl ⟨nc2, z4, ez4, v9, e11, Or.inl ⟨nc12, v15, e17, Or.inr ⟨nc18, rfl⟩⟩⟩⟩))⟩) d_Mpg_rank_138 | (exact px_iret (v := 0) S hr rfl hlk hAe hw (Nat.le_of_ble_eq_true rfl) (Nat.le_of_ble_eq_true rfl) (⟨rfl, (show 0 ≤ (0 : Int) from by first | exact oz_5a341f00aa | omega), (show (0 : Int) ≤ 10 from by first | exact oz_117e7b2a6a | omega), (show 1 ≤ (0 : Int) → p0.toInt + 1 < (tf 6).toInt ∧ so ta p0 = 5 from by omega), (show 1 ≤ (0 : Int) → (0 : Int) ≤ 2 → sz ta p0 = 2 from by omega), (show R_mp_rank ta p0 (0 : Int32) from (Or.inl ⟨z1, ez1, Or.inl ⟨nc2, z4, ez4, v9, e11, Or.inl ⟨nc12, v15, e17, Or.inr ⟨nc18, rfl⟩⟩⟩⟩))⟩) d_Mpg_rank_138)
    · have nc12 : v9.toInt = (2 : Int) := (i_eq (x := v9) (y := 2)).mp c12
      refine lv_aload_n S.x S.b d_Mpg_rank_32 rfl (lv_at hl 0 rfl) ?_
      obtain ⟨sk44, hRsk44, st45, hSsk44⟩ := oP_litB hP (k := 67) (tx := "||") (n := 2) (List.mem_of_getElem? (i := 25) rfl)
      refine va_ldcS S.x S.b S.own hRsk44 d_Mpg_rank_33 ?_
      first | refine px_calli (pr := [wdP cs h r g tf ta pf na ma wa cf ca ef ea xf xa]) (px_runV (As := [.ref sk44]) (rest := []) S (c_sg_equals l D cs sk5 st6 (mlen z4.toNatClampNeg) (mby z4.toNatClampNeg) sk44 st45 2 (lby "||")   (show (mlen z4.toNatClampNeg) ≤ 1000000 from (oz_f8a16524ad e10 nc12)) (show 2 ≤ 1000000 from by omega) _) hT (pr := [wdP cs h r g tf ta pf na ma wa cf ca ef ea xf xa]) (pcs := []) hw (oX_call (P := (fun A U H => (oZ A U H) ∧ (oS A sk5 st6 (mlen z4.toNatClampNeg) (mby z4.toNatClampNeg) U H) ∧ (oS A sk44 st45 2 (lby "||") U H))) (pr := [wdP cs h r g tf ta pf na ma wa cf ca ef ea xf xa]) (oG_and oG_Z (oG_and oG_S oG_S)) hw hA ⟨hZ, hSsk5, hSsk44⟩) (oS_recv hw hSsk5) m11_225 m11_222 m11_223 m11_224 m1_3 q_String_equals ⟨Nat.le_of_ble_eq_true rfl, Nat.le_of_ble_eq_true rfl⟩ hl.1 rfl (Nat.le_of_ble_eq_true rfl) d_Mpg_rank_35 ⟨Nat.le_of_ble_eq_true rfl, Nat.le_of_ble_eq_true rfl⟩) hw hA (fun v48 p47 H locs hp47 hw => ?_) | (refine px_calli (pr := [wdP cs h r g tf ta pf na ma wa cf ca ef ea xf xa]) (px_runV (As := [.ref sk44]) (rest := []) S (c_sg_equals l D cs sk5 st6 (mlen z4.toNatClampNeg) (mby z4.toNatClampNeg) sk44 st45 2 (lby "||")   (show (mlen z4.toNatClampNeg) ≤ 1000000 from by first | exact oz_f8a16524ad e10 nc12 | omega) (show 2 ≤ 1000000 from by omega) _) hT (pr := [wdP cs h r g tf ta pf na ma wa cf ca ef ea xf xa]) (pcs := []) hw (oX_call (P := (fun A U H => (oZ A U H) ∧ (oS A sk5 st6 (mlen z4.toNatClampNeg) (mby z4.toNatClampNeg) U H) ∧ (oS A sk44 st45 2 (lby "||") U H))) (pr := [wdP cs h r g tf ta pf na ma wa cf ca ef ea xf xa]) (oG_and oG_Z (oG_and oG_S oG_S)) hw hA ⟨hZ, hSsk5, hSsk44⟩) (oS_recv hw hSsk5) m11_225 m11_222 m11_223 m11_224 m1_3 q_String_equals ⟨Nat.le_of_ble_eq_true rfl, Nat.le_of_ble_eq_true rfl⟩ hl.1 rfl (Nat.le_of_ble_eq_true rfl) d_Mpg_rank_35 ⟨Nat.le_of_ble_eq_true rfl, Nat.le_of_ble_eq_true rfl⟩) hw hA (fun v48 p47 H locs hp47 hw => ?_))
      obtain ⟨rfl, e49, e50⟩ := hp47
      have e49 := z_rng e49
      have e50 : R_sg_equals (mlen z4.toNatClampNeg) (mby z4.toNatClampNeg) 2 (lby "||") v48 := e50
      have lv48 := Int32.le_toInt v48
      have uv48 := Int32.toInt_lt v48
      refine lv_if_eq (tgt := 45) S.x S.b d_Mpg_rank_38 (by decide) (fun c51 => ?_) (fun c51 => ?_)
      · have nc51 : v48.toInt = (0 : Int) := (i_eq (x := v48) (y := 0)).mp c51
        refine lv_aload_n S.x S.b d_Mpg_rank_45 rfl (lv_at hl 0 rfl) ?_
        obtain ⟨sk53, hRsk53, st54, hSsk53⟩ := oP_litB hP (k := 69) (tx := "&&") (n := 2) (List.mem_of_getElem? (i := 26) rfl)
        refine va_ldcS S.x S.b S.own hRsk53 d_Mpg_rank_46 ?_
        first | refine px_calli (pr := [wdP cs h r g tf ta pf na ma wa cf ca ef ea xf xa]) (px_runV (As := [.ref sk53]) (rest := []) S (c_sg_equals l D cs sk5 st6 (mlen z4.toNatClampNeg) (mby z4.toNatClampNeg) sk53 st54 2 (lby "&&")   (show (mlen z4.toNatClampNeg) ≤ 1000000 from (oz_f8a16524ad e10 nc12)) (show 2 ≤ 1000000 from by omega) _) hT (pr := [wdP cs h r g tf ta pf na ma wa cf ca ef ea xf xa]) (pcs := []) hw (oX_call (P := (fun A U H => (oZ A U H) ∧ (oS A sk5 st6 (mlen z4.toNatClampNeg) (mby z4.toNatClampNeg) U H) ∧ (oS A sk53 st54 2 (lby "&&") U H))) (pr := [wdP cs h r g tf ta pf na ma wa cf ca ef ea xf xa]) (oG_and oG_Z (oG_and oG_S oG_S)) hw hA ⟨hZ, hSsk5, hSsk53⟩) (oS_recv hw hSsk5) m11_225 m11_222 m11_223 m11_224 m1_3 q_String_equals ⟨Nat.le_of_ble_eq_true rfl, Nat.le_of_ble_eq_true rfl⟩ hl.1 rfl (Nat.le_of_ble_eq_true rfl) d_Mpg_rank_48 ⟨Nat.le_of_ble_eq_true rfl, Nat.le_of_ble_eq_true rfl⟩) hw hA (fun v57 p56 H locs hp56 hw => ?_) | (refine px_calli (pr := [wdP cs h r g tf ta pf na ma wa cf ca ef ea xf xa]) (px_runV (As := [.ref sk53]) (rest := []) S (c_sg_equals l D cs sk5 st6 (mlen z4.toNatClampNeg) (mby z4.toNatClampNeg) sk53 st54 2 (lby "&&")   (show (mlen z4.toNatClampNeg) ≤ 1000000 from by first | exact oz_f8a16524ad e10 nc12 | omega) (show 2 ≤ 1000000 from by omega) _) hT (pr := [wdP cs h r g tf ta pf na ma wa cf ca ef ea xf xa]) (pcs := []) hw (oX_call (P := (fun A U H => (oZ A U H) ∧ (oS A sk5 st6 (mlen z4.toNatClampNeg) (mby z4.toNatClampNeg) U H) ∧ (oS A sk53 st54 2 (lby "&&") U H))) (pr := [wdP cs h r g tf ta pf na ma wa cf ca ef ea xf xa]) (oG_and oG_Z (oG_and oG_S oG_S)) hw hA ⟨hZ, hSsk5, hSsk53⟩) (oS_recv hw hSsk5) m11_225 m11_222 m11_223 m11_224 m1_3 q_String_equals ⟨Nat.le_of_ble_eq_true rfl, Nat.le_of_ble_eq_true rfl⟩ hl.1 rfl (Nat.le_of_ble_eq_true rfl) d_Mpg_rank_48 ⟨Nat.le_of_ble_eq_true rfl, Nat.le_of_ble_eq_true rfl⟩) hw hA (fun v57 p56 H locs hp56 hw => ?_))
        obtain ⟨rfl, e58, e59⟩ := hp56
        have e58 := z_rng e58
        have e59 : R_sg_equals (mlen z4.toNatClampNeg) (mby z4.toNatClampNeg) 2 (lby "&&") v57 := e59
        have lv57 := Int32.le_toInt v57
        have uv57 := Int32.toInt_lt v57
        refine lv_if_eq (tgt := 58) S.x S.b d_Mpg_rank_51 (by decide) (fun c60 => ?_) (fun c60 => ?_)
        · have nc60 : v57.toInt = (0 : Int) := (i_eq (x := v57) (y := 0)).mp c60
          refine lv_aload_n S.x S.b d_Mpg_rank_58 rfl (lv_at hl 0 rfl) ?_
          obtain ⟨sk62, hRsk62, st63, hSsk62⟩ := oP_litB hP (k := 71) (tx := "==") (n := 2) (List.mem_of_getElem? (i := 27) rfl)
          refine va_ldcS S.x S.b S.own hRsk62 d_Mpg_rank_59 ?_
          first | refine px_calli (pr := [wdP cs h r g tf ta pf na ma wa cf ca ef ea xf xa]) (px_runV (As := [.ref sk62]) (rest := []) S (c_sg_equals l D cs sk5 st6 (mlen z4.toNatClampNeg) (mby z4.toNatClampNeg) sk62 st63 2 (lby "==")   (show (mlen z4.toNatClampNeg) ≤ 1000000 from (oz_f8a16524ad e10 nc12)) (show 2 ≤ 1000000 from by omega) _) hT (pr := [wdP cs h r g tf ta pf na ma wa cf ca ef ea xf xa]) (pcs := []) hw (oX_call (P := (fun A U H => (oZ A U H) ∧ (oS A sk5 st6 (mlen z4.toNatClampNeg) (mby z4.toNatClampNeg) U H) ∧ (oS A sk62 st63 2 (lby "==") U H))) (pr := [wdP cs h r g tf ta pf na ma wa cf ca ef ea xf xa]) (oG_and oG_Z (oG_and oG_S oG_S)) hw hA ⟨hZ, hSsk5, hSsk62⟩) (oS_recv hw hSsk5) m11_225 m11_222 m11_223 m11_224 m1_3 q_String_equals ⟨Nat.le_of_ble_eq_true rfl, Nat.le_of_ble_eq_true rfl⟩ hl.1 rfl (Nat.le_of_ble_eq_true rfl) d_Mpg_rank_61 ⟨Nat.le_of_ble_eq_true rfl, Nat.le_of_ble_eq_true rfl⟩) hw hA (fun v66 p65 H locs hp65 hw => ?_) | (refine px_calli (pr := [wdP cs h r g tf ta pf na ma wa cf ca ef ea xf xa]) (px_runV (As := [.ref sk62]) (rest := []) S (c_sg_equals l D cs sk5 st6 (mlen z4.toNatClampNeg) (mby z4.toNatClampNeg) sk62 st63 2 (lby "==")   (show (mlen z4.toNatClampNeg) ≤ 1000000 from by first | exact oz_f8a16524ad e10 nc12 | omega) (show 2 ≤ 1000000 from by omega) _) hT (pr := [wdP cs h r g tf ta pf na ma wa cf ca ef ea xf xa]) (pcs := []) hw (oX_call (P := (fun A U H => (oZ A U H) ∧ (oS A sk5 st6 (mlen z4.toNatClampNeg) (mby z4.toNatClampNeg) U H) ∧ (oS A sk62 st63 2 (lby "==") U H))) (pr := [wdP cs h r g tf ta pf na ma wa cf ca ef ea xf xa]) (oG_and oG_Z (oG_and oG_S oG_S)) hw hA ⟨hZ, hSsk5, hSsk62⟩) (oS_recv hw hSsk5) m11_225 m11_222 m11_223 m11_224 m1_3 q_String_equals ⟨Nat.le_of_ble_eq_true rfl, Nat.le_of_ble_eq_true rfl⟩ hl.1 rfl (Nat.le_of_ble_eq_true rfl) d_Mpg_rank_61 ⟨Nat.le_of_ble_eq_true rfl, Nat.le_of_ble_eq_true rfl⟩) hw hA (fun v66 p65 H locs hp65 hw => ?_))
          obtain ⟨rfl, e67, e68⟩ := hp65
          have e67 := z_rng e67
          have e68 : R_sg_equals (mlen z4.toNatClampNeg) (mby z4.toNatClampNeg) 2 (lby "==") v66 := e68
          have lv66 := Int32.le_toInt v66
          have uv66 := Int32.toInt_lt v66
          refine lv_if_ne (tgt := 76) S.x S.b d_Mpg_rank_64 (by decide) (fun c69 => ?_) (fun c69 => ?_)
          · have nc69 : ¬ v66.toInt = (0 : Int) := mt (i_eq (x := v66) (y := 0)).mpr c69
            refine lv_bipush (v := 6) S.x S.b d_Mpg_rank_76 (by decide) ?_
            refine lv_goto (tgt := 128) S.x S.b d_Mpg_rank_78 (by decide) ?_
            first | exact px_iret (v := 6) S hr rfl hlk hAe hw (Nat.le_of_ble_eq_true rfl) (Nat.le_of_ble_eq_true rfl) (⟨rfl, (show 0 ≤ (6 : Int) from oz_7b65a14e92), (show (6 : Int) ≤ 10 from oz_403354d009), (show 1 ≤ (6 : Int) → p0.toInt + 1 < (tf 6).toInt ∧ so ta p0 = 5 from by omega), (show 1 ≤ (6 : Int) → (6 : Int) ≤ 2 → sz ta p0 = 2 from by omega), (show R_mp_rank ta p0 (6 : Int32) from (Or.inl ⟨z1, ez1, Or.inl ⟨nc2, z4, ez4, v9, e11, Or.inr ⟨nc12, v48, e50, Or.inl ⟨nc51, v57, e59, Or.inl ⟨nc60, v66, e68, Or.inl ⟨nc69, rfl⟩⟩⟩⟩⟩⟩))⟩) d_Mpg_rank_128 | (exact px_iret (v := 6) S hr rfl hlk hAe hw (Nat.le_of_ble_eq_true rfl) (Nat.le_of_ble_eq_true rfl) (⟨rfl, (show 0 ≤ (6 : Int) from by first | exact oz_7b65a14e92 | omega), (show (6 : Int) ≤ 10 from by first | exact oz_403354d009 | omega), (show 1 ≤ (6 : Int) → p0.toInt + 1 < (tf 6).toInt ∧ so ta p0 = 5 from by omega), (show 1 ≤ (6 : Int) → (6 : Int) ≤ 2 → sz ta p0 = 2 from by omega), (show R_mp_rank ta p0 (6 : Int32) from (Or.inl ⟨z1, ez1, Or.inl ⟨nc2, z4, ez4, v9, e11, Or.inr ⟨nc12, v48, e50, Or.inl ⟨nc51, v57, e59, Or.inl ⟨nc60, v66, e68, Or.inl ⟨nc69, rfl⟩⟩⟩⟩⟩⟩))⟩) d_Mpg_rank_128)
          · have nc69 : v66.toInt = (0 : Int) := (i_eq (x := v66) (y := 0)).mp c69
            refine lv_aload_n S.x S.b d_Mpg_rank_67 rfl (lv_at hl 0 rfl) ?_
            obtain ⟨sk71, hRsk71, st72, hSsk71⟩ := oP_litB hP (k := 73) (tx := "!=") (n := 2) (List.mem_of_getElem? (i := 28) rfl)
            refine va_ldcS S.x S.b S.own hRsk71 d_Mpg_rank_68 ?_
            first | refine px_calli (pr := [wdP cs h r g tf ta pf na ma wa cf ca ef ea xf xa]) (px_runV (As := [.ref sk71]) (rest := []) S (c_sg_equals l D cs sk5 st6 (mlen z4.toNatClampNeg) (mby z4.toNatClampNeg) sk71 st72 2 (lby "!=")   (show (mlen z4.toNatClampNeg) ≤ 1000000 from (oz_f8a16524ad e10 nc12)) (show 2 ≤ 1000000 from by omega) _) hT (pr := [wdP cs h r g tf ta pf na ma wa cf ca ef ea xf xa]) (pcs := []) hw (oX_call (P := (fun A U H => (oZ A U H) ∧ (oS A sk5 st6 (mlen z4.toNatClampNeg) (mby z4.toNatClampNeg) U H) ∧ (oS A sk71 st72 2 (lby "!=") U H))) (pr := [wdP cs h r g tf ta pf na ma wa cf ca ef ea xf xa]) (oG_and oG_Z (oG_and oG_S oG_S)) hw hA ⟨hZ, hSsk5, hSsk71⟩) (oS_recv hw hSsk5) m11_225 m11_222 m11_223 m11_224 m1_3 q_String_equals ⟨Nat.le_of_ble_eq_true rfl, Nat.le_of_ble_eq_true rfl⟩ hl.1 rfl (Nat.le_of_ble_eq_true rfl) d_Mpg_rank_70 ⟨Nat.le_of_ble_eq_true rfl, Nat.le_of_ble_eq_true rfl⟩) hw hA (fun v75 p74 H locs hp74 hw => ?_) | (refine px_calli (pr := [wdP cs h r g tf ta pf na ma wa cf ca ef ea xf xa]) (px_runV (As := [.ref sk71]) (rest := []) S (c_sg_equals l D cs sk5 st6 (mlen z4.toNatClampNeg) (mby z4.toNatClampNeg) sk71 st72 2 (lby "!=")   (show (mlen z4.toNatClampNeg) ≤ 1000000 from by first | exact oz_f8a16524ad e10 nc12 | omega) (show 2 ≤ 1000000 from by omega) _) hT (pr := [wdP cs h r g tf ta pf na ma wa cf ca ef ea xf xa]) (pcs := []) hw (oX_call (P := (fun A U H => (oZ A U H) ∧ (oS A sk5 st6 (mlen z4.toNatClampNeg) (mby z4.toNatClampNeg) U H) ∧ (oS A sk71 st72 2 (lby "!=") U H))) (pr := [wdP cs h r g tf ta pf na ma wa cf ca ef ea xf xa]) (oG_and oG_Z (oG_and oG_S oG_S)) hw hA ⟨hZ, hSsk5, hSsk71⟩) (oS_recv hw hSsk5) m11_225 m11_222 m11_223 m11_224 m1_3 q_String_equals ⟨Nat.le_of_ble_eq_true rfl, Nat.le_of_ble_eq_true rfl⟩ hl.1 rfl (Nat.le_of_ble_eq_true rfl) d_Mpg_rank_70 ⟨Nat.le_of_ble_eq_true rfl, Nat.le_of_ble_eq_true rfl⟩) hw hA (fun v75 p74 H locs hp74 hw => ?_))
            obtain ⟨rfl, e76, e77⟩ := hp74
            have e76 := z_rng e76
            have e77 : R_sg_equals (mlen z4.toNatClampNeg) (mby z4.toNatClampNeg) 2 (lby "!=") v75 := e77
            have lv75 := Int32.le_toInt v75
            have uv75 := Int32.toInt_lt v75
            refine lv_if_eq (tgt := 81) S.x S.b d_Mpg_rank_73 (by decide) (fun c78 => ?_) (fun c78 => ?_)
            · have nc78 : v75.toInt = (0 : Int) := (i_eq (x := v75) (y := 0)).mp c78
              refine lv_aload_n S.x S.b d_Mpg_rank_81 rfl (lv_at hl 0 rfl) ?_
              obtain ⟨sk80, hRsk80, st81, hSsk80⟩ := oP_litB hP (k := 75) (tx := "<=") (n := 2) (List.mem_of_getElem? (i := 29) rfl)
              refine va_ldcS S.x S.b S.own hRsk80 d_Mpg_rank_82 ?_
              first | refine px_calli (pr := [wdP cs h r g tf ta pf na ma wa cf ca ef ea xf xa]) (px_runV (As := [.ref sk80]) (rest := []) S (c_sg_equals l D cs sk5 st6 (mlen z4.toNatClampNeg) (mby z4.toNatClampNeg) sk80 st81 2 (lby "<=")   (show (mlen z4.toNatClampNeg) ≤ 1000000 from (oz_f8a16524ad e10 nc12)) (show 2 ≤ 1000000 from by omega) _) hT (pr := [wdP cs h r g tf ta pf na ma wa cf ca ef ea xf xa]) (pcs := []) hw (oX_call (P := (fun A U H => (oZ A U H) ∧ (oS A sk5 st6 (mlen z4.toNatClampNeg) (mby z4.toNatClampNeg) U H) ∧ (oS A sk80 st81 2 (lby "<=") U H))) (pr := [wdP cs h r g tf ta pf na ma wa cf ca ef ea xf xa]) (oG_and oG_Z (oG_and oG_S oG_S)) hw hA ⟨hZ, hSsk5, hSsk80⟩) (oS_recv hw hSsk5) m11_225 m11_222 m11_223 m11_224 m1_3 q_String_equals ⟨Nat.le_of_ble_eq_true rfl, Nat.le_of_ble_eq_true rfl⟩ hl.1 rfl (Nat.le_of_ble_eq_true rfl) d_Mpg_rank_84 ⟨Nat.le_of_ble_eq_true rfl, Nat.le_of_ble_eq_true rfl⟩) hw hA (fun v84 p83 H locs hp83 hw => ?_) | (refine px_calli (pr := [wdP cs h r g tf ta pf na ma wa cf ca ef ea xf xa]) (px_runV (As := [.ref sk80]) (rest := []) S (c_sg_equals l D cs sk5 st6 (mlen z4.toNatClampNeg) (mby z4.toNatClampNeg) sk80 st81 2 (lby "<=")   (show (mlen z4.toNatClampNeg) ≤ 1000000 from by first | exact oz_f8a16524ad e10 nc12 | omega) (show 2 ≤ 1000000 from by omega) _) hT (pr := [wdP cs h r g tf ta pf na ma wa cf ca ef ea xf xa]) (pcs := []) hw (oX_call (P := (fun A U H => (oZ A U H) ∧ (oS A sk5 st6 (mlen z4.toNatClampNeg) (mby z4.toNatClampNeg) U H) ∧ (oS A sk80 st81 2 (lby "<=") U H))) (pr := [wdP cs h r g tf ta pf na ma wa cf ca ef ea xf xa]) (oG_and oG_Z (oG_and oG_S oG_S)) hw hA ⟨hZ, hSsk5, hSsk80⟩) (oS_recv hw hSsk5) m11_225 m11_222 m11_223 m11_224 m1_3 q_String_equals ⟨Nat.le_of_ble_eq_true rfl, Nat.le_of_ble_eq_true rfl⟩ hl.1 rfl (Nat.le_of_ble_eq_true rfl) d_Mpg_rank_84 ⟨Nat.le_of_ble_eq_true rfl, Nat.le_of_ble_eq_true rfl⟩) hw hA (fun v84 p83 H locs hp83 hw => ?_))
              obtain ⟨rfl, e85, e86⟩ := hp83
              have e85 := z_rng e85
              have e86 : R_sg_equals (mlen z4.toNatClampNeg) (mby z4.toNatClampNeg) 2 (lby "<=") v84 := e86
              have lv84 := Int32.le_toInt v84
              have uv84 := Int32.toInt_lt v84
              refine lv_if_ne (tgt := 99) S.x S.b d_Mpg_rank_87 (by decide) (fun c87 => ?_) (fun c87 => ?_)
              · have nc87 : ¬ v84.toInt = (0 : Int) := mt (i_eq (x := v84) (y := 0)).mpr c87
                refine lv_bipush (v := 7) S.x S.b d_Mpg_rank_99 (by decide) ?_
                refine lv_goto (tgt := 128) S.x S.b d_Mpg_rank_101 (by decide) ?_
                first | exact px_iret (v := 7) S hr rfl hlk hAe hw (Nat.le_of_ble_eq_true rfl) (Nat.le_of_ble_eq_true rfl) (⟨rfl, (show 0 ≤ (7 : Int) from oz_096f6f1d83), (show (7 : Int) ≤ 10 from oz_8cd2080322), (show 1 ≤ (7 : Int) → p0.toInt + 1 < (tf 6).toInt ∧ so ta p0 = 5 from by omega), (show 1 ≤ (7 : Int) → (7 : Int) ≤ 2 → sz ta p0 = 2 from by omega), (show R_mp_rank ta p0 (7 : Int32) from (Or.inl ⟨z1, ez1, Or.inl ⟨nc2, z4, ez4, v9, e11, Or.inr ⟨nc12, v48, e50, Or.inl ⟨nc51, v57, e59, Or.inl ⟨nc60, v66, e68, Or.inr ⟨nc69, v75, e77, Or.inl ⟨nc78, v84, e86, Or.inl ⟨nc87, rfl⟩⟩⟩⟩⟩⟩⟩⟩))⟩) d_Mpg_rank_128 | (exact px_iret (v := 7) S hr rfl hlk hAe hw (Nat.le_of_ble_eq_true rfl) (Nat.le_of_ble_eq_true rfl) (⟨rfl, (show 0 ≤ (7 : Int) from by first | exact oz_096f6f1d83 | omega), (show (7 : Int) ≤ 10 from by first | exact oz_8cd2080322 | omega), (show 1 ≤ (7 : Int) → p0.toInt + 1 < (tf 6).toInt ∧ so ta p0 = 5 from by omega), (show 1 ≤ (7 : Int) → (7 : Int) ≤ 2 → sz ta p0 = 2 from by omega), (show R_mp_rank ta p0 (7 : Int32) from (Or.inl ⟨z1, ez1, Or.inl ⟨nc2, z4, ez4, v9, e11, Or.inr ⟨nc12, v48, e50, Or.inl ⟨nc51, v57, e59, Or.inl ⟨nc60, v66, e68, Or.inr ⟨nc69, v75, e77, Or.inl ⟨nc78, v84, e86, Or.inl ⟨nc87, rfl⟩⟩⟩⟩⟩⟩⟩⟩))⟩) d_Mpg_rank_128)
              · have nc87 : v84.toInt = (0 : Int) := (i_eq (x := v84) (y := 0)).mp c87
                refine lv_aload_n S.x S.b d_Mpg_rank_90 rfl (lv_at hl 0 rfl) ?_
                obtain ⟨sk89, hRsk89, st90, hSsk89⟩ := oP_litB hP (k := 77) (tx := ">=") (n := 2) (List.mem_of_getElem? (i := 30) rfl)
                refine va_ldcS S.x S.b S.own hRsk89 d_Mpg_rank_91 ?_
                first | refine px_calli (pr := [wdP cs h r g tf ta pf na ma wa cf ca ef ea xf xa]) (px_runV (As := [.ref sk89]) (rest := []) S (c_sg_equals l D cs sk5 st6 (mlen z4.toNatClampNeg) (mby z4.toNatClampNeg) sk89 st90 2 (lby ">=")   (show (mlen z4.toNatClampNeg) ≤ 1000000 from (oz_f8a16524ad e10 nc12)) (show 2 ≤ 1000000 from by omega) _) hT (pr := [wdP cs h r g tf ta pf na ma wa cf ca ef ea xf xa]) (pcs := []) hw (oX_call (P := (fun A U H => (oZ A U H) ∧ (oS A sk5 st6 (mlen z4.toNatClampNeg) (mby z4.toNatClampNeg) U H) ∧ (oS A sk89 st90 2 (lby ">=") U H))) (pr := [wdP cs h r g tf ta pf na ma wa cf ca ef ea xf xa]) (oG_and oG_Z (oG_and oG_S oG_S)) hw hA ⟨hZ, hSsk5, hSsk89⟩) (oS_recv hw hSsk5) m11_225 m11_222 m11_223 m11_224 m1_3 q_String_equals ⟨Nat.le_of_ble_eq_true rfl, Nat.le_of_ble_eq_true rfl⟩ hl.1 rfl (Nat.le_of_ble_eq_true rfl) d_Mpg_rank_93 ⟨Nat.le_of_ble_eq_true rfl, Nat.le_of_ble_eq_true rfl⟩) hw hA (fun v93 p92 H locs hp92 hw => ?_) | (refine px_calli (pr := [wdP cs h r g tf ta pf na ma wa cf ca ef ea xf xa]) (px_runV (As := [.ref sk89]) (rest := []) S (c_sg_equals l D cs sk5 st6 (mlen z4.toNatClampNeg) (mby z4.toNatClampNeg) sk89 st90 2 (lby ">=")   (show (mlen z4.toNatClampNeg) ≤ 1000000 from by first | exact oz_f8a16524ad e10 nc12 | omega) (show 2 ≤ 1000000 from by omega) _) hT (pr := [wdP cs h r g tf ta pf na ma wa cf ca ef ea xf xa]) (pcs := []) hw (oX_call (P := (fun A U H => (oZ A U H) ∧ (oS A sk5 st6 (mlen z4.toNatClampNeg) (mby z4.toNatClampNeg) U H) ∧ (oS A sk89 st90 2 (lby ">=") U H))) (pr := [wdP cs h r g tf ta pf na ma wa cf ca ef ea xf xa]) (oG_and oG_Z (oG_and oG_S oG_S)) hw hA ⟨hZ, hSsk5, hSsk89⟩) (oS_recv hw hSsk5) m11_225 m11_222 m11_223 m11_224 m1_3 q_String_equals ⟨Nat.le_of_ble_eq_true rfl, Nat.le_of_ble_eq_true rfl⟩ hl.1 rfl (Nat.le_of_ble_eq_true rfl) d_Mpg_rank_93 ⟨Nat.le_of_ble_eq_true rfl, Nat.le_of_ble_eq_true rfl⟩) hw hA (fun v93 p92 H locs hp92 hw => ?_))
                obtain ⟨rfl, e94, e95⟩ := hp92
                have e94 := z_rng e94
                have e95 : R_sg_equals (mlen z4.toNatClampNeg) (mby z4.toNatClampNeg) 2 (lby ">=") v93 := e95
                have lv93 := Int32.le_toInt v93
                have uv93 := Int32.toInt_lt v93
                refine lv_if_eq (tgt := 104) S.x S.b d_Mpg_rank_96 (by decide) (fun c96 => ?_) (fun c96 => ?_)
                · have nc96 : v93.toInt = (0 : Int) := (i_eq (x := v93) (y := 0)).mp c96
                  refine lv_aload_n S.x S.b d_Mpg_rank_104 rfl (lv_at hl 0 rfl) ?_
                  obtain ⟨sk98, hRsk98, st99, hSsk98⟩ := oP_litB hP (k := 79) (tx := "<<") (n := 2) (List.mem_of_getElem? (i := 31) rfl)
                  refine va_ldcS S.x S.b S.own hRsk98 d_Mpg_rank_105 ?_
                  first | refine px_calli (pr := [wdP cs h r g tf ta pf na ma wa cf ca ef ea xf xa]) (px_runV (As := [.ref sk98]) (rest := []) S (c_sg_equals l D cs sk5 st6 (mlen z4.toNatClampNeg) (mby z4.toNatClampNeg) sk98 st99 2 (lby "<<")   (show (mlen z4.toNatClampNeg) ≤ 1000000 from (oz_f8a16524ad e10 nc12)) (show 2 ≤ 1000000 from by omega) _) hT (pr := [wdP cs h r g tf ta pf na ma wa cf ca ef ea xf xa]) (pcs := []) hw (oX_call (P := (fun A U H => (oZ A U H) ∧ (oS A sk5 st6 (mlen z4.toNatClampNeg) (mby z4.toNatClampNeg) U H) ∧ (oS A sk98 st99 2 (lby "<<") U H))) (pr := [wdP cs h r g tf ta pf na ma wa cf ca ef ea xf xa]) (oG_and oG_Z (oG_and oG_S oG_S)) hw hA ⟨hZ, hSsk5, hSsk98⟩) (oS_recv hw hSsk5) m11_225 m11_222 m11_223 m11_224 m1_3 q_String_equals ⟨Nat.le_of_ble_eq_true rfl, Nat.le_of_ble_eq_true rfl⟩ hl.1 rfl (Nat.le_of_ble_eq_true rfl) d_Mpg_rank_107 ⟨Nat.le_of_ble_eq_true rfl, Nat.le_of_ble_eq_true rfl⟩) hw hA (fun v102 p101 H locs hp101 hw => ?_) | (refine px_calli (pr := [wdP cs h r g tf ta pf na ma wa cf ca ef ea xf xa]) (px_runV (As := [.ref sk98]) (rest := []) S (c_sg_equals l D cs sk5 st6 (mlen z4.toNatClampNeg) (mby z4.toNatClampNeg) sk98 st99 2 (lby "<<")   (show (mlen z4.toNatClampNeg) ≤ 1000000 from by first | exact oz_f8a16524ad e10 nc12 | omega) (show 2 ≤ 1000000 from by omega) _) hT (pr := [wdP cs h r g tf ta pf na ma wa cf ca ef ea xf xa]) (pcs := []) hw (oX_call (P := (fun A U H => (oZ A U H) ∧ (oS A sk5 st6 (mlen z4.toNatClampNeg) (mby z4.toNatClampNeg) U H) ∧ (oS A sk98 st99 2 (lby "<<") U H))) (pr := [wdP cs h r g tf ta pf na ma wa cf ca ef ea xf xa]) (oG_and oG_Z (oG_and oG_S oG_S)) hw hA ⟨hZ, hSsk5, hSsk98⟩) (oS_recv hw hSsk5) m11_225 m11_222 m11_223 m11_224 m1_3 q_String_equals ⟨Nat.le_of_ble_eq_true rfl, Nat.le_of_ble_eq_true rfl⟩ hl.1 rfl (Nat.le_of_ble_eq_true rfl) d_Mpg_rank_107 ⟨Nat.le_of_ble_eq_true rfl, Nat.le_of_ble_eq_true rfl⟩) hw hA (fun v102 p101 H locs hp101 hw => ?_))
                  obtain ⟨rfl, e103, e104⟩ := hp101
                  have e103 := z_rng e103
                  have e104 : R_sg_equals (mlen z4.toNatClampNeg) (mby z4.toNatClampNeg) 2 (lby "<<") v102 := e104
                  have lv102 := Int32.le_toInt v102
                  have uv102 := Int32.toInt_lt v102
                  refine lv_if_ne (tgt := 122) S.x S.b d_Mpg_rank_110 (by decide) (fun c105 => ?_) (fun c105 => ?_)
                  · have nc105 : ¬ v102.toInt = (0 : Int) := mt (i_eq (x := v102) (y := 0)).mpr c105
                    refine lv_bipush (v := 8) S.x S.b d_Mpg_rank_122 (by decide) ?_
                    refine lv_goto (tgt := 128) S.x S.b d_Mpg_rank_124 (by decide) ?_
                    first | exact px_iret (v := 8) S hr rfl hlk hAe hw (Nat.le_of_ble_eq_true rfl) (Nat.le_of_ble_eq_true rfl) (⟨rfl, (show 0 ≤ (8 : Int) from oz_e9a76ff475), (show (8 : Int) ≤ 10 from oz_7d49d523c5), (show 1 ≤ (8 : Int) → p0.toInt + 1 < (tf 6).toInt ∧ so ta p0 = 5 from by omega), (show 1 ≤ (8 : Int) → (8 : Int) ≤ 2 → sz ta p0 = 2 from by omega), (show R_mp_rank ta p0 (8 : Int32) from (Or.inl ⟨z1, ez1, Or.inl ⟨nc2, z4, ez4, v9, e11, Or.inr ⟨nc12, v48, e50, Or.inl ⟨nc51, v57, e59, Or.inl ⟨nc60, v66, e68, Or.inr ⟨nc69, v75, e77, Or.inl ⟨nc78, v84, e86, Or.inr ⟨nc87, v93, e95, Or.inl ⟨nc96, v102, e104, Or.inl ⟨nc105, rfl⟩⟩⟩⟩⟩⟩⟩⟩⟩⟩))⟩) d_Mpg_rank_128 | (exact px_iret (v := 8) S hr rfl hlk hAe hw (Nat.le_of_ble_eq_true rfl) (Nat.le_of_ble_eq_true rfl) (⟨rfl, (show 0 ≤ (8 : Int) from by first | exact oz_e9a76ff475 | omega), (show (8 : Int) ≤ 10 from by first | exact oz_7d49d523c5 | omega), (show 1 ≤ (8 : Int) → p0.toInt + 1 < (tf 6).toInt ∧ so ta p0 = 5 from by omega), (show 1 ≤ (8 : Int) → (8 : Int) ≤ 2 → sz ta p0 = 2 from by omega), (show R_mp_rank ta p0 (8 : Int32) from (Or.inl ⟨z1, ez1, Or.inl ⟨nc2, z4, ez4, v9, e11, Or.inr ⟨nc12, v48, e50, Or.inl ⟨nc51, v57, e59, Or.inl ⟨nc60, v66, e68, Or.inr ⟨nc69, v75, e77, Or.inl ⟨nc78, v84, e86, Or.inr ⟨nc87, v93, e95, Or.inl ⟨nc96, v102, e104, Or.inl ⟨nc105, rfl⟩⟩⟩⟩⟩⟩⟩⟩⟩⟩))⟩) d_Mpg_rank_128)
                  · have nc105 : v102.toInt = (0 : Int) := (i_eq (x := v102) (y := 0)).mp c105
                    refine lv_aload_n S.x S.b d_Mpg_rank_113 rfl (lv_at hl 0 rfl) ?_
                    obtain ⟨sk107, hRsk107, st108, hSsk107⟩ := oP_litB hP (k := 81) (tx := ">>") (n := 2) (List.mem_of_getElem? (i := 32) rfl)
                    refine va_ldcS S.x S.b S.own hRsk107 d_Mpg_rank_114 ?_
                    first | refine px_calli (pr := [wdP cs h r g tf ta pf na ma wa cf ca ef ea xf xa]) (px_runV (As := [.ref sk107]) (rest := []) S (c_sg_equals l D cs sk5 st6 (mlen z4.toNatClampNeg) (mby z4.toNatClampNeg) sk107 st108 2 (lby ">>")   (show (mlen z4.toNatClampNeg) ≤ 1000000 from (oz_f8a16524ad e10 nc12)) (show 2 ≤ 1000000 from by omega) _) hT (pr := [wdP cs h r g tf ta pf na ma wa cf ca ef ea xf xa]) (pcs := []) hw (oX_call (P := (fun A U H => (oZ A U H) ∧ (oS A sk5 st6 (mlen z4.toNatClampNeg) (mby z4.toNatClampNeg) U H) ∧ (oS A sk107 st108 2 (lby ">>") U H))) (pr := [wdP cs h r g tf ta pf na ma wa cf ca ef ea xf xa]) (oG_and oG_Z (oG_and oG_S oG_S)) hw hA ⟨hZ, hSsk5, hSsk107⟩) (oS_recv hw hSsk5) m11_225 m11_222 m11_223 m11_224 m1_3 q_String_equals ⟨Nat.le_of_ble_eq_true rfl, Nat.le_of_ble_eq_true rfl⟩ hl.1 rfl (Nat.le_of_ble_eq_true rfl) d_Mpg_rank_116 ⟨Nat.le_of_ble_eq_true rfl, Nat.le_of_ble_eq_true rfl⟩) hw hA (fun v111 p110 H locs hp110 hw => ?_) | (refine px_calli (pr := [wdP cs h r g tf ta pf na ma wa cf ca ef ea xf xa]) (px_runV (As := [.ref sk107]) (rest := []) S (c_sg_equals l D cs sk5 st6 (mlen z4.toNatClampNeg) (mby z4.toNatClampNeg) sk107 st108 2 (lby ">>")   (show (mlen z4.toNatClampNeg) ≤ 1000000 from by first | exact oz_f8a16524ad e10 nc12 | omega) (show 2 ≤ 1000000 from by omega) _) hT (pr := [wdP cs h r g tf ta pf na ma wa cf ca ef ea xf xa]) (pcs := []) hw (oX_call (P := (fun A U H => (oZ A U H) ∧ (oS A sk5 st6 (mlen z4.toNatClampNeg) (mby z4.toNatClampNeg) U H) ∧ (oS A sk107 st108 2 (lby ">>") U H))) (pr := [wdP cs h r g tf ta pf na ma wa cf ca ef ea xf xa]) (oG_and oG_Z (oG_and oG_S oG_S)) hw hA ⟨hZ, hSsk5, hSsk107⟩) (oS_recv hw hSsk5) m11_225 m11_222 m11_223 m11_224 m1_3 q_String_equals ⟨Nat.le_of_ble_eq_true rfl, Nat.le_of_ble_eq_true rfl⟩ hl.1 rfl (Nat.le_of_ble_eq_true rfl) d_Mpg_rank_116 ⟨Nat.le_of_ble_eq_true rfl, Nat.le_of_ble_eq_true rfl⟩) hw hA (fun v111 p110 H locs hp110 hw => ?_))
                    obtain ⟨rfl, e112, e113⟩ := hp110
                    have e112 := z_rng e112
                    have e113 : R_sg_equals (mlen z4.toNatClampNeg) (mby z4.toNatClampNeg) 2 (lby ">>") v111 := e113
                    have lv111 := Int32.le_toInt v111
                    have uv111 := Int32.toInt_lt v111
                    refine lv_if_eq (tgt := 127) S.x S.b d_Mpg_rank_119 (by decide) (fun c114 => ?_) (fun c114 => ?_)
                    · have nc114 : v111.toInt = (0 : Int) := (i_eq (x := v111) (y := 0)).mp c114
                      refine lv_iconst (v := 0) S.x S.b d_Mpg_rank_127 (by decide) ?_
                      first | exact px_iret (v := 0) S hr rfl hlk hAe hw (Nat.le_of_ble_eq_true rfl) (Nat.le_of_ble_eq_true rfl) (⟨rfl, (show 0 ≤ (0 : Int) from oz_5a341f00aa), (show (0 : Int) ≤ 10 from oz_117e7b2a6a), (show 1 ≤ (0 : Int) → p0.toInt + 1 < (tf 6).toInt ∧ so ta p0 = 5 from by omega), (show 1 ≤ (0 : Int) → (0 : Int) ≤ 2 → sz ta p0 = 2 from by omega), (show R_mp_rank ta p0 (0 : Int32) from (Or.inl ⟨z1, ez1, Or.inl ⟨nc2, z4, ez4, v9, e11, Or.inr ⟨nc12, v48, e50, Or.inl ⟨nc51, v57, e59, Or.inl ⟨nc60, v66, e68, Or.inr ⟨nc69, v75, e77, Or.inl ⟨nc78, v84, e86, Or.inr ⟨nc87, v93, e95, Or.inl ⟨nc96, v102, e104, Or.inr ⟨nc105, v111, e113, Or.inl ⟨nc114, rfl⟩⟩⟩⟩⟩⟩⟩⟩⟩⟩⟩))⟩) d_Mpg_rank_128 | (exact px_iret (v := 0) S hr rfl hlk hAe hw (Nat.le_of_ble_eq_true rfl) (Nat.le_of_ble_eq_true rfl) (⟨rfl, (show 0 ≤ (0 : Int) from by first | exact oz_5a341f00aa | omega), (show (0 : Int) ≤ 10 from by first | exact oz_117e7b2a6a | omega), (show 1 ≤ (0 : Int) → p0.toInt + 1 < (tf 6).toInt ∧ so ta p0 = 5 from by omega), (show 1 ≤ (0 : Int) → (0 : Int) ≤ 2 → sz ta p0 = 2 from by omega), (show R_mp_rank ta p0 (0 : Int32) from (Or.inl ⟨z1, ez1, Or.inl ⟨nc2, z4, ez4, v9, e11, Or.inr ⟨nc12, v48, e50, Or.inl ⟨nc51, v57, e59, Or.inl ⟨nc60, v66, e68, Or.inr ⟨nc69, v75, e77, Or.inl ⟨nc78, v84, e86, Or.inr ⟨nc87, v93, e95, Or.inl ⟨nc96, v102, e104, Or.inr ⟨nc105, v111, e113, Or.inl ⟨nc114, rfl⟩⟩⟩⟩⟩⟩⟩⟩⟩⟩⟩))⟩) d_Mpg_rank_128)
                    · have nc114 : ¬ v111.toInt = (0 : Int) := mt (i_eq (x := v111) (y := 0)).mpr c114
                      refine lv_bipush (v := 8) S.x S.b d_Mpg_rank_122 (by decide) ?_
                      refine lv_goto (tgt := 128) S.x S.b d_Mpg_rank_124 (by decide) ?_
                      first | exact px_iret (v := 8) S hr rfl hlk hAe hw (Nat.le_of_ble_eq_true rfl) (Nat.le_of_ble_eq_true rfl) (⟨rfl, (show 0 ≤ (8 : Int) from oz_e9a76ff475), (show (8 : Int) ≤ 10 from oz_7d49d523c5), (show 1 ≤ (8 : Int) → p0.toInt + 1 < (tf 6).toInt ∧ so ta p0 = 5 from by omega), (show 1 ≤ (8 : Int) → (8 : Int) ≤ 2 → sz ta p0 = 2 from by omega), (show R_mp_rank ta p0 (8 : Int32) from (Or.inl ⟨z1, ez1, Or.inl ⟨nc2, z4, ez4, v9, e11, Or.inr ⟨nc12, v48, e50, Or.inl ⟨nc51, v57, e59, Or.inl ⟨nc60, v66, e68, Or.inr ⟨nc69, v75, e77, Or.inl ⟨nc78, v84, e86, Or.inr ⟨nc87, v93, e95, Or.inl ⟨nc96, v102, e104, Or.inr ⟨nc105, v111, e113, Or.inr ⟨nc114, rfl⟩⟩⟩⟩⟩⟩⟩⟩⟩⟩⟩))⟩) d_Mpg_rank_128 | (exact px_iret (v := 8) S hr rfl hlk hAe hw (Nat.le_of_ble_eq_true rfl) (Nat.le_of_ble_eq_true rfl) (⟨rfl, (show 0 ≤ (8 : Int) from by first | exact oz_e9a76ff475 | omega), (show (8 : Int) ≤ 10 from by first | exact oz_7d49d523c5 | omega), (show 1 ≤ (8 : Int) → p0.toInt + 1 < (tf 6).toInt ∧ so ta p0 = 5 from by omega), (show 1 ≤ (8 : Int) → (8 : Int) ≤ 2 → sz ta p0 = 2 from by omega), (show R_mp_rank ta p0 (8 : Int32) from (Or.inl ⟨z1, ez1, Or.inl ⟨nc2, z4, ez4, v9, e11, Or.inr ⟨nc12, v48, e50, Or.inl ⟨nc51, v57, e59, Or.inl ⟨nc60, v66, e68, Or.inr ⟨nc69, v75, e77, Or.inl ⟨nc78, v84, e86, Or.inr ⟨nc87, v93, e95, Or.inl ⟨nc96, v102, e104, Or.inr ⟨nc105, v111, e113, Or.inr ⟨nc114, rfl⟩⟩⟩⟩⟩⟩⟩⟩⟩⟩⟩))⟩) d_Mpg_rank_128)
                · have nc96 : ¬ v93.toInt = (0 : Int) := mt (i_eq (x := v93) (y := 0)).mpr c96
                  refine lv_bipush (v := 7) S.x S.b d_Mpg_rank_99 (by decide) ?_
                  refine lv_goto (tgt := 128) S.x S.b d_Mpg_rank_101 (by decide) ?_
                  first | exact px_iret (v := 7) S hr rfl hlk hAe hw (Nat.le_of_ble_eq_true rfl) (Nat.le_of_ble_eq_true rfl) (⟨rfl, (show 0 ≤ (7 : Int) from oz_096f6f1d83), (show (7 : Int) ≤ 10 from oz_8cd2080322), (show 1 ≤ (7 : Int) → p0.toInt + 1 < (tf 6).toInt ∧ so ta p0 = 5 from by omega), (show 1 ≤ (7 : Int) → (7 : Int) ≤ 2 → sz ta p0 = 2 from by omega), (show R_mp_rank ta p0 (7 : Int32) from (Or.inl ⟨z1, ez1, Or.inl ⟨nc2, z4, ez4, v9, e11, Or.inr ⟨nc12, v48, e50, Or.inl ⟨nc51, v57, e59, Or.inl ⟨nc60, v66, e68, Or.inr ⟨nc69, v75, e77, Or.inl ⟨nc78, v84, e86, Or.inr ⟨nc87, v93, e95, Or.inr ⟨nc96, rfl⟩⟩⟩⟩⟩⟩⟩⟩⟩))⟩) d_Mpg_rank_128 | (exact px_iret (v := 7) S hr rfl hlk hAe hw (Nat.le_of_ble_eq_true rfl) (Nat.le_of_ble_eq_true rfl) (⟨rfl, (show 0 ≤ (7 : Int) from by first | exact oz_096f6f1d83 | omega), (show (7 : Int) ≤ 10 from by first | exact oz_8cd2080322 | omega), (show 1 ≤ (7 : Int) → p0.toInt + 1 < (tf 6).toInt ∧ so ta p0 = 5 from by omega), (show 1 ≤ (7 : Int) → (7 : Int) ≤ 2 → sz ta p0 = 2 from by omega), (show R_mp_rank ta p0 (7 : Int32) from (Or.inl ⟨z1, ez1, Or.inl ⟨nc2, z4, ez4, v9, e11, Or.inr ⟨nc12, v48, e50, Or.inl ⟨nc51, v57, e59, Or.inl ⟨nc60, v66, e68, Or.inr ⟨nc69, v75, e77, Or.inl ⟨nc78, v84, e86, Or.inr ⟨nc87, v93, e95, Or.inr ⟨nc96, rfl⟩⟩⟩⟩⟩⟩⟩⟩⟩))⟩) d_Mpg_rank_128)
            · have nc78 : ¬ v75.toInt = (0 : Int) := mt (i_eq (x := v75) (y := 0)).mpr c78
              refine lv_bipush (v := 6) S.x S.b d_Mpg_rank_76 (by decide) ?_
              refine lv_goto (tgt := 128) S.x S.b d_Mpg_rank_78 (by decide) ?_
              first | exact px_iret (v := 6) S hr rfl hlk hAe hw (Nat.le_of_ble_eq_true rfl) (Nat.le_of_ble_eq_true rfl) (⟨rfl, (show 0 ≤ (6 : Int) from oz_7b65a14e92), (show (6 : Int) ≤ 10 from oz_403354d009), (show 1 ≤ (6 : Int) → p0.toInt + 1 < (tf 6).toInt ∧ so ta p0 = 5 from by omega), (show 1 ≤ (6 : Int) → (6 : Int) ≤ 2 → sz ta p0 = 2 from by omega), (show R_mp_rank ta p0 (6 : Int32) from (Or.inl ⟨z1, ez1, Or.inl ⟨nc2, z4, ez4, v9, e11, Or.inr ⟨nc12, v48, e50, Or.inl ⟨nc51, v57, e59, Or.inl ⟨nc60, v66, e68, Or.inr ⟨nc69, v75, e77, Or.inr ⟨nc78, rfl⟩⟩⟩⟩⟩⟩⟩))⟩) d_Mpg_rank_128 | (exact px_iret (v := 6) S hr rfl hlk hAe hw (Nat.le_of_ble_eq_true rfl) (Nat.le_of_ble_eq_true rfl) (⟨rfl, (show 0 ≤ (6 : Int) from by first | exact oz_7b65a14e92 | omega), (show (6 : Int) ≤ 10 from by first | exact oz_403354d009 | omega), (show 1 ≤ (6 : Int) → p0.toInt + 1 < (tf 6).toInt ∧ so ta p0 = 5 from by omega), (show 1 ≤ (6 : Int) → (6 : Int) ≤ 2 → sz ta p0 = 2 from by omega), (show R_mp_rank ta p0 (6 : Int32) from (Or.inl ⟨z1, ez1, Or.inl ⟨nc2, z4, ez4, v9, e11, Or.inr ⟨nc12, v48, e50, Or.inl ⟨nc51, v57, e59, Or.inl ⟨nc60, v66, e68, Or.inr ⟨nc69, v75, e77, Or.inr ⟨nc78, rfl⟩⟩⟩⟩⟩⟩⟩))⟩) d_Mpg_rank_128)
        · have nc60 : ¬ v57.toInt = (0 : Int) := mt (i_eq (x := v57) (y := 0)).mpr c60
          refine lv_iconst (v := 2) S.x S.b d_Mpg_rank_54 (by decide) ?_
          refine lv_goto (tgt := 128) S.x S.b d_Mpg_rank_55 (by decide) ?_
          first | exact px_iret (v := 2) S hr rfl hlk hAe hw (Nat.le_of_ble_eq_true rfl) (Nat.le_of_ble_eq_true rfl) (⟨rfl, (show 0 ≤ (2 : Int) from oz_42ded8c576), (show (2 : Int) ≤ 10 from oz_5e333f7fca), (show 1 ≤ (2 : Int) → p0.toInt + 1 < (tf 6).toInt ∧ so ta p0 = 5 from by omega), (show 1 ≤ (2 : Int) → (2 : Int) ≤ 2 → sz ta p0 = 2 from by omega), (show R_mp_rank ta p0 (2 : Int32) from (Or.inl ⟨z1, ez1, Or.inl ⟨nc2, z4, ez4, v9, e11, Or.inr ⟨nc12, v48, e50, Or.inl ⟨nc51, v57, e59, Or.inr ⟨nc60, rfl⟩⟩⟩⟩⟩))⟩) d_Mpg_rank_128 | (exact px_iret (v := 2) S hr rfl hlk hAe hw (Nat.le_of_ble_eq_true rfl) (Nat.le_of_ble_eq_true rfl) (⟨rfl, (show 0 ≤ (2 : Int) from by first | exact oz_42ded8c576 | omega), (show (2 : Int) ≤ 10 from by first | exact oz_5e333f7fca | omega), (show 1 ≤ (2 : Int) → p0.toInt + 1 < (tf 6).toInt ∧ so ta p0 = 5 from by omega), (show 1 ≤ (2 : Int) → (2 : Int) ≤ 2 → sz ta p0 = 2 from by omega), (show R_mp_rank ta p0 (2 : Int32) from (Or.inl ⟨z1, ez1, Or.inl ⟨nc2, z4, ez4, v9, e11, Or.inr ⟨nc12, v48, e50, Or.inl ⟨nc51, v57, e59, Or.inr ⟨nc60, rfl⟩⟩⟩⟩⟩))⟩) d_Mpg_rank_128)
      · have nc51 : ¬ v48.toInt = (0 : Int) := mt (i_eq (x := v48) (y := 0)).mpr c51
        refine lv_iconst (v := 1) S.x S.b d_Mpg_rank_41 (by decide) ?_
        refine lv_goto (tgt := 128) S.x S.b d_Mpg_rank_42 (by decide) ?_
        first | exact px_iret (v := 1) S hr rfl hlk hAe hw (Nat.le_of_ble_eq_true rfl) (Nat.le_of_ble_eq_true rfl) (⟨rfl, (show 0 ≤ (1 : Int) from oz_19c3a41681), (show (1 : Int) ≤ 10 from oz_7f2d4b7cbd), (show 1 ≤ (1 : Int) → p0.toInt + 1 < (tf 6).toInt ∧ so ta p0 = 5 from by omega), (show 1 ≤ (1 : Int) → (1 : Int) ≤ 2 → sz ta p0 = 2 from by omega), (show R_mp_rank ta p0 (1 : Int32) from (Or.inl ⟨z1, ez1, Or.inl ⟨nc2, z4, ez4, v9, e11, Or.inr ⟨nc12, v48, e50, Or.inr ⟨nc51, rfl⟩⟩⟩⟩))⟩) d_Mpg_rank_128 | (exact px_iret (v := 1) S hr rfl hlk hAe hw (Nat.le_of_ble_eq_true rfl) (Nat.le_of_ble_eq_true rfl) (⟨rfl, (show 0 ≤ (1 : Int) from by first | exact oz_19c3a41681 | omega), (show (1 : Int) ≤ 10 from by first | exact oz_7f2d4b7cbd | omega), (show 1 ≤ (1 : Int) → p0.toInt + 1 < (tf 6).toInt ∧ so ta p0 = 5 from by omega), (show 1 ≤ (1 : Int) → (1 : Int) ≤ 2 → sz ta p0 = 2 from by omega), (show R_mp_rank ta p0 (1 : Int32) from (Or.inl ⟨z1, ez1, Or.inl ⟨nc2, z4, ez4, v9, e11, Or.inr ⟨nc12, v48, e50, Or.inr ⟨nc51, rfl⟩⟩⟩⟩))⟩) d_Mpg_rank_128)
  · have nc2 : ¬ z1.toInt = (5 : Int) := mt (i_eq (x := z1) (y := 5)).mpr c2
    refine lv_iconst (v := 0) S.x S.b d_Mpg_rank_10 (by decide) ?_
    first | exact px_iret (v := 0) S hr rfl hlk hAe hw (Nat.le_of_ble_eq_true rfl) (Nat.le_of_ble_eq_true rfl) (⟨rfl, (show 0 ≤ (0 : Int) from oz_5a341f00aa), (show (0 : Int) ≤ 10 from oz_117e7b2a6a), (show 1 ≤ (0 : Int) → p0.toInt + 1 < (tf 6).toInt ∧ so ta p0 = 5 from by omega), (show 1 ≤ (0 : Int) → (0 : Int) ≤ 2 → sz ta p0 = 2 from by omega), (show R_mp_rank ta p0 (0 : Int32) from (Or.inl ⟨z1, ez1, Or.inr ⟨nc2, rfl⟩⟩))⟩) d_Mpg_rank_11 | (exact px_iret (v := 0) S hr rfl hlk hAe hw (Nat.le_of_ble_eq_true rfl) (Nat.le_of_ble_eq_true rfl) (⟨rfl, (show 0 ≤ (0 : Int) from by first | exact oz_5a341f00aa | omega), (show (0 : Int) ≤ 10 from by first | exact oz_117e7b2a6a | omega), (show 1 ≤ (0 : Int) → p0.toInt + 1 < (tf 6).toInt ∧ so ta p0 = 5 from by omega), (show 1 ≤ (0 : Int) → (0 : Int) ≤ 2 → sz ta p0 = 2 from by omega), (show R_mp_rank ta p0 (0 : Int32) from (Or.inl ⟨z1, ez1, Or.inr ⟨nc2, rfl⟩⟩))⟩) d_Mpg_rank_11)
abbrev b_Mpg_make : ByteArray := prog_16_method_27_code
def y_Mpg_make : MethodName := ⟨"HomeSystemModel$Program", "make", "(II)I"⟩
theorem d_Mpg_make_0 : decode b_Mpg_make 0 = .ok (.aload_n 0, 1) := by decide +kernel
theorem d_Mpg_make_1 : decode b_Mpg_make 1 = .ok (.getfield 207, 3) := by decide +kernel
theorem d_Mpg_make_4 : decode b_Mpg_make 4 = .ok (.aload_n 0, 1) := by decide +kernel
theorem d_Mpg_make_5 : decode b_Mpg_make 5 = .ok (.getfield 390, 3) := by decide +kernel
theorem d_Mpg_make_8 : decode b_Mpg_make 8 = .ok (.iload_n 1, 1) := by decide +kernel
theorem d_Mpg_make_9 : decode b_Mpg_make 9 = .ok (.i2b, 1) := by decide +kernel
theorem d_Mpg_make_10 : decode b_Mpg_make 10 = .ok (.bastore, 1) := by decide +kernel
theorem d_Mpg_make_11 : decode b_Mpg_make 11 = .ok (.aload_n 0, 1) := by decide +kernel
theorem d_Mpg_make_12 : decode b_Mpg_make 12 = .ok (.getfield 210, 3) := by decide +kernel
theorem d_Mpg_make_15 : decode b_Mpg_make 15 = .ok (.aload_n 0, 1) := by decide +kernel
theorem d_Mpg_make_16 : decode b_Mpg_make 16 = .ok (.getfield 390, 3) := by decide +kernel
theorem d_Mpg_make_19 : decode b_Mpg_make 19 = .ok (.iload_n 2, 1) := by decide +kernel
theorem d_Mpg_make_20 : decode b_Mpg_make 20 = .ok (.iastore, 1) := by decide +kernel
theorem d_Mpg_make_21 : decode b_Mpg_make 21 = .ok (.aload_n 0, 1) := by decide +kernel
theorem d_Mpg_make_22 : decode b_Mpg_make 22 = .ok (.getfield 213, 3) := by decide +kernel
theorem d_Mpg_make_25 : decode b_Mpg_make 25 = .ok (.aload_n 0, 1) := by decide +kernel
theorem d_Mpg_make_26 : decode b_Mpg_make 26 = .ok (.getfield 390, 3) := by decide +kernel
theorem d_Mpg_make_29 : decode b_Mpg_make 29 = .ok (.iload_n 2, 1) := by decide +kernel
theorem d_Mpg_make_30 : decode b_Mpg_make 30 = .ok (.iastore, 1) := by decide +kernel
theorem d_Mpg_make_31 : decode b_Mpg_make 31 = .ok (.aload_n 0, 1) := by decide +kernel
theorem d_Mpg_make_32 : decode b_Mpg_make 32 = .ok (.getfield 216, 3) := by decide +kernel
theorem d_Mpg_make_35 : decode b_Mpg_make 35 = .ok (.aload_n 0, 1) := by decide +kernel
theorem d_Mpg_make_36 : decode b_Mpg_make 36 = .ok (.getfield 390, 3) := by decide +kernel
theorem d_Mpg_make_39 : decode b_Mpg_make 39 = .ok (.iconst (-1), 1) := by decide +kernel
theorem d_Mpg_make_40 : decode b_Mpg_make 40 = .ok (.iastore, 1) := by decide +kernel
theorem d_Mpg_make_41 : decode b_Mpg_make 41 = .ok (.aload_n 0, 1) := by decide +kernel
theorem d_Mpg_make_42 : decode b_Mpg_make 42 = .ok (.getfield 219, 3) := by decide +kernel
theorem d_Mpg_make_45 : decode b_Mpg_make 45 = .ok (.aload_n 0, 1) := by decide +kernel
theorem d_Mpg_make_46 : decode b_Mpg_make 46 = .ok (.getfield 390, 3) := by decide +kernel
theorem d_Mpg_make_49 : decode b_Mpg_make 49 = .ok (.iconst (-1), 1) := by decide +kernel
theorem d_Mpg_make_50 : decode b_Mpg_make 50 = .ok (.iastore, 1) := by decide +kernel
theorem d_Mpg_make_51 : decode b_Mpg_make 51 = .ok (.aload_n 0, 1) := by decide +kernel
theorem d_Mpg_make_52 : decode b_Mpg_make 52 = .ok (.getfield 222, 3) := by decide +kernel
theorem d_Mpg_make_55 : decode b_Mpg_make 55 = .ok (.aload_n 0, 1) := by decide +kernel
theorem d_Mpg_make_56 : decode b_Mpg_make 56 = .ok (.getfield 390, 3) := by decide +kernel
theorem d_Mpg_make_59 : decode b_Mpg_make 59 = .ok (.iconst (-1), 1) := by decide +kernel
theorem d_Mpg_make_60 : decode b_Mpg_make 60 = .ok (.iastore, 1) := by decide +kernel
theorem d_Mpg_make_61 : decode b_Mpg_make 61 = .ok (.aload_n 0, 1) := by decide +kernel
theorem d_Mpg_make_62 : decode b_Mpg_make 62 = .ok (.getfield 225, 3) := by decide +kernel
theorem d_Mpg_make_65 : decode b_Mpg_make 65 = .ok (.aload_n 0, 1) := by decide +kernel
theorem d_Mpg_make_66 : decode b_Mpg_make 66 = .ok (.getfield 390, 3) := by decide +kernel
theorem d_Mpg_make_69 : decode b_Mpg_make 69 = .ok (.iconst (-1), 1) := by decide +kernel
theorem d_Mpg_make_70 : decode b_Mpg_make 70 = .ok (.iastore, 1) := by decide +kernel
theorem d_Mpg_make_71 : decode b_Mpg_make 71 = .ok (.aload_n 0, 1) := by decide +kernel
theorem d_Mpg_make_72 : decode b_Mpg_make 72 = .ok (.getfield 228, 3) := by decide +kernel
theorem d_Mpg_make_75 : decode b_Mpg_make 75 = .ok (.aload_n 0, 1) := by decide +kernel
theorem d_Mpg_make_76 : decode b_Mpg_make 76 = .ok (.getfield 390, 3) := by decide +kernel
theorem d_Mpg_make_79 : decode b_Mpg_make 79 = .ok (.iconst (-1), 1) := by decide +kernel
theorem d_Mpg_make_80 : decode b_Mpg_make 80 = .ok (.iastore, 1) := by decide +kernel
theorem d_Mpg_make_81 : decode b_Mpg_make 81 = .ok (.aload_n 0, 1) := by decide +kernel
theorem d_Mpg_make_82 : decode b_Mpg_make 82 = .ok (.getfield 231, 3) := by decide +kernel
theorem d_Mpg_make_85 : decode b_Mpg_make 85 = .ok (.aload_n 0, 1) := by decide +kernel
theorem d_Mpg_make_86 : decode b_Mpg_make 86 = .ok (.getfield 390, 3) := by decide +kernel
theorem d_Mpg_make_89 : decode b_Mpg_make 89 = .ok (.iconst (-1), 1) := by decide +kernel
theorem d_Mpg_make_90 : decode b_Mpg_make 90 = .ok (.iastore, 1) := by decide +kernel
theorem d_Mpg_make_91 : decode b_Mpg_make 91 = .ok (.aload_n 0, 1) := by decide +kernel
theorem d_Mpg_make_92 : decode b_Mpg_make 92 = .ok (.getfield 234, 3) := by decide +kernel
theorem d_Mpg_make_95 : decode b_Mpg_make 95 = .ok (.aload_n 0, 1) := by decide +kernel
theorem d_Mpg_make_96 : decode b_Mpg_make 96 = .ok (.getfield 390, 3) := by decide +kernel
theorem d_Mpg_make_99 : decode b_Mpg_make 99 = .ok (.iconst 1, 1) := by decide +kernel
theorem d_Mpg_make_100 : decode b_Mpg_make 100 = .ok (.iastore, 1) := by decide +kernel
theorem d_Mpg_make_101 : decode b_Mpg_make 101 = .ok (.aload_n 0, 1) := by decide +kernel
theorem d_Mpg_make_102 : decode b_Mpg_make 102 = .ok (.dup, 1) := by decide +kernel
theorem d_Mpg_make_103 : decode b_Mpg_make 103 = .ok (.getfield 390, 3) := by decide +kernel
theorem d_Mpg_make_106 : decode b_Mpg_make 106 = .ok (.iconst 1, 1) := by decide +kernel
theorem d_Mpg_make_107 : decode b_Mpg_make 107 = .ok (.iadd, 1) := by decide +kernel
theorem d_Mpg_make_108 : decode b_Mpg_make 108 = .ok (.putfield 390, 3) := by decide +kernel
theorem d_Mpg_make_111 : decode b_Mpg_make 111 = .ok (.aload_n 0, 1) := by decide +kernel
theorem d_Mpg_make_112 : decode b_Mpg_make 112 = .ok (.getfield 390, 3) := by decide +kernel
theorem d_Mpg_make_115 : decode b_Mpg_make 115 = .ok (.iconst 1, 1) := by decide +kernel
theorem d_Mpg_make_116 : decode b_Mpg_make 116 = .ok (.isub, 1) := by decide +kernel
theorem d_Mpg_make_117 : decode b_Mpg_make 117 = .ok (.ireturn, 1) := by decide +kernel
theorem q_Mpg_make : px_y y_Mpg_make 2 := by unfold px_y; decide +kernel
set_option maxHeartbeats 4000000 in
set_option maxRecDepth 100000 in
theorem c_mp_make (l : Launch) (D : va_G) (cs : Nat → ClassId) (h : Nat) (r : Nat → Nat) (g : Nat → Nat → Option Nat) (tf : Nat → Int32) (ta : Nat → Nat → Int32) (wa : Nat → Nat → Int32) (cf : Nat → Int32) (ca : Nat → Nat → Int32) (ef : Nat → Int32) (ea : Nat → Nat → Int32) (xf : Nat → Int32) (xa : Nat → Nat → Int32) (pf : Nat → Int32) (na : Nat → Nat → Int32) (ma : Nat → Nat → Int32) (p0 p1 : Int32)  (g0 : 0 ≤ (pf 13).toInt) (g1 : (pf 13).toInt < 2100) : MetI l y_Mpg_make b_Mpg_make 3 (.int) D cs 0 0 (0) (0) [.ref h, .int p0, .int p1] [wdP cs h r g tf ta pf na ma wa cf ca ef ea xf xa] (fun _ => True) (fun v ps => ∃ (pf' : Nat → Int32) (na' : Nat → Nat → Int32) (ma' : Nat → Nat → Int32), (ps = [wdP cs h r g tf ta pf' na' ma' wa cf ca ef ea xf xa]) ∧ (v.toInt = (pf 13).toInt) ∧ ((pf' 13).toInt = (pf 13).toInt + 1) ∧ ((pf' 11).toInt = (pf 11).toInt) ∧ ((pf' 12).toInt = (pf 12).toInt) ∧ ((pf' 24).toInt = (pf 24).toInt) ∧ ((pf' 25).toInt = (pf 25).toInt) ∧ ((pf' 26).toInt = (pf 26).toInt) ∧ (MkN na ma na' ma' v p0 p1) ∧ (R_mp_make p0 p1 pf na ma pf' na' ma' v)) := by
  refine px_enter (by decide) (Nat.le_of_ble_eq_true rfl) ?_
  intro p e s m below meth c A ls hAe S hr hlk hnm hA hT hX hw hl
  have hl : lv_has ls 3 [(0, .ref h), (1, .int p0), (2, .int p1)] := hl
  have lp0 := Int32.le_toInt p0
  have up0 := Int32.toInt_lt p0
  have lp1 := Int32.le_toInt p1
  have up1 := Int32.toInt_lt p1
  have cstm1 : ((-1) : Int32).toInt = (-1) := rfl
  have cst1 : (1 : Int32).toInt = 1 := rfl
  refine lv_aload_n S.x S.b d_Mpg_make_0 rfl (lv_at hl 0 rfl) ?_
  refine gP_14 S hT hw 0 rfl m9_238 d_Mpg_make_1 ?_
  refine lv_aload_n S.x S.b d_Mpg_make_4 rfl (lv_at hl 0 rfl) ?_
  refine gP_13 (v := (pf 13)) S hT hw 0 rfl rfl m9_237 d_Mpg_make_5 ?_
  refine lv_iload_n S.x S.b d_Mpg_make_8 rfl (lv_at hl 1 rfl) ?_
  refine lv_i2b S.x S.b d_Mpg_make_9 rfl ?_
  refine lv_topi (fun z1 ez1 => ?_)
  have lz1 := Int32.le_toInt z1
  have uz1 := Int32.toInt_lt z1
  refine px_bast S hT hw 0 10 (n := 2100) (f := (na 14)) (x := (pf 13)) (y := z1) rfl gp_14 (vp_in_iff.mpr (by constructor <;> omega)) d_Mpg_make_10 (w' := wdP cs h r g tf ta pf (va_up na 14 (upd (na 14) (pf 13).toNatClampNeg (vp_nar .byte z1))) ma wa cf ca ef ea xf xa) (ps' := [wdP cs h r g tf ta pf (va_up na 14 (upd (na 14) (pf 13).toNatClampNeg (vp_nar .byte z1))) ma wa cf ca ef ea xf xa]) sp_14 rfl (fun H locs hw => ?_)
  refine lv_aload_n S.x S.b d_Mpg_make_11 rfl (lv_at hl 0 rfl) ?_
  refine gP_15 S hT hw 0 rfl m9_239 d_Mpg_make_12 ?_
  refine lv_aload_n S.x S.b d_Mpg_make_15 rfl (lv_at hl 0 rfl) ?_
  refine gP_13 (v := (pf 13)) S hT hw 0 rfl rfl m9_237 d_Mpg_make_16 ?_
  refine lv_iload_n S.x S.b d_Mpg_make_19 rfl (lv_at hl 2 rfl) ?_
  refine px_iast S hT hw 0 11 (n := 2100) (f := ((va_up na 14 (upd (na 14) (pf 13).toNatClampNeg (vp_nar .byte z1))) 15)) (x := (pf 13)) (y := p1) rfl gp_15 (vp_in_iff.mpr (by constructor <;> omega)) d_Mpg_make_20 (w' := wdP cs h r g tf ta pf (va_up (va_up na 14 (upd (na 14) (pf 13).toNatClampNeg (vp_nar .byte z1))) 15 (upd ((va_up na 14 (upd (na 14) (pf 13).toNatClampNeg (vp_nar .byte z1))) 15) (pf 13).toNatClampNeg p1)) ma wa cf ca ef ea xf xa) (ps' := [wdP cs h r g tf ta pf (va_up (va_up na 14 (upd (na 14) (pf 13).toNatClampNeg (vp_nar .byte z1))) 15 (upd ((va_up na 14 (upd (na 14) (pf 13).toNatClampNeg (vp_nar .byte z1))) 15) (pf 13).toNatClampNeg p1)) ma wa cf ca ef ea xf xa]) sp_15 rfl (fun H locs hw => ?_)
  refine lv_aload_n S.x S.b d_Mpg_make_21 rfl (lv_at hl 0 rfl) ?_
  refine gP_16 S hT hw 0 rfl m10_0 d_Mpg_make_22 ?_
  refine lv_aload_n S.x S.b d_Mpg_make_25 rfl (lv_at hl 0 rfl) ?_
  refine gP_13 (v := (pf 13)) S hT hw 0 rfl rfl m9_237 d_Mpg_make_26 ?_
  refine lv_iload_n S.x S.b d_Mpg_make_29 rfl (lv_at hl 2 rfl) ?_
  refine px_iast S hT hw 0 12 (n := 2100) (f := ((va_up (va_up na 14 (upd (na 14) (pf 13).toNatClampNeg (vp_nar .byte z1))) 15 (upd ((va_up na 14 (upd (na 14) (pf 13).toNatClampNeg (vp_nar .byte z1))) 15) (pf 13).toNatClampNeg p1)) 16)) (x := (pf 13)) (y := p1) rfl gp_16 (vp_in_iff.mpr (by constructor <;> omega)) d_Mpg_make_30 (w' := wdP cs h r g tf ta pf (va_up (va_up (va_up na 14 (upd (na 14) (pf 13).toNatClampNeg (vp_nar .byte z1))) 15 (upd ((va_up na 14 (upd (na 14) (pf 13).toNatClampNeg (vp_nar .byte z1))) 15) (pf 13).toNatClampNeg p1)) 16 (upd ((va_up (va_up na 14 (upd (na 14) (pf 13).toNatClampNeg (vp_nar .byte z1))) 15 (upd ((va_up na 14 (upd (na 14) (pf 13).toNatClampNeg (vp_nar .byte z1))) 15) (pf 13).toNatClampNeg p1)) 16) (pf 13).toNatClampNeg p1)) ma wa cf ca ef ea xf xa) (ps' := [wdP cs h r g tf ta pf (va_up (va_up (va_up na 14 (upd (na 14) (pf 13).toNatClampNeg (vp_nar .byte z1))) 15 (upd ((va_up na 14 (upd (na 14) (pf 13).toNatClampNeg (vp_nar .byte z1))) 15) (pf 13).toNatClampNeg p1)) 16 (upd ((va_up (va_up na 14 (upd (na 14) (pf 13).toNatClampNeg (vp_nar .byte z1))) 15 (upd ((va_up na 14 (upd (na 14) (pf 13).toNatClampNeg (vp_nar .byte z1))) 15) (pf 13).toNatClampNeg p1)) 16) (pf 13).toNatClampNeg p1)) ma wa cf ca ef ea xf xa]) sp_16 rfl (fun H locs hw => ?_)
  refine lv_aload_n S.x S.b d_Mpg_make_31 rfl (lv_at hl 0 rfl) ?_
  refine gP_17 S hT hw 0 rfl m10_1 d_Mpg_make_32 ?_
  refine lv_aload_n S.x S.b d_Mpg_make_35 rfl (lv_at hl 0 rfl) ?_
  refine gP_13 (v := (pf 13)) S hT hw 0 rfl rfl m9_237 d_Mpg_make_36 ?_
  refine lv_iconst (v := (-1)) S.x S.b d_Mpg_make_39 (by decide) ?_
  refine px_iast S hT hw 0 13 (n := 2100) (f := ((va_up (va_up (va_up na 14 (upd (na 14) (pf 13).toNatClampNeg (vp_nar .byte z1))) 15 (upd ((va_up na 14 (upd (na 14) (pf 13).toNatClampNeg (vp_nar .byte z1))) 15) (pf 13).toNatClampNeg p1)) 16 (upd ((va_up (va_up na 14 (upd (na 14) (pf 13).toNatClampNeg (vp_nar .byte z1))) 15 (upd ((va_up na 14 (upd (na 14) (pf 13).toNatClampNeg (vp_nar .byte z1))) 15) (pf 13).toNatClampNeg p1)) 16) (pf 13).toNatClampNeg p1)) 17)) (x := (pf 13)) (y := (-1)) rfl gp_17 (vp_in_iff.mpr (by constructor <;> omega)) d_Mpg_make_40 (w' := wdP cs h r g tf ta pf (va_up (va_up (va_up (va_up na 14 (upd (na 14) (pf 13).toNatClampNeg (vp_nar .byte z1))) 15 (upd ((va_up na 14 (upd (na 14) (pf 13).toNatClampNeg (vp_nar .byte z1))) 15) (pf 13).toNatClampNeg p1)) 16 (upd ((va_up (va_up na 14 (upd (na 14) (pf 13).toNatClampNeg (vp_nar .byte z1))) 15 (upd ((va_up na 14 (upd (na 14) (pf 13).toNatClampNeg (vp_nar .byte z1))) 15) (pf 13).toNatClampNeg p1)) 16) (pf 13).toNatClampNeg p1)) 17 (upd ((va_up (va_up (va_up na 14 (upd (na 14) (pf 13).toNatClampNeg (vp_nar .byte z1))) 15 (upd ((va_up na 14 (upd (na 14) (pf 13).toNatClampNeg (vp_nar .byte z1))) 15) (pf 13).toNatClampNeg p1)) 16 (upd ((va_up (va_up na 14 (upd (na 14) (pf 13).toNatClampNeg (vp_nar .byte z1))) 15 (upd ((va_up na 14 (upd (na 14) (pf 13).toNatClampNeg (vp_nar .byte z1))) 15) (pf 13).toNatClampNeg p1)) 16) (pf 13).toNatClampNeg p1)) 17) (pf 13).toNatClampNeg (-1))) ma wa cf ca ef ea xf xa) (ps' := [wdP cs h r g tf ta pf (va_up (va_up (va_up (va_up na 14 (upd (na 14) (pf 13).toNatClampNeg (vp_nar .byte z1))) 15 (upd ((va_up na 14 (upd (na 14) (pf 13).toNatClampNeg (vp_nar .byte z1))) 15) (pf 13).toNatClampNeg p1)) 16 (upd ((va_up (va_up na 14 (upd (na 14) (pf 13).toNatClampNeg (vp_nar .byte z1))) 15 (upd ((va_up na 14 (upd (na 14) (pf 13).toNatClampNeg (vp_nar .byte z1))) 15) (pf 13).toNatClampNeg p1)) 16) (pf 13).toNatClampNeg p1)) 17 (upd ((va_up (va_up (va_up na 14 (upd (na 14) (pf 13).toNatClampNeg (vp_nar .byte z1))) 15 (upd ((va_up na 14 (upd (na 14) (pf 13).toNatClampNeg (vp_nar .byte z1))) 15) (pf 13).toNatClampNeg p1)) 16 (upd ((va_up (va_up na 14 (upd (na 14) (pf 13).toNatClampNeg (vp_nar .byte z1))) 15 (upd ((va_up na 14 (upd (na 14) (pf 13).toNatClampNeg (vp_nar .byte z1))) 15) (pf 13).toNatClampNeg p1)) 16) (pf 13).toNatClampNeg p1)) 17) (pf 13).toNatClampNeg (-1))) ma wa cf ca ef ea xf xa]) sp_17 rfl (fun H locs hw => ?_)
  refine lv_aload_n S.x S.b d_Mpg_make_41 rfl (lv_at hl 0 rfl) ?_
  refine gP_18 S hT hw 0 rfl m10_3 d_Mpg_make_42 ?_
  refine lv_aload_n S.x S.b d_Mpg_make_45 rfl (lv_at hl 0 rfl) ?_
  refine gP_13 (v := (pf 13)) S hT hw 0 rfl rfl m9_237 d_Mpg_make_46 ?_
  refine lv_iconst (v := (-1)) S.x S.b d_Mpg_make_49 (by decide) ?_
  refine px_iast S hT hw 0 14 (n := 2100) (f := (ma 18)) (x := (pf 13)) (y := (-1)) rfl gp_18 (vp_in_iff.mpr (by constructor <;> omega)) d_Mpg_make_50 (w' := wdP cs h r g tf ta pf (va_up (va_up (va_up (va_up na 14 (upd (na 14) (pf 13).toNatClampNeg (vp_nar .byte z1))) 15 (upd ((va_up na 14 (upd (na 14) (pf 13).toNatClampNeg (vp_nar .byte z1))) 15) (pf 13).toNatClampNeg p1)) 16 (upd ((va_up (va_up na 14 (upd (na 14) (pf 13).toNatClampNeg (vp_nar .byte z1))) 15 (upd ((va_up na 14 (upd (na 14) (pf 13).toNatClampNeg (vp_nar .byte z1))) 15) (pf 13).toNatClampNeg p1)) 16) (pf 13).toNatClampNeg p1)) 17 (upd ((va_up (va_up (va_up na 14 (upd (na 14) (pf 13).toNatClampNeg (vp_nar .byte z1))) 15 (upd ((va_up na 14 (upd (na 14) (pf 13).toNatClampNeg (vp_nar .byte z1))) 15) (pf 13).toNatClampNeg p1)) 16 (upd ((va_up (va_up na 14 (upd (na 14) (pf 13).toNatClampNeg (vp_nar .byte z1))) 15 (upd ((va_up na 14 (upd (na 14) (pf 13).toNatClampNeg (vp_nar .byte z1))) 15) (pf 13).toNatClampNeg p1)) 16) (pf 13).toNatClampNeg p1)) 17) (pf 13).toNatClampNeg (-1))) (va_up ma 18 (upd (ma 18) (pf 13).toNatClampNeg (-1))) wa cf ca ef ea xf xa) (ps' := [wdP cs h r g tf ta pf (va_up (va_up (va_up (va_up na 14 (upd (na 14) (pf 13).toNatClampNeg (vp_nar .byte z1))) 15 (upd ((va_up na 14 (upd (na 14) (pf 13).toNatClampNeg (vp_nar .byte z1))) 15) (pf 13).toNatClampNeg p1)) 16 (upd ((va_up (va_up na 14 (upd (na 14) (pf 13).toNatClampNeg (vp_nar .byte z1))) 15 (upd ((va_up na 14 (upd (na 14) (pf 13).toNatClampNeg (vp_nar .byte z1))) 15) (pf 13).toNatClampNeg p1)) 16) (pf 13).toNatClampNeg p1)) 17 (upd ((va_up (va_up (va_up na 14 (upd (na 14) (pf 13).toNatClampNeg (vp_nar .byte z1))) 15 (upd ((va_up na 14 (upd (na 14) (pf 13).toNatClampNeg (vp_nar .byte z1))) 15) (pf 13).toNatClampNeg p1)) 16 (upd ((va_up (va_up na 14 (upd (na 14) (pf 13).toNatClampNeg (vp_nar .byte z1))) 15 (upd ((va_up na 14 (upd (na 14) (pf 13).toNatClampNeg (vp_nar .byte z1))) 15) (pf 13).toNatClampNeg p1)) 16) (pf 13).toNatClampNeg p1)) 17) (pf 13).toNatClampNeg (-1))) (va_up ma 18 (upd (ma 18) (pf 13).toNatClampNeg (-1))) wa cf ca ef ea xf xa]) sp_18 rfl (fun H locs hw => ?_)
  refine lv_aload_n S.x S.b d_Mpg_make_51 rfl (lv_at hl 0 rfl) ?_
  refine gP_19 S hT hw 0 rfl m10_5 d_Mpg_make_52 ?_
  refine lv_aload_n S.x S.b d_Mpg_make_55 rfl (lv_at hl 0 rfl) ?_
  refine gP_13 (v := (pf 13)) S hT hw 0 rfl rfl m9_237 d_Mpg_make_56 ?_
  refine lv_iconst (v := (-1)) S.x S.b d_Mpg_make_59 (by decide) ?_
  refine px_iast S hT hw 0 15 (n := 2100) (f := ((va_up ma 18 (upd (ma 18) (pf 13).toNatClampNeg (-1))) 19)) (x := (pf 13)) (y := (-1)) rfl gp_19 (vp_in_iff.mpr (by constructor <;> omega)) d_Mpg_make_60 (w' := wdP cs h r g tf ta pf (va_up (va_up (va_up (va_up na 14 (upd (na 14) (pf 13).toNatClampNeg (vp_nar .byte z1))) 15 (upd ((va_up na 14 (upd (na 14) (pf 13).toNatClampNeg (vp_nar .byte z1))) 15) (pf 13).toNatClampNeg p1)) 16 (upd ((va_up (va_up na 14 (upd (na 14) (pf 13).toNatClampNeg (vp_nar .byte z1))) 15 (upd ((va_up na 14 (upd (na 14) (pf 13).toNatClampNeg (vp_nar .byte z1))) 15) (pf 13).toNatClampNeg p1)) 16) (pf 13).toNatClampNeg p1)) 17 (upd ((va_up (va_up (va_up na 14 (upd (na 14) (pf 13).toNatClampNeg (vp_nar .byte z1))) 15 (upd ((va_up na 14 (upd (na 14) (pf 13).toNatClampNeg (vp_nar .byte z1))) 15) (pf 13).toNatClampNeg p1)) 16 (upd ((va_up (va_up na 14 (upd (na 14) (pf 13).toNatClampNeg (vp_nar .byte z1))) 15 (upd ((va_up na 14 (upd (na 14) (pf 13).toNatClampNeg (vp_nar .byte z1))) 15) (pf 13).toNatClampNeg p1)) 16) (pf 13).toNatClampNeg p1)) 17) (pf 13).toNatClampNeg (-1))) (va_up (va_up ma 18 (upd (ma 18) (pf 13).toNatClampNeg (-1))) 19 (upd ((va_up ma 18 (upd (ma 18) (pf 13).toNatClampNeg (-1))) 19) (pf 13).toNatClampNeg (-1))) wa cf ca ef ea xf xa) (ps' := [wdP cs h r g tf ta pf (va_up (va_up (va_up (va_up na 14 (upd (na 14) (pf 13).toNatClampNeg (vp_nar .byte z1))) 15 (upd ((va_up na 14 (upd (na 14) (pf 13).toNatClampNeg (vp_nar .byte z1))) 15) (pf 13).toNatClampNeg p1)) 16 (upd ((va_up (va_up na 14 (upd (na 14) (pf 13).toNatClampNeg (vp_nar .byte z1))) 15 (upd ((va_up na 14 (upd (na 14) (pf 13).toNatClampNeg (vp_nar .byte z1))) 15) (pf 13).toNatClampNeg p1)) 16) (pf 13).toNatClampNeg p1)) 17 (upd ((va_up (va_up (va_up na 14 (upd (na 14) (pf 13).toNatClampNeg (vp_nar .byte z1))) 15 (upd ((va_up na 14 (upd (na 14) (pf 13).toNatClampNeg (vp_nar .byte z1))) 15) (pf 13).toNatClampNeg p1)) 16 (upd ((va_up (va_up na 14 (upd (na 14) (pf 13).toNatClampNeg (vp_nar .byte z1))) 15 (upd ((va_up na 14 (upd (na 14) (pf 13).toNatClampNeg (vp_nar .byte z1))) 15) (pf 13).toNatClampNeg p1)) 16) (pf 13).toNatClampNeg p1)) 17) (pf 13).toNatClampNeg (-1))) (va_up (va_up ma 18 (upd (ma 18) (pf 13).toNatClampNeg (-1))) 19 (upd ((va_up ma 18 (upd (ma 18) (pf 13).toNatClampNeg (-1))) 19) (pf 13).toNatClampNeg (-1))) wa cf ca ef ea xf xa]) sp_19 rfl (fun H locs hw => ?_)
  refine lv_aload_n S.x S.b d_Mpg_make_61 rfl (lv_at hl 0 rfl) ?_
  refine gP_20 S hT hw 0 rfl m10_6 d_Mpg_make_62 ?_
  refine lv_aload_n S.x S.b d_Mpg_make_65 rfl (lv_at hl 0 rfl) ?_
  refine gP_13 (v := (pf 13)) S hT hw 0 rfl rfl m9_237 d_Mpg_make_66 ?_
  refine lv_iconst (v := (-1)) S.x S.b d_Mpg_make_69 (by decide) ?_
  refine px_iast S hT hw 0 16 (n := 2100) (f := ((va_up (va_up ma 18 (upd (ma 18) (pf 13).toNatClampNeg (-1))) 19 (upd ((va_up ma 18 (upd (ma 18) (pf 13).toNatClampNeg (-1))) 19) (pf 13).toNatClampNeg (-1))) 20)) (x := (pf 13)) (y := (-1)) rfl gp_20 (vp_in_iff.mpr (by constructor <;> omega)) d_Mpg_make_70 (w' := wdP cs h r g tf ta pf (va_up (va_up (va_up (va_up na 14 (upd (na 14) (pf 13).toNatClampNeg (vp_nar .byte z1))) 15 (upd ((va_up na 14 (upd (na 14) (pf 13).toNatClampNeg (vp_nar .byte z1))) 15) (pf 13).toNatClampNeg p1)) 16 (upd ((va_up (va_up na 14 (upd (na 14) (pf 13).toNatClampNeg (vp_nar .byte z1))) 15 (upd ((va_up na 14 (upd (na 14) (pf 13).toNatClampNeg (vp_nar .byte z1))) 15) (pf 13).toNatClampNeg p1)) 16) (pf 13).toNatClampNeg p1)) 17 (upd ((va_up (va_up (va_up na 14 (upd (na 14) (pf 13).toNatClampNeg (vp_nar .byte z1))) 15 (upd ((va_up na 14 (upd (na 14) (pf 13).toNatClampNeg (vp_nar .byte z1))) 15) (pf 13).toNatClampNeg p1)) 16 (upd ((va_up (va_up na 14 (upd (na 14) (pf 13).toNatClampNeg (vp_nar .byte z1))) 15 (upd ((va_up na 14 (upd (na 14) (pf 13).toNatClampNeg (vp_nar .byte z1))) 15) (pf 13).toNatClampNeg p1)) 16) (pf 13).toNatClampNeg p1)) 17) (pf 13).toNatClampNeg (-1))) (va_up (va_up (va_up ma 18 (upd (ma 18) (pf 13).toNatClampNeg (-1))) 19 (upd ((va_up ma 18 (upd (ma 18) (pf 13).toNatClampNeg (-1))) 19) (pf 13).toNatClampNeg (-1))) 20 (upd ((va_up (va_up ma 18 (upd (ma 18) (pf 13).toNatClampNeg (-1))) 19 (upd ((va_up ma 18 (upd (ma 18) (pf 13).toNatClampNeg (-1))) 19) (pf 13).toNatClampNeg (-1))) 20) (pf 13).toNatClampNeg (-1))) wa cf ca ef ea xf xa) (ps' := [wdP cs h r g tf ta pf (va_up (va_up (va_up (va_up na 14 (upd (na 14) (pf 13).toNatClampNeg (vp_nar .byte z1))) 15 (upd ((va_up na 14 (upd (na 14) (pf 13).toNatClampNeg (vp_nar .byte z1))) 15) (pf 13).toNatClampNeg p1)) 16 (upd ((va_up (va_up na 14 (upd (na 14) (pf 13).toNatClampNeg (vp_nar .byte z1))) 15 (upd ((va_up na 14 (upd (na 14) (pf 13).toNatClampNeg (vp_nar .byte z1))) 15) (pf 13).toNatClampNeg p1)) 16) (pf 13).toNatClampNeg p1)) 17 (upd ((va_up (va_up (va_up na 14 (upd (na 14) (pf 13).toNatClampNeg (vp_nar .byte z1))) 15 (upd ((va_up na 14 (upd (na 14) (pf 13).toNatClampNeg (vp_nar .byte z1))) 15) (pf 13).toNatClampNeg p1)) 16 (upd ((va_up (va_up na 14 (upd (na 14) (pf 13).toNatClampNeg (vp_nar .byte z1))) 15 (upd ((va_up na 14 (upd (na 14) (pf 13).toNatClampNeg (vp_nar .byte z1))) 15) (pf 13).toNatClampNeg p1)) 16) (pf 13).toNatClampNeg p1)) 17) (pf 13).toNatClampNeg (-1))) (va_up (va_up (va_up ma 18 (upd (ma 18) (pf 13).toNatClampNeg (-1))) 19 (upd ((va_up ma 18 (upd (ma 18) (pf 13).toNatClampNeg (-1))) 19) (pf 13).toNatClampNeg (-1))) 20 (upd ((va_up (va_up ma 18 (upd (ma 18) (pf 13).toNatClampNeg (-1))) 19 (upd ((va_up ma 18 (upd (ma 18) (pf 13).toNatClampNeg (-1))) 19) (pf 13).toNatClampNeg (-1))) 20) (pf 13).toNatClampNeg (-1))) wa cf ca ef ea xf xa]) sp_20 rfl (fun H locs hw => ?_)
  refine lv_aload_n S.x S.b d_Mpg_make_71 rfl (lv_at hl 0 rfl) ?_
  refine gP_21 S hT hw 0 rfl m10_7 d_Mpg_make_72 ?_
  refine lv_aload_n S.x S.b d_Mpg_make_75 rfl (lv_at hl 0 rfl) ?_
  refine gP_13 (v := (pf 13)) S hT hw 0 rfl rfl m9_237 d_Mpg_make_76 ?_
  refine lv_iconst (v := (-1)) S.x S.b d_Mpg_make_79 (by decide) ?_
  refine px_iast S hT hw 0 17 (n := 2100) (f := ((va_up (va_up (va_up (va_up na 14 (upd (na 14) (pf 13).toNatClampNeg (vp_nar .byte z1))) 15 (upd ((va_up na 14 (upd (na 14) (pf 13).toNatClampNeg (vp_nar .byte z1))) 15) (pf 13).toNatClampNeg p1)) 16 (upd ((va_up (va_up na 14 (upd (na 14) (pf 13).toNatClampNeg (vp_nar .byte z1))) 15 (upd ((va_up na 14 (upd (na 14) (pf 13).toNatClampNeg (vp_nar .byte z1))) 15) (pf 13).toNatClampNeg p1)) 16) (pf 13).toNatClampNeg p1)) 17 (upd ((va_up (va_up (va_up na 14 (upd (na 14) (pf 13).toNatClampNeg (vp_nar .byte z1))) 15 (upd ((va_up na 14 (upd (na 14) (pf 13).toNatClampNeg (vp_nar .byte z1))) 15) (pf 13).toNatClampNeg p1)) 16 (upd ((va_up (va_up na 14 (upd (na 14) (pf 13).toNatClampNeg (vp_nar .byte z1))) 15 (upd ((va_up na 14 (upd (na 14) (pf 13).toNatClampNeg (vp_nar .byte z1))) 15) (pf 13).toNatClampNeg p1)) 16) (pf 13).toNatClampNeg p1)) 17) (pf 13).toNatClampNeg (-1))) 21)) (x := (pf 13)) (y := (-1)) rfl gp_21 (vp_in_iff.mpr (by constructor <;> omega)) d_Mpg_make_80 (w' := wdP cs h r g tf ta pf (va_up (va_up (va_up (va_up (va_up na 14 (upd (na 14) (pf 13).toNatClampNeg (vp_nar .byte z1))) 15 (upd ((va_up na 14 (upd (na 14) (pf 13).toNatClampNeg (vp_nar .byte z1))) 15) (pf 13).toNatClampNeg p1)) 16 (upd ((va_up (va_up na 14 (upd (na 14) (pf 13).toNatClampNeg (vp_nar .byte z1))) 15 (upd ((va_up na 14 (upd (na 14) (pf 13).toNatClampNeg (vp_nar .byte z1))) 15) (pf 13).toNatClampNeg p1)) 16) (pf 13).toNatClampNeg p1)) 17 (upd ((va_up (va_up (va_up na 14 (upd (na 14) (pf 13).toNatClampNeg (vp_nar .byte z1))) 15 (upd ((va_up na 14 (upd (na 14) (pf 13).toNatClampNeg (vp_nar .byte z1))) 15) (pf 13).toNatClampNeg p1)) 16 (upd ((va_up (va_up na 14 (upd (na 14) (pf 13).toNatClampNeg (vp_nar .byte z1))) 15 (upd ((va_up na 14 (upd (na 14) (pf 13).toNatClampNeg (vp_nar .byte z1))) 15) (pf 13).toNatClampNeg p1)) 16) (pf 13).toNatClampNeg p1)) 17) (pf 13).toNatClampNeg (-1))) 21 (upd ((va_up (va_up (va_up (va_up na 14 (upd (na 14) (pf 13).toNatClampNeg (vp_nar .byte z1))) 15 (upd ((va_up na 14 (upd (na 14) (pf 13).toNatClampNeg (vp_nar .byte z1))) 15) (pf 13).toNatClampNeg p1)) 16 (upd ((va_up (va_up na 14 (upd (na 14) (pf 13).toNatClampNeg (vp_nar .byte z1))) 15 (upd ((va_up na 14 (upd (na 14) (pf 13).toNatClampNeg (vp_nar .byte z1))) 15) (pf 13).toNatClampNeg p1)) 16) (pf 13).toNatClampNeg p1)) 17 (upd ((va_up (va_up (va_up na 14 (upd (na 14) (pf 13).toNatClampNeg (vp_nar .byte z1))) 15 (upd ((va_up na 14 (upd (na 14) (pf 13).toNatClampNeg (vp_nar .byte z1))) 15) (pf 13).toNatClampNeg p1)) 16 (upd ((va_up (va_up na 14 (upd (na 14) (pf 13).toNatClampNeg (vp_nar .byte z1))) 15 (upd ((va_up na 14 (upd (na 14) (pf 13).toNatClampNeg (vp_nar .byte z1))) 15) (pf 13).toNatClampNeg p1)) 16) (pf 13).toNatClampNeg p1)) 17) (pf 13).toNatClampNeg (-1))) 21) (pf 13).toNatClampNeg (-1))) (va_up (va_up (va_up ma 18 (upd (ma 18) (pf 13).toNatClampNeg (-1))) 19 (upd ((va_up ma 18 (upd (ma 18) (pf 13).toNatClampNeg (-1))) 19) (pf 13).toNatClampNeg (-1))) 20 (upd ((va_up (va_up ma 18 (upd (ma 18) (pf 13).toNatClampNeg (-1))) 19 (upd ((va_up ma 18 (upd (ma 18) (pf 13).toNatClampNeg (-1))) 19) (pf 13).toNatClampNeg (-1))) 20) (pf 13).toNatClampNeg (-1))) wa cf ca ef ea xf xa) (ps' := [wdP cs h r g tf ta pf (va_up (va_up (va_up (va_up (va_up na 14 (upd (na 14) (pf 13).toNatClampNeg (vp_nar .byte z1))) 15 (upd ((va_up na 14 (upd (na 14) (pf 13).toNatClampNeg (vp_nar .byte z1))) 15) (pf 13).toNatClampNeg p1)) 16 (upd ((va_up (va_up na 14 (upd (na 14) (pf 13).toNatClampNeg (vp_nar .byte z1))) 15 (upd ((va_up na 14 (upd (na 14) (pf 13).toNatClampNeg (vp_nar .byte z1))) 15) (pf 13).toNatClampNeg p1)) 16) (pf 13).toNatClampNeg p1)) 17 (upd ((va_up (va_up (va_up na 14 (upd (na 14) (pf 13).toNatClampNeg (vp_nar .byte z1))) 15 (upd ((va_up na 14 (upd (na 14) (pf 13).toNatClampNeg (vp_nar .byte z1))) 15) (pf 13).toNatClampNeg p1)) 16 (upd ((va_up (va_up na 14 (upd (na 14) (pf 13).toNatClampNeg (vp_nar .byte z1))) 15 (upd ((va_up na 14 (upd (na 14) (pf 13).toNatClampNeg (vp_nar .byte z1))) 15) (pf 13).toNatClampNeg p1)) 16) (pf 13).toNatClampNeg p1)) 17) (pf 13).toNatClampNeg (-1))) 21 (upd ((va_up (va_up (va_up (va_up na 14 (upd (na 14) (pf 13).toNatClampNeg (vp_nar .byte z1))) 15 (upd ((va_up na 14 (upd (na 14) (pf 13).toNatClampNeg (vp_nar .byte z1))) 15) (pf 13).toNatClampNeg p1)) 16 (upd ((va_up (va_up na 14 (upd (na 14) (pf 13).toNatClampNeg (vp_nar .byte z1))) 15 (upd ((va_up na 14 (upd (na 14) (pf 13).toNatClampNeg (vp_nar .byte z1))) 15) (pf 13).toNatClampNeg p1)) 16) (pf 13).toNatClampNeg p1)) 17 (upd ((va_up (va_up (va_up na 14 (upd (na 14) (pf 13).toNatClampNeg (vp_nar .byte z1))) 15 (upd ((va_up na 14 (upd (na 14) (pf 13).toNatClampNeg (vp_nar .byte z1))) 15) (pf 13).toNatClampNeg p1)) 16 (upd ((va_up (va_up na 14 (upd (na 14) (pf 13).toNatClampNeg (vp_nar .byte z1))) 15 (upd ((va_up na 14 (upd (na 14) (pf 13).toNatClampNeg (vp_nar .byte z1))) 15) (pf 13).toNatClampNeg p1)) 16) (pf 13).toNatClampNeg p1)) 17) (pf 13).toNatClampNeg (-1))) 21) (pf 13).toNatClampNeg (-1))) (va_up (va_up (va_up ma 18 (upd (ma 18) (pf 13).toNatClampNeg (-1))) 19 (upd ((va_up ma 18 (upd (ma 18) (pf 13).toNatClampNeg (-1))) 19) (pf 13).toNatClampNeg (-1))) 20 (upd ((va_up (va_up ma 18 (upd (ma 18) (pf 13).toNatClampNeg (-1))) 19 (upd ((va_up ma 18 (upd (ma 18) (pf 13).toNatClampNeg (-1))) 19) (pf 13).toNatClampNeg (-1))) 20) (pf 13).toNatClampNeg (-1))) wa cf ca ef ea xf xa]) sp_21 rfl (fun H locs hw => ?_)
  refine lv_aload_n S.x S.b d_Mpg_make_81 rfl (lv_at hl 0 rfl) ?_
  refine gP_22 S hT hw 0 rfl m10_9 d_Mpg_make_82 ?_
  refine lv_aload_n S.x S.b d_Mpg_make_85 rfl (lv_at hl 0 rfl) ?_
  refine gP_13 (v := (pf 13)) S hT hw 0 rfl rfl m9_237 d_Mpg_make_86 ?_
  refine lv_iconst (v := (-1)) S.x S.b d_Mpg_make_89 (by decide) ?_
  refine px_iast S hT hw 0 18 (n := 2100) (f := ((va_up (va_up (va_up ma 18 (upd (ma 18) (pf 13).toNatClampNeg (-1))) 19 (upd ((va_up ma 18 (upd (ma 18) (pf 13).toNatClampNeg (-1))) 19) (pf 13).toNatClampNeg (-1))) 20 (upd ((va_up (va_up ma 18 (upd (ma 18) (pf 13).toNatClampNeg (-1))) 19 (upd ((va_up ma 18 (upd (ma 18) (pf 13).toNatClampNeg (-1))) 19) (pf 13).toNatClampNeg (-1))) 20) (pf 13).toNatClampNeg (-1))) 22)) (x := (pf 13)) (y := (-1)) rfl gp_22 (vp_in_iff.mpr (by constructor <;> omega)) d_Mpg_make_90 (w' := wdP cs h r g tf ta pf (va_up (va_up (va_up (va_up (va_up na 14 (upd (na 14) (pf 13).toNatClampNeg (vp_nar .byte z1))) 15 (upd ((va_up na 14 (upd (na 14) (pf 13).toNatClampNeg (vp_nar .byte z1))) 15) (pf 13).toNatClampNeg p1)) 16 (upd ((va_up (va_up na 14 (upd (na 14) (pf 13).toNatClampNeg (vp_nar .byte z1))) 15 (upd ((va_up na 14 (upd (na 14) (pf 13).toNatClampNeg (vp_nar .byte z1))) 15) (pf 13).toNatClampNeg p1)) 16) (pf 13).toNatClampNeg p1)) 17 (upd ((va_up (va_up (va_up na 14 (upd (na 14) (pf 13).toNatClampNeg (vp_nar .byte z1))) 15 (upd ((va_up na 14 (upd (na 14) (pf 13).toNatClampNeg (vp_nar .byte z1))) 15) (pf 13).toNatClampNeg p1)) 16 (upd ((va_up (va_up na 14 (upd (na 14) (pf 13).toNatClampNeg (vp_nar .byte z1))) 15 (upd ((va_up na 14 (upd (na 14) (pf 13).toNatClampNeg (vp_nar .byte z1))) 15) (pf 13).toNatClampNeg p1)) 16) (pf 13).toNatClampNeg p1)) 17) (pf 13).toNatClampNeg (-1))) 21 (upd ((va_up (va_up (va_up (va_up na 14 (upd (na 14) (pf 13).toNatClampNeg (vp_nar .byte z1))) 15 (upd ((va_up na 14 (upd (na 14) (pf 13).toNatClampNeg (vp_nar .byte z1))) 15) (pf 13).toNatClampNeg p1)) 16 (upd ((va_up (va_up na 14 (upd (na 14) (pf 13).toNatClampNeg (vp_nar .byte z1))) 15 (upd ((va_up na 14 (upd (na 14) (pf 13).toNatClampNeg (vp_nar .byte z1))) 15) (pf 13).toNatClampNeg p1)) 16) (pf 13).toNatClampNeg p1)) 17 (upd ((va_up (va_up (va_up na 14 (upd (na 14) (pf 13).toNatClampNeg (vp_nar .byte z1))) 15 (upd ((va_up na 14 (upd (na 14) (pf 13).toNatClampNeg (vp_nar .byte z1))) 15) (pf 13).toNatClampNeg p1)) 16 (upd ((va_up (va_up na 14 (upd (na 14) (pf 13).toNatClampNeg (vp_nar .byte z1))) 15 (upd ((va_up na 14 (upd (na 14) (pf 13).toNatClampNeg (vp_nar .byte z1))) 15) (pf 13).toNatClampNeg p1)) 16) (pf 13).toNatClampNeg p1)) 17) (pf 13).toNatClampNeg (-1))) 21) (pf 13).toNatClampNeg (-1))) (va_up (va_up (va_up (va_up ma 18 (upd (ma 18) (pf 13).toNatClampNeg (-1))) 19 (upd ((va_up ma 18 (upd (ma 18) (pf 13).toNatClampNeg (-1))) 19) (pf 13).toNatClampNeg (-1))) 20 (upd ((va_up (va_up ma 18 (upd (ma 18) (pf 13).toNatClampNeg (-1))) 19 (upd ((va_up ma 18 (upd (ma 18) (pf 13).toNatClampNeg (-1))) 19) (pf 13).toNatClampNeg (-1))) 20) (pf 13).toNatClampNeg (-1))) 22 (upd ((va_up (va_up (va_up ma 18 (upd (ma 18) (pf 13).toNatClampNeg (-1))) 19 (upd ((va_up ma 18 (upd (ma 18) (pf 13).toNatClampNeg (-1))) 19) (pf 13).toNatClampNeg (-1))) 20 (upd ((va_up (va_up ma 18 (upd (ma 18) (pf 13).toNatClampNeg (-1))) 19 (upd ((va_up ma 18 (upd (ma 18) (pf 13).toNatClampNeg (-1))) 19) (pf 13).toNatClampNeg (-1))) 20) (pf 13).toNatClampNeg (-1))) 22) (pf 13).toNatClampNeg (-1))) wa cf ca ef ea xf xa) (ps' := [wdP cs h r g tf ta pf (va_up (va_up (va_up (va_up (va_up na 14 (upd (na 14) (pf 13).toNatClampNeg (vp_nar .byte z1))) 15 (upd ((va_up na 14 (upd (na 14) (pf 13).toNatClampNeg (vp_nar .byte z1))) 15) (pf 13).toNatClampNeg p1)) 16 (upd ((va_up (va_up na 14 (upd (na 14) (pf 13).toNatClampNeg (vp_nar .byte z1))) 15 (upd ((va_up na 14 (upd (na 14) (pf 13).toNatClampNeg (vp_nar .byte z1))) 15) (pf 13).toNatClampNeg p1)) 16) (pf 13).toNatClampNeg p1)) 17 (upd ((va_up (va_up (va_up na 14 (upd (na 14) (pf 13).toNatClampNeg (vp_nar .byte z1))) 15 (upd ((va_up na 14 (upd (na 14) (pf 13).toNatClampNeg (vp_nar .byte z1))) 15) (pf 13).toNatClampNeg p1)) 16 (upd ((va_up (va_up na 14 (upd (na 14) (pf 13).toNatClampNeg (vp_nar .byte z1))) 15 (upd ((va_up na 14 (upd (na 14) (pf 13).toNatClampNeg (vp_nar .byte z1))) 15) (pf 13).toNatClampNeg p1)) 16) (pf 13).toNatClampNeg p1)) 17) (pf 13).toNatClampNeg (-1))) 21 (upd ((va_up (va_up (va_up (va_up na 14 (upd (na 14) (pf 13).toNatClampNeg (vp_nar .byte z1))) 15 (upd ((va_up na 14 (upd (na 14) (pf 13).toNatClampNeg (vp_nar .byte z1))) 15) (pf 13).toNatClampNeg p1)) 16 (upd ((va_up (va_up na 14 (upd (na 14) (pf 13).toNatClampNeg (vp_nar .byte z1))) 15 (upd ((va_up na 14 (upd (na 14) (pf 13).toNatClampNeg (vp_nar .byte z1))) 15) (pf 13).toNatClampNeg p1)) 16) (pf 13).toNatClampNeg p1)) 17 (upd ((va_up (va_up (va_up na 14 (upd (na 14) (pf 13).toNatClampNeg (vp_nar .byte z1))) 15 (upd ((va_up na 14 (upd (na 14) (pf 13).toNatClampNeg (vp_nar .byte z1))) 15) (pf 13).toNatClampNeg p1)) 16 (upd ((va_up (va_up na 14 (upd (na 14) (pf 13).toNatClampNeg (vp_nar .byte z1))) 15 (upd ((va_up na 14 (upd (na 14) (pf 13).toNatClampNeg (vp_nar .byte z1))) 15) (pf 13).toNatClampNeg p1)) 16) (pf 13).toNatClampNeg p1)) 17) (pf 13).toNatClampNeg (-1))) 21) (pf 13).toNatClampNeg (-1))) (va_up (va_up (va_up (va_up ma 18 (upd (ma 18) (pf 13).toNatClampNeg (-1))) 19 (upd ((va_up ma 18 (upd (ma 18) (pf 13).toNatClampNeg (-1))) 19) (pf 13).toNatClampNeg (-1))) 20 (upd ((va_up (va_up ma 18 (upd (ma 18) (pf 13).toNatClampNeg (-1))) 19 (upd ((va_up ma 18 (upd (ma 18) (pf 13).toNatClampNeg (-1))) 19) (pf 13).toNatClampNeg (-1))) 20) (pf 13).toNatClampNeg (-1))) 22 (upd ((va_up (va_up (va_up ma 18 (upd (ma 18) (pf 13).toNatClampNeg (-1))) 19 (upd ((va_up ma 18 (upd (ma 18) (pf 13).toNatClampNeg (-1))) 19) (pf 13).toNatClampNeg (-1))) 20 (upd ((va_up (va_up ma 18 (upd (ma 18) (pf 13).toNatClampNeg (-1))) 19 (upd ((va_up ma 18 (upd (ma 18) (pf 13).toNatClampNeg (-1))) 19) (pf 13).toNatClampNeg (-1))) 20) (pf 13).toNatClampNeg (-1))) 22) (pf 13).toNatClampNeg (-1))) wa cf ca ef ea xf xa]) sp_22 rfl (fun H locs hw => ?_)
  refine lv_aload_n S.x S.b d_Mpg_make_91 rfl (lv_at hl 0 rfl) ?_
  refine gP_23 S hT hw 0 rfl m10_11 d_Mpg_make_92 ?_
  refine lv_aload_n S.x S.b d_Mpg_make_95 rfl (lv_at hl 0 rfl) ?_
  refine gP_13 (v := (pf 13)) S hT hw 0 rfl rfl m9_237 d_Mpg_make_96 ?_
  refine lv_iconst (v := 1) S.x S.b d_Mpg_make_99 (by decide) ?_
  refine px_iast S hT hw 0 19 (n := 2100) (f := ((va_up (va_up (va_up (va_up (va_up na 14 (upd (na 14) (pf 13).toNatClampNeg (vp_nar .byte z1))) 15 (upd ((va_up na 14 (upd (na 14) (pf 13).toNatClampNeg (vp_nar .byte z1))) 15) (pf 13).toNatClampNeg p1)) 16 (upd ((va_up (va_up na 14 (upd (na 14) (pf 13).toNatClampNeg (vp_nar .byte z1))) 15 (upd ((va_up na 14 (upd (na 14) (pf 13).toNatClampNeg (vp_nar .byte z1))) 15) (pf 13).toNatClampNeg p1)) 16) (pf 13).toNatClampNeg p1)) 17 (upd ((va_up (va_up (va_up na 14 (upd (na 14) (pf 13).toNatClampNeg (vp_nar .byte z1))) 15 (upd ((va_up na 14 (upd (na 14) (pf 13).toNatClampNeg (vp_nar .byte z1))) 15) (pf 13).toNatClampNeg p1)) 16 (upd ((va_up (va_up na 14 (upd (na 14) (pf 13).toNatClampNeg (vp_nar .byte z1))) 15 (upd ((va_up na 14 (upd (na 14) (pf 13).toNatClampNeg (vp_nar .byte z1))) 15) (pf 13).toNatClampNeg p1)) 16) (pf 13).toNatClampNeg p1)) 17) (pf 13).toNatClampNeg (-1))) 21 (upd ((va_up (va_up (va_up (va_up na 14 (upd (na 14) (pf 13).toNatClampNeg (vp_nar .byte z1))) 15 (upd ((va_up na 14 (upd (na 14) (pf 13).toNatClampNeg (vp_nar .byte z1))) 15) (pf 13).toNatClampNeg p1)) 16 (upd ((va_up (va_up na 14 (upd (na 14) (pf 13).toNatClampNeg (vp_nar .byte z1))) 15 (upd ((va_up na 14 (upd (na 14) (pf 13).toNatClampNeg (vp_nar .byte z1))) 15) (pf 13).toNatClampNeg p1)) 16) (pf 13).toNatClampNeg p1)) 17 (upd ((va_up (va_up (va_up na 14 (upd (na 14) (pf 13).toNatClampNeg (vp_nar .byte z1))) 15 (upd ((va_up na 14 (upd (na 14) (pf 13).toNatClampNeg (vp_nar .byte z1))) 15) (pf 13).toNatClampNeg p1)) 16 (upd ((va_up (va_up na 14 (upd (na 14) (pf 13).toNatClampNeg (vp_nar .byte z1))) 15 (upd ((va_up na 14 (upd (na 14) (pf 13).toNatClampNeg (vp_nar .byte z1))) 15) (pf 13).toNatClampNeg p1)) 16) (pf 13).toNatClampNeg p1)) 17) (pf 13).toNatClampNeg (-1))) 21) (pf 13).toNatClampNeg (-1))) 23)) (x := (pf 13)) (y := 1) rfl gp_23 (vp_in_iff.mpr (by constructor <;> omega)) d_Mpg_make_100 (w' := wdP cs h r g tf ta pf (va_up (va_up (va_up (va_up (va_up (va_up na 14 (upd (na 14) (pf 13).toNatClampNeg (vp_nar .byte z1))) 15 (upd ((va_up na 14 (upd (na 14) (pf 13).toNatClampNeg (vp_nar .byte z1))) 15) (pf 13).toNatClampNeg p1)) 16 (upd ((va_up (va_up na 14 (upd (na 14) (pf 13).toNatClampNeg (vp_nar .byte z1))) 15 (upd ((va_up na 14 (upd (na 14) (pf 13).toNatClampNeg (vp_nar .byte z1))) 15) (pf 13).toNatClampNeg p1)) 16) (pf 13).toNatClampNeg p1)) 17 (upd ((va_up (va_up (va_up na 14 (upd (na 14) (pf 13).toNatClampNeg (vp_nar .byte z1))) 15 (upd ((va_up na 14 (upd (na 14) (pf 13).toNatClampNeg (vp_nar .byte z1))) 15) (pf 13).toNatClampNeg p1)) 16 (upd ((va_up (va_up na 14 (upd (na 14) (pf 13).toNatClampNeg (vp_nar .byte z1))) 15 (upd ((va_up na 14 (upd (na 14) (pf 13).toNatClampNeg (vp_nar .byte z1))) 15) (pf 13).toNatClampNeg p1)) 16) (pf 13).toNatClampNeg p1)) 17) (pf 13).toNatClampNeg (-1))) 21 (upd ((va_up (va_up (va_up (va_up na 14 (upd (na 14) (pf 13).toNatClampNeg (vp_nar .byte z1))) 15 (upd ((va_up na 14 (upd (na 14) (pf 13).toNatClampNeg (vp_nar .byte z1))) 15) (pf 13).toNatClampNeg p1)) 16 (upd ((va_up (va_up na 14 (upd (na 14) (pf 13).toNatClampNeg (vp_nar .byte z1))) 15 (upd ((va_up na 14 (upd (na 14) (pf 13).toNatClampNeg (vp_nar .byte z1))) 15) (pf 13).toNatClampNeg p1)) 16) (pf 13).toNatClampNeg p1)) 17 (upd ((va_up (va_up (va_up na 14 (upd (na 14) (pf 13).toNatClampNeg (vp_nar .byte z1))) 15 (upd ((va_up na 14 (upd (na 14) (pf 13).toNatClampNeg (vp_nar .byte z1))) 15) (pf 13).toNatClampNeg p1)) 16 (upd ((va_up (va_up na 14 (upd (na 14) (pf 13).toNatClampNeg (vp_nar .byte z1))) 15 (upd ((va_up na 14 (upd (na 14) (pf 13).toNatClampNeg (vp_nar .byte z1))) 15) (pf 13).toNatClampNeg p1)) 16) (pf 13).toNatClampNeg p1)) 17) (pf 13).toNatClampNeg (-1))) 21) (pf 13).toNatClampNeg (-1))) 23 (upd ((va_up (va_up (va_up (va_up (va_up na 14 (upd (na 14) (pf 13).toNatClampNeg (vp_nar .byte z1))) 15 (upd ((va_up na 14 (upd (na 14) (pf 13).toNatClampNeg (vp_nar .byte z1))) 15) (pf 13).toNatClampNeg p1)) 16 (upd ((va_up (va_up na 14 (upd (na 14) (pf 13).toNatClampNeg (vp_nar .byte z1))) 15 (upd ((va_up na 14 (upd (na 14) (pf 13).toNatClampNeg (vp_nar .byte z1))) 15) (pf 13).toNatClampNeg p1)) 16) (pf 13).toNatClampNeg p1)) 17 (upd ((va_up (va_up (va_up na 14 (upd (na 14) (pf 13).toNatClampNeg (vp_nar .byte z1))) 15 (upd ((va_up na 14 (upd (na 14) (pf 13).toNatClampNeg (vp_nar .byte z1))) 15) (pf 13).toNatClampNeg p1)) 16 (upd ((va_up (va_up na 14 (upd (na 14) (pf 13).toNatClampNeg (vp_nar .byte z1))) 15 (upd ((va_up na 14 (upd (na 14) (pf 13).toNatClampNeg (vp_nar .byte z1))) 15) (pf 13).toNatClampNeg p1)) 16) (pf 13).toNatClampNeg p1)) 17) (pf 13).toNatClampNeg (-1))) 21 (upd ((va_up (va_up (va_up (va_up na 14 (upd (na 14) (pf 13).toNatClampNeg (vp_nar .byte z1))) 15 (upd ((va_up na 14 (upd (na 14) (pf 13).toNatClampNeg (vp_nar .byte z1))) 15) (pf 13).toNatClampNeg p1)) 16 (upd ((va_up (va_up na 14 (upd (na 14) (pf 13).toNatClampNeg (vp_nar .byte z1))) 15 (upd ((va_up na 14 (upd (na 14) (pf 13).toNatClampNeg (vp_nar .byte z1))) 15) (pf 13).toNatClampNeg p1)) 16) (pf 13).toNatClampNeg p1)) 17 (upd ((va_up (va_up (va_up na 14 (upd (na 14) (pf 13).toNatClampNeg (vp_nar .byte z1))) 15 (upd ((va_up na 14 (upd (na 14) (pf 13).toNatClampNeg (vp_nar .byte z1))) 15) (pf 13).toNatClampNeg p1)) 16 (upd ((va_up (va_up na 14 (upd (na 14) (pf 13).toNatClampNeg (vp_nar .byte z1))) 15 (upd ((va_up na 14 (upd (na 14) (pf 13).toNatClampNeg (vp_nar .byte z1))) 15) (pf 13).toNatClampNeg p1)) 16) (pf 13).toNatClampNeg p1)) 17) (pf 13).toNatClampNeg (-1))) 21) (pf 13).toNatClampNeg (-1))) 23) (pf 13).toNatClampNeg 1)) (va_up (va_up (va_up (va_up ma 18 (upd (ma 18) (pf 13).toNatClampNeg (-1))) 19 (upd ((va_up ma 18 (upd (ma 18) (pf 13).toNatClampNeg (-1))) 19) (pf 13).toNatClampNeg (-1))) 20 (upd ((va_up (va_up ma 18 (upd (ma 18) (pf 13).toNatClampNeg (-1))) 19 (upd ((va_up ma 18 (upd (ma 18) (pf 13).toNatClampNeg (-1))) 19) (pf 13).toNatClampNeg (-1))) 20) (pf 13).toNatClampNeg (-1))) 22 (upd ((va_up (va_up (va_up ma 18 (upd (ma 18) (pf 13).toNatClampNeg (-1))) 19 (upd ((va_up ma 18 (upd (ma 18) (pf 13).toNatClampNeg (-1))) 19) (pf 13).toNatClampNeg (-1))) 20 (upd ((va_up (va_up ma 18 (upd (ma 18) (pf 13).toNatClampNeg (-1))) 19 (upd ((va_up ma 18 (upd (ma 18) (pf 13).toNatClampNeg (-1))) 19) (pf 13).toNatClampNeg (-1))) 20) (pf 13).toNatClampNeg (-1))) 22) (pf 13).toNatClampNeg (-1))) wa cf ca ef ea xf xa) (ps' := [wdP cs h r g tf ta pf (va_up (va_up (va_up (va_up (va_up (va_up na 14 (upd (na 14) (pf 13).toNatClampNeg (vp_nar .byte z1))) 15 (upd ((va_up na 14 (upd (na 14) (pf 13).toNatClampNeg (vp_nar .byte z1))) 15) (pf 13).toNatClampNeg p1)) 16 (upd ((va_up (va_up na 14 (upd (na 14) (pf 13).toNatClampNeg (vp_nar .byte z1))) 15 (upd ((va_up na 14 (upd (na 14) (pf 13).toNatClampNeg (vp_nar .byte z1))) 15) (pf 13).toNatClampNeg p1)) 16) (pf 13).toNatClampNeg p1)) 17 (upd ((va_up (va_up (va_up na 14 (upd (na 14) (pf 13).toNatClampNeg (vp_nar .byte z1))) 15 (upd ((va_up na 14 (upd (na 14) (pf 13).toNatClampNeg (vp_nar .byte z1))) 15) (pf 13).toNatClampNeg p1)) 16 (upd ((va_up (va_up na 14 (upd (na 14) (pf 13).toNatClampNeg (vp_nar .byte z1))) 15 (upd ((va_up na 14 (upd (na 14) (pf 13).toNatClampNeg (vp_nar .byte z1))) 15) (pf 13).toNatClampNeg p1)) 16) (pf 13).toNatClampNeg p1)) 17) (pf 13).toNatClampNeg (-1))) 21 (upd ((va_up (va_up (va_up (va_up na 14 (upd (na 14) (pf 13).toNatClampNeg (vp_nar .byte z1))) 15 (upd ((va_up na 14 (upd (na 14) (pf 13).toNatClampNeg (vp_nar .byte z1))) 15) (pf 13).toNatClampNeg p1)) 16 (upd ((va_up (va_up na 14 (upd (na 14) (pf 13).toNatClampNeg (vp_nar .byte z1))) 15 (upd ((va_up na 14 (upd (na 14) (pf 13).toNatClampNeg (vp_nar .byte z1))) 15) (pf 13).toNatClampNeg p1)) 16) (pf 13).toNatClampNeg p1)) 17 (upd ((va_up (va_up (va_up na 14 (upd (na 14) (pf 13).toNatClampNeg (vp_nar .byte z1))) 15 (upd ((va_up na 14 (upd (na 14) (pf 13).toNatClampNeg (vp_nar .byte z1))) 15) (pf 13).toNatClampNeg p1)) 16 (upd ((va_up (va_up na 14 (upd (na 14) (pf 13).toNatClampNeg (vp_nar .byte z1))) 15 (upd ((va_up na 14 (upd (na 14) (pf 13).toNatClampNeg (vp_nar .byte z1))) 15) (pf 13).toNatClampNeg p1)) 16) (pf 13).toNatClampNeg p1)) 17) (pf 13).toNatClampNeg (-1))) 21) (pf 13).toNatClampNeg (-1))) 23 (upd ((va_up (va_up (va_up (va_up (va_up na 14 (upd (na 14) (pf 13).toNatClampNeg (vp_nar .byte z1))) 15 (upd ((va_up na 14 (upd (na 14) (pf 13).toNatClampNeg (vp_nar .byte z1))) 15) (pf 13).toNatClampNeg p1)) 16 (upd ((va_up (va_up na 14 (upd (na 14) (pf 13).toNatClampNeg (vp_nar .byte z1))) 15 (upd ((va_up na 14 (upd (na 14) (pf 13).toNatClampNeg (vp_nar .byte z1))) 15) (pf 13).toNatClampNeg p1)) 16) (pf 13).toNatClampNeg p1)) 17 (upd ((va_up (va_up (va_up na 14 (upd (na 14) (pf 13).toNatClampNeg (vp_nar .byte z1))) 15 (upd ((va_up na 14 (upd (na 14) (pf 13).toNatClampNeg (vp_nar .byte z1))) 15) (pf 13).toNatClampNeg p1)) 16 (upd ((va_up (va_up na 14 (upd (na 14) (pf 13).toNatClampNeg (vp_nar .byte z1))) 15 (upd ((va_up na 14 (upd (na 14) (pf 13).toNatClampNeg (vp_nar .byte z1))) 15) (pf 13).toNatClampNeg p1)) 16) (pf 13).toNatClampNeg p1)) 17) (pf 13).toNatClampNeg (-1))) 21 (upd ((va_up (va_up (va_up (va_up na 14 (upd (na 14) (pf 13).toNatClampNeg (vp_nar .byte z1))) 15 (upd ((va_up na 14 (upd (na 14) (pf 13).toNatClampNeg (vp_nar .byte z1))) 15) (pf 13).toNatClampNeg p1)) 16 (upd ((va_up (va_up na 14 (upd (na 14) (pf 13).toNatClampNeg (vp_nar .byte z1))) 15 (upd ((va_up na 14 (upd (na 14) (pf 13).toNatClampNeg (vp_nar .byte z1))) 15) (pf 13).toNatClampNeg p1)) 16) (pf 13).toNatClampNeg p1)) 17 (upd ((va_up (va_up (va_up na 14 (upd (na 14) (pf 13).toNatClampNeg (vp_nar .byte z1))) 15 (upd ((va_up na 14 (upd (na 14) (pf 13).toNatClampNeg (vp_nar .byte z1))) 15) (pf 13).toNatClampNeg p1)) 16 (upd ((va_up (va_up na 14 (upd (na 14) (pf 13).toNatClampNeg (vp_nar .byte z1))) 15 (upd ((va_up na 14 (upd (na 14) (pf 13).toNatClampNeg (vp_nar .byte z1))) 15) (pf 13).toNatClampNeg p1)) 16) (pf 13).toNatClampNeg p1)) 17) (pf 13).toNatClampNeg (-1))) 21) (pf 13).toNatClampNeg (-1))) 23) (pf 13).toNatClampNeg 1)) (va_up (va_up (va_up (va_up ma 18 (upd (ma 18) (pf 13).toNatClampNeg (-1))) 19 (upd ((va_up ma 18 (upd (ma 18) (pf 13).toNatClampNeg (-1))) 19) (pf 13).toNatClampNeg (-1))) 20 (upd ((va_up (va_up ma 18 (upd (ma 18) (pf 13).toNatClampNeg (-1))) 19 (upd ((va_up ma 18 (upd (ma 18) (pf 13).toNatClampNeg (-1))) 19) (pf 13).toNatClampNeg (-1))) 20) (pf 13).toNatClampNeg (-1))) 22 (upd ((va_up (va_up (va_up ma 18 (upd (ma 18) (pf 13).toNatClampNeg (-1))) 19 (upd ((va_up ma 18 (upd (ma 18) (pf 13).toNatClampNeg (-1))) 19) (pf 13).toNatClampNeg (-1))) 20 (upd ((va_up (va_up ma 18 (upd (ma 18) (pf 13).toNatClampNeg (-1))) 19 (upd ((va_up ma 18 (upd (ma 18) (pf 13).toNatClampNeg (-1))) 19) (pf 13).toNatClampNeg (-1))) 20) (pf 13).toNatClampNeg (-1))) 22) (pf 13).toNatClampNeg (-1))) wa cf ca ef ea xf xa]) sp_23 rfl (fun H locs hw => ?_)
  refine lv_aload_n S.x S.b d_Mpg_make_101 rfl (lv_at hl 0 rfl) ?_
  refine lv_dup S.x S.b d_Mpg_make_102 rfl ?_
  refine gP_13 (v := (pf 13)) S hT hw 0 rfl rfl m9_237 d_Mpg_make_103 ?_
  refine lv_iconst (v := 1) S.x S.b d_Mpg_make_106 (by decide) ?_
  refine lv_iadd S.x S.b d_Mpg_make_107 ?_
  have lr2 := Int32.le_toInt (pf 13)
  have ur2 := Int32.toInt_lt (pf 13)
  refine lv_topi (fun z3 ez3 => ?_)
  have tz3 : z3.toInt = ((pf 13).toInt + (1 : Int) + 2147483648) % 4294967296 - 2147483648 := by rw [ez3]; exact i_add (pf 13) 1
  have lz3 := Int32.le_toInt z3
  have uz3 := Int32.toInt_lt z3
  try replace tz3 : z3.toInt = (pf 13).toInt + (1 : Int) := by omega
  refine pP_13 S hT hw 0 rfl m9_237 rfl rfl rfl d_Mpg_make_108 (ps' := [wdP cs h r g tf ta (upd pf 13 z3) (va_up (va_up (va_up (va_up (va_up (va_up na 14 (upd (na 14) (pf 13).toNatClampNeg (vp_nar .byte z1))) 15 (upd ((va_up na 14 (upd (na 14) (pf 13).toNatClampNeg (vp_nar .byte z1))) 15) (pf 13).toNatClampNeg p1)) 16 (upd ((va_up (va_up na 14 (upd (na 14) (pf 13).toNatClampNeg (vp_nar .byte z1))) 15 (upd ((va_up na 14 (upd (na 14) (pf 13).toNatClampNeg (vp_nar .byte z1))) 15) (pf 13).toNatClampNeg p1)) 16) (pf 13).toNatClampNeg p1)) 17 (upd ((va_up (va_up (va_up na 14 (upd (na 14) (pf 13).toNatClampNeg (vp_nar .byte z1))) 15 (upd ((va_up na 14 (upd (na 14) (pf 13).toNatClampNeg (vp_nar .byte z1))) 15) (pf 13).toNatClampNeg p1)) 16 (upd ((va_up (va_up na 14 (upd (na 14) (pf 13).toNatClampNeg (vp_nar .byte z1))) 15 (upd ((va_up na 14 (upd (na 14) (pf 13).toNatClampNeg (vp_nar .byte z1))) 15) (pf 13).toNatClampNeg p1)) 16) (pf 13).toNatClampNeg p1)) 17) (pf 13).toNatClampNeg (-1))) 21 (upd ((va_up (va_up (va_up (va_up na 14 (upd (na 14) (pf 13).toNatClampNeg (vp_nar .byte z1))) 15 (upd ((va_up na 14 (upd (na 14) (pf 13).toNatClampNeg (vp_nar .byte z1))) 15) (pf 13).toNatClampNeg p1)) 16 (upd ((va_up (va_up na 14 (upd (na 14) (pf 13).toNatClampNeg (vp_nar .byte z1))) 15 (upd ((va_up na 14 (upd (na 14) (pf 13).toNatClampNeg (vp_nar .byte z1))) 15) (pf 13).toNatClampNeg p1)) 16) (pf 13).toNatClampNeg p1)) 17 (upd ((va_up (va_up (va_up na 14 (upd (na 14) (pf 13).toNatClampNeg (vp_nar .byte z1))) 15 (upd ((va_up na 14 (upd (na 14) (pf 13).toNatClampNeg (vp_nar .byte z1))) 15) (pf 13).toNatClampNeg p1)) 16 (upd ((va_up (va_up na 14 (upd (na 14) (pf 13).toNatClampNeg (vp_nar .byte z1))) 15 (upd ((va_up na 14 (upd (na 14) (pf 13).toNatClampNeg (vp_nar .byte z1))) 15) (pf 13).toNatClampNeg p1)) 16) (pf 13).toNatClampNeg p1)) 17) (pf 13).toNatClampNeg (-1))) 21) (pf 13).toNatClampNeg (-1))) 23 (upd ((va_up (va_up (va_up (va_up (va_up na 14 (upd (na 14) (pf 13).toNatClampNeg (vp_nar .byte z1))) 15 (upd ((va_up na 14 (upd (na 14) (pf 13).toNatClampNeg (vp_nar .byte z1))) 15) (pf 13).toNatClampNeg p1)) 16 (upd ((va_up (va_up na 14 (upd (na 14) (pf 13).toNatClampNeg (vp_nar .byte z1))) 15 (upd ((va_up na 14 (upd (na 14) (pf 13).toNatClampNeg (vp_nar .byte z1))) 15) (pf 13).toNatClampNeg p1)) 16) (pf 13).toNatClampNeg p1)) 17 (upd ((va_up (va_up (va_up na 14 (upd (na 14) (pf 13).toNatClampNeg (vp_nar .byte z1))) 15 (upd ((va_up na 14 (upd (na 14) (pf 13).toNatClampNeg (vp_nar .byte z1))) 15) (pf 13).toNatClampNeg p1)) 16 (upd ((va_up (va_up na 14 (upd (na 14) (pf 13).toNatClampNeg (vp_nar .byte z1))) 15 (upd ((va_up na 14 (upd (na 14) (pf 13).toNatClampNeg (vp_nar .byte z1))) 15) (pf 13).toNatClampNeg p1)) 16) (pf 13).toNatClampNeg p1)) 17) (pf 13).toNatClampNeg (-1))) 21 (upd ((va_up (va_up (va_up (va_up na 14 (upd (na 14) (pf 13).toNatClampNeg (vp_nar .byte z1))) 15 (upd ((va_up na 14 (upd (na 14) (pf 13).toNatClampNeg (vp_nar .byte z1))) 15) (pf 13).toNatClampNeg p1)) 16 (upd ((va_up (va_up na 14 (upd (na 14) (pf 13).toNatClampNeg (vp_nar .byte z1))) 15 (upd ((va_up na 14 (upd (na 14) (pf 13).toNatClampNeg (vp_nar .byte z1))) 15) (pf 13).toNatClampNeg p1)) 16) (pf 13).toNatClampNeg p1)) 17 (upd ((va_up (va_up (va_up na 14 (upd (na 14) (pf 13).toNatClampNeg (vp_nar .byte z1))) 15 (upd ((va_up na 14 (upd (na 14) (pf 13).toNatClampNeg (vp_nar .byte z1))) 15) (pf 13).toNatClampNeg p1)) 16 (upd ((va_up (va_up na 14 (upd (na 14) (pf 13).toNatClampNeg (vp_nar .byte z1))) 15 (upd ((va_up na 14 (upd (na 14) (pf 13).toNatClampNeg (vp_nar .byte z1))) 15) (pf 13).toNatClampNeg p1)) 16) (pf 13).toNatClampNeg p1)) 17) (pf 13).toNatClampNeg (-1))) 21) (pf 13).toNatClampNeg (-1))) 23) (pf 13).toNatClampNeg 1)) (va_up (va_up (va_up (va_up ma 18 (upd (ma 18) (pf 13).toNatClampNeg (-1))) 19 (upd ((va_up ma 18 (upd (ma 18) (pf 13).toNatClampNeg (-1))) 19) (pf 13).toNatClampNeg (-1))) 20 (upd ((va_up (va_up ma 18 (upd (ma 18) (pf 13).toNatClampNeg (-1))) 19 (upd ((va_up ma 18 (upd (ma 18) (pf 13).toNatClampNeg (-1))) 19) (pf 13).toNatClampNeg (-1))) 20) (pf 13).toNatClampNeg (-1))) 22 (upd ((va_up (va_up (va_up ma 18 (upd (ma 18) (pf 13).toNatClampNeg (-1))) 19 (upd ((va_up ma 18 (upd (ma 18) (pf 13).toNatClampNeg (-1))) 19) (pf 13).toNatClampNeg (-1))) 20 (upd ((va_up (va_up ma 18 (upd (ma 18) (pf 13).toNatClampNeg (-1))) 19 (upd ((va_up ma 18 (upd (ma 18) (pf 13).toNatClampNeg (-1))) 19) (pf 13).toNatClampNeg (-1))) 20) (pf 13).toNatClampNeg (-1))) 22) (pf 13).toNatClampNeg (-1))) wa cf ca ef ea xf xa]) rfl (fun H locs hw => ?_)
  refine lv_aload_n S.x S.b d_Mpg_make_111 rfl (lv_at hl 0 rfl) ?_
  refine gP_13 (v := z3) S hT hw 0 rfl rfl m9_237 d_Mpg_make_112 ?_
  refine lv_iconst (v := 1) S.x S.b d_Mpg_make_115 (by decide) ?_
  refine lv_isub S.x S.b d_Mpg_make_116 ?_
  refine lv_topi (fun z4 ez4 => ?_)
  have tz4 : z4.toInt = (z3.toInt - (1 : Int) + 2147483648) % 4294967296 - 2147483648 := by rw [ez4]; exact i_sub z3 1
  have lz4 := Int32.le_toInt z4
  have uz4 := Int32.toInt_lt z4
  try replace tz4 : z4.toInt = z3.toInt - (1 : Int) := by omega
  first | exact px_iret (v := z4) S hr rfl hlk hAe hw (Nat.le_of_ble_eq_true rfl) (Nat.le_of_ble_eq_true rfl) (⟨(upd pf 13 z3), (va_up (va_up (va_up (va_up (va_up (va_up na 14 (upd (na 14) (pf 13).toNatClampNeg (vp_nar .byte z1))) 15 (upd ((va_up na 14 (upd (na 14) (pf 13).toNatClampNeg (vp_nar .byte z1))) 15) (pf 13).toNatClampNeg p1)) 16 (upd ((va_up (va_up na 14 (upd (na 14) (pf 13).toNatClampNeg (vp_nar .byte z1))) 15 (upd ((va_up na 14 (upd (na 14) (pf 13).toNatClampNeg (vp_nar .byte z1))) 15) (pf 13).toNatClampNeg p1)) 16) (pf 13).toNatClampNeg p1)) 17 (upd ((va_up (va_up (va_up na 14 (upd (na 14) (pf 13).toNatClampNeg (vp_nar .byte z1))) 15 (upd ((va_up na 14 (upd (na 14) (pf 13).toNatClampNeg (vp_nar .byte z1))) 15) (pf 13).toNatClampNeg p1)) 16 (upd ((va_up (va_up na 14 (upd (na 14) (pf 13).toNatClampNeg (vp_nar .byte z1))) 15 (upd ((va_up na 14 (upd (na 14) (pf 13).toNatClampNeg (vp_nar .byte z1))) 15) (pf 13).toNatClampNeg p1)) 16) (pf 13).toNatClampNeg p1)) 17) (pf 13).toNatClampNeg (-1))) 21 (upd ((va_up (va_up (va_up (va_up na 14 (upd (na 14) (pf 13).toNatClampNeg (vp_nar .byte z1))) 15 (upd ((va_up na 14 (upd (na 14) (pf 13).toNatClampNeg (vp_nar .byte z1))) 15) (pf 13).toNatClampNeg p1)) 16 (upd ((va_up (va_up na 14 (upd (na 14) (pf 13).toNatClampNeg (vp_nar .byte z1))) 15 (upd ((va_up na 14 (upd (na 14) (pf 13).toNatClampNeg (vp_nar .byte z1))) 15) (pf 13).toNatClampNeg p1)) 16) (pf 13).toNatClampNeg p1)) 17 (upd ((va_up (va_up (va_up na 14 (upd (na 14) (pf 13).toNatClampNeg (vp_nar .byte z1))) 15 (upd ((va_up na 14 (upd (na 14) (pf 13).toNatClampNeg (vp_nar .byte z1))) 15) (pf 13).toNatClampNeg p1)) 16 (upd ((va_up (va_up na 14 (upd (na 14) (pf 13).toNatClampNeg (vp_nar .byte z1))) 15 (upd ((va_up na 14 (upd (na 14) (pf 13).toNatClampNeg (vp_nar .byte z1))) 15) (pf 13).toNatClampNeg p1)) 16) (pf 13).toNatClampNeg p1)) 17) (pf 13).toNatClampNeg (-1))) 21) (pf 13).toNatClampNeg (-1))) 23 (upd ((va_up (va_up (va_up (va_up (va_up na 14 (upd (na 14) (pf 13).toNatClampNeg (vp_nar .byte z1))) 15 (upd ((va_up na 14 (upd (na 14) (pf 13).toNatClampNeg (vp_nar .byte z1))) 15) (pf 13).toNatClampNeg p1)) 16 (upd ((va_up (va_up na 14 (upd (na 14) (pf 13).toNatClampNeg (vp_nar .byte z1))) 15 (upd ((va_up na 14 (upd (na 14) (pf 13).toNatClampNeg (vp_nar .byte z1))) 15) (pf 13).toNatClampNeg p1)) 16) (pf 13).toNatClampNeg p1)) 17 (upd ((va_up (va_up (va_up na 14 (upd (na 14) (pf 13).toNatClampNeg (vp_nar .byte z1))) 15 (upd ((va_up na 14 (upd (na 14) (pf 13).toNatClampNeg (vp_nar .byte z1))) 15) (pf 13).toNatClampNeg p1)) 16 (upd ((va_up (va_up na 14 (upd (na 14) (pf 13).toNatClampNeg (vp_nar .byte z1))) 15 (upd ((va_up na 14 (upd (na 14) (pf 13).toNatClampNeg (vp_nar .byte z1))) 15) (pf 13).toNatClampNeg p1)) 16) (pf 13).toNatClampNeg p1)) 17) (pf 13).toNatClampNeg (-1))) 21 (upd ((va_up (va_up (va_up (va_up na 14 (upd (na 14) (pf 13).toNatClampNeg (vp_nar .byte z1))) 15 (upd ((va_up na 14 (upd (na 14) (pf 13).toNatClampNeg (vp_nar .byte z1))) 15) (pf 13).toNatClampNeg p1)) 16 (upd ((va_up (va_up na 14 (upd (na 14) (pf 13).toNatClampNeg (vp_nar .byte z1))) 15 (upd ((va_up na 14 (upd (na 14) (pf 13).toNatClampNeg (vp_nar .byte z1))) 15) (pf 13).toNatClampNeg p1)) 16) (pf 13).toNatClampNeg p1)) 17 (upd ((va_up (va_up (va_up na 14 (upd (na 14) (pf 13).toNatClampNeg (vp_nar .byte z1))) 15 (upd ((va_up na 14 (upd (na 14) (pf 13).toNatClampNeg (vp_nar .byte z1))) 15) (pf 13).toNatClampNeg p1)) 16 (upd ((va_up (va_up na 14 (upd (na 14) (pf 13).toNatClampNeg (vp_nar .byte z1))) 15 (upd ((va_up na 14 (upd (na 14) (pf 13).toNatClampNeg (vp_nar .byte z1))) 15) (pf 13).toNatClampNeg p1)) 16) (pf 13).toNatClampNeg p1)) 17) (pf 13).toNatClampNeg (-1))) 21) (pf 13).toNatClampNeg (-1))) 23) (pf 13).toNatClampNeg 1)), (va_up (va_up (va_up (va_up ma 18 (upd (ma 18) (pf 13).toNatClampNeg (-1))) 19 (upd ((va_up ma 18 (upd (ma 18) (pf 13).toNatClampNeg (-1))) 19) (pf 13).toNatClampNeg (-1))) 20 (upd ((va_up (va_up ma 18 (upd (ma 18) (pf 13).toNatClampNeg (-1))) 19 (upd ((va_up ma 18 (upd (ma 18) (pf 13).toNatClampNeg (-1))) 19) (pf 13).toNatClampNeg (-1))) 20) (pf 13).toNatClampNeg (-1))) 22 (upd ((va_up (va_up (va_up ma 18 (upd (ma 18) (pf 13).toNatClampNeg (-1))) 19 (upd ((va_up ma 18 (upd (ma 18) (pf 13).toNatClampNeg (-1))) 19) (pf 13).toNatClampNeg (-1))) 20 (upd ((va_up (va_up ma 18 (upd (ma 18) (pf 13).toNatClampNeg (-1))) 19 (upd ((va_up ma 18 (upd (ma 18) (pf 13).toNatClampNeg (-1))) 19) (pf 13).toNatClampNeg (-1))) 20) (pf 13).toNatClampNeg (-1))) 22) (pf 13).toNatClampNeg (-1))), rfl, (show z4.toInt = (pf 13).toInt from (oz_9a9b2fbcd1 tz3 tz4)), (show z3.toInt = (pf 13).toInt + 1 from (oz_037caa6b79 tz3)), (show (pf 11).toInt = (pf 11).toInt from rfl), (show (pf 12).toInt = (pf 12).toInt from rfl), (show (pf 24).toInt = (pf 24).toInt from rfl), (show (pf 25).toInt = (pf 25).toInt from rfl), (show (pf 26).toInt = (pf 26).toInt from rfl), (show MkN na ma (va_up (va_up (va_up (va_up (va_up (va_up na 14 (upd (na 14) (pf 13).toNatClampNeg (vp_nar .byte z1))) 15 (upd ((va_up na 14 (upd (na 14) (pf 13).toNatClampNeg (vp_nar .byte z1))) 15) (pf 13).toNatClampNeg p1)) 16 (upd ((va_up (va_up na 14 (upd (na 14) (pf 13).toNatClampNeg (vp_nar .byte z1))) 15 (upd ((va_up na 14 (upd (na 14) (pf 13).toNatClampNeg (vp_nar .byte z1))) 15) (pf 13).toNatClampNeg p1)) 16) (pf 13).toNatClampNeg p1)) 17 (upd ((va_up (va_up (va_up na 14 (upd (na 14) (pf 13).toNatClampNeg (vp_nar .byte z1))) 15 (upd ((va_up na 14 (upd (na 14) (pf 13).toNatClampNeg (vp_nar .byte z1))) 15) (pf 13).toNatClampNeg p1)) 16 (upd ((va_up (va_up na 14 (upd (na 14) (pf 13).toNatClampNeg (vp_nar .byte z1))) 15 (upd ((va_up na 14 (upd (na 14) (pf 13).toNatClampNeg (vp_nar .byte z1))) 15) (pf 13).toNatClampNeg p1)) 16) (pf 13).toNatClampNeg p1)) 17) (pf 13).toNatClampNeg (-1))) 21 (upd ((va_up (va_up (va_up (va_up na 14 (upd (na 14) (pf 13).toNatClampNeg (vp_nar .byte z1))) 15 (upd ((va_up na 14 (upd (na 14) (pf 13).toNatClampNeg (vp_nar .byte z1))) 15) (pf 13).toNatClampNeg p1)) 16 (upd ((va_up (va_up na 14 (upd (na 14) (pf 13).toNatClampNeg (vp_nar .byte z1))) 15 (upd ((va_up na 14 (upd (na 14) (pf 13).toNatClampNeg (vp_nar .byte z1))) 15) (pf 13).toNatClampNeg p1)) 16) (pf 13).toNatClampNeg p1)) 17 (upd ((va_up (va_up (va_up na 14 (upd (na 14) (pf 13).toNatClampNeg (vp_nar .byte z1))) 15 (upd ((va_up na 14 (upd (na 14) (pf 13).toNatClampNeg (vp_nar .byte z1))) 15) (pf 13).toNatClampNeg p1)) 16 (upd ((va_up (va_up na 14 (upd (na 14) (pf 13).toNatClampNeg (vp_nar .byte z1))) 15 (upd ((va_up na 14 (upd (na 14) (pf 13).toNatClampNeg (vp_nar .byte z1))) 15) (pf 13).toNatClampNeg p1)) 16) (pf 13).toNatClampNeg p1)) 17) (pf 13).toNatClampNeg (-1))) 21) (pf 13).toNatClampNeg (-1))) 23 (upd ((va_up (va_up (va_up (va_up (va_up na 14 (upd (na 14) (pf 13).toNatClampNeg (vp_nar .byte z1))) 15 (upd ((va_up na 14 (upd (na 14) (pf 13).toNatClampNeg (vp_nar .byte z1))) 15) (pf 13).toNatClampNeg p1)) 16 (upd ((va_up (va_up na 14 (upd (na 14) (pf 13).toNatClampNeg (vp_nar .byte z1))) 15 (upd ((va_up na 14 (upd (na 14) (pf 13).toNatClampNeg (vp_nar .byte z1))) 15) (pf 13).toNatClampNeg p1)) 16) (pf 13).toNatClampNeg p1)) 17 (upd ((va_up (va_up (va_up na 14 (upd (na 14) (pf 13).toNatClampNeg (vp_nar .byte z1))) 15 (upd ((va_up na 14 (upd (na 14) (pf 13).toNatClampNeg (vp_nar .byte z1))) 15) (pf 13).toNatClampNeg p1)) 16 (upd ((va_up (va_up na 14 (upd (na 14) (pf 13).toNatClampNeg (vp_nar .byte z1))) 15 (upd ((va_up na 14 (upd (na 14) (pf 13).toNatClampNeg (vp_nar .byte z1))) 15) (pf 13).toNatClampNeg p1)) 16) (pf 13).toNatClampNeg p1)) 17) (pf 13).toNatClampNeg (-1))) 21 (upd ((va_up (va_up (va_up (va_up na 14 (upd (na 14) (pf 13).toNatClampNeg (vp_nar .byte z1))) 15 (upd ((va_up na 14 (upd (na 14) (pf 13).toNatClampNeg (vp_nar .byte z1))) 15) (pf 13).toNatClampNeg p1)) 16 (upd ((va_up (va_up na 14 (upd (na 14) (pf 13).toNatClampNeg (vp_nar .byte z1))) 15 (upd ((va_up na 14 (upd (na 14) (pf 13).toNatClampNeg (vp_nar .byte z1))) 15) (pf 13).toNatClampNeg p1)) 16) (pf 13).toNatClampNeg p1)) 17 (upd ((va_up (va_up (va_up na 14 (upd (na 14) (pf 13).toNatClampNeg (vp_nar .byte z1))) 15 (upd ((va_up na 14 (upd (na 14) (pf 13).toNatClampNeg (vp_nar .byte z1))) 15) (pf 13).toNatClampNeg p1)) 16 (upd ((va_up (va_up na 14 (upd (na 14) (pf 13).toNatClampNeg (vp_nar .byte z1))) 15 (upd ((va_up na 14 (upd (na 14) (pf 13).toNatClampNeg (vp_nar .byte z1))) 15) (pf 13).toNatClampNeg p1)) 16) (pf 13).toNatClampNeg p1)) 17) (pf 13).toNatClampNeg (-1))) 21) (pf 13).toNatClampNeg (-1))) 23) (pf 13).toNatClampNeg 1)) (va_up (va_up (va_up (va_up ma 18 (upd (ma 18) (pf 13).toNatClampNeg (-1))) 19 (upd ((va_up ma 18 (upd (ma 18) (pf 13).toNatClampNeg (-1))) 19) (pf 13).toNatClampNeg (-1))) 20 (upd ((va_up (va_up ma 18 (upd (ma 18) (pf 13).toNatClampNeg (-1))) 19 (upd ((va_up ma 18 (upd (ma 18) (pf 13).toNatClampNeg (-1))) 19) (pf 13).toNatClampNeg (-1))) 20) (pf 13).toNatClampNeg (-1))) 22 (upd ((va_up (va_up (va_up ma 18 (upd (ma 18) (pf 13).toNatClampNeg (-1))) 19 (upd ((va_up ma 18 (upd (ma 18) (pf 13).toNatClampNeg (-1))) 19) (pf 13).toNatClampNeg (-1))) 20 (upd ((va_up (va_up ma 18 (upd (ma 18) (pf 13).toNatClampNeg (-1))) 19 (upd ((va_up ma 18 (upd (ma 18) (pf 13).toNatClampNeg (-1))) 19) (pf 13).toNatClampNeg (-1))) 20) (pf 13).toNatClampNeg (-1))) 22) (pf 13).toNatClampNeg (-1))) z4 p0 p1 from (by rw [show z4 = (pf 13) from i_eq.mpr (by omega)]; exact mkn_mk (by assumption) rfl rfl rfl rfl rfl rfl rfl rfl rfl rfl)), (show R_mp_make p0 p1 pf na ma (upd pf 13 z3) (va_up (va_up (va_up (va_up (va_up (va_up na 14 (upd (na 14) (pf 13).toNatClampNeg (vp_nar .byte z1))) 15 (upd ((va_up na 14 (upd (na 14) (pf 13).toNatClampNeg (vp_nar .byte z1))) 15) (pf 13).toNatClampNeg p1)) 16 (upd ((va_up (va_up na 14 (upd (na 14) (pf 13).toNatClampNeg (vp_nar .byte z1))) 15 (upd ((va_up na 14 (upd (na 14) (pf 13).toNatClampNeg (vp_nar .byte z1))) 15) (pf 13).toNatClampNeg p1)) 16) (pf 13).toNatClampNeg p1)) 17 (upd ((va_up (va_up (va_up na 14 (upd (na 14) (pf 13).toNatClampNeg (vp_nar .byte z1))) 15 (upd ((va_up na 14 (upd (na 14) (pf 13).toNatClampNeg (vp_nar .byte z1))) 15) (pf 13).toNatClampNeg p1)) 16 (upd ((va_up (va_up na 14 (upd (na 14) (pf 13).toNatClampNeg (vp_nar .byte z1))) 15 (upd ((va_up na 14 (upd (na 14) (pf 13).toNatClampNeg (vp_nar .byte z1))) 15) (pf 13).toNatClampNeg p1)) 16) (pf 13).toNatClampNeg p1)) 17) (pf 13).toNatClampNeg (-1))) 21 (upd ((va_up (va_up (va_up (va_up na 14 (upd (na 14) (pf 13).toNatClampNeg (vp_nar .byte z1))) 15 (upd ((va_up na 14 (upd (na 14) (pf 13).toNatClampNeg (vp_nar .byte z1))) 15) (pf 13).toNatClampNeg p1)) 16 (upd ((va_up (va_up na 14 (upd (na 14) (pf 13).toNatClampNeg (vp_nar .byte z1))) 15 (upd ((va_up na 14 (upd (na 14) (pf 13).toNatClampNeg (vp_nar .byte z1))) 15) (pf 13).toNatClampNeg p1)) 16) (pf 13).toNatClampNeg p1)) 17 (upd ((va_up (va_up (va_up na 14 (upd (na 14) (pf 13).toNatClampNeg (vp_nar .byte z1))) 15 (upd ((va_up na 14 (upd (na 14) (pf 13).toNatClampNeg (vp_nar .byte z1))) 15) (pf 13).toNatClampNeg p1)) 16 (upd ((va_up (va_up na 14 (upd (na 14) (pf 13).toNatClampNeg (vp_nar .byte z1))) 15 (upd ((va_up na 14 (upd (na 14) (pf 13).toNatClampNeg (vp_nar .byte z1))) 15) (pf 13).toNatClampNeg p1)) 16) (pf 13).toNatClampNeg p1)) 17) (pf 13).toNatClampNeg (-1))) 21) (pf 13).toNatClampNeg (-1))) 23 (upd ((va_up (va_up (va_up (va_up (va_up na 14 (upd (na 14) (pf 13).toNatClampNeg (vp_nar .byte z1))) 15 (upd ((va_up na 14 (upd (na 14) (pf 13).toNatClampNeg (vp_nar .byte z1))) 15) (pf 13).toNatClampNeg p1)) 16 (upd ((va_up (va_up na 14 (upd (na 14) (pf 13).toNatClampNeg (vp_nar .byte z1))) 15 (upd ((va_up na 14 (upd (na 14) (pf 13).toNatClampNeg (vp_nar .byte z1))) 15) (pf 13).toNatClampNeg p1)) 16) (pf 13).toNatClampNeg p1)) 17 (upd ((va_up (va_up (va_up na 14 (upd (na 14) (pf 13).toNatClampNeg (vp_nar .byte z1))) 15 (upd ((va_up na 14 (upd (na 14) (pf 13).toNatClampNeg (vp_nar .byte z1))) 15) (pf 13).toNatClampNeg p1)) 16 (upd ((va_up (va_up na 14 (upd (na 14) (pf 13).toNatClampNeg (vp_nar .byte z1))) 15 (upd ((va_up na 14 (upd (na 14) (pf 13).toNatClampNeg (vp_nar .byte z1))) 15) (pf 13).toNatClampNeg p1)) 16) (pf 13).toNatClampNeg p1)) 17) (pf 13).toNatClampNeg (-1))) 21 (upd ((va_up (va_up (va_up (va_up na 14 (upd (na 14) (pf 13).toNatClampNeg (vp_nar .byte z1))) 15 (upd ((va_up na 14 (upd (na 14) (pf 13).toNatClampNeg (vp_nar .byte z1))) 15) (pf 13).toNatClampNeg p1)) 16 (upd ((va_up (va_up na 14 (upd (na 14) (pf 13).toNatClampNeg (vp_nar .byte z1))) 15 (upd ((va_up na 14 (upd (na 14) (pf 13).toNatClampNeg (vp_nar .byte z1))) 15) (pf 13).toNatClampNeg p1)) 16) (pf 13).toNatClampNeg p1)) 17 (upd ((va_up (va_up (va_up na 14 (upd (na 14) (pf 13).toNatClampNeg (vp_nar .byte z1))) 15 (upd ((va_up na 14 (upd (na 14) (pf 13).toNatClampNeg (vp_nar .byte z1))) 15) (pf 13).toNatClampNeg p1)) 16 (upd ((va_up (va_up na 14 (upd (na 14) (pf 13).toNatClampNeg (vp_nar .byte z1))) 15 (upd ((va_up na 14 (upd (na 14) (pf 13).toNatClampNeg (vp_nar .byte z1))) 15) (pf 13).toNatClampNeg p1)) 16) (pf 13).toNatClampNeg p1)) 17) (pf 13).toNatClampNeg (-1))) 21) (pf 13).toNatClampNeg (-1))) 23) (pf 13).toNatClampNeg 1)) (va_up (va_up (va_up (va_up ma 18 (upd (ma 18) (pf 13).toNatClampNeg (-1))) 19 (upd ((va_up ma 18 (upd (ma 18) (pf 13).toNatClampNeg (-1))) 19) (pf 13).toNatClampNeg (-1))) 20 (upd ((va_up (va_up ma 18 (upd (ma 18) (pf 13).toNatClampNeg (-1))) 19 (upd ((va_up ma 18 (upd (ma 18) (pf 13).toNatClampNeg (-1))) 19) (pf 13).toNatClampNeg (-1))) 20) (pf 13).toNatClampNeg (-1))) 22 (upd ((va_up (va_up (va_up ma 18 (upd (ma 18) (pf 13).toNatClampNeg (-1))) 19 (upd ((va_up ma 18 (upd (ma 18) (pf 13).toNatClampNeg (-1))) 19) (pf 13).toNatClampNeg (-1))) 20 (upd ((va_up (va_up ma 18 (upd (ma 18) (pf 13).toNatClampNeg (-1))) 19 (upd ((va_up ma 18 (upd (ma 18) (pf 13).toNatClampNeg (-1))) 19) (pf 13).toNatClampNeg (-1))) 20) (pf 13).toNatClampNeg (-1))) 22) (pf 13).toNatClampNeg (-1))) z4 from (Or.inl ⟨z1, ez1, z3, ez3, z4, ez4, rfl, rfl, rfl, rfl⟩))⟩) d_Mpg_make_117 | (exact px_iret (v := z4) S hr rfl hlk hAe hw (Nat.le_of_ble_eq_true rfl) (Nat.le_of_ble_eq_true rfl) (⟨(upd pf 13 z3), (va_up (va_up (va_up (va_up (va_up (va_up na 14 (upd (na 14) (pf 13).toNatClampNeg (vp_nar .byte z1))) 15 (upd ((va_up na 14 (upd (na 14) (pf 13).toNatClampNeg (vp_nar .byte z1))) 15) (pf 13).toNatClampNeg p1)) 16 (upd ((va_up (va_up na 14 (upd (na 14) (pf 13).toNatClampNeg (vp_nar .byte z1))) 15 (upd ((va_up na 14 (upd (na 14) (pf 13).toNatClampNeg (vp_nar .byte z1))) 15) (pf 13).toNatClampNeg p1)) 16) (pf 13).toNatClampNeg p1)) 17 (upd ((va_up (va_up (va_up na 14 (upd (na 14) (pf 13).toNatClampNeg (vp_nar .byte z1))) 15 (upd ((va_up na 14 (upd (na 14) (pf 13).toNatClampNeg (vp_nar .byte z1))) 15) (pf 13).toNatClampNeg p1)) 16 (upd ((va_up (va_up na 14 (upd (na 14) (pf 13).toNatClampNeg (vp_nar .byte z1))) 15 (upd ((va_up na 14 (upd (na 14) (pf 13).toNatClampNeg (vp_nar .byte z1))) 15) (pf 13).toNatClampNeg p1)) 16) (pf 13).toNatClampNeg p1)) 17) (pf 13).toNatClampNeg (-1))) 21 (upd ((va_up (va_up (va_up (va_up na 14 (upd (na 14) (pf 13).toNatClampNeg (vp_nar .byte z1))) 15 (upd ((va_up na 14 (upd (na 14) (pf 13).toNatClampNeg (vp_nar .byte z1))) 15) (pf 13).toNatClampNeg p1)) 16 (upd ((va_up (va_up na 14 (upd (na 14) (pf 13).toNatClampNeg (vp_nar .byte z1))) 15 (upd ((va_up na 14 (upd (na 14) (pf 13).toNatClampNeg (vp_nar .byte z1))) 15) (pf 13).toNatClampNeg p1)) 16) (pf 13).toNatClampNeg p1)) 17 (upd ((va_up (va_up (va_up na 14 (upd (na 14) (pf 13).toNatClampNeg (vp_nar .byte z1))) 15 (upd ((va_up na 14 (upd (na 14) (pf 13).toNatClampNeg (vp_nar .byte z1))) 15) (pf 13).toNatClampNeg p1)) 16 (upd ((va_up (va_up na 14 (upd (na 14) (pf 13).toNatClampNeg (vp_nar .byte z1))) 15 (upd ((va_up na 14 (upd (na 14) (pf 13).toNatClampNeg (vp_nar .byte z1))) 15) (pf 13).toNatClampNeg p1)) 16) (pf 13).toNatClampNeg p1)) 17) (pf 13).toNatClampNeg (-1))) 21) (pf 13).toNatClampNeg (-1))) 23 (upd ((va_up (va_up (va_up (va_up (va_up na 14 (upd (na 14) (pf 13).toNatClampNeg (vp_nar .byte z1))) 15 (upd ((va_up na 14 (upd (na 14) (pf 13).toNatClampNeg (vp_nar .byte z1))) 15) (pf 13).toNatClampNeg p1)) 16 (upd ((va_up (va_up na 14 (upd (na 14) (pf 13).toNatClampNeg (vp_nar .byte z1))) 15 (upd ((va_up na 14 (upd (na 14) (pf 13).toNatClampNeg (vp_nar .byte z1))) 15) (pf 13).toNatClampNeg p1)) 16) (pf 13).toNatClampNeg p1)) 17 (upd ((va_up (va_up (va_up na 14 (upd (na 14) (pf 13).toNatClampNeg (vp_nar .byte z1))) 15 (upd ((va_up na 14 (upd (na 14) (pf 13).toNatClampNeg (vp_nar .byte z1))) 15) (pf 13).toNatClampNeg p1)) 16 (upd ((va_up (va_up na 14 (upd (na 14) (pf 13).toNatClampNeg (vp_nar .byte z1))) 15 (upd ((va_up na 14 (upd (na 14) (pf 13).toNatClampNeg (vp_nar .byte z1))) 15) (pf 13).toNatClampNeg p1)) 16) (pf 13).toNatClampNeg p1)) 17) (pf 13).toNatClampNeg (-1))) 21 (upd ((va_up (va_up (va_up (va_up na 14 (upd (na 14) (pf 13).toNatClampNeg (vp_nar .byte z1))) 15 (upd ((va_up na 14 (upd (na 14) (pf 13).toNatClampNeg (vp_nar .byte z1))) 15) (pf 13).toNatClampNeg p1)) 16 (upd ((va_up (va_up na 14 (upd (na 14) (pf 13).toNatClampNeg (vp_nar .byte z1))) 15 (upd ((va_up na 14 (upd (na 14) (pf 13).toNatClampNeg (vp_nar .byte z1))) 15) (pf 13).toNatClampNeg p1)) 16) (pf 13).toNatClampNeg p1)) 17 (upd ((va_up (va_up (va_up na 14 (upd (na 14) (pf 13).toNatClampNeg (vp_nar .byte z1))) 15 (upd ((va_up na 14 (upd (na 14) (pf 13).toNatClampNeg (vp_nar .byte z1))) 15) (pf 13).toNatClampNeg p1)) 16 (upd ((va_up (va_up na 14 (upd (na 14) (pf 13).toNatClampNeg (vp_nar .byte z1))) 15 (upd ((va_up na 14 (upd (na 14) (pf 13).toNatClampNeg (vp_nar .byte z1))) 15) (pf 13).toNatClampNeg p1)) 16) (pf 13).toNatClampNeg p1)) 17) (pf 13).toNatClampNeg (-1))) 21) (pf 13).toNatClampNeg (-1))) 23) (pf 13).toNatClampNeg 1)), (va_up (va_up (va_up (va_up ma 18 (upd (ma 18) (pf 13).toNatClampNeg (-1))) 19 (upd ((va_up ma 18 (upd (ma 18) (pf 13).toNatClampNeg (-1))) 19) (pf 13).toNatClampNeg (-1))) 20 (upd ((va_up (va_up ma 18 (upd (ma 18) (pf 13).toNatClampNeg (-1))) 19 (upd ((va_up ma 18 (upd (ma 18) (pf 13).toNatClampNeg (-1))) 19) (pf 13).toNatClampNeg (-1))) 20) (pf 13).toNatClampNeg (-1))) 22 (upd ((va_up (va_up (va_up ma 18 (upd (ma 18) (pf 13).toNatClampNeg (-1))) 19 (upd ((va_up ma 18 (upd (ma 18) (pf 13).toNatClampNeg (-1))) 19) (pf 13).toNatClampNeg (-1))) 20 (upd ((va_up (va_up ma 18 (upd (ma 18) (pf 13).toNatClampNeg (-1))) 19 (upd ((va_up ma 18 (upd (ma 18) (pf 13).toNatClampNeg (-1))) 19) (pf 13).toNatClampNeg (-1))) 20) (pf 13).toNatClampNeg (-1))) 22) (pf 13).toNatClampNeg (-1))), rfl, (show z4.toInt = (pf 13).toInt from by first | exact oz_9a9b2fbcd1 tz3 tz4 | omega), (show z3.toInt = (pf 13).toInt + 1 from by first | exact oz_037caa6b79 tz3 | omega), (show (pf 11).toInt = (pf 11).toInt from rfl), (show (pf 12).toInt = (pf 12).toInt from rfl), (show (pf 24).toInt = (pf 24).toInt from rfl), (show (pf 25).toInt = (pf 25).toInt from rfl), (show (pf 26).toInt = (pf 26).toInt from rfl), (show MkN na ma (va_up (va_up (va_up (va_up (va_up (va_up na 14 (upd (na 14) (pf 13).toNatClampNeg (vp_nar .byte z1))) 15 (upd ((va_up na 14 (upd (na 14) (pf 13).toNatClampNeg (vp_nar .byte z1))) 15) (pf 13).toNatClampNeg p1)) 16 (upd ((va_up (va_up na 14 (upd (na 14) (pf 13).toNatClampNeg (vp_nar .byte z1))) 15 (upd ((va_up na 14 (upd (na 14) (pf 13).toNatClampNeg (vp_nar .byte z1))) 15) (pf 13).toNatClampNeg p1)) 16) (pf 13).toNatClampNeg p1)) 17 (upd ((va_up (va_up (va_up na 14 (upd (na 14) (pf 13).toNatClampNeg (vp_nar .byte z1))) 15 (upd ((va_up na 14 (upd (na 14) (pf 13).toNatClampNeg (vp_nar .byte z1))) 15) (pf 13).toNatClampNeg p1)) 16 (upd ((va_up (va_up na 14 (upd (na 14) (pf 13).toNatClampNeg (vp_nar .byte z1))) 15 (upd ((va_up na 14 (upd (na 14) (pf 13).toNatClampNeg (vp_nar .byte z1))) 15) (pf 13).toNatClampNeg p1)) 16) (pf 13).toNatClampNeg p1)) 17) (pf 13).toNatClampNeg (-1))) 21 (upd ((va_up (va_up (va_up (va_up na 14 (upd (na 14) (pf 13).toNatClampNeg (vp_nar .byte z1))) 15 (upd ((va_up na 14 (upd (na 14) (pf 13).toNatClampNeg (vp_nar .byte z1))) 15) (pf 13).toNatClampNeg p1)) 16 (upd ((va_up (va_up na 14 (upd (na 14) (pf 13).toNatClampNeg (vp_nar .byte z1))) 15 (upd ((va_up na 14 (upd (na 14) (pf 13).toNatClampNeg (vp_nar .byte z1))) 15) (pf 13).toNatClampNeg p1)) 16) (pf 13).toNatClampNeg p1)) 17 (upd ((va_up (va_up (va_up na 14 (upd (na 14) (pf 13).toNatClampNeg (vp_nar .byte z1))) 15 (upd ((va_up na 14 (upd (na 14) (pf 13).toNatClampNeg (vp_nar .byte z1))) 15) (pf 13).toNatClampNeg p1)) 16 (upd ((va_up (va_up na 14 (upd (na 14) (pf 13).toNatClampNeg (vp_nar .byte z1))) 15 (upd ((va_up na 14 (upd (na 14) (pf 13).toNatClampNeg (vp_nar .byte z1))) 15) (pf 13).toNatClampNeg p1)) 16) (pf 13).toNatClampNeg p1)) 17) (pf 13).toNatClampNeg (-1))) 21) (pf 13).toNatClampNeg (-1))) 23 (upd ((va_up (va_up (va_up (va_up (va_up na 14 (upd (na 14) (pf 13).toNatClampNeg (vp_nar .byte z1))) 15 (upd ((va_up na 14 (upd (na 14) (pf 13).toNatClampNeg (vp_nar .byte z1))) 15) (pf 13).toNatClampNeg p1)) 16 (upd ((va_up (va_up na 14 (upd (na 14) (pf 13).toNatClampNeg (vp_nar .byte z1))) 15 (upd ((va_up na 14 (upd (na 14) (pf 13).toNatClampNeg (vp_nar .byte z1))) 15) (pf 13).toNatClampNeg p1)) 16) (pf 13).toNatClampNeg p1)) 17 (upd ((va_up (va_up (va_up na 14 (upd (na 14) (pf 13).toNatClampNeg (vp_nar .byte z1))) 15 (upd ((va_up na 14 (upd (na 14) (pf 13).toNatClampNeg (vp_nar .byte z1))) 15) (pf 13).toNatClampNeg p1)) 16 (upd ((va_up (va_up na 14 (upd (na 14) (pf 13).toNatClampNeg (vp_nar .byte z1))) 15 (upd ((va_up na 14 (upd (na 14) (pf 13).toNatClampNeg (vp_nar .byte z1))) 15) (pf 13).toNatClampNeg p1)) 16) (pf 13).toNatClampNeg p1)) 17) (pf 13).toNatClampNeg (-1))) 21 (upd ((va_up (va_up (va_up (va_up na 14 (upd (na 14) (pf 13).toNatClampNeg (vp_nar .byte z1))) 15 (upd ((va_up na 14 (upd (na 14) (pf 13).toNatClampNeg (vp_nar .byte z1))) 15) (pf 13).toNatClampNeg p1)) 16 (upd ((va_up (va_up na 14 (upd (na 14) (pf 13).toNatClampNeg (vp_nar .byte z1))) 15 (upd ((va_up na 14 (upd (na 14) (pf 13).toNatClampNeg (vp_nar .byte z1))) 15) (pf 13).toNatClampNeg p1)) 16) (pf 13).toNatClampNeg p1)) 17 (upd ((va_up (va_up (va_up na 14 (upd (na 14) (pf 13).toNatClampNeg (vp_nar .byte z1))) 15 (upd ((va_up na 14 (upd (na 14) (pf 13).toNatClampNeg (vp_nar .byte z1))) 15) (pf 13).toNatClampNeg p1)) 16 (upd ((va_up (va_up na 14 (upd (na 14) (pf 13).toNatClampNeg (vp_nar .byte z1))) 15 (upd ((va_up na 14 (upd (na 14) (pf 13).toNatClampNeg (vp_nar .byte z1))) 15) (pf 13).toNatClampNeg p1)) 16) (pf 13).toNatClampNeg p1)) 17) (pf 13).toNatClampNeg (-1))) 21) (pf 13).toNatClampNeg (-1))) 23) (pf 13).toNatClampNeg 1)) (va_up (va_up (va_up (va_up ma 18 (upd (ma 18) (pf 13).toNatClampNeg (-1))) 19 (upd ((va_up ma 18 (upd (ma 18) (pf 13).toNatClampNeg (-1))) 19) (pf 13).toNatClampNeg (-1))) 20 (upd ((va_up (va_up ma 18 (upd (ma 18) (pf 13).toNatClampNeg (-1))) 19 (upd ((va_up ma 18 (upd (ma 18) (pf 13).toNatClampNeg (-1))) 19) (pf 13).toNatClampNeg (-1))) 20) (pf 13).toNatClampNeg (-1))) 22 (upd ((va_up (va_up (va_up ma 18 (upd (ma 18) (pf 13).toNatClampNeg (-1))) 19 (upd ((va_up ma 18 (upd (ma 18) (pf 13).toNatClampNeg (-1))) 19) (pf 13).toNatClampNeg (-1))) 20 (upd ((va_up (va_up ma 18 (upd (ma 18) (pf 13).toNatClampNeg (-1))) 19 (upd ((va_up ma 18 (upd (ma 18) (pf 13).toNatClampNeg (-1))) 19) (pf 13).toNatClampNeg (-1))) 20) (pf 13).toNatClampNeg (-1))) 22) (pf 13).toNatClampNeg (-1))) z4 p0 p1 from (by rw [show z4 = (pf 13) from i_eq.mpr (by omega)]; exact mkn_mk (by assumption) rfl rfl rfl rfl rfl rfl rfl rfl rfl rfl)), (show R_mp_make p0 p1 pf na ma (upd pf 13 z3) (va_up (va_up (va_up (va_up (va_up (va_up na 14 (upd (na 14) (pf 13).toNatClampNeg (vp_nar .byte z1))) 15 (upd ((va_up na 14 (upd (na 14) (pf 13).toNatClampNeg (vp_nar .byte z1))) 15) (pf 13).toNatClampNeg p1)) 16 (upd ((va_up (va_up na 14 (upd (na 14) (pf 13).toNatClampNeg (vp_nar .byte z1))) 15 (upd ((va_up na 14 (upd (na 14) (pf 13).toNatClampNeg (vp_nar .byte z1))) 15) (pf 13).toNatClampNeg p1)) 16) (pf 13).toNatClampNeg p1)) 17 (upd ((va_up (va_up (va_up na 14 (upd (na 14) (pf 13).toNatClampNeg (vp_nar .byte z1))) 15 (upd ((va_up na 14 (upd (na 14) (pf 13).toNatClampNeg (vp_nar .byte z1))) 15) (pf 13).toNatClampNeg p1)) 16 (upd ((va_up (va_up na 14 (upd (na 14) (pf 13).toNatClampNeg (vp_nar .byte z1))) 15 (upd ((va_up na 14 (upd (na 14) (pf 13).toNatClampNeg (vp_nar .byte z1))) 15) (pf 13).toNatClampNeg p1)) 16) (pf 13).toNatClampNeg p1)) 17) (pf 13).toNatClampNeg (-1))) 21 (upd ((va_up (va_up (va_up (va_up na 14 (upd (na 14) (pf 13).toNatClampNeg (vp_nar .byte z1))) 15 (upd ((va_up na 14 (upd (na 14) (pf 13).toNatClampNeg (vp_nar .byte z1))) 15) (pf 13).toNatClampNeg p1)) 16 (upd ((va_up (va_up na 14 (upd (na 14) (pf 13).toNatClampNeg (vp_nar .byte z1))) 15 (upd ((va_up na 14 (upd (na 14) (pf 13).toNatClampNeg (vp_nar .byte z1))) 15) (pf 13).toNatClampNeg p1)) 16) (pf 13).toNatClampNeg p1)) 17 (upd ((va_up (va_up (va_up na 14 (upd (na 14) (pf 13).toNatClampNeg (vp_nar .byte z1))) 15 (upd ((va_up na 14 (upd (na 14) (pf 13).toNatClampNeg (vp_nar .byte z1))) 15) (pf 13).toNatClampNeg p1)) 16 (upd ((va_up (va_up na 14 (upd (na 14) (pf 13).toNatClampNeg (vp_nar .byte z1))) 15 (upd ((va_up na 14 (upd (na 14) (pf 13).toNatClampNeg (vp_nar .byte z1))) 15) (pf 13).toNatClampNeg p1)) 16) (pf 13).toNatClampNeg p1)) 17) (pf 13).toNatClampNeg (-1))) 21) (pf 13).toNatClampNeg (-1))) 23 (upd ((va_up (va_up (va_up (va_up (va_up na 14 (upd (na 14) (pf 13).toNatClampNeg (vp_nar .byte z1))) 15 (upd ((va_up na 14 (upd (na 14) (pf 13).toNatClampNeg (vp_nar .byte z1))) 15) (pf 13).toNatClampNeg p1)) 16 (upd ((va_up (va_up na 14 (upd (na 14) (pf 13).toNatClampNeg (vp_nar .byte z1))) 15 (upd ((va_up na 14 (upd (na 14) (pf 13).toNatClampNeg (vp_nar .byte z1))) 15) (pf 13).toNatClampNeg p1)) 16) (pf 13).toNatClampNeg p1)) 17 (upd ((va_up (va_up (va_up na 14 (upd (na 14) (pf 13).toNatClampNeg (vp_nar .byte z1))) 15 (upd ((va_up na 14 (upd (na 14) (pf 13).toNatClampNeg (vp_nar .byte z1))) 15) (pf 13).toNatClampNeg p1)) 16 (upd ((va_up (va_up na 14 (upd (na 14) (pf 13).toNatClampNeg (vp_nar .byte z1))) 15 (upd ((va_up na 14 (upd (na 14) (pf 13).toNatClampNeg (vp_nar .byte z1))) 15) (pf 13).toNatClampNeg p1)) 16) (pf 13).toNatClampNeg p1)) 17) (pf 13).toNatClampNeg (-1))) 21 (upd ((va_up (va_up (va_up (va_up na 14 (upd (na 14) (pf 13).toNatClampNeg (vp_nar .byte z1))) 15 (upd ((va_up na 14 (upd (na 14) (pf 13).toNatClampNeg (vp_nar .byte z1))) 15) (pf 13).toNatClampNeg p1)) 16 (upd ((va_up (va_up na 14 (upd (na 14) (pf 13).toNatClampNeg (vp_nar .byte z1))) 15 (upd ((va_up na 14 (upd (na 14) (pf 13).toNatClampNeg (vp_nar .byte z1))) 15) (pf 13).toNatClampNeg p1)) 16) (pf 13).toNatClampNeg p1)) 17 (upd ((va_up (va_up (va_up na 14 (upd (na 14) (pf 13).toNatClampNeg (vp_nar .byte z1))) 15 (upd ((va_up na 14 (upd (na 14) (pf 13).toNatClampNeg (vp_nar .byte z1))) 15) (pf 13).toNatClampNeg p1)) 16 (upd ((va_up (va_up na 14 (upd (na 14) (pf 13).toNatClampNeg (vp_nar .byte z1))) 15 (upd ((va_up na 14 (upd (na 14) (pf 13).toNatClampNeg (vp_nar .byte z1))) 15) (pf 13).toNatClampNeg p1)) 16) (pf 13).toNatClampNeg p1)) 17) (pf 13).toNatClampNeg (-1))) 21) (pf 13).toNatClampNeg (-1))) 23) (pf 13).toNatClampNeg 1)) (va_up (va_up (va_up (va_up ma 18 (upd (ma 18) (pf 13).toNatClampNeg (-1))) 19 (upd ((va_up ma 18 (upd (ma 18) (pf 13).toNatClampNeg (-1))) 19) (pf 13).toNatClampNeg (-1))) 20 (upd ((va_up (va_up ma 18 (upd (ma 18) (pf 13).toNatClampNeg (-1))) 19 (upd ((va_up ma 18 (upd (ma 18) (pf 13).toNatClampNeg (-1))) 19) (pf 13).toNatClampNeg (-1))) 20) (pf 13).toNatClampNeg (-1))) 22 (upd ((va_up (va_up (va_up ma 18 (upd (ma 18) (pf 13).toNatClampNeg (-1))) 19 (upd ((va_up ma 18 (upd (ma 18) (pf 13).toNatClampNeg (-1))) 19) (pf 13).toNatClampNeg (-1))) 20 (upd ((va_up (va_up ma 18 (upd (ma 18) (pf 13).toNatClampNeg (-1))) 19 (upd ((va_up ma 18 (upd (ma 18) (pf 13).toNatClampNeg (-1))) 19) (pf 13).toNatClampNeg (-1))) 20) (pf 13).toNatClampNeg (-1))) 22) (pf 13).toNatClampNeg (-1))) z4 from (Or.inl ⟨z1, ez1, z3, ez3, z4, ez4, rfl, rfl, rfl, rfl⟩))⟩) d_Mpg_make_117)
