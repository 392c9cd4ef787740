theorem oz_9e1cac89a1 {a0 a1 : Int} (h0 : a0 = a1 - 1) (h1 : a1 = 1) : 0 ≤ a0 := by omega
theorem oz_ffa217bdb1 {a0 a1 : Int} (h0 : a0 = a1 - 1) (h1 : a1 = 1) : a0 ≤ 60 := by omega
theorem oz_14b0e85847 {a0 a1 a2 a3 a4 a5 : Int} (h0 : a1 = a2 + 1) (h1 : a0 = a3) (h2 : a3 - a4 ≤ a2 - a5 + 1) (h3 : a4 ≤ a5 + 10) : a0 ≤ a1 + 10 := by omega
theorem oz_3113d0d9e9 {a0 a1 a2 a3 : Int} (h0 : a1 = a2 - 1) (h1 : a0 = a3) (h2 : a2 = 1) (h3 : a3 = 0) : a0 ≤ a1 := by omega
theorem oz_7f0f00c401 {a0 a1 a2 a3 a4 a5 a6 a7 a8 a9 : Int} (h0 : a0 = a1) (h1 : a1 = a2) (h2 : a2 = a3) (h3 : a3 < a4) (h4 : a4 ≤ a5 + 10) (h5 : a5 + 1 ≤ a6) (h6 : a7 = a6 + 1) (h7 : a8 ≤ 2049) (h8 : a7 + 1 ≤ a9) (h9 : a9 < a8) : a0 < 2100 := by omega
theorem oz_c9bafdb123 {a0 a1 a2 a3 a4 a5 : Int} (h0 : a2 = a0) (h1 : a1 = a3) (h2 : a2 < a4) (h3 : a5 = a4) (h4 : a5 + 1 ≤ a3) : a0 ≤ a1 := by omega
theorem oz_5e3e014549 {a0 a1 a2 a3 a4 a5 a6 a7 a8 a9 : Int} (h0 : a4 - a1 ≤ a5 - a3 + 1) (h1 : a2 = a6) (h2 : a0 = a7) (h3 : a8 = a5 + 1) (h4 : a9 = a4) (h5 : a7 - a9 ≤ a6 - a8) : a0 - a1 ≤ a2 - a3 := by omega
theorem oz_be120e9d38 {a0 a1 a2 a3 a4 a5 : Int} (h0 : a1 = a2) (h1 : a0 = a3) (h2 : a3 < a4) (h3 : a5 + 1 ≤ a2) (h4 : a5 = a4) : a0 < a1 := by omega
theorem oz_e863b17997 {a0 a1 : Int} (h0 : a0 = a1) (h1 : a1 = 1) : a0 = 1 := by omega
theorem oz_f32e4bd1b8 {a0 a1 a2 a3 a4 a5 a6 : Int} (h0 : a4 - a1 ≤ a5 - a3 + 1) (h1 : a2 = a5 + a6) (h2 : a0 = a4) (h3 : 0 ≤ a6) : a0 - a1 ≤ a2 - a3 + 1 := by omega
theorem oz_7b1a54c642 {a0 a1 : Int} (h0 : a0 = a1) (h1 : a1 = 1) : 0 ≤ a0 := by omega
theorem oz_f207457ddd {a0 a1 : Int} (h0 : a0 = a1) (h1 : a1 = 1) : a0 ≤ 60 := by omega
theorem oz_26e45e3411 {a0 a1 a2 a3 a4 a5 a6 : Int} (h0 : a1 = a2 + a3) (h1 : a0 = a4) (h2 : a4 - a5 ≤ a2 - a6 + 1) (h3 : 0 ≤ a3) (h4 : ¬ a3 = (0 : Int)) (h5 : a5 ≤ a6 + 10) : a0 ≤ a1 + 10 := by omega
theorem oz_395d3d6c14 {a0 a1 a2 a3 : Int} (h0 : a1 = a2) (h1 : a0 = a3) (h2 : a2 = 1) (h3 : a3 = 0) : a0 ≤ a1 := by omega
theorem oz_d145a98bf1 {a0 a1 a2 : Int} (h0 : a0 = a1) (h1 : a1 = a2) (h2 : a2 = 1) : a0 = 1 := by omega
theorem oz_c39d547aca {a0 a1 a2 a3 a4 a5 a6 a7 a8 : Int} (h0 : a4 - a1 ≤ a5 - a3 + 1) (h1 : a0 - a6 ≤ a2 - a7) (h2 : a7 = a5 + a8) (h3 : a6 = a4) (h4 : 0 ≤ a8) : a0 - a1 ≤ a2 - a3 + 1 := by omega
theorem oz_73302b278b {a0 a1 a2 a3 a4 a5 : Int} (h0 : a4 = a1 + 1) (h1 : a5 = a3) (h2 : a2 = a5 + 1) (h3 : a0 = a4) : a0 - a1 ≤ a2 - a3 + 1 := by omega
theorem oz_62c24a874c {a0 a1 a2 : Int} (h0 : a0 = a1 + 1) (h1 : a1 = a2) (h2 : a2 = 0) : 0 ≤ a0 := by omega
theorem oz_cb6905aeac {a0 a1 a2 : Int} (h0 : a0 = a1) (h1 : a1 = a2) (h2 : a2 = 0) : 0 ≤ a0 := by omega
theorem oz_f1302bcb57 {a0 a1 a2 a3 a4 a5 : Int} (h0 : a1 = a2 + 1) (h1 : a0 = a3) (h2 : a2 = a4) (h3 : a3 = a5) (h4 : a4 = 0) (h5 : a5 = 0) : a0 ≤ a1 := by omega
theorem oz_c7c6af1014 {a0 a1 a2 a3 : Int} (h0 : a0 = a1) (h1 : a1 = a2 + 1) (h2 : a2 = a3) (h3 : a3 = 0) : a0 = 1 := by omega
theorem oz_3cad8d1cbb {a0 a1 a2 a3 a4 : Int} (h0 : a0 = a2) (h1 : a3 + 1 ≤ a1) (h2 : a4 = a2 + 1) (h3 : a3 = a4) : a0 < a1 := by omega
theorem oz_df00cd5788 {a0 a1 a2 a3 a4 a5 a6 a7 : Int} (h0 : a4 = a1 + 1) (h1 : a5 = a3) (h2 : a0 - a6 ≤ a2 - a7) (h3 : a7 = a5 + 1) (h4 : a6 = a4) : a0 - a1 ≤ a2 - a3 + 1 := by omega
theorem oz_37974aa2b0 {a0 a1 a2 a3 : Int} (h0 : a2 = a0) (h1 : a1 = a3 + (1 : Int)) (h2 : a3 = a2 + 1) : a0 + 1 ≤ a1 := by omega
theorem oz_cb1da57d7e {a0 a1 a2 a3 a4 a5 a6 : Int} (h0 : a4 = a1 + 1) (h1 : a5 = a3) (h2 : a0 = a4) (h3 : a2 = a6 + (1 : Int)) (h4 : a6 = a5 + 1) : a0 - a1 ≤ a2 - a3 + 1 := by omega
theorem oz_b51d39aa29 {a0 a1 a2 : Int} (h0 : a0 = a1 + (1 : Int)) (h1 : 0 ≤ a1) (h2 : a1 < a2) (h3 : a2 ≤ 2049) : 0 ≤ a0 ∧ a0 < ((2060 : Nat) : Int) := by omega
theorem oz_aca53b6681 {a0 a1 : Int} (h0 : a1 = 0) (h1 : a0 = 0) : a0 ≤ a1 := by omega
theorem oz_94e1af121e {a0 a1 a2 a3 a4 a5 : Int} (h0 : a0 = a1) (h1 : a1 < a2) (h2 : a2 ≤ a3 + 10) (h3 : a3 + 1 ≤ a4) (h4 : a4 < a5) (h5 : a5 ≤ 2049) : a0 < 2100 := by omega
theorem oz_a98a1e881c {a0 a1 a2 : Int} (h0 : a0 + 1 ≤ a2) (h1 : a1 = a2) : a0 ≤ a1 := by omega
theorem oz_7d2ce61601 {a0 a1 a2 a3 a4 a5 : Int} (h0 : a4 - a1 ≤ a5 - a3) (h1 : a2 = a5) (h2 : a0 = a4) : a0 - a1 ≤ a2 - a3 := by omega
theorem oz_6f750b233b {a0 a1 a2 : Int} (h0 : a0 = a1 + 1) (h1 : a1 = a2 + (1 : Int)) (h2 : 0 ≤ a2) : 0 ≤ a0 := by omega
theorem oz_48adc2bebd {a0 a1 a2 a3 a4 : Int} (h0 : a1 = a2 + 1) (h1 : a0 = a3) (h2 : a3 ≤ a4 + 10) (h3 : a2 = a4 + (1 : Int)) : a0 ≤ a1 + 10 := by omega
theorem oz_b850331a4a {a0 a1 : Int} (h0 : a0 = a1) (h1 : -1 ≤ a1) : -1 ≤ a0 := by omega
theorem oz_b6579fb52e {a0 a1 a2 a3 : Int} (h0 : a1 = a2) (h1 : a0 = a3) (h2 : a3 < a2) : a0 < a1 := by omega
theorem oz_9175d0c236 {a0 : Int} (h0 : a0 = (2 : Int)) : 0 ≤ a0 := by omega
theorem oz_7fea0476a4 {a0 : Int} (h0 : a0 = (2 : Int)) : a0 ≤ 2 := by omega
theorem oz_b39abd85f8 {a0 a1 a2 : Int} (h0 : a0 = a1) (h1 : a1 = a2 + (1 : Int)) (h2 : 0 ≤ a2) : 0 ≤ a0 := by omega
theorem oz_a0ac8cc8e1 {a0 a1 a2 a3 : Int} (h0 : a2 = a0 + (1 : Int)) (h1 : a3 + 1 ≤ a1) (h2 : a3 = a2 + 1) : a0 + 1 ≤ a1 := by omega
theorem oz_49930e0c7e {a0 a1 a2 : Int} (h0 : a2 = a0) (h1 : a2 ≤ a1) : a0 ≤ a1 := by omega
theorem oz_b01104479c {a0 a1 a2 a3 a4 a5 a6 : Int} (h0 : a4 = a3 + (1 : Int)) (h1 : a5 = a1) (h2 : a0 - a5 ≤ a2 - a6) (h3 : a6 = a4 + 1) : a0 - a1 ≤ a2 - a3 := by omega
theorem oz_f4999d31b0 {a0 a1 a2 : Int} (h0 : a1 ≤ a0) (h1 : 0 ≤ a1) (h2 : a0 < a2) (h3 : a2 ≤ 2049) : 0 ≤ a0 ∧ a0 < ((2060 : Nat) : Int) := by omega
theorem oz_1a40fcd478 {a0 a1 : Int} (h0 : a1 < a0) (h1 : -1 ≤ a1) : 0 ≤ a0 := by omega
theorem oz_82cfa9ed48 {a0 a1 a2 : Int} (h0 : a0 ≤ a2) (h1 : a2 + 1 ≤ a1) : a0 ≤ a1 := by omega
theorem oz_63ad71ac53 {a0 a1 : Int} (h0 : a0 + 1 ≤ a1) : a0 ≤ a1 := by omega
theorem m12_90 : Cond.methodLink "HomeSystemModel$Program" 509 ⟨"HomeSystemModel$Program", "parameter", "()I"⟩ ∈ AL := AL_12 (List.mem_of_getElem? (i := 90) rfl) rfl
theorem m12_93 : Cond.code ⟨"HomeSystemModel$Program", "parameter", "()I"⟩ prog_16_method_59_code 3 (Option.some FieldType.int) ∈ AL := AL_12 (List.mem_of_getElem? (i := 93) rfl) rfl
theorem ms_10_8 : Cond.selects "HomeSystemModel$Program" ⟨"HomeSystemModel$Program", "parameter", "()I"⟩ ⟨"HomeSystemModel$Program", "parameter", "()I"⟩ ∈ AL := AL_p (q := (⟨"HomeSystemModel$Program", "parameter", "()I"⟩, 69)) (by unfold lw_privs; exact List.mem_append_right _ (List.mem_append_right _ (List.mem_append_right _ (List.mem_append_right _ (List.mem_append_right _ (List.mem_append_right _ (List.mem_append_right _ (List.mem_append_right _ (List.mem_append_right _ (List.mem_append_left _ (List.mem_of_getElem? (i := 8) rfl)))))))))))
theorem m12_92 : Cond.instanceMethod ⟨"HomeSystemModel$Program", "parameter", "()I"⟩ ∈ AL := AL_12 (List.mem_of_getElem? (i := 92) rfl) rfl
theorem m12_86 : Cond.methodLink "HomeSystemModel$Program" 515 ⟨"HomeSystemModel$Program", "functionText", "(II)V"⟩ ∈ AL := AL_12 (List.mem_of_getElem? (i := 86) rfl) rfl
theorem m12_89 : Cond.code ⟨"HomeSystemModel$Program", "functionText", "(II)V"⟩ prog_16_method_60_code 6 (Option.none : Option Jvm.ClassFile.FieldType) ∈ AL := AL_12 (List.mem_of_getElem? (i := 89) rfl) rfl
theorem ms_10_7 : Cond.selects "HomeSystemModel$Program" ⟨"HomeSystemModel$Program", "functionText", "(II)V"⟩ ⟨"HomeSystemModel$Program", "functionText", "(II)V"⟩ ∈ AL := AL_p (q := (⟨"HomeSystemModel$Program", "functionText", "(II)V"⟩, 69)) (by unfold lw_privs; exact List.mem_append_right _ (List.mem_append_right _ (List.mem_append_right _ (List.mem_append_right _ (List.mem_append_right _ (List.mem_append_right _ (List.mem_append_right _ (List.mem_append_right _ (List.mem_append_right _ (List.mem_append_left _ (List.mem_of_getElem? (i := 7) rfl)))))))))))
theorem m12_88 : Cond.instanceMethod ⟨"HomeSystemModel$Program", "functionText", "(II)V"⟩ ∈ AL := AL_12 (List.mem_of_getElem? (i := 88) rfl) rfl
theorem m11_202 : Cond.methodLink "HomeSystemModel$Program" 512 ⟨"HomeSystemModel$Program", "enumeration", "()V"⟩ ∈ AL := AL_11 (List.mem_of_getElem? (i := 202) rfl) rfl
theorem m11_205 : Cond.code ⟨"HomeSystemModel$Program", "enumeration", "()V"⟩ prog_16_method_58_code 5 (Option.none : Option Jvm.ClassFile.FieldType) ∈ AL := AL_11 (List.mem_of_getElem? (i := 205) rfl) rfl
theorem ms_8_11 : Cond.selects "HomeSystemModel$Program" ⟨"HomeSystemModel$Program", "enumeration", "()V"⟩ ⟨"HomeSystemModel$Program", "enumeration", "()V"⟩ ∈ AL := AL_p (q := (⟨"HomeSystemModel$Program", "enumeration", "()V"⟩, 69)) (by unfold lw_privs; exact List.mem_append_right _ (List.mem_append_right _ (List.mem_append_right _ (List.mem_append_right _ (List.mem_append_right _ (List.mem_append_right _ (List.mem_append_right _ (List.mem_append_left _ (List.mem_of_getElem? (i := 11) rfl)))))))))
theorem m11_204 : Cond.instanceMethod ⟨"HomeSystemModel$Program", "enumeration", "()V"⟩ ∈ AL := AL_11 (List.mem_of_getElem? (i := 204) rfl) rfl
theorem m11_194 : Cond.methodLink "HomeSystemModel$Program" 519 ⟨"HomeSystemModel$Program", "piece", "()V"⟩ ∈ AL := AL_11 (List.mem_of_getElem? (i := 194) rfl) rfl
theorem m11_197 : Cond.code ⟨"HomeSystemModel$Program", "piece", "()V"⟩ prog_16_method_61_code 4 (Option.none : Option Jvm.ClassFile.FieldType) ∈ AL := AL_11 (List.mem_of_getElem? (i := 197) rfl) rfl
theorem ms_8_9 : Cond.selects "HomeSystemModel$Program" ⟨"HomeSystemModel$Program", "piece", "()V"⟩ ⟨"HomeSystemModel$Program", "piece", "()V"⟩ ∈ AL := AL_p (q := (⟨"HomeSystemModel$Program", "piece", "()V"⟩, 69)) (by unfold lw_privs; exact List.mem_append_right _ (List.mem_append_right _ (List.mem_append_right _ (List.mem_append_right _ (List.mem_append_right _ (List.mem_append_right _ (List.mem_append_right _ (List.mem_append_left _ (List.mem_of_getElem? (i := 9) rfl)))))))))
theorem m11_196 : Cond.instanceMethod ⟨"HomeSystemModel$Program", "piece", "()V"⟩ ∈ AL := AL_11 (List.mem_of_getElem? (i := 196) rfl) rfl
abbrev b_Mpg_functionText : ByteArray := prog_16_method_60_code
def y_Mpg_functionText : MethodName := ⟨"HomeSystemModel$Program", "functionText", "(II)V"⟩
theorem d_Mpg_functionText_0 : decode b_Mpg_functionText 0 = .ok (.aload_n 0, 1) := by decide +kernel
theorem d_Mpg_functionText_1 : decode b_Mpg_functionText 1 = .ok (.bipush 41, 2) := by decide +kernel
theorem d_Mpg_functionText_3 : decode b_Mpg_functionText 3 = .ok (.iload_n 2, 1) := by decide +kernel
theorem d_Mpg_functionText_4 : decode b_Mpg_functionText 4 = .ok (.invokevirtual 406, 3) := by decide +kernel
theorem d_Mpg_functionText_7 : decode b_Mpg_functionText 7 = .ok (.istore_n 3, 1) := by decide +kernel
theorem d_Mpg_functionText_8 : decode b_Mpg_functionText 8 = .ok (.aload_n 0, 1) := by decide +kernel
theorem d_Mpg_functionText_9 : decode b_Mpg_functionText 9 = .ok (.getfield 231, 3) := by decide +kernel
theorem d_Mpg_functionText_12 : decode b_Mpg_functionText 12 = .ok (.iload_n 3, 1) := by decide +kernel
theorem d_Mpg_functionText_13 : decode b_Mpg_functionText 13 = .ok (.iload_n 1, 1) := by decide +kernel
theorem d_Mpg_functionText_14 : decode b_Mpg_functionText 14 = .ok (.iastore, 1) := by decide +kernel
theorem d_Mpg_functionText_15 : decode b_Mpg_functionText 15 = .ok (.aload_n 0, 1) := by decide +kernel
theorem d_Mpg_functionText_16 : decode b_Mpg_functionText 16 = .ok (.ldc 87, 2) := by decide +kernel
theorem d_Mpg_functionText_18 : decode b_Mpg_functionText 18 = .ok (.invokevirtual 457, 3) := by decide +kernel
theorem d_Mpg_functionText_21 : decode b_Mpg_functionText 21 = .ok (.aload_n 0, 1) := by decide +kernel
theorem d_Mpg_functionText_22 : decode b_Mpg_functionText 22 = .ok (.iconst 2, 1) := by decide +kernel
theorem d_Mpg_functionText_23 : decode b_Mpg_functionText 23 = .ok (.invokevirtual 377, 3) := by decide +kernel
theorem d_Mpg_functionText_26 : decode b_Mpg_functionText 26 = .ok (.ifCond .eq 16, 3) := by decide +kernel
theorem d_Mpg_functionText_29 : decode b_Mpg_functionText 29 = .ok (.aload_n 0, 1) := by decide +kernel
theorem d_Mpg_functionText_30 : decode b_Mpg_functionText 30 = .ok (.dup, 1) := by decide +kernel
theorem d_Mpg_functionText_31 : decode b_Mpg_functionText 31 = .ok (.getfield 360, 3) := by decide +kernel
theorem d_Mpg_functionText_34 : decode b_Mpg_functionText 34 = .ok (.iconst 1, 1) := by decide +kernel
theorem d_Mpg_functionText_35 : decode b_Mpg_functionText 35 = .ok (.iadd, 1) := by decide +kernel
theorem d_Mpg_functionText_36 : decode b_Mpg_functionText 36 = .ok (.putfield 360, 3) := by decide +kernel
theorem d_Mpg_functionText_39 : decode b_Mpg_functionText 39 = .ok (.goto 57, 3) := by decide +kernel
theorem d_Mpg_functionText_42 : decode b_Mpg_functionText 42 = .ok (.aload_n 0, 1) := by decide +kernel
theorem d_Mpg_functionText_43 : decode b_Mpg_functionText 43 = .ok (.ldc 89, 2) := by decide +kernel
theorem d_Mpg_functionText_45 : decode b_Mpg_functionText 45 = .ok (.invokevirtual 366, 3) := by decide +kernel
theorem d_Mpg_functionText_48 : decode b_Mpg_functionText 48 = .ok (.ifCond .ne 48, 3) := by decide +kernel
theorem d_Mpg_functionText_51 : decode b_Mpg_functionText 51 = .ok (.aload_n 0, 1) := by decide +kernel
theorem d_Mpg_functionText_52 : decode b_Mpg_functionText 52 = .ok (.invokevirtual 509, 3) := by decide +kernel
theorem d_Mpg_functionText_55 : decode b_Mpg_functionText 55 = .ok (.istore 4, 2) := by decide +kernel
theorem d_Mpg_functionText_57 : decode b_Mpg_functionText 57 = .ok (.aload_n 0, 1) := by decide +kernel
theorem d_Mpg_functionText_58 : decode b_Mpg_functionText 58 = .ok (.getfield 216, 3) := by decide +kernel
theorem d_Mpg_functionText_61 : decode b_Mpg_functionText 61 = .ok (.iload_n 3, 1) := by decide +kernel
theorem d_Mpg_functionText_62 : decode b_Mpg_functionText 62 = .ok (.iload 4, 2) := by decide +kernel
theorem d_Mpg_functionText_64 : decode b_Mpg_functionText 64 = .ok (.iastore, 1) := by decide +kernel
theorem d_Mpg_functionText_65 : decode b_Mpg_functionText 65 = .ok (.aload_n 0, 1) := by decide +kernel
theorem d_Mpg_functionText_66 : decode b_Mpg_functionText 66 = .ok (.ldc 99, 2) := by decide +kernel
theorem d_Mpg_functionText_68 : decode b_Mpg_functionText 68 = .ok (.invokevirtual 370, 3) := by decide +kernel
theorem d_Mpg_functionText_71 : decode b_Mpg_functionText 71 = .ok (.ifCond .eq 25, 3) := by decide +kernel
theorem d_Mpg_functionText_74 : decode b_Mpg_functionText 74 = .ok (.aload_n 0, 1) := by decide +kernel
theorem d_Mpg_functionText_75 : decode b_Mpg_functionText 75 = .ok (.invokevirtual 509, 3) := by decide +kernel
theorem d_Mpg_functionText_78 : decode b_Mpg_functionText 78 = .ok (.istore 5, 2) := by decide +kernel
theorem d_Mpg_functionText_80 : decode b_Mpg_functionText 80 = .ok (.aload_n 0, 1) := by decide +kernel
theorem d_Mpg_functionText_81 : decode b_Mpg_functionText 81 = .ok (.getfield 228, 3) := by decide +kernel
theorem d_Mpg_functionText_84 : decode b_Mpg_functionText 84 = .ok (.iload 4, 2) := by decide +kernel
theorem d_Mpg_functionText_86 : decode b_Mpg_functionText 86 = .ok (.iload 5, 2) := by decide +kernel
theorem d_Mpg_functionText_88 : decode b_Mpg_functionText 88 = .ok (.iastore, 1) := by decide +kernel
theorem d_Mpg_functionText_89 : decode b_Mpg_functionText 89 = .ok (.iload 5, 2) := by decide +kernel
theorem d_Mpg_functionText_91 : decode b_Mpg_functionText 91 = .ok (.istore 4, 2) := by decide +kernel
theorem d_Mpg_functionText_93 : decode b_Mpg_functionText 93 = .ok (.goto (-28), 3) := by decide +kernel
theorem d_Mpg_functionText_96 : decode b_Mpg_functionText 96 = .ok (.aload_n 0, 1) := by decide +kernel
theorem d_Mpg_functionText_97 : decode b_Mpg_functionText 97 = .ok (.ldc 89, 2) := by decide +kernel
theorem d_Mpg_functionText_99 : decode b_Mpg_functionText 99 = .ok (.invokevirtual 439, 3) := by decide +kernel
theorem d_Mpg_functionText_102 : decode b_Mpg_functionText 102 = .ok (.aload_n 0, 1) := by decide +kernel
theorem d_Mpg_functionText_103 : decode b_Mpg_functionText 103 = .ok (.getfield 219, 3) := by decide +kernel
theorem d_Mpg_functionText_106 : decode b_Mpg_functionText 106 = .ok (.iload_n 3, 1) := by decide +kernel
theorem d_Mpg_functionText_107 : decode b_Mpg_functionText 107 = .ok (.aload_n 0, 1) := by decide +kernel
theorem d_Mpg_functionText_108 : decode b_Mpg_functionText 108 = .ok (.invokevirtual 470, 3) := by decide +kernel
theorem d_Mpg_functionText_111 : decode b_Mpg_functionText 111 = .ok (.iastore, 1) := by decide +kernel
theorem d_Mpg_functionText_112 : decode b_Mpg_functionText 112 = .ok (.aload_n 0, 1) := by decide +kernel
theorem d_Mpg_functionText_113 : decode b_Mpg_functionText 113 = .ok (.iload_n 3, 1) := by decide +kernel
theorem d_Mpg_functionText_114 : decode b_Mpg_functionText 114 = .ok (.invokevirtual 506, 3) := by decide +kernel
theorem d_Mpg_functionText_117 : decode b_Mpg_functionText 117 = .ok (.return_, 1) := by decide +kernel
theorem q_Mpg_functionText : px_y y_Mpg_functionText 2 := by unfold px_y; decide +kernel
set_option maxHeartbeats 4000000 in
set_option maxRecDepth 100000 in
theorem c_mp_functionText (l : Launch) (D : va_G) (cs : Nat → ClassId) (h : Nat) (r : Nat → Nat) (g : Nat → Nat → Option Nat) (tf : Nat → Int32) (ta : Nat → Nat → Int32) (cf : Nat → Int32) (ca : Nat → Nat → Int32) (ef : Nat → Int32) (ea : Nat → Nat → Int32) (xf : Nat → Int32) (xa : Nat → Nat → Int32) (pf : Nat → Int32) (na : Nat → Nat → Int32) (ma : Nat → Nat → Int32) (wa : Nat → Nat → Int32) (p0 p1 : Int32)  (g0 : 0 ≤ (pf 11).toInt) (g1 : (pf 11).toInt < (tf 6).toInt) (g2 : (tf 6).toInt ≤ 2049) (g3 : (pf 12).toInt = 0) (g4 : 0 ≤ (pf 13).toInt) (g5 : (pf 13).toInt ≤ (pf 11).toInt + 10) (g6 : (pf 26).toInt = 0) (g7 : -1 ≤ (pf 25).toInt) (g8 : (pf 25).toInt < (pf 13).toInt) (g9 : 0 ≤ p0.toInt) (g10 : p0.toInt ≤ 2) (g11 : 0 ≤ p1.toInt) (g12 : p1.toInt < (tf 6).toInt) (g13 : 4 ≤ bp ta (pf 11)) (hlf : l.flags = pinnedFlags ++ [noTraceFlag]) (htk : TkI tf ta) (hfs : FsI (tf 6).toInt (pf 13).toInt na) (hso1 : SoIs ta p1 1) (hzg : RzG ta (tf 6).toInt na ma (pf 24) (pf 25) 0 (pf 13).toInt (3 * bp ta (pf 11) - 12) 200) : ThV l y_Mpg_functionText b_Mpg_functionText 6 D cs (8 * 61 + 30) (220 * 61 + 1360) [.ref h, .int p0, .int p1] [wdP cs h r g tf ta pf na ma wa cf ca ef ea xf xa] (oX (fun A U H => (oN A U H) ∧ (oP A g U H)) [wdP cs h r g tf ta pf na ma wa cf ca ef ea xf xa]) "java/lang/IllegalArgumentException" (fun ps => ∃ (pf' : Nat → Int32) (na' : Nat → Nat → Int32) (ma' : Nat → Nat → Int32) (wa' : Nat → Nat → Int32), (ps = [wdP cs h r g tf ta pf' na' ma' wa' cf ca ef ea xf xa]) ∧ ((pf 11).toInt + 1 ≤ (pf' 11).toInt) ∧ ((pf' 11).toInt < (tf 6).toInt) ∧ ((pf 13).toInt ≤ (pf' 13).toInt) ∧ ((pf' 13).toInt - (pf 13).toInt ≤ (pf' 11).toInt - (pf 11).toInt) ∧ (bp ta (pf 11) + 1 ≤ bp ta (pf' 11)) ∧ ((pf' 12).toInt = 0) ∧ ((pf' 26).toInt = 0) ∧ (-1 ≤ (pf' 25).toInt) ∧ ((pf' 25).toInt < (pf' 13).toInt) ∧ (RzG ta (tf 6).toInt na' ma' (pf' 24) (pf' 25) 0 (pf' 13).toInt (3 * bp ta (pf' 11)) 200) ∧ (FsI (tf 6).toInt (pf' 13).toInt na')) (fun ps => ∃ (pf' : Nat → Int32) (na' : Nat → Nat → Int32) (ma' : Nat → Nat → Int32) (wa' : Nat → Nat → Int32), ps = [wdP cs h r g tf ta pf' na' ma' wa' cf ca ef ea xf xa] ∧ 0 ≤ (pf' 11).toInt ∧ (pf' 11).toInt + 1 ≤ (tf 6).toInt) := by
  refine th_enter (by decide) (Nat.le_of_ble_eq_true rfl) ?_
  intro p e s m below meth c A ls hAe S hr hlk hnm hA hT hX hw hl hne hadm
  have hl : lv_has ls 6 [(0, .ref h), (1, .int p0), (2, .int p1)] := hl
  have lp0 := Int32.le_toInt p0
  have up0 := Int32.toInt_lt p0
  have lp1 := Int32.le_toInt p1
  have up1 := Int32.toInt_lt p1
  have cst1 : (1 : Int32).toInt = 1 := rfl
  have cst2 : (2 : Int32).toInt = 2 := rfl
  have cst41 : (41 : Int32).toInt = 41 := rfl
  have hX : (fun A U H => (oN A U H) ∧ (oP A g U H)) A s s.heap := by rw [hAe]; exact hX
  obtain ⟨hN, hP⟩ := hX
  have hZ := hP.1
  have hF0 := hP.2.1
  obtain ⟨lv, hlv⟩ : ∃ y : Nat, y = 61 := ⟨_, rfl⟩
  have hfb : FrB 0 na ma na ma := FrB.rf
  have hfw : FrW (pf 26).toInt wa wa := FrW.rf
  have hb11 := tk_b htk (x := (pf 11)) (by first | with_reducible rfl | with_reducible assumption | omega) (by first | with_reducible rfl | with_reducible assumption | omega)
  have hso1 : so ta p1 = 1 := hso1
  have J96 : ∀ (pf_96 : Nat → Int32) (na_96 : Nat → Nat → Int32) (ma_96 : Nat → Nat → Int32) (wa_96 : Nat → Nat → Int32) (x96_3 : Int32) (H : Heap) (locs : List Loc) (ls : Array Slot), ((pf_96 12).toInt = 1) → ((pf_96 26).toInt = 0) → ((pf_96 24).toInt = (pf 24).toInt) → ((pf_96 25).toInt = (pf 25).toInt) → ((pf 11).toInt + 1 ≤ (pf_96 11).toInt) → ((pf_96 11).toInt < (tf 6).toInt) → (x96_3.toInt = (pf 13).toInt) → (x96_3.toInt < (pf_96 13).toInt) → ((pf_96 13).toInt - (pf 13).toInt ≤ (pf_96 11).toInt - (pf 11).toInt + 1) → (bp ta (pf 11) + 1 ≤ bp ta (pf_96 11)) → (FrB 0 na ma na_96 ma_96) → (FrW (pf 26).toInt wa wa_96) → (NdF (tf 6).toInt na_96 x96_3 41 p1) → (FlN ma_96 22 x96_3 p0) → (RzG ta (tf 6).toInt na_96 ma_96 (pf 24) (pf 25) 0 (pf 13).toInt (3 * bp ta (pf 11) - 12) 200) → (FsI (tf 6).toInt (pf_96 13).toInt na_96) → (LfP ta (tf 6).toInt na_96 ma_96 (na_96 17) x96_3 (x96_3.toInt + 1) (pf_96 13).toInt (3 * (bp ta (pf_96 11) - bp ta (pf 11)) - 3) 200) → pw D A s.heap H locs [wdP cs h r g tf ta pf_96 na_96 ma_96 wa_96 cf ca ef ea xf xa] → lv_has ls 6 [(0, .ref h), (1, .int p0), (2, .int p1), (3, .int x96_3)] → W p l e { frames := (8 * 61 + 30), cells := 1, slots := 6, locals := (220 * 61 + 1360) } s m [.ref h, .int p0, .int p1].toArray below meth c H locs 0 0 (tx_MQ below (thQv D (va_A ([wdP cs h r g tf ta pf na ma wa cf ca ef ea xf xa] : List va_W).flatten s.heap.size) "java/lang/IllegalArgumentException" (fun ps => ∃ (pf' : Nat → Int32) (na' : Nat → Nat → Int32) (ma' : Nat → Nat → Int32) (wa' : Nat → Nat → Int32), (ps = [wdP cs h r g tf ta pf' na' ma' wa' cf ca ef ea xf xa]) ∧ ((pf 11).toInt + 1 ≤ (pf' 11).toInt) ∧ ((pf' 11).toInt < (tf 6).toInt) ∧ ((pf 13).toInt ≤ (pf' 13).toInt) ∧ ((pf' 13).toInt - (pf 13).toInt ≤ (pf' 11).toInt - (pf 11).toInt) ∧ (bp ta (pf 11) + 1 ≤ bp ta (pf' 11)) ∧ ((pf' 12).toInt = 0) ∧ ((pf' 26).toInt = 0) ∧ (-1 ≤ (pf' 25).toInt) ∧ ((pf' 25).toInt < (pf' 13).toInt) ∧ (RzG ta (tf 6).toInt na' ma' (pf' 24) (pf' 25) 0 (pf' 13).toInt (3 * bp ta (pf' 11)) 200) ∧ (FsI (tf 6).toInt (pf' 13).toInt na')) (fun ps => ∃ (pf' : Nat → Int32) (na' : Nat → Nat → Int32) (ma' : Nat → Nat → Int32) (wa' : Nat → Nat → Int32), ps = [wdP cs h r g tf ta pf' na' ma' wa' cf ca ef ea xf xa] ∧ 0 ≤ (pf' 11).toInt ∧ (pf' 11).toInt + 1 ≤ (tf 6).toInt) s.heap.size (tot s.heap)) [.ref h, .int p0, .int p1].toArray s 1 6 A) (F0 m 96 ls []) := by
    intro pf_96 na_96 ma_96 wa_96 x96_3 H locs ls k96_0 k96_1 k96_2 k96_3 k96_4 k96_5 k96_6 k96_7 k96_8 k96_9 k96_10 k96_11 k96_12 k96_13 k96_14 k96_15 k96_16 hw hl
    have lx96_3 := Int32.le_toInt x96_3
    have ux96_3 := Int32.toInt_lt x96_3
    have hfb := k96_10
    have hfw := k96_11
    have hf_14_x96_3 := k96_12.2.1
    have hf_15_x96_3 := k96_12.2.2.1
    have hf_21_x96_3 := k96_12.2.2.2.2
    have hnt_x96_3 := k96_12.2.2.2.1
    have hf_22_x96_3 : ma_96 22 x96_3.toNatClampNeg = p0 := k96_13
    have hzg := k96_14
    have hfs := k96_15
    obtain ⟨xl2, b1, hf_17_x96_3, hz_xl2⟩ := k96_16
    have hwz_xl2 := hz_xl2.wpos
    refine lv_aload_n S.x S.b d_Mpg_functionText_96 rfl (lv_at hl 0 rfl) ?_
    obtain ⟨sk3, hRsk3, st4, sb5, hSsk3⟩ := oP_lit hP (k := 89) (tx := ")") (n := 1) (List.mem_of_getElem? (i := 36) rfl)
    refine va_ldcS S.x S.b S.own hRsk3 d_Mpg_functionText_97 ?_
    refine th_callv (ps0 := [wdP cs h r g tf ta pf na ma wa cf ca ef ea xf xa]) (pr := []) (pcs := [wdP cs h r g tf ta pf_96 na_96 ma_96 wa_96 cf ca ef ea xf xa]) (As := [.ref sk3]) (rest := []) (c_mp_closes l D cs sk3 1 h r g tf ta na_96 ma_96 wa_96 cf ca ef ea xf xa pf_96   (show 0 ≤ (pf_96 11).toInt from by first | exact oz_06d7f15a5c k96_4 g0 | omega) (show (pf_96 11).toInt < (tf 6).toInt from by first | exact k96_5 | omega) (show (tf 6).toInt ≤ 2049 from by first | exact g2 | omega) (show 1 ≤ (pf_96 12).toInt from by first | exact oz_c083232f4d k96_0 | omega) (show (pf_96 12).toInt ≤ 60 from by first | exact oz_443389b263 k96_0 | omega) (show 1 ≤ 100 from by first | decide | omega) hlf htk) S hT hw (oX_call (P := (fun A U H => (oN A U H) ∧ (oP A g U H) ∧ (StS A sk3 1 U H))) (pr := []) (oG_and oG_N (oG_and oG_P oG_Q)) hw hA ⟨hN, hP, ⟨_, _, hSsk3⟩⟩) (px_recv hT hw 0 0 rfl rfl rfl) m12_53 m12_50 m12_52 ms_9_14 m1_21 q_Mpg_closes ⟨show 8 + 1 ≤ (8 * 61 + 30) from by first | with_reducible rfl | with_reducible assumption | omega, show 8 + (2 + 11) + 280 ≤ (220 * 61 + 1360) from by first | with_reducible rfl | with_reducible assumption | omega⟩ hl.1 rfl (Nat.le_of_ble_eq_true rfl) d_Mpg_functionText_99 ⟨Nat.le_of_ble_eq_true rfl, Nat.le_of_ble_eq_true rfl⟩ hne hlk hA hAe (fun o t h => Or.inr h) ?_ (fun p8 H locs hp8 hw => ?_)
    · exact fun p1 H1 locs1 hp hw => by obtain ⟨pq1, pq2, pq3, pq4, rfl, hq1, hq2⟩ := hp; exact ⟨_, ⟨pq1, pq2, pq3, pq4, rfl, hq1, hq2⟩, hw⟩
    obtain ⟨pf7, rfl, e10, e11, e12, e13, e14, e15, e16, e17⟩ := hp8
    have e10 : (pf7 11).toInt = (pf_96 11).toInt + 1 := e10
    have e11 : (pf7 11).toInt < (tf 6).toInt := e11
    have e12 : bp ta (pf_96 11) + 1 ≤ bp ta (pf7 11) := e12
    have e13 : (pf7 12).toInt = (pf_96 12).toInt - 1 := e13
    have e14 : (pf7 13).toInt = (pf_96 13).toInt := e14
    have e15 : (pf7 24).toInt = (pf_96 24).toInt := e15
    have e16 : (pf7 25).toInt = (pf_96 25).toInt := e16
    have e17 : (pf7 26).toInt = (pf_96 26).toInt := e17
    have hw : pw D A s.heap H locs [wdP cs h r g tf ta pf7 na_96 ma_96 wa_96 cf ca ef ea xf xa] := hw
    refine lv_aload_n S.x S.b d_Mpg_functionText_102 rfl (lv_at hl 0 rfl) ?_
    refine px_get S k_Mpg hT hw 0 0 18 (v := .ref (r 18)) rfl rfl rfl (by decide) m10_3 d_Mpg_functionText_103 ?_
    refine lv_iload_n S.x S.b d_Mpg_functionText_106 rfl (lv_at hl 3 rfl) ?_
    refine lv_aload_n S.x S.b d_Mpg_functionText_107 rfl (lv_at hl 0 rfl) ?_
    refine th_calli (ps0 := [wdP cs h r g tf ta pf na ma wa cf ca ef ea xf xa]) (pr := []) (pcs := [wdP cs h r g tf ta pf7 na_96 ma_96 wa_96 cf ca ef ea xf xa]) (As := []) (rest := [.int x96_3, .ref (r 18)]) (c_S_block l D cs h r g tf ta cf ca ef ea xf xa pf7 na_96 ma_96 wa_96  lv (show 0 ≤ (pf7 11).toInt from by first | exact oz_184ed96a99 e10 k96_4 g0 | omega) (show (pf7 11).toInt < (tf 6).toInt from by first | exact e11 | omega) (show (tf 6).toInt ≤ 2049 from by first | exact g2 | omega) (show 0 ≤ (pf7 12).toInt from by first | exact oz_9e1cac89a1 e13 k96_0 | omega) (show (pf7 12).toInt ≤ 60 from by first | exact oz_ffa217bdb1 e13 k96_0 | omega) (show 0 ≤ (pf7 13).toInt from by first | exact oz_75207bdd89 e14 k96_7 g4 k96_6 | omega) (show (pf7 13).toInt ≤ (pf7 11).toInt + 10 from by first | exact oz_14b0e85847 e10 e14 k96_8 g5 | omega) (show 0 ≤ (pf7 26).toInt from by first | exact oz_d68b2b83bb e17 k96_1 | omega) (show (pf7 26).toInt ≤ (pf7 12).toInt from by first | exact oz_3113d0d9e9 e13 e17 k96_0 k96_1 | omega) (show 61 ≤ (pf7 12).toInt + (lv : Int) from by first | with_reducible rfl | with_reducible assumption | omega) (show lv ≤ 61 from by first | with_reducible rfl | with_reducible assumption | omega) hlf htk (FsI.le (N' := (pf7 13).toInt) hfs (by first | with_reducible rfl | with_reducible assumption | omega))) S hT hw (oX_call (P := (fun A U H => (oN A U H) ∧ (oP A g U H))) (pr := []) (oG_and oG_N oG_P) hw hA ⟨hN, hP⟩) (px_recv hT hw 0 0 rfl rfl rfl) m12_97 m12_94 m12_96 ms_10_9 m1_21 q_Mpg_block ⟨show (8 * lv + 27) + 1 ≤ (8 * 61 + 30) from by first | with_reducible rfl | with_reducible assumption | omega, show 8 + (4 + 11) + (220 * lv + 1240) ≤ (220 * 61 + 1360) from by first | with_reducible rfl | with_reducible assumption | omega⟩ hl.1 rfl (Nat.le_of_ble_eq_true rfl) d_Mpg_functionText_108 ⟨Nat.le_of_ble_eq_true rfl, Nat.le_of_ble_eq_true rfl⟩ hne hlk hA hAe (fun o t h => Or.inr h) ?_ (fun v27 p26 H locs hp26 hw => ?_)
    · exact fun p1 H1 locs1 hp hw => by obtain ⟨pq1, pq2, pq3, pq4, rfl, hq1, hq2⟩ := hp; exact ⟨_, ⟨pq1, pq2, pq3, pq4, rfl, hq1, hq2⟩, hw⟩
    obtain ⟨pf22, na23, ma24, wa25, rfl, e28, e29, e30, e31, e32, e33, e34, e35, e36, e37, e38, e39, e40, e41, e42⟩ := hp26
    have e28 : (pf7 11).toInt + 1 ≤ (pf22 11).toInt := e28
    have e29 : (pf22 11).toInt < (tf 6).toInt := e29
    have e30 : (pf7 13).toInt + 1 ≤ (pf22 13).toInt := e30
    have e31 : (pf22 13).toInt - (pf7 13).toInt ≤ (pf22 11).toInt - (pf7 11).toInt := e31
    have e32 : bp ta (pf7 11) + 1 ≤ bp ta (pf22 11) := e32
    have e33 : (pf22 12).toInt = (pf7 12).toInt := e33
    have e34 : (pf22 24).toInt = (pf7 24).toInt := e34
    have e35 : (pf22 25).toInt = (pf7 25).toInt := e35
    have e36 : (pf22 26).toInt = (pf7 26).toInt := e36
    have e37 : FrB (pf7 13).toInt na_96 ma_96 na23 ma24 := e37
    have hf_14_x96_3 := (fb_n e37 (by first | with_reducible rfl | with_reducible assumption | omega) (by first | with_reducible rfl | with_reducible assumption | omega)).trans hf_14_x96_3
    have hf_15_x96_3 := (fb_n e37 (by first | with_reducible rfl | with_reducible assumption | omega) (by first | with_reducible rfl | with_reducible assumption | omega)).trans hf_15_x96_3
    have hf_21_x96_3 := (fb_n e37 (by first | with_reducible rfl | with_reducible assumption | omega) (by first | with_reducible rfl | with_reducible assumption | omega)).trans hf_21_x96_3
    have hf_22_x96_3 := (fb_m e37 (by first | with_reducible rfl | with_reducible assumption | omega) (by first | with_reducible rfl | with_reducible assumption | omega)).trans hf_22_x96_3
    have hf_17_x96_3 := (fb_n e37 (by first | with_reducible rfl | with_reducible assumption | omega) (by first | with_reducible rfl | with_reducible assumption | omega)).trans hf_17_x96_3
    have hz_xl2 := hz_xl2.ag fp_ok (FrB.ag e37 (by first | with_reducible rfl | with_reducible assumption | omega))
    have hzg := hzg.ag fg_ok (FrB.ag e37 (by first | with_reducible rfl | with_reducible assumption | omega))
    have hfb := hfb.tr e37 (by first | with_reducible rfl | with_reducible assumption | omega)
    have e38 : FrW (pf7 26).toInt wa_96 wa25 := e38
    have hfw := hfw.tr e38 (by first | with_reducible rfl | with_reducible assumption | omega)
    have e39 : VlS ta (tf 6).toInt na23 ma24 v27 (pf7 13).toInt (pf22 13).toInt (3 * (bp ta (pf22 11) - bp ta (pf7 11))) (200 - (pf7 12).toInt) := e39
    have hv_v27 := e39
    have hn_hv_v27 := hv_v27.num fs_ok
    have e40 : bp ta (pf7 11) + 2 ≤ bp ta (pf22 11) := e40
    have e41 : BkN na23 v27 := e41
    have hf_14_v27 : na23 14 v27.toNatClampNeg = 20 := e41
    have e42 : FsI (tf 6).toInt (pf22 13).toInt na23 := e42
    have hfs := e42
    have hw : pw D A s.heap H locs [wdP cs h r g tf ta pf22 na23 ma24 wa25 cf ca ef ea xf xa] := hw
    have lv27 := Int32.le_toInt v27
    have uv27 := Int32.toInt_lt v27
    refine px_iast S hT hw 0 14 (n := 2100) (f := (ma24 18)) (x := x96_3) (y := v27) rfl gp_18 (vp_in_iff.mpr (by constructor <;> omega)) d_Mpg_functionText_111 (w' := wdP cs h r g tf ta pf22 na23 (va_up ma24 18 (upd (ma24 18) x96_3.toNatClampNeg v27)) wa25 cf ca ef ea xf xa) (ps' := [wdP cs h r g tf ta pf22 na23 (va_up ma24 18 (upd (ma24 18) x96_3.toNatClampNeg v27)) wa25 cf ca ef ea xf xa]) sp_18 rfl (fun H locs hw => ?_)
    obtain ⟨ma43, hu_ma43⟩ : ∃ y : Nat → Nat → Int32, y = va_up ma24 18 (upd (ma24 18) x96_3.toNatClampNeg v27) := ⟨_, rfl⟩
    have hw : pw D A s.heap _ _ [wdP cs h r g tf ta pf22 na23 ma43 wa25 cf ca ef ea xf xa] := (by rw [hu_ma43]; exact hw)
    have hz_xl2 := hz_xl2.ag fp_ok (ag_m hu_ma43 (by first | with_reducible rfl | with_reducible assumption | omega) (by first | with_reducible rfl | with_reducible assumption | omega))
    have hv_v27 := hv_v27.ag fs_ok (ag_m hu_ma43 (by first | with_reducible rfl | with_reducible assumption | omega) (by first | with_reducible rfl | with_reducible assumption | omega))
    have hf_22_x96_3 := (fl_n hu_ma43 (by decide)).trans hf_22_x96_3
    have hf_18_x96_3 : ma43 18 x96_3.toNatClampNeg = v27 := (by rw [hu_ma43, va_up_s, pk_us])
    have hfb : FrB 0 na ma na23 ma43 := (by rw [hu_ma43]; exact FrB.um hfb (by first | with_reducible rfl | with_reducible assumption | omega) (by first | with_reducible rfl | with_reducible assumption | omega))
    have hzg := hzg.ag fg_ok (ag_m hu_ma43 (by first | with_reducible rfl | with_reducible assumption | omega) (by first | with_reducible rfl | with_reducible assumption | omega))
    refine lv_aload_n S.x S.b d_Mpg_functionText_112 rfl (lv_at hl 0 rfl) ?_
    refine lv_iload_n S.x S.b d_Mpg_functionText_113 rfl (lv_at hl 3 rfl) ?_
    refine px_callv (pr := []) (px_runV (As := [.int x96_3]) (rest := []) S (c_mp_add l D cs h r g tf ta ma43 wa25 cf ca ef ea xf xa pf22 na23 x96_3  (show (pf22 25).toInt < 2100 from by first | exact oz_7f0f00c401 e35 e16 k96_3 g8 g5 k96_4 e10 g2 e28 e29 | omega) htk _) hT (pr := []) (pcs := [wdP cs h r g tf ta pf22 na23 ma43 wa25 cf ca ef ea xf xa]) hw px_X.tt (px_recv hT hw 0 0 rfl rfl rfl) m12_81 m12_78 m12_80 ms_10_5 m1_21 q_Mpg_add ⟨show 1 + 1 ≤ (8 * 61 + 30) from by first | with_reducible rfl | with_reducible assumption | omega, show 8 + (2 + 11) + 30 ≤ (220 * 61 + 1360) from by first | with_reducible rfl | with_reducible assumption | omega⟩ hl.1 rfl (Nat.le_of_ble_eq_true rfl) d_Mpg_functionText_114 ⟨Nat.le_of_ble_eq_true rfl, Nat.le_of_ble_eq_true rfl⟩) hw hA (fun p48 H locs hp48 hw => ?_)
    obtain ⟨pf46, na47, rfl, e50, e51, e52, e53, e54, e55⟩ := hp48
    have e50 : (pf46 11).toInt = (pf22 11).toInt := e50
    have e51 : (pf46 12).toInt = (pf22 12).toInt := e51
    have e52 : (pf46 13).toInt = (pf22 13).toInt := e52
    have e53 : (pf46 26).toInt = (pf22 26).toInt := e53
    have e54 : (pf46 25).toInt = x96_3.toInt := e54
    have e55 : Hg na23 na47 (pf22 24) (pf22 25) x96_3 (pf46 24) := e55
    have hvg := vg_fun (hi := (pf22 13).toInt) (D := 200) (x := xl2) (Wt := 3 * (bp ta (pf22 11) - bp ta (pf 11)) + 12) ⟨by first | with_reducible rfl | with_reducible assumption | omega, hf_14_x96_3, hf_15_x96_3, ⟨by first | with_reducible rfl | with_reducible assumption | omega, by first | with_reducible rfl | with_reducible assumption | omega⟩, hf_21_x96_3⟩ (by first | with_reducible rfl | with_reducible assumption | omega) (by first | with_reducible rfl | with_reducible assumption | omega) hf_22_x96_3 ⟨by first | with_reducible rfl | with_reducible assumption | omega, by first | with_reducible rfl | with_reducible assumption | omega⟩ (by rw [hf_17_x96_3]; exact RzV.le hz_xl2 (Int.le_refl _) (Int.le_refl _) (Int.le_refl _) (by first | with_reducible rfl | with_reducible assumption | omega)) hf_18_x96_3 hf_14_v27 (VlV.le hv_v27 (Int.le_refl _) (by first | with_reducible rfl | with_reducible assumption | omega) (Int.le_refl _) (by first | with_reducible rfl | with_reducible assumption | omega)) (by first | with_reducible rfl | with_reducible assumption | omega) (by first | with_reducible rfl | with_reducible assumption | omega) (by first | with_reducible rfl | with_reducible assumption | omega) (by first | with_reducible rfl | with_reducible assumption | omega) (by first | with_reducible rfl | with_reducible assumption | omega)
    have hzg := Hg.row e55 fg_ok (rz_eq hzg (by first | with_reducible rfl | with_reducible assumption | omega) (by first | with_reducible rfl | with_reducible assumption | omega)) (VlV.le hvg (by first | with_reducible rfl | with_reducible assumption | omega) (Int.le_refl _) (Int.le_refl _) (by first | with_reducible rfl | with_reducible assumption | omega)) (by first | with_reducible rfl | with_reducible assumption | omega) (by first | with_reducible rfl | with_reducible assumption | omega)
    have hfs := FsI.hg hfs e55
    obtain ⟨qb561, qb562, qb563, qb564⟩ := tk_eq (ta := ta) (x := (pf46 11)) (y := (pf22 11)) (by first | with_reducible rfl | with_reducible assumption | omega)
    have hw : pw D A s.heap H locs [wdP cs h r g tf ta pf46 na47 ma43 wa25 cf ca ef ea xf xa] := hw
    exact th_vret S hr hlk hAe hw (⟨pf46, na47, ma43, wa25, rfl, (show (pf 11).toInt + 1 ≤ (pf46 11).toInt from by first | exact oz_cbc53fb126 k96_4 e50 e10 e28 | omega), (show (pf46 11).toInt < (tf 6).toInt from by first | exact oz_5d2fbac15b e29 e50 | omega), (show (pf 13).toInt ≤ (pf46 13).toInt from by first | exact oz_c9bafdb123 k96_6 e52 k96_7 e14 e30 | omega), (show (pf46 13).toInt - (pf 13).toInt ≤ (pf46 11).toInt - (pf 11).toInt from by first | exact oz_5e3e014549 k96_8 e50 e52 e10 e14 e31 | omega), (show bp ta (pf 11) + 1 ≤ bp ta (pf46 11) from by first | with_reducible rfl | with_reducible assumption | omega), (show (pf46 12).toInt = 0 from by first | exact oz_f68b379cbf e51 e33 e13 k96_0 | omega), (show (pf46 26).toInt = 0 from by first | exact oz_5e358525a3 e53 e36 e17 k96_1 | omega), (show -1 ≤ (pf46 25).toInt from by first | exact oz_b23efdd26a e54 k96_6 g4 | omega), (show (pf46 25).toInt < (pf46 13).toInt from by first | exact oz_be120e9d38 e52 e54 k96_7 e30 e14 | omega), (show RzG ta (tf 6).toInt na47 ma43 (pf46 24) (pf46 25) 0 (pf46 13).toInt (3 * bp ta (pf46 11)) 200 from (RzV.le (rz_eq (Or.inr hzg) (by first | with_reducible rfl | with_reducible assumption | omega) (by first | with_reducible rfl | with_reducible assumption | omega)) (by first | with_reducible rfl | with_reducible assumption | omega) (by first | with_reducible rfl | with_reducible assumption | omega) (by first | with_reducible rfl | with_reducible assumption | omega) (by first | with_reducible rfl | with_reducible assumption | omega))), (show FsI (tf 6).toInt (pf46 13).toInt na47 from (FsI.le hfs (by first | with_reducible rfl | with_reducible assumption | omega)))⟩) d_Mpg_functionText_117
  have J65 : ∀ (n_65 : Nat) (pf_65 : Nat → Int32) (na_65 : Nat → Nat → Int32) (ma_65 : Nat → Nat → Int32) (wa_65 : Nat → Nat → Int32) (x65_3 x65_4 : Int32) (H : Heap) (locs : List Loc) (ls : Array Slot), ((pf_65 12).toInt = 1) → ((pf_65 26).toInt = 0) → ((pf_65 24).toInt = (pf 24).toInt) → ((pf_65 25).toInt = (pf 25).toInt) → ((pf 11).toInt + 1 ≤ (pf_65 11).toInt) → ((pf_65 11).toInt < (tf 6).toInt) → (x65_3.toInt = (pf 13).toInt) → (x65_3.toInt < (pf_65 13).toInt) → ((pf_65 13).toInt - (pf 13).toInt ≤ (pf_65 11).toInt - (pf 11).toInt + 1) → (bp ta (pf 11) + 1 ≤ bp ta (pf_65 11)) → (FrB 0 na ma na_65 ma_65) → (FrW (pf 26).toInt wa wa_65) → (NdF (tf 6).toInt na_65 x65_3 41 p1) → (FlN ma_65 22 x65_3 p0) → (RzG ta (tf 6).toInt na_65 ma_65 (pf 24) (pf 25) 0 (pf 13).toInt (3 * bp ta (pf 11) - 12) 200) → (FsI (tf 6).toInt (pf_65 13).toInt na_65) → (x65_3.toInt + 1 ≤ x65_4.toInt) → (RfP ta (tf 6).toInt na_65 ma_65 (na_65 17) x65_3 x65_4 (x65_3.toInt + 1) (pf_65 13).toInt (3 * (bp ta (pf_65 11) - bp ta (pf 11)) - 3) 200) → (tf 6).toInt - (pf_65 11).toInt < (n_65 : Int) → pw D A s.heap H locs [wdP cs h r g tf ta pf_65 na_65 ma_65 wa_65 cf ca ef ea xf xa] → lv_has ls 6 [(0, .ref h), (1, .int p0), (2, .int p1), (3, .int x65_3), (4, .int x65_4)] → W p l e { frames := (8 * 61 + 30), cells := 1, slots := 6, locals := (220 * 61 + 1360) } s m [.ref h, .int p0, .int p1].toArray below meth c H locs 0 0 (tx_MQ below (thQv D (va_A ([wdP cs h r g tf ta pf na ma wa cf ca ef ea xf xa] : List va_W).flatten s.heap.size) "java/lang/IllegalArgumentException" (fun ps => ∃ (pf' : Nat → Int32) (na' : Nat → Nat → Int32) (ma' : Nat → Nat → Int32) (wa' : Nat → Nat → Int32), (ps = [wdP cs h r g tf ta pf' na' ma' wa' cf ca ef ea xf xa]) ∧ ((pf 11).toInt + 1 ≤ (pf' 11).toInt) ∧ ((pf' 11).toInt < (tf 6).toInt) ∧ ((pf 13).toInt ≤ (pf' 13).toInt) ∧ ((pf' 13).toInt - (pf 13).toInt ≤ (pf' 11).toInt - (pf 11).toInt) ∧ (bp ta (pf 11) + 1 ≤ bp ta (pf' 11)) ∧ ((pf' 12).toInt = 0) ∧ ((pf' 26).toInt = 0) ∧ (-1 ≤ (pf' 25).toInt) ∧ ((pf' 25).toInt < (pf' 13).toInt) ∧ (RzG ta (tf 6).toInt na' ma' (pf' 24) (pf' 25) 0 (pf' 13).toInt (3 * bp ta (pf' 11)) 200) ∧ (FsI (tf 6).toInt (pf' 13).toInt na')) (fun ps => ∃ (pf' : Nat → Int32) (na' : Nat → Nat → Int32) (ma' : Nat → Nat → Int32) (wa' : Nat → Nat → Int32), ps = [wdP cs h r g tf ta pf' na' ma' wa' cf ca ef ea xf xa] ∧ 0 ≤ (pf' 11).toInt ∧ (pf' 11).toInt + 1 ≤ (tf 6).toInt) s.heap.size (tot s.heap)) [.ref h, .int p0, .int p1].toArray s 1 6 A) (F0 m 65 ls []) := by
    intro  n_65
    induction n_65 with
    | zero =>
      intro pf_65 na_65 ma_65 wa_65 x65_3 x65_4 H locs ls k65_0 k65_1 k65_2 k65_3 k65_4 k65_5 k65_6 k65_7 k65_8 k65_9 k65_10 k65_11 k65_12 k65_13 k65_14 k65_15 k65_16 k65_17 hm hw hl
      have lx65_3 := Int32.le_toInt x65_3
      have ux65_3 := Int32.toInt_lt x65_3
      have lx65_4 := Int32.le_toInt x65_4
      have ux65_4 := Int32.toInt_lt x65_4
      have hfb := k65_10
      have hfw := k65_11
      have hf_14_x65_3 := k65_12.2.1
      have hf_15_x65_3 := k65_12.2.2.1
      have hf_21_x65_3 := k65_12.2.2.2.2
      have hnt_x65_3 := k65_12.2.2.2.1
      have hf_22_x65_3 : ma_65 22 x65_3.toNatClampNeg = p0 := k65_13
      have hzg := k65_14
      have hfs := k65_15
      obtain ⟨b57, hf_17_x65_3, hrw_x65_4⟩ := k65_17
      have hn_hrw_x65_4 := hrw_x65_4.num
      exact absurd hm (by first | with_reducible rfl | with_reducible assumption | omega)
    | succ n_65 ih65 =>
      intro pf_65 na_65 ma_65 wa_65 x65_3 x65_4 H locs ls k65_0 k65_1 k65_2 k65_3 k65_4 k65_5 k65_6 k65_7 k65_8 k65_9 k65_10 k65_11 k65_12 k65_13 k65_14 k65_15 k65_16 k65_17 hm hw hl
      have lx65_3 := Int32.le_toInt x65_3
      have ux65_3 := Int32.toInt_lt x65_3
      have lx65_4 := Int32.le_toInt x65_4
      have ux65_4 := Int32.toInt_lt x65_4
      have hfb := k65_10
      have hfw := k65_11
      have hf_14_x65_3 := k65_12.2.1
      have hf_15_x65_3 := k65_12.2.2.1
      have hf_21_x65_3 := k65_12.2.2.2.2
      have hnt_x65_3 := k65_12.2.2.2.1
      have hf_22_x65_3 : ma_65 22 x65_3.toNatClampNeg = p0 := k65_13
      have hzg := k65_14
      have hfs := k65_15
      obtain ⟨b58, hf_17_x65_3, hrw_x65_4⟩ := k65_17
      have hn_hrw_x65_4 := hrw_x65_4.num
      refine lv_aload_n S.x S.b d_Mpg_functionText_65 rfl (lv_at hl 0 rfl) ?_
      obtain ⟨sk59, hRsk59, st60, sb61, hSsk59⟩ := oP_lit hP (k := 99) (tx := ",") (n := 1) (List.mem_of_getElem? (i := 41) rfl)
      refine va_ldcS S.x S.b S.own hRsk59 d_Mpg_functionText_66 ?_
      refine px_calli (pr := []) (px_runV (As := [.ref sk59]) (rest := []) S (c_mp_takes l D cs sk59 1 h r g tf ta na_65 ma_65 wa_65 cf ca ef ea xf xa pf_65   (show 0 ≤ (pf_65 11).toInt from by first | exact oz_06d7f15a5c k65_4 g0 | omega) (show (pf_65 11).toInt < (tf 6).toInt from by first | exact k65_5 | omega) (show (tf 6).toInt ≤ 2049 from by first | exact g2 | omega) (show 1 ≤ 100 from by first | decide | omega) htk _) hT (pr := []) (pcs := [wdP cs h r g tf ta pf_65 na_65 ma_65 wa_65 cf ca ef ea xf xa]) hw (oX_call (P := (fun A U H => (oP A g U H) ∧ (StS A sk59 1 U H))) (pr := []) (oG_and oG_P oG_Q) hw hA ⟨hP, ⟨_, _, hSsk59⟩⟩) (px_recv hT hw 0 0 rfl rfl rfl) m12_6 m12_3 m12_5 ms_9_3 m1_21 q_Mpg_takes ⟨show 4 + 1 ≤ (8 * 61 + 30) from by first | with_reducible rfl | with_reducible assumption | omega, show 8 + (3 + 11) + 160 ≤ (220 * 61 + 1360) from by first | with_reducible rfl | with_reducible assumption | omega⟩ hl.1 rfl (Nat.le_of_ble_eq_true rfl) d_Mpg_functionText_68 ⟨Nat.le_of_ble_eq_true rfl, Nat.le_of_ble_eq_true rfl⟩) hw hA (fun v65 p64 H locs hp64 hw => ?_)
      obtain ⟨pf63, rfl, e66, e67, e68, e69, e70, e71, e72, e73, e74⟩ := hp64
      have e66 := z_rng e66
      have e67 : (pf63 11).toInt = (pf_65 11).toInt + v65.toInt := e67
      have e68 : (pf63 11).toInt < (tf 6).toInt := e68
      have e69 : bp ta (pf_65 11) + v65.toInt ≤ bp ta (pf63 11) := e69
      have e70 : (pf63 12).toInt = (pf_65 12).toInt := e70
      have e71 : (pf63 13).toInt = (pf_65 13).toInt := e71
      have e72 : (pf63 24).toInt = (pf_65 24).toInt := e72
      have e73 : (pf63 25).toInt = (pf_65 25).toInt := e73
      have e74 : (pf63 26).toInt = (pf_65 26).toInt := e74
      have hw : pw D A s.heap H locs [wdP cs h r g tf ta pf63 na_65 ma_65 wa_65 cf ca ef ea xf xa] := hw
      have lv65 := Int32.le_toInt v65
      have uv65 := Int32.toInt_lt v65
      refine lv_if_eq (tgt := 96) S.x S.b d_Mpg_functionText_71 (by decide) (fun c75 => ?_) (fun c75 => ?_)
      · have nc75 : v65.toInt = (0 : Int) := (i_eq (x := v65) (y := 0)).mp c75
        exact J96 pf63 na_65 ma_65 wa_65 x65_3 _ _ ls (show (pf63 12).toInt = 1 from by first | exact oz_e863b17997 e70 k65_0 | omega) (show (pf63 26).toInt = 0 from by first | exact oz_4193540c58 e74 k65_1 | omega) (show (pf63 24).toInt = (pf 24).toInt from by first | exact oz_1687f4cc65 k65_2 e72 | omega) (show (pf63 25).toInt = (pf 25).toInt from by first | exact oz_1687f4cc65 k65_3 e73 | omega) (show (pf 11).toInt + 1 ≤ (pf63 11).toInt from by first | exact oz_3f453873c8 k65_4 e67 e66.1 | omega) (show (pf63 11).toInt < (tf 6).toInt from by first | exact e68 | omega) (show x65_3.toInt = (pf 13).toInt from by first | exact k65_6 | omega) (show x65_3.toInt < (pf63 13).toInt from by first | exact oz_5544c44f8d k65_7 e71 | omega) (show (pf63 13).toInt - (pf 13).toInt ≤ (pf63 11).toInt - (pf 11).toInt + 1 from by first | exact oz_f32e4bd1b8 k65_8 e67 e71 e66.1 | omega) (show bp ta (pf 11) + 1 ≤ bp ta (pf63 11) from by first | with_reducible rfl | with_reducible assumption | omega) (show FrB 0 na ma na_65 ma_65 from hfb) (show FrW (pf 26).toInt wa wa_65 from hfw) (show NdF (tf 6).toInt na_65 x65_3 41 p1 from ⟨by first | with_reducible rfl | with_reducible assumption | omega, hf_14_x65_3, hf_15_x65_3, ⟨by first | with_reducible rfl | with_reducible assumption | omega, by first | with_reducible rfl | with_reducible assumption | omega⟩, hf_21_x65_3⟩) (show FlN ma_65 22 x65_3 p0 from hf_22_x65_3) (show RzG ta (tf 6).toInt na_65 ma_65 (pf 24) (pf 25) 0 (pf 13).toInt (3 * bp ta (pf 11) - 12) 200 from (RzV.le (rz_eq hzg (by first | with_reducible rfl | with_reducible assumption | omega) (by first | with_reducible rfl | with_reducible assumption | omega)) (by first | with_reducible rfl | with_reducible assumption | omega) (by first | with_reducible rfl | with_reducible assumption | omega) (by first | with_reducible rfl | with_reducible assumption | omega) (by first | with_reducible rfl | with_reducible assumption | omega))) (show FsI (tf 6).toInt (pf63 13).toInt na_65 from (FsI.le hfs (by first | with_reducible rfl | with_reducible assumption | omega))) (show LfP ta (tf 6).toInt na_65 ma_65 (na_65 17) x65_3 (x65_3.toInt + 1) (pf63 13).toInt (3 * (bp ta (pf63 11) - bp ta (pf 11)) - 3) 200 from ⟨_, _, hf_17_x65_3, Or.inr (RwV.le hrw_x65_4 (by first | with_reducible rfl | with_reducible assumption | omega) (by first | with_reducible rfl | with_reducible assumption | omega) (by first | with_reducible rfl | with_reducible assumption | omega) (by first | with_reducible rfl | with_reducible assumption | omega))⟩) hw (lv_sub hl [0, 1, 2, 3] rfl)
      · have nc75 : ¬ v65.toInt = (0 : Int) := mt (i_eq (x := v65) (y := 0)).mpr c75
        refine lv_aload_n S.x S.b d_Mpg_functionText_74 rfl (lv_at hl 0 rfl) ?_
        refine th_calli (ps0 := [wdP cs h r g tf ta pf na ma wa cf ca ef ea xf xa]) (pr := []) (pcs := [wdP cs h r g tf ta pf63 na_65 ma_65 wa_65 cf ca ef ea xf xa]) (As := []) (rest := []) (c_mp_parameter l D cs h r g tf ta cf ca ef ea xf xa pf63 na_65 ma_65 wa_65  lv (show 0 ≤ (pf63 11).toInt from by first | exact oz_4f7430b7f2 e67 k65_4 e66.1 g0 | omega) (show (pf63 11).toInt < (tf 6).toInt from by first | exact e68 | omega) (show (tf 6).toInt ≤ 2049 from by first | exact g2 | omega) (show 0 ≤ (pf63 12).toInt from by first | exact oz_7b1a54c642 e70 k65_0 | omega) (show (pf63 12).toInt ≤ 60 from by first | exact oz_f207457ddd e70 k65_0 | omega) (show 0 ≤ (pf63 13).toInt from by first | exact oz_75207bdd89 e71 k65_7 g4 k65_6 | omega) (show (pf63 13).toInt ≤ (pf63 11).toInt + 10 from by first | exact oz_26e45e3411 e67 e71 k65_8 e66.1 nc75 g5 | omega) (show 0 ≤ (pf63 26).toInt from by first | exact oz_d68b2b83bb e74 k65_1 | omega) (show (pf63 26).toInt ≤ (pf63 12).toInt from by first | exact oz_395d3d6c14 e70 e74 k65_0 k65_1 | omega) (show 61 ≤ (pf63 12).toInt + (lv : Int) from by first | with_reducible rfl | with_reducible assumption | omega) (show lv ≤ 61 from by first | with_reducible rfl | with_reducible assumption | omega) hlf htk (FsI.le (N' := (pf63 13).toInt) hfs (by first | with_reducible rfl | with_reducible assumption | omega))) S hT hw (oX_call (P := (fun A U H => (oN A U H) ∧ (oP A g U H))) (pr := []) (oG_and oG_N oG_P) hw hA ⟨hN, hP⟩) (px_recv hT hw 0 0 rfl rfl rfl) m12_93 m12_90 m12_92 ms_10_8 m1_21 q_Mpg_parameter ⟨show (8 * lv + 24) + 1 ≤ (8 * 61 + 30) from by first | with_reducible rfl | with_reducible assumption | omega, show 8 + (3 + 11) + (220 * lv + 1120) ≤ (220 * 61 + 1360) from by first | with_reducible rfl | with_reducible assumption | omega⟩ hl.1 rfl (Nat.le_of_ble_eq_true rfl) d_Mpg_functionText_75 ⟨Nat.le_of_ble_eq_true rfl, Nat.le_of_ble_eq_true rfl⟩ hne hlk hA hAe (fun o t h => Or.inr h) ?_ (fun v85 p84 H locs hp84 hw => ?_)
        · exact fun p1 H1 locs1 hp hw => by obtain ⟨pq1, pq2, pq3, pq4, rfl, hq1, hq2⟩ := hp; exact ⟨_, ⟨pq1, pq2, pq3, pq4, rfl, hq1, hq2⟩, hw⟩
        obtain ⟨pf80, na81, ma82, wa83, rfl, e86, e87, e88, e89, e90, e91, e92, e93, e94, e95, e96, e97, e98, e99⟩ := hp84
        have e86 : (pf63 11).toInt + 1 ≤ (pf80 11).toInt := e86
        have e87 : (pf80 11).toInt < (tf 6).toInt := e87
        have e88 : (pf63 13).toInt + 1 ≤ (pf80 13).toInt := e88
        have e89 : (pf80 13).toInt - (pf63 13).toInt ≤ (pf80 11).toInt - (pf63 11).toInt := e89
        have e90 : bp ta (pf63 11) + 1 ≤ bp ta (pf80 11) := e90
        have e91 : (pf80 12).toInt = (pf63 12).toInt := e91
        have e92 : (pf80 24).toInt = (pf63 24).toInt := e92
        have e93 : (pf80 25).toInt = (pf63 25).toInt := e93
        have e94 : (pf80 26).toInt = (pf63 26).toInt := e94
        have e95 : bp ta (pf63 11) + 2 ≤ bp ta (pf80 11) := e95
        have e96 : FrB (pf63 13).toInt na_65 ma_65 na81 ma82 := e96
        have hf_14_x65_3 := (fb_n e96 (by first | with_reducible rfl | with_reducible assumption | omega) (by first | with_reducible rfl | with_reducible assumption | omega)).trans hf_14_x65_3
        have hf_15_x65_3 := (fb_n e96 (by first | with_reducible rfl | with_reducible assumption | omega) (by first | with_reducible rfl | with_reducible assumption | omega)).trans hf_15_x65_3
        have hf_21_x65_3 := (fb_n e96 (by first | with_reducible rfl | with_reducible assumption | omega) (by first | with_reducible rfl | with_reducible assumption | omega)).trans hf_21_x65_3
        have hf_22_x65_3 := (fb_m e96 (by first | with_reducible rfl | with_reducible assumption | omega) (by first | with_reducible rfl | with_reducible assumption | omega)).trans hf_22_x65_3
        have hf_17_x65_3 := (fb_n e96 (by first | with_reducible rfl | with_reducible assumption | omega) (by first | with_reducible rfl | with_reducible assumption | omega)).trans hf_17_x65_3
        have hrw_x65_4 := hrw_x65_4.ag fp_ok (FrB.ag e96 (by first | with_reducible rfl | with_reducible assumption | omega))
        have hzg := hzg.ag fg_ok (FrB.ag e96 (by first | with_reducible rfl | with_reducible assumption | omega))
        have hfb := hfb.tr e96 (by first | with_reducible rfl | with_reducible assumption | omega)
        have e97 : FrW (pf63 26).toInt wa_65 wa83 := e97
        have hfw := hfw.tr e97 (by first | with_reducible rfl | with_reducible assumption | omega)
        have e98 : VlP ta (tf 6).toInt na81 ma82 v85 (pf63 13).toInt (pf80 13).toInt (3 * (bp ta (pf80 11) - bp ta (pf63 11))) 130 := e98
        have hv_v85 := e98
        have hn_hv_v85 := hv_v85.num fp_ok
        have e99 : FsI (tf 6).toInt (pf80 13).toInt na81 := e99
        have hfs := e99
        have hw : pw D A s.heap H locs [wdP cs h r g tf ta pf80 na81 ma82 wa83 cf ca ef ea xf xa] := hw
        have lv85 := Int32.le_toInt v85
        have uv85 := Int32.toInt_lt v85
        refine lv_istore (lv' := [(5, .int v85), (0, .ref h), (1, .int p0), (2, .int p1), (3, .int x65_3), (4, .int x65_4)]) S.x S.b d_Mpg_functionText_78 hl (by decide) rfl (fun ls hl => ?_)
        refine lv_aload_n S.x S.b d_Mpg_functionText_80 rfl (lv_at hl 1 rfl) ?_
        refine px_get S k_Mpg hT hw 0 0 21 (v := .ref (r 21)) rfl rfl rfl (by decide) m10_7 d_Mpg_functionText_81 ?_
        refine lv_iload S.x S.b d_Mpg_functionText_84 (lv_at hl 5 rfl) ?_
        refine lv_iload S.x S.b d_Mpg_functionText_86 (lv_at hl 0 rfl) ?_
        refine px_iast S hT hw 0 17 (n := 2100) (f := (na81 21)) (x := x65_4) (y := v85) rfl gp_21 (vp_in_iff.mpr (by constructor <;> omega)) d_Mpg_functionText_88 (w' := wdP cs h r g tf ta pf80 (va_up na81 21 (upd (na81 21) x65_4.toNatClampNeg v85)) ma82 wa83 cf ca ef ea xf xa) (ps' := [wdP cs h r g tf ta pf80 (va_up na81 21 (upd (na81 21) x65_4.toNatClampNeg v85)) ma82 wa83 cf ca ef ea xf xa]) sp_21 rfl (fun H locs hw => ?_)
        obtain ⟨na100, hu_na100⟩ : ∃ y : Nat → Nat → Int32, y = va_up na81 21 (upd (na81 21) x65_4.toNatClampNeg v85) := ⟨_, rfl⟩
        have hw : pw D A s.heap _ _ [wdP cs h r g tf ta pf80 na100 ma82 wa83 cf ca ef ea xf xa] := (by rw [hu_na100]; exact hw)
        have hrw_v85 := row_s hrw_x65_4 (VlV.le hv_v85 (by first | with_reducible rfl | with_reducible assumption | omega) (Int.le_refl _) (Int.le_refl _) (by first | with_reducible rfl | with_reducible assumption | omega)) fp_ok (by first | with_reducible rfl | with_reducible assumption | omega) hu_na100
        have hn_hrw_v85 := hrw_v85.num
        have hf_14_x65_3 := (fl_n hu_na100 (by decide)).trans hf_14_x65_3
        have hf_15_x65_3 := (fl_n hu_na100 (by decide)).trans hf_15_x65_3
        have hf_21_x65_3 := (fl_f hu_na100 (by first | with_reducible rfl | with_reducible assumption | omega) (by first | with_reducible rfl | with_reducible assumption | omega) (by first | with_reducible rfl | with_reducible assumption | omega)).trans hf_21_x65_3
        have hf_17_x65_3 := (fl_n hu_na100 (by decide)).trans hf_17_x65_3
        have hf_21_x65_4 : na100 21 x65_4.toNatClampNeg = v85 := (by rw [hu_na100, va_up_s, pk_us])
        have hfs : FsI _ _ na100 := (by rw [hu_na100]; exact FsI.un hfs (by decide))
        have hfb : FrB 0 na ma na100 ma82 := (by rw [hu_na100]; exact FrB.un hfb (by first | with_reducible rfl | with_reducible assumption | omega) (by first | with_reducible rfl | with_reducible assumption | omega))
        have hzg := hzg.ag fg_ok (ag_n hu_na100 (by first | with_reducible rfl | with_reducible assumption | omega) (by first | with_reducible rfl | with_reducible assumption | omega))
        refine lv_iload S.x S.b d_Mpg_functionText_89 (lv_at hl 0 rfl) ?_
        refine lv_istore (lv' := [(4, .int v85), (5, .int v85), (0, .ref h), (1, .int p0), (2, .int p1), (3, .int x65_3)]) S.x S.b d_Mpg_functionText_91 hl (by decide) rfl (fun ls hl => ?_)
        refine lv_goto (tgt := 65) S.x S.b d_Mpg_functionText_93 (by decide) ?_
        exact ih65 pf80 na100 ma82 wa83 x65_3 v85 _ _ ls (show (pf80 12).toInt = 1 from by first | exact oz_d145a98bf1 e91 e70 k65_0 | omega) (show (pf80 26).toInt = 0 from by first | exact oz_bfc0cf0d20 e94 e74 k65_1 | omega) (show (pf80 24).toInt = (pf 24).toInt from by first | exact oz_e13fc83238 k65_2 e92 e72 | omega) (show (pf80 25).toInt = (pf 25).toInt from by first | exact oz_e13fc83238 k65_3 e93 e73 | omega) (show (pf 11).toInt + 1 ≤ (pf80 11).toInt from by first | exact oz_60a7c6baef k65_4 e86 e67 e66.1 | omega) (show (pf80 11).toInt < (tf 6).toInt from by first | exact e87 | omega) (show x65_3.toInt = (pf 13).toInt from by first | exact k65_6 | omega) (show x65_3.toInt < (pf80 13).toInt from by first | exact oz_0034474f04 k65_7 e88 e71 | omega) (show (pf80 13).toInt - (pf 13).toInt ≤ (pf80 11).toInt - (pf 11).toInt + 1 from by first | exact oz_c39d547aca k65_8 e89 e67 e71 e66.1 | omega) (show bp ta (pf 11) + 1 ≤ bp ta (pf80 11) from by first | with_reducible rfl | with_reducible assumption | omega) (show FrB 0 na ma na100 ma82 from hfb) (show FrW (pf 26).toInt wa wa83 from hfw) (show NdF (tf 6).toInt na100 x65_3 41 p1 from ⟨by first | with_reducible rfl | with_reducible assumption | omega, hf_14_x65_3, hf_15_x65_3, ⟨by first | with_reducible rfl | with_reducible assumption | omega, by first | with_reducible rfl | with_reducible assumption | omega⟩, hf_21_x65_3⟩) (show FlN ma82 22 x65_3 p0 from hf_22_x65_3) (show RzG ta (tf 6).toInt na100 ma82 (pf 24) (pf 25) 0 (pf 13).toInt (3 * bp ta (pf 11) - 12) 200 from (RzV.le (rz_eq hzg (by first | with_reducible rfl | with_reducible assumption | omega) (by first | with_reducible rfl | with_reducible assumption | omega)) (by first | with_reducible rfl | with_reducible assumption | omega) (by first | with_reducible rfl | with_reducible assumption | omega) (by first | with_reducible rfl | with_reducible assumption | omega) (by first | with_reducible rfl | with_reducible assumption | omega))) (show FsI (tf 6).toInt (pf80 13).toInt na100 from (FsI.le hfs (by first | with_reducible rfl | with_reducible assumption | omega))) (show x65_3.toInt + 1 ≤ v85.toInt from by first | with_reducible rfl | with_reducible assumption | omega) (show RfP ta (tf 6).toInt na100 ma82 (na100 17) x65_3 v85 (x65_3.toInt + 1) (pf80 13).toInt (3 * (bp ta (pf80 11) - bp ta (pf 11)) - 3) 200 from ⟨_, hf_17_x65_3, (RwV.le hrw_v85 (by first | with_reducible rfl | with_reducible assumption | omega) (by first | with_reducible rfl | with_reducible assumption | omega) (by first | with_reducible rfl | with_reducible assumption | omega) (by first | with_reducible rfl | with_reducible assumption | omega))⟩) (show (tf 6).toInt - (pf80 11).toInt < (n_65 : Int) from by first | exact oz_4be6ec72e9 hm e86 e67 e66.1 | omega) hw (lv_sub hl [2, 3, 4, 5, 0] rfl)
  refine lv_aload_n S.x S.b d_Mpg_functionText_0 rfl (lv_at hl 0 rfl) ?_
  refine lv_bipush (v := 41) S.x S.b d_Mpg_functionText_1 (by decide) ?_
  refine lv_iload_n S.x S.b d_Mpg_functionText_3 rfl (lv_at hl 2 rfl) ?_
  refine px_calli (pr := []) (px_runV (As := [.int 41, .int p1]) (rest := []) S (c_mp_make l D cs h r g tf ta wa cf ca ef ea xf xa pf na ma 41 p1  (show 0 ≤ (pf 13).toInt from by first | exact g4 | omega) (show (pf 13).toInt < 2100 from by first | exact oz_3cbdbee99c g5 g1 g2 | omega) _) hT (pr := []) (pcs := [wdP cs h r g tf ta pf na ma wa cf ca ef ea xf xa]) hw px_X.tt (px_recv hT hw 0 0 rfl rfl rfl) m11_209 m11_206 m11_208 ms_8_12 m1_21 q_Mpg_make ⟨show 0 + 1 ≤ (8 * 61 + 30) from by first | with_reducible rfl | with_reducible assumption | omega, show 8 + (3 + 11) + 0 ≤ (220 * 61 + 1360) from by first | with_reducible rfl | with_reducible assumption | omega⟩ hl.1 rfl (Nat.le_of_ble_eq_true rfl) d_Mpg_functionText_4 ⟨Nat.le_of_ble_eq_true rfl, Nat.le_of_ble_eq_true rfl⟩) hw hA (fun v108 p107 H locs hp107 hw => ?_)
  obtain ⟨pf104, na105, ma106, rfl, e109, e110, e111, e112, e113, e114, e115, e116⟩ := hp107
  have e109 : v108.toInt = (pf 13).toInt := e109
  have e110 : (pf104 13).toInt = (pf 13).toInt + 1 := e110
  have e111 : (pf104 11).toInt = (pf 11).toInt := e111
  have e112 : (pf104 12).toInt = (pf 12).toInt := e112
  have e113 : (pf104 24).toInt = (pf 24).toInt := e113
  have e114 : (pf104 25).toInt = (pf 25).toInt := e114
  have e115 : (pf104 26).toInt = (pf 26).toInt := e115
  have e116 : MkN na ma na105 ma106 v108 (41 : Int32) p1 := e116
  obtain ⟨qb1171, qb1172, qb1173, qb1174⟩ := tk_eq (ta := ta) (x := (pf104 11)) (y := (pf 11)) (by first | with_reducible rfl | with_reducible assumption | omega)
  have hmk_v108 := e116
  have hfm_v108 := MkN.frb (b := v108.toInt) hmk_v108 (by first | with_reducible rfl | with_reducible assumption | omega) (by first | with_reducible rfl | with_reducible assumption | omega)
  have hzg := hzg.ag fg_ok (FrB.ag hfm_v108 (by first | with_reducible rfl | with_reducible assumption | omega))
  have hfs := FsI.mk hfs hmk_v108 (by first | with_reducible rfl | with_reducible assumption | omega) (by first | with_reducible rfl | with_reducible assumption | omega) (by first | with_reducible rfl | with_reducible assumption | omega) (by first | with_reducible rfl | with_reducible assumption | omega)
  have hfb := hfb.tr hfm_v108 (by first | with_reducible rfl | with_reducible assumption | omega)
  have hf_14_v108 := hmk_v108.2.1 (by decide) (by decide)
  have hf_15_v108 := hmk_v108.2.2.1
  have hf_17_v108 := hmk_v108.2.2.2.2.1
  have hf_21_v108 := hmk_v108.2.2.2.2.2.2.2.2.1
  clear hmk_v108 hfm_v108
  have hw : pw D A s.heap H locs [wdP cs h r g tf ta pf104 na105 ma106 wa cf ca ef ea xf xa] := hw
  have lv108 := Int32.le_toInt v108
  have uv108 := Int32.toInt_lt v108
  refine lv_istore_n (lv' := [(3, .int v108), (0, .ref h), (1, .int p0), (2, .int p1)]) S.x S.b d_Mpg_functionText_7 rfl hl (by decide) rfl (fun ls hl => ?_)
  refine lv_aload_n S.x S.b d_Mpg_functionText_8 rfl (lv_at hl 1 rfl) ?_
  refine px_get S k_Mpg hT hw 0 0 22 (v := .ref (r 22)) rfl rfl rfl (by decide) m10_9 d_Mpg_functionText_9 ?_
  refine lv_iload_n S.x S.b d_Mpg_functionText_12 rfl (lv_at hl 0 rfl) ?_
  refine lv_iload_n S.x S.b d_Mpg_functionText_13 rfl (lv_at hl 2 rfl) ?_
  refine px_iast S hT hw 0 18 (n := 2100) (f := (ma106 22)) (x := v108) (y := p0) rfl gp_22 (vp_in_iff.mpr (by constructor <;> omega)) d_Mpg_functionText_14 (w' := wdP cs h r g tf ta pf104 na105 (va_up ma106 22 (upd (ma106 22) v108.toNatClampNeg p0)) wa cf ca ef ea xf xa) (ps' := [wdP cs h r g tf ta pf104 na105 (va_up ma106 22 (upd (ma106 22) v108.toNatClampNeg p0)) wa cf ca ef ea xf xa]) sp_22 rfl (fun H locs hw => ?_)
  obtain ⟨ma118, hu_ma118⟩ : ∃ y : Nat → Nat → Int32, y = va_up ma106 22 (upd (ma106 22) v108.toNatClampNeg p0) := ⟨_, rfl⟩
  have hw : pw D A s.heap _ _ [wdP cs h r g tf ta pf104 na105 ma118 wa cf ca ef ea xf xa] := (by rw [hu_ma118]; exact hw)
  have hf_22_v108 : ma118 22 v108.toNatClampNeg = p0 := (by rw [hu_ma118, va_up_s, pk_us])
  have hfb : FrB 0 na ma na105 ma118 := (by rw [hu_ma118]; exact FrB.um hfb (by first | with_reducible rfl | with_reducible assumption | omega) (by first | with_reducible rfl | with_reducible assumption | omega))
  have hzg := hzg.ag fg_ok (ag_m hu_ma118 (by first | with_reducible rfl | with_reducible assumption | omega) (by first | with_reducible rfl | with_reducible assumption | omega))
  refine lv_aload_n S.x S.b d_Mpg_functionText_15 rfl (lv_at hl 1 rfl) ?_
  obtain ⟨sk119, hRsk119, st120, sb121, hSsk119⟩ := oP_lit hP (k := 87) (tx := "(") (n := 1) (List.mem_of_getElem? (i := 35) rfl)
  refine va_ldcS S.x S.b S.own hRsk119 d_Mpg_functionText_16 ?_
  refine th_callv (ps0 := [wdP cs h r g tf ta pf na ma wa cf ca ef ea xf xa]) (pr := []) (pcs := [wdP cs h r g tf ta pf104 na105 ma118 wa cf ca ef ea xf xa]) (As := [.ref sk119]) (rest := []) (c_mp_opensMark l D cs sk119 1 h r g tf ta na105 ma118 wa cf ca ef ea xf xa pf104   (show 0 ≤ (pf104 11).toInt from by first | exact oz_f3ebed1ad0 e111 g0 | omega) (show (pf104 11).toInt < (tf 6).toInt from by first | exact oz_5d2fbac15b g1 e111 | omega) (show (tf 6).toInt ≤ 2049 from by first | exact g2 | omega) (show 0 ≤ (pf104 12).toInt from by first | exact oz_d68b2b83bb e112 g3 | omega) (show (pf104 12).toInt ≤ 60 from by first | exact oz_739ed0f543 e112 g3 | omega) (show 1 ≤ 100 from by first | decide | omega) hlf htk) S hT hw (oX_call (P := (fun A U H => (oN A U H) ∧ (oP A g U H) ∧ (StS A sk119 1 U H))) (pr := []) (oG_and oG_N (oG_and oG_P oG_Q)) hw hA ⟨hN, hP, ⟨_, _, hSsk119⟩⟩) (px_recv hT hw 0 0 rfl rfl rfl) m11_213 m11_210 m11_212 ms_8_13 m1_21 q_Mpg_opensMark ⟨show 8 + 1 ≤ (8 * 61 + 30) from by first | with_reducible rfl | with_reducible assumption | omega, show 8 + (2 + 11) + 240 ≤ (220 * 61 + 1360) from by first | with_reducible rfl | with_reducible assumption | omega⟩ hl.1 rfl (Nat.le_of_ble_eq_true rfl) d_Mpg_functionText_18 ⟨Nat.le_of_ble_eq_true rfl, Nat.le_of_ble_eq_true rfl⟩ hne hlk hA hAe (fun o t h => Or.inr h) ?_ (fun p124 H locs hp124 hw => ?_)
  · exact fun p1 H1 locs1 hp hw => by obtain ⟨pq1, pq2, pq3, pq4, rfl, hq1, hq2⟩ := hp; exact ⟨_, ⟨pq1, pq2, pq3, pq4, rfl, hq1, hq2⟩, hw⟩
  obtain ⟨pf123, rfl, e126, e127, e128, e129, e130, e131, e132, e133, e134, e135⟩ := hp124
  have e126 : (pf123 11).toInt = (pf104 11).toInt + 1 := e126
  have e127 : (pf123 11).toInt < (tf 6).toInt := e127
  have e128 : bp ta (pf104 11) + sz ta (pf104 11) ≤ bp ta (pf123 11) := e128
  have e129 : 1 ≤ sz ta (pf104 11) := e129
  have e130 : (pf123 12).toInt = (pf104 12).toInt + 1 := e130
  have e131 : (pf104 12).toInt < 60 := e131
  have e132 : (pf123 13).toInt = (pf104 13).toInt := e132
  have e133 : (pf123 24).toInt = (pf104 24).toInt := e133
  have e134 : (pf123 25).toInt = (pf104 25).toInt := e134
  have e135 : (pf123 26).toInt = (pf104 26).toInt := e135
  have hw : pw D A s.heap H locs [wdP cs h r g tf ta pf123 na105 ma118 wa cf ca ef ea xf xa] := hw
  refine lv_aload_n S.x S.b d_Mpg_functionText_21 rfl (lv_at hl 1 rfl) ?_
  refine lv_iconst (v := 2) S.x S.b d_Mpg_functionText_22 (by decide) ?_
  refine px_calli (pr := []) (px_runV (As := [.int 2]) (rest := []) S (c_mp_isKey l D cs h r g tf ta pf123 na105 ma118 wa cf ca ef ea xf xa 2  (show 0 ≤ (pf123 11).toInt from by first | exact oz_f3f97b7517 e126 e111 g0 | omega) (show (pf123 11).toInt < (tf 6).toInt from by first | exact e127 | omega) (show (tf 6).toInt ≤ 2049 from by first | exact g2 | omega) htk _) hT (pr := []) (pcs := [wdP cs h r g tf ta pf123 na105 ma118 wa cf ca ef ea xf xa]) hw px_X.tt (px_recv hT hw 0 0 rfl rfl rfl) m11_201 m11_198 m11_200 ms_8_10 m1_21 q_Mpg_isKey ⟨show 0 + 1 ≤ (8 * 61 + 30) from by first | with_reducible rfl | with_reducible assumption | omega, show 8 + (2 + 11) + 0 ≤ (220 * 61 + 1360) from by first | with_reducible rfl | with_reducible assumption | omega⟩ hl.1 rfl (Nat.le_of_ble_eq_true rfl) d_Mpg_functionText_23 ⟨Nat.le_of_ble_eq_true rfl, Nat.le_of_ble_eq_true rfl⟩) hw hA (fun v137 p136 H locs hp136 hw => ?_)
  obtain ⟨rfl, e138, e139⟩ := hp136
  have e138 := z_rng e138
  have e139 : v137.toInt = 1 → (pf123 11).toInt + 1 < (tf 6).toInt ∧ so ta (pf123 11) = 2 ∧ wh ta (pf123 11) = (2 : Int) := e139
  have hw : pw D A s.heap H locs [wdP cs h r g tf ta pf123 na105 ma118 wa cf ca ef ea xf xa] := hw
  have lv137 := Int32.le_toInt v137
  have uv137 := Int32.toInt_lt v137
  refine lv_if_eq (tgt := 42) S.x S.b d_Mpg_functionText_26 (by decide) (fun c140 => ?_) (fun c140 => ?_)
  · have nc140 : v137.toInt = (0 : Int) := (i_eq (x := v137) (y := 0)).mp c140
    refine lv_aload_n S.x S.b d_Mpg_functionText_42 rfl (lv_at hl 1 rfl) ?_
    obtain ⟨sk141, hRsk141, st142, sb143, hSsk141⟩ := oP_lit hP (k := 89) (tx := ")") (n := 1) (List.mem_of_getElem? (i := 36) rfl)
    refine va_ldcS S.x S.b S.own hRsk141 d_Mpg_functionText_43 ?_
    refine px_calli (pr := []) (px_runV (As := [.ref sk141]) (rest := []) S (c_mp_is l D cs sk141 1 h r g tf ta pf123 na105 ma118 wa cf ca ef ea xf xa   (show 0 ≤ (pf123 11).toInt from by first | exact oz_f3f97b7517 e126 e111 g0 | omega) (show (pf123 11).toInt < (tf 6).toInt from by first | exact e127 | omega) (show (tf 6).toInt ≤ 2049 from by first | exact g2 | omega) (show 1 ≤ 100 from by first | decide | omega) htk _) hT (pr := []) (pcs := [wdP cs h r g tf ta pf123 na105 ma118 wa cf ca ef ea xf xa]) hw (oX_call (P := (fun A U H => (oP A g U H) ∧ (StS A sk141 1 U H))) (pr := []) (oG_and oG_P oG_Q) hw hA ⟨hP, ⟨_, _, hSsk141⟩⟩) (px_recv hT hw 0 0 rfl rfl rfl) m11_217 m11_214 m11_216 ms_8_14 m1_21 q_Mpg_is ⟨show 3 + 1 ≤ (8 * 61 + 30) from by first | with_reducible rfl | with_reducible assumption | omega, show 8 + (2 + 11) + 120 ≤ (220 * 61 + 1360) from by first | with_reducible rfl | with_reducible assumption | omega⟩ hl.1 rfl (Nat.le_of_ble_eq_true rfl) d_Mpg_functionText_45 ⟨Nat.le_of_ble_eq_true rfl, Nat.le_of_ble_eq_true rfl⟩) hw hA (fun v145 p144 H locs hp144 hw => ?_)
    obtain ⟨rfl, e146, e147⟩ := hp144
    have e146 := z_rng e146
    have e147 : v145.toInt = 1 → (pf123 11).toInt + 1 < (tf 6).toInt ∧ so ta (pf123 11) = 5 := e147
    have hw : pw D A s.heap H locs [wdP cs h r g tf ta pf123 na105 ma118 wa cf ca ef ea xf xa] := hw
    have lv145 := Int32.le_toInt v145
    have uv145 := Int32.toInt_lt v145
    refine lv_if_ne (tgt := 96) S.x S.b d_Mpg_functionText_48 (by decide) (fun c148 => ?_) (fun c148 => ?_)
    · have nc148 : ¬ v145.toInt = (0 : Int) := mt (i_eq (x := v145) (y := 0)).mpr c148
      exact J96 pf123 na105 ma118 wa v108 _ _ ls (show (pf123 12).toInt = 1 from by first | exact oz_43d0241111 e130 e112 g3 | omega) (show (pf123 26).toInt = 0 from by first | exact oz_bfc0cf0d20 e135 e115 g6 | omega) (show (pf123 24).toInt = (pf 24).toInt from by first | exact oz_1687f4cc65 e113 e133 | omega) (show (pf123 25).toInt = (pf 25).toInt from by first | exact oz_1687f4cc65 e114 e134 | omega) (show (pf 11).toInt + 1 ≤ (pf123 11).toInt from by first | exact oz_5a83f0d431 e111 e126 | omega) (show (pf123 11).toInt < (tf 6).toInt from by first | exact e127 | omega) (show v108.toInt = (pf 13).toInt from by first | exact e109 | omega) (show v108.toInt < (pf123 13).toInt from by first | exact oz_c94e31fc97 e109 e132 e110 | omega) (show (pf123 13).toInt - (pf 13).toInt ≤ (pf123 11).toInt - (pf 11).toInt + 1 from by first | exact oz_73302b278b e110 e111 e126 e132 | omega) (show bp ta (pf 11) + 1 ≤ bp ta (pf123 11) from by first | with_reducible rfl | with_reducible assumption | omega) (show FrB 0 na ma na105 ma118 from hfb) (show FrW (pf 26).toInt wa wa from hfw) (show NdF (tf 6).toInt na105 v108 41 p1 from ⟨by first | with_reducible rfl | with_reducible assumption | omega, hf_14_v108, hf_15_v108, ⟨by first | with_reducible rfl | with_reducible assumption | omega, by first | with_reducible rfl | with_reducible assumption | omega⟩, hf_21_v108⟩) (show FlN ma118 22 v108 p0 from hf_22_v108) (show RzG ta (tf 6).toInt na105 ma118 (pf 24) (pf 25) 0 (pf 13).toInt (3 * bp ta (pf 11) - 12) 200 from (RzV.le (rz_eq hzg (by first | with_reducible rfl | with_reducible assumption | omega) (by first | with_reducible rfl | with_reducible assumption | omega)) (by first | with_reducible rfl | with_reducible assumption | omega) (by first | with_reducible rfl | with_reducible assumption | omega) (by first | with_reducible rfl | with_reducible assumption | omega) (by first | with_reducible rfl | with_reducible assumption | omega))) (show FsI (tf 6).toInt (pf123 13).toInt na105 from (FsI.le hfs (by first | with_reducible rfl | with_reducible assumption | omega))) (show LfP ta (tf 6).toInt na105 ma118 (na105 17) v108 (v108.toInt + 1) (pf123 13).toInt (3 * (bp ta (pf123 11) - bp ta (pf 11)) - 3) 200 from ⟨-1, _, hf_17_v108, Or.inl ⟨by decide, by decide, by first | with_reducible rfl | with_reducible assumption | omega⟩⟩) hw (lv_sub hl [1, 2, 3, 0] rfl)
    · have nc148 : v145.toInt = (0 : Int) := (i_eq (x := v145) (y := 0)).mp c148
      refine lv_aload_n S.x S.b d_Mpg_functionText_51 rfl (lv_at hl 1 rfl) ?_
      refine th_calli (ps0 := [wdP cs h r g tf ta pf na ma wa cf ca ef ea xf xa]) (pr := []) (pcs := [wdP cs h r g tf ta pf123 na105 ma118 wa cf ca ef ea xf xa]) (As := []) (rest := []) (c_mp_parameter l D cs h r g tf ta cf ca ef ea xf xa pf123 na105 ma118 wa  lv (show 0 ≤ (pf123 11).toInt from by first | exact oz_f3f97b7517 e126 e111 g0 | omega) (show (pf123 11).toInt < (tf 6).toInt from by first | exact e127 | omega) (show (tf 6).toInt ≤ 2049 from by first | exact g2 | omega) (show 0 ≤ (pf123 12).toInt from by first | exact oz_62c24a874c e130 e112 g3 | omega) (show (pf123 12).toInt ≤ 60 from by first | exact oz_6710fd9021 e130 e131 | omega) (show 0 ≤ (pf123 13).toInt from by first | exact oz_78ad3463af e132 e110 g4 | omega) (show (pf123 13).toInt ≤ (pf123 11).toInt + 10 from by first | exact oz_80eb9436a0 e126 e132 e110 e111 g5 | omega) (show 0 ≤ (pf123 26).toInt from by first | exact oz_cb6905aeac e135 e115 g6 | omega) (show (pf123 26).toInt ≤ (pf123 12).toInt from by first | exact oz_f1302bcb57 e130 e135 e112 e115 g3 g6 | omega) (show 61 ≤ (pf123 12).toInt + (lv : Int) from by first | with_reducible rfl | with_reducible assumption | omega) (show lv ≤ 61 from by first | with_reducible rfl | with_reducible assumption | omega) hlf htk (FsI.le (N' := (pf123 13).toInt) hfs (by first | with_reducible rfl | with_reducible assumption | omega))) S hT hw (oX_call (P := (fun A U H => (oN A U H) ∧ (oP A g U H))) (pr := []) (oG_and oG_N oG_P) hw hA ⟨hN, hP⟩) (px_recv hT hw 0 0 rfl rfl rfl) m12_93 m12_90 m12_92 ms_10_8 m1_21 q_Mpg_parameter ⟨show (8 * lv + 24) + 1 ≤ (8 * 61 + 30) from by first | with_reducible rfl | with_reducible assumption | omega, show 8 + (3 + 11) + (220 * lv + 1120) ≤ (220 * 61 + 1360) from by first | with_reducible rfl | with_reducible assumption | omega⟩ hl.1 rfl (Nat.le_of_ble_eq_true rfl) d_Mpg_functionText_52 ⟨Nat.le_of_ble_eq_true rfl, Nat.le_of_ble_eq_true rfl⟩ hne hlk hA hAe (fun o t h => Or.inr h) ?_ (fun v158 p157 H locs hp157 hw => ?_)
      · exact fun p1 H1 locs1 hp hw => by obtain ⟨pq1, pq2, pq3, pq4, rfl, hq1, hq2⟩ := hp; exact ⟨_, ⟨pq1, pq2, pq3, pq4, rfl, hq1, hq2⟩, hw⟩
      obtain ⟨pf153, na154, ma155, wa156, rfl, e159, e160, e161, e162, e163, e164, e165, e166, e167, e168, e169, e170, e171, e172⟩ := hp157
      have e159 : (pf123 11).toInt + 1 ≤ (pf153 11).toInt := e159
      have e160 : (pf153 11).toInt < (tf 6).toInt := e160
      have e161 : (pf123 13).toInt + 1 ≤ (pf153 13).toInt := e161
      have e162 : (pf153 13).toInt - (pf123 13).toInt ≤ (pf153 11).toInt - (pf123 11).toInt := e162
      have e163 : bp ta (pf123 11) + 1 ≤ bp ta (pf153 11) := e163
      have e164 : (pf153 12).toInt = (pf123 12).toInt := e164
      have e165 : (pf153 24).toInt = (pf123 24).toInt := e165
      have e166 : (pf153 25).toInt = (pf123 25).toInt := e166
      have e167 : (pf153 26).toInt = (pf123 26).toInt := e167
      have e168 : bp ta (pf123 11) + 2 ≤ bp ta (pf153 11) := e168
      have e169 : FrB (pf123 13).toInt na105 ma118 na154 ma155 := e169
      have hf_14_v108 := (fb_n e169 (by first | with_reducible rfl | with_reducible assumption | omega) (by first | with_reducible rfl | with_reducible assumption | omega)).trans hf_14_v108
      have hf_15_v108 := (fb_n e169 (by first | with_reducible rfl | with_reducible assumption | omega) (by first | with_reducible rfl | with_reducible assumption | omega)).trans hf_15_v108
      have hf_17_v108 := (fb_n e169 (by first | with_reducible rfl | with_reducible assumption | omega) (by first | with_reducible rfl | with_reducible assumption | omega)).trans hf_17_v108
      have hf_21_v108 := (fb_n e169 (by first | with_reducible rfl | with_reducible assumption | omega) (by first | with_reducible rfl | with_reducible assumption | omega)).trans hf_21_v108
      have hf_22_v108 := (fb_m e169 (by first | with_reducible rfl | with_reducible assumption | omega) (by first | with_reducible rfl | with_reducible assumption | omega)).trans hf_22_v108
      have hzg := hzg.ag fg_ok (FrB.ag e169 (by first | with_reducible rfl | with_reducible assumption | omega))
      have hfb := hfb.tr e169 (by first | with_reducible rfl | with_reducible assumption | omega)
      have e170 : FrW (pf123 26).toInt wa wa156 := e170
      have hfw := hfw.tr e170 (by first | with_reducible rfl | with_reducible assumption | omega)
      have e171 : VlP ta (tf 6).toInt na154 ma155 v158 (pf123 13).toInt (pf153 13).toInt (3 * (bp ta (pf153 11) - bp ta (pf123 11))) 130 := e171
      have hv_v158 := e171
      have hn_hv_v158 := hv_v158.num fp_ok
      have e172 : FsI (tf 6).toInt (pf153 13).toInt na154 := e172
      have hfs := e172
      have hw : pw D A s.heap H locs [wdP cs h r g tf ta pf153 na154 ma155 wa156 cf ca ef ea xf xa] := hw
      have lv158 := Int32.le_toInt v158
      have uv158 := Int32.toInt_lt v158
      refine lv_istore (lv' := [(4, .int v158), (3, .int v108), (0, .ref h), (1, .int p0), (2, .int p1)]) S.x S.b d_Mpg_functionText_55 hl (by decide) rfl (fun ls hl => ?_)
      refine lv_aload_n S.x S.b d_Mpg_functionText_57 rfl (lv_at hl 2 rfl) ?_
      refine px_get S k_Mpg hT hw 0 0 17 (v := .ref (r 17)) rfl rfl rfl (by decide) m10_1 d_Mpg_functionText_58 ?_
      refine lv_iload_n S.x S.b d_Mpg_functionText_61 rfl (lv_at hl 1 rfl) ?_
      refine lv_iload S.x S.b d_Mpg_functionText_62 (lv_at hl 0 rfl) ?_
      refine px_iast S hT hw 0 13 (n := 2100) (f := (na154 17)) (x := v108) (y := v158) rfl gp_17 (vp_in_iff.mpr (by constructor <;> omega)) d_Mpg_functionText_64 (w' := wdP cs h r g tf ta pf153 (va_up na154 17 (upd (na154 17) v108.toNatClampNeg v158)) ma155 wa156 cf ca ef ea xf xa) (ps' := [wdP cs h r g tf ta pf153 (va_up na154 17 (upd (na154 17) v108.toNatClampNeg v158)) ma155 wa156 cf ca ef ea xf xa]) sp_17 rfl (fun H locs hw => ?_)
      obtain ⟨na173, hu_na173⟩ : ∃ y : Nat → Nat → Int32, y = va_up na154 17 (upd (na154 17) v108.toNatClampNeg v158) := ⟨_, rfl⟩
      have hw : pw D A s.heap _ _ [wdP cs h r g tf ta pf153 na173 ma155 wa156 cf ca ef ea xf xa] := (by rw [hu_na173]; exact hw)
      have hv_v158 := hv_v158.ag fp_ok (ag_n hu_na173 (by first | with_reducible rfl | with_reducible assumption | omega) (by first | with_reducible rfl | with_reducible assumption | omega))
      have hf_14_v108 := (fl_n hu_na173 (by decide)).trans hf_14_v108
      have hf_15_v108 := (fl_n hu_na173 (by decide)).trans hf_15_v108
      have hf_21_v108 := (fl_n hu_na173 (by decide)).trans hf_21_v108
      have hf_17_v108 : na173 17 v108.toNatClampNeg = v158 := (by rw [hu_na173, va_up_s, pk_us])
      have hfs : FsI _ _ na173 := (by rw [hu_na173]; exact FsI.un hfs (by decide))
      have hfb : FrB 0 na ma na173 ma155 := (by rw [hu_na173]; exact FrB.un hfb (by first | with_reducible rfl | with_reducible assumption | omega) (by first | with_reducible rfl | with_reducible assumption | omega))
      have hzg := hzg.ag fg_ok (ag_n hu_na173 (by first | with_reducible rfl | with_reducible assumption | omega) (by first | with_reducible rfl | with_reducible assumption | omega))
      exact J65 (((tf 6).toInt - (pf153 11).toInt).toNat + 1) pf153 na173 ma155 wa156 v108 v158 _ _ ls (show (pf153 12).toInt = 1 from by first | exact oz_c7c6af1014 e164 e130 e112 g3 | omega) (show (pf153 26).toInt = 0 from by first | exact oz_5e358525a3 e167 e135 e115 g6 | omega) (show (pf153 24).toInt = (pf 24).toInt from by first | exact oz_e13fc83238 e113 e165 e133 | omega) (show (pf153 25).toInt = (pf 25).toInt from by first | exact oz_e13fc83238 e114 e166 e134 | omega) (show (pf 11).toInt + 1 ≤ (pf153 11).toInt from by first | exact oz_331f126945 e111 e159 e126 | omega) (show (pf153 11).toInt < (tf 6).toInt from by first | exact e160 | omega) (show v108.toInt = (pf 13).toInt from by first | exact e109 | omega) (show v108.toInt < (pf153 13).toInt from by first | exact oz_3cad8d1cbb e109 e161 e110 e132 | omega) (show (pf153 13).toInt - (pf 13).toInt ≤ (pf153 11).toInt - (pf 11).toInt + 1 from by first | exact oz_df00cd5788 e110 e111 e162 e126 e132 | omega) (show bp ta (pf 11) + 1 ≤ bp ta (pf153 11) from by first | with_reducible rfl | with_reducible assumption | omega) (show FrB 0 na ma na173 ma155 from hfb) (show FrW (pf 26).toInt wa wa156 from hfw) (show NdF (tf 6).toInt na173 v108 41 p1 from ⟨by first | with_reducible rfl | with_reducible assumption | omega, hf_14_v108, hf_15_v108, ⟨by first | with_reducible rfl | with_reducible assumption | omega, by first | with_reducible rfl | with_reducible assumption | omega⟩, hf_21_v108⟩) (show FlN ma155 22 v108 p0 from hf_22_v108) (show RzG ta (tf 6).toInt na173 ma155 (pf 24) (pf 25) 0 (pf 13).toInt (3 * bp ta (pf 11) - 12) 200 from (RzV.le (rz_eq hzg (by first | with_reducible rfl | with_reducible assumption | omega) (by first | with_reducible rfl | with_reducible assumption | omega)) (by first | with_reducible rfl | with_reducible assumption | omega) (by first | with_reducible rfl | with_reducible assumption | omega) (by first | with_reducible rfl | with_reducible assumption | omega) (by first | with_reducible rfl | with_reducible assumption | omega))) (show FsI (tf 6).toInt (pf153 13).toInt na173 from (FsI.le hfs (by first | with_reducible rfl | with_reducible assumption | omega))) (show v108.toInt + 1 ≤ v158.toInt from by first | with_reducible rfl | with_reducible assumption | omega) (show RfP ta (tf 6).toInt na173 ma155 (na173 17) v108 v158 (v108.toInt + 1) (pf153 13).toInt (3 * (bp ta (pf153 11) - bp ta (pf 11)) - 3) 200 from ⟨_, hf_17_v108, (RwV.le (row_0 hv_v158 fp_ok) (by first | with_reducible rfl | with_reducible assumption | omega) (by first | with_reducible rfl | with_reducible assumption | omega) (by first | with_reducible rfl | with_reducible assumption | omega) (by first | with_reducible rfl | with_reducible assumption | omega))⟩) (show (tf 6).toInt - (pf153 11).toInt < (((((tf 6).toInt - (pf153 11).toInt).toNat + 1 : Nat) : Int) : Int) from by first | exact oz_natlt | omega) hw (lv_sub hl [2, 3, 4, 1, 0] rfl)
  · have nc140 : ¬ v137.toInt = (0 : Int) := mt (i_eq (x := v137) (y := 0)).mpr c140
    refine lv_aload_n S.x S.b d_Mpg_functionText_29 rfl (lv_at hl 1 rfl) ?_
    refine lv_dup S.x S.b d_Mpg_functionText_30 rfl ?_
    refine px_get S k_Mpg hT hw 0 0 11 (v := .int (pf123 11)) rfl rfl rfl (by decide) m9_235 d_Mpg_functionText_31 ?_
    refine lv_iconst (v := 1) S.x S.b d_Mpg_functionText_34 (by decide) ?_
    refine lv_iadd S.x S.b d_Mpg_functionText_35 ?_
    have lr174 := Int32.le_toInt (pf123 11)
    have ur174 := Int32.toInt_lt (pf123 11)
    refine lv_topi (fun z175 ez175 => ?_)
    have tz175 : z175.toInt = ((pf123 11).toInt + (1 : Int) + 2147483648) % 4294967296 - 2147483648 := by rw [ez175]; exact i_add (pf123 11) 1
    have lz175 := Int32.le_toInt z175
    have uz175 := Int32.toInt_lt z175
    try replace tz175 : z175.toInt = (pf123 11).toInt + (1 : Int) := by omega
    have hnx35 := tk_n htk (x := (pf123 11)) (y := z175) (by first | with_reducible rfl | with_reducible assumption | omega) (by first | with_reducible rfl | with_reducible assumption | omega) (by first | with_reducible rfl | with_reducible assumption | omega)
    refine px_put S k_Mpg hT hw 0 0 11 rfl rfl (by decide) m9_235 rfl rfl rfl (Nat.le_of_ble_eq_true rfl) d_Mpg_functionText_36 (w' := wdP cs h r g tf ta (upd pf123 11 z175) na105 ma118 wa cf ca ef ea xf xa) (ps' := [wdP cs h r g tf ta (upd pf123 11 z175) na105 ma118 wa cf ca ef ea xf xa]) rfl rfl (fun H locs hw => ?_)
    refine lv_goto (tgt := 96) S.x S.b d_Mpg_functionText_39 (by decide) ?_
    exact J96 (upd pf123 11 z175) na105 ma118 wa v108 _ _ ls (show (pf123 12).toInt = 1 from by first | exact oz_43d0241111 e130 e112 g3 | omega) (show (pf123 26).toInt = 0 from by first | exact oz_bfc0cf0d20 e135 e115 g6 | omega) (show (pf123 24).toInt = (pf 24).toInt from by first | exact oz_1687f4cc65 e113 e133 | omega) (show (pf123 25).toInt = (pf 25).toInt from by first | exact oz_1687f4cc65 e114 e134 | omega) (show (pf 11).toInt + 1 ≤ z175.toInt from by first | exact oz_37974aa2b0 e111 tz175 e126 | omega) (show z175.toInt < (tf 6).toInt from by first | with_reducible rfl | with_reducible assumption | omega) (show v108.toInt = (pf 13).toInt from by first | exact e109 | omega) (show v108.toInt < (pf123 13).toInt from by first | exact oz_c94e31fc97 e109 e132 e110 | omega) (show (pf123 13).toInt - (pf 13).toInt ≤ z175.toInt - (pf 11).toInt + 1 from by first | exact oz_cb1da57d7e e110 e111 e132 tz175 e126 | omega) (show bp ta (pf 11) + 1 ≤ bp ta z175 from by first | with_reducible rfl | with_reducible assumption | omega) (show FrB 0 na ma na105 ma118 from hfb) (show FrW (pf 26).toInt wa wa from hfw) (show NdF (tf 6).toInt na105 v108 41 p1 from ⟨by first | with_reducible rfl | with_reducible assumption | omega, hf_14_v108, hf_15_v108, ⟨by first | with_reducible rfl | with_reducible assumption | omega, by first | with_reducible rfl | with_reducible assumption | omega⟩, hf_21_v108⟩) (show FlN ma118 22 v108 p0 from hf_22_v108) (show RzG ta (tf 6).toInt na105 ma118 (pf 24) (pf 25) 0 (pf 13).toInt (3 * bp ta (pf 11) - 12) 200 from (RzV.le (rz_eq hzg (by first | with_reducible rfl | with_reducible assumption | omega) (by first | with_reducible rfl | with_reducible assumption | omega)) (by first | with_reducible rfl | with_reducible assumption | omega) (by first | with_reducible rfl | with_reducible assumption | omega) (by first | with_reducible rfl | with_reducible assumption | omega) (by first | with_reducible rfl | with_reducible assumption | omega))) (show FsI (tf 6).toInt (pf123 13).toInt na105 from (FsI.le hfs (by first | with_reducible rfl | with_reducible assumption | omega))) (show LfP ta (tf 6).toInt na105 ma118 (na105 17) v108 (v108.toInt + 1) (pf123 13).toInt (3 * (bp ta z175 - bp ta (pf 11)) - 3) 200 from ⟨-1, _, hf_17_v108, Or.inl ⟨by decide, by decide, by first | with_reducible rfl | with_reducible assumption | omega⟩⟩) hw (lv_sub hl [1, 2, 3, 0] rfl)
abbrev b_Mpg_piece : ByteArray := prog_16_method_61_code
def y_Mpg_piece : MethodName := ⟨"HomeSystemModel$Program", "piece", "()V"⟩
theorem d_Mpg_piece_0 : decode b_Mpg_piece 0 = .ok (.aload_n 0, 1) := by decide +kernel
theorem d_Mpg_piece_1 : decode b_Mpg_piece 1 = .ok (.iconst 3, 1) := by decide +kernel
theorem d_Mpg_piece_2 : decode b_Mpg_piece 2 = .ok (.invokevirtual 377, 3) := by decide +kernel
theorem d_Mpg_piece_5 : decode b_Mpg_piece 5 = .ok (.ifCond .eq 8, 3) := by decide +kernel
theorem d_Mpg_piece_8 : decode b_Mpg_piece 8 = .ok (.aload_n 0, 1) := by decide +kernel
theorem d_Mpg_piece_9 : decode b_Mpg_piece 9 = .ok (.invokevirtual 512, 3) := by decide +kernel
theorem d_Mpg_piece_12 : decode b_Mpg_piece 12 = .ok (.return_, 1) := by decide +kernel
theorem d_Mpg_piece_13 : decode b_Mpg_piece 13 = .ok (.aload_n 0, 1) := by decide +kernel
theorem d_Mpg_piece_14 : decode b_Mpg_piece 14 = .ok (.aload_n 0, 1) := by decide +kernel
theorem d_Mpg_piece_15 : decode b_Mpg_piece 15 = .ok (.invokevirtual 473, 3) := by decide +kernel
theorem d_Mpg_piece_18 : decode b_Mpg_piece 18 = .ok (.ifCond .ne 11, 3) := by decide +kernel
theorem d_Mpg_piece_21 : decode b_Mpg_piece 21 = .ok (.aload_n 0, 1) := by decide +kernel
theorem d_Mpg_piece_22 : decode b_Mpg_piece 22 = .ok (.iconst 2, 1) := by decide +kernel
theorem d_Mpg_piece_23 : decode b_Mpg_piece 23 = .ok (.invokevirtual 377, 3) := by decide +kernel
theorem d_Mpg_piece_26 : decode b_Mpg_piece 26 = .ok (.ifCond .eq 7, 3) := by decide +kernel
theorem d_Mpg_piece_29 : decode b_Mpg_piece 29 = .ok (.iconst 1, 1) := by decide +kernel
theorem d_Mpg_piece_30 : decode b_Mpg_piece 30 = .ok (.goto 4, 3) := by decide +kernel
theorem d_Mpg_piece_33 : decode b_Mpg_piece 33 = .ok (.iconst 0, 1) := by decide +kernel
theorem d_Mpg_piece_34 : decode b_Mpg_piece 34 = .ok (.invokevirtual 373, 3) := by decide +kernel
theorem d_Mpg_piece_37 : decode b_Mpg_piece 37 = .ok (.aload_n 0, 1) := by decide +kernel
theorem d_Mpg_piece_38 : decode b_Mpg_piece 38 = .ok (.getfield 204, 3) := by decide +kernel
theorem d_Mpg_piece_41 : decode b_Mpg_piece 41 = .ok (.aload_n 0, 1) := by decide +kernel
theorem d_Mpg_piece_42 : decode b_Mpg_piece 42 = .ok (.getfield 360, 3) := by decide +kernel
theorem d_Mpg_piece_45 : decode b_Mpg_piece 45 = .ok (.iaload, 1) := by decide +kernel
theorem d_Mpg_piece_46 : decode b_Mpg_piece 46 = .ok (.istore_n 1, 1) := by decide +kernel
theorem d_Mpg_piece_47 : decode b_Mpg_piece 47 = .ok (.aload_n 0, 1) := by decide +kernel
theorem d_Mpg_piece_48 : decode b_Mpg_piece 48 = .ok (.getfield 201, 3) := by decide +kernel
theorem d_Mpg_piece_51 : decode b_Mpg_piece 51 = .ok (.aload_n 0, 1) := by decide +kernel
theorem d_Mpg_piece_52 : decode b_Mpg_piece 52 = .ok (.getfield 360, 3) := by decide +kernel
theorem d_Mpg_piece_55 : decode b_Mpg_piece 55 = .ok (.iconst 1, 1) := by decide +kernel
theorem d_Mpg_piece_56 : decode b_Mpg_piece 56 = .ok (.iadd, 1) := by decide +kernel
theorem d_Mpg_piece_57 : decode b_Mpg_piece 57 = .ok (.baload, 1) := by decide +kernel
theorem d_Mpg_piece_58 : decode b_Mpg_piece 58 = .ok (.iconst 1, 1) := by decide +kernel
theorem d_Mpg_piece_59 : decode b_Mpg_piece 59 = .ok (.if_icmp .ne 22, 3) := by decide +kernel
theorem d_Mpg_piece_62 : decode b_Mpg_piece 62 = .ok (.aload_n 0, 1) := by decide +kernel
theorem d_Mpg_piece_63 : decode b_Mpg_piece 63 = .ok (.aload_n 0, 1) := by decide +kernel
theorem d_Mpg_piece_64 : decode b_Mpg_piece 64 = .ok (.getfield 360, 3) := by decide +kernel
theorem d_Mpg_piece_67 : decode b_Mpg_piece 67 = .ok (.iconst 2, 1) := by decide +kernel
theorem d_Mpg_piece_68 : decode b_Mpg_piece 68 = .ok (.iadd, 1) := by decide +kernel
theorem d_Mpg_piece_69 : decode b_Mpg_piece 69 = .ok (.ldc 87, 2) := by decide +kernel
theorem d_Mpg_piece_71 : decode b_Mpg_piece 71 = .ok (.invokevirtual 363, 3) := by decide +kernel
theorem d_Mpg_piece_74 : decode b_Mpg_piece 74 = .ok (.ifCond .eq 7, 3) := by decide +kernel
theorem d_Mpg_piece_77 : decode b_Mpg_piece 77 = .ok (.iconst 1, 1) := by decide +kernel
theorem d_Mpg_piece_78 : decode b_Mpg_piece 78 = .ok (.goto 4, 3) := by decide +kernel
theorem d_Mpg_piece_81 : decode b_Mpg_piece 81 = .ok (.iconst 0, 1) := by decide +kernel
theorem d_Mpg_piece_82 : decode b_Mpg_piece 82 = .ok (.istore_n 2, 1) := by decide +kernel
theorem d_Mpg_piece_83 : decode b_Mpg_piece 83 = .ok (.iload_n 2, 1) := by decide +kernel
theorem d_Mpg_piece_84 : decode b_Mpg_piece 84 = .ok (.ifCond .ne 8, 3) := by decide +kernel
theorem d_Mpg_piece_87 : decode b_Mpg_piece 87 = .ok (.iload_n 1, 1) := by decide +kernel
theorem d_Mpg_piece_88 : decode b_Mpg_piece 88 = .ok (.iconst 2, 1) := by decide +kernel
theorem d_Mpg_piece_89 : decode b_Mpg_piece 89 = .ok (.if_icmp .ne 35, 3) := by decide +kernel
theorem d_Mpg_piece_92 : decode b_Mpg_piece 92 = .ok (.aload_n 0, 1) := by decide +kernel
theorem d_Mpg_piece_93 : decode b_Mpg_piece 93 = .ok (.dup, 1) := by decide +kernel
theorem d_Mpg_piece_94 : decode b_Mpg_piece 94 = .ok (.getfield 360, 3) := by decide +kernel
theorem d_Mpg_piece_97 : decode b_Mpg_piece 97 = .ok (.iconst 1, 1) := by decide +kernel
theorem d_Mpg_piece_98 : decode b_Mpg_piece 98 = .ok (.iadd, 1) := by decide +kernel
theorem d_Mpg_piece_99 : decode b_Mpg_piece 99 = .ok (.putfield 360, 3) := by decide +kernel
theorem d_Mpg_piece_102 : decode b_Mpg_piece 102 = .ok (.aload_n 0, 1) := by decide +kernel
theorem d_Mpg_piece_103 : decode b_Mpg_piece 103 = .ok (.invokevirtual 442, 3) := by decide +kernel
theorem d_Mpg_piece_106 : decode b_Mpg_piece 106 = .ok (.istore_n 3, 1) := by decide +kernel
theorem d_Mpg_piece_107 : decode b_Mpg_piece 107 = .ok (.aload_n 0, 1) := by decide +kernel
theorem d_Mpg_piece_108 : decode b_Mpg_piece 108 = .ok (.aload_n 0, 1) := by decide +kernel
theorem d_Mpg_piece_109 : decode b_Mpg_piece 109 = .ok (.ldc 87, 2) := by decide +kernel
theorem d_Mpg_piece_111 : decode b_Mpg_piece 111 = .ok (.invokevirtual 366, 3) := by decide +kernel
theorem d_Mpg_piece_114 : decode b_Mpg_piece 114 = .ok (.invokevirtual 373, 3) := by decide +kernel
theorem d_Mpg_piece_117 : decode b_Mpg_piece 117 = .ok (.aload_n 0, 1) := by decide +kernel
theorem d_Mpg_piece_118 : decode b_Mpg_piece 118 = .ok (.iload_n 1, 1) := by decide +kernel
theorem d_Mpg_piece_119 : decode b_Mpg_piece 119 = .ok (.iload_n 3, 1) := by decide +kernel
theorem d_Mpg_piece_120 : decode b_Mpg_piece 120 = .ok (.invokevirtual 515, 3) := by decide +kernel
theorem d_Mpg_piece_123 : decode b_Mpg_piece 123 = .ok (.return_, 1) := by decide +kernel
theorem d_Mpg_piece_124 : decode b_Mpg_piece 124 = .ok (.aload_n 0, 1) := by decide +kernel
theorem d_Mpg_piece_125 : decode b_Mpg_piece 125 = .ok (.aload_n 0, 1) := by decide +kernel
theorem d_Mpg_piece_126 : decode b_Mpg_piece 126 = .ok (.invokevirtual 476, 3) := by decide +kernel
theorem d_Mpg_piece_129 : decode b_Mpg_piece 129 = .ok (.invokevirtual 506, 3) := by decide +kernel
theorem d_Mpg_piece_132 : decode b_Mpg_piece 132 = .ok (.return_, 1) := by decide +kernel
theorem q_Mpg_piece : px_y y_Mpg_piece 0 := by unfold px_y; decide +kernel
set_option maxHeartbeats 4000000 in
set_option maxRecDepth 100000 in
theorem c_mp_piece (l : Launch) (D : va_G) (cs : Nat → ClassId) (h : Nat) (r : Nat → Nat) (g : Nat → Nat → Option Nat) (tf : Nat → Int32) (ta : Nat → Nat → Int32) (cf : Nat → Int32) (ca : Nat → Nat → Int32) (ef : Nat → Int32) (ea : Nat → Nat → Int32) (xf : Nat → Int32) (xa : Nat → Nat → Int32) (pf : Nat → Int32) (na : Nat → Nat → Int32) (ma : Nat → Nat → Int32) (wa : Nat → Nat → Int32)  (g0 : 0 ≤ (pf 11).toInt) (g1 : (pf 11).toInt < (tf 6).toInt) (g2 : (tf 6).toInt ≤ 2049) (g3 : (pf 12).toInt = 0) (g4 : 0 ≤ (pf 13).toInt) (g5 : (pf 13).toInt ≤ (pf 11).toInt + 10) (g6 : (pf 26).toInt = 0) (g7 : -1 ≤ (pf 25).toInt) (g8 : (pf 25).toInt < (pf 13).toInt) (hlf : l.flags = pinnedFlags ++ [noTraceFlag]) (htk : TkI tf ta) (hfs : FsI (tf 6).toInt (pf 13).toInt na) (hzg : RzG ta (tf 6).toInt na ma (pf 24) (pf 25) 0 (pf 13).toInt (3 * bp ta (pf 11)) 200) : ThV l y_Mpg_piece b_Mpg_piece 4 D cs (8 * 61 + 32) (220 * 61 + 1440) [.ref h] [wdP cs h r g tf ta pf na ma wa cf ca ef ea xf xa] (oX (fun A U H => (oN A U H) ∧ (oP A g U H)) [wdP cs h r g tf ta pf na ma wa cf ca ef ea xf xa]) "java/lang/IllegalArgumentException" (fun ps => ∃ (pf' : Nat → Int32) (na' : Nat → Nat → Int32) (ma' : Nat → Nat → Int32) (wa' : Nat → Nat → Int32), (ps = [wdP cs h r g tf ta pf' na' ma' wa' cf ca ef ea xf xa]) ∧ ((pf 11).toInt + 1 ≤ (pf' 11).toInt) ∧ ((pf' 11).toInt < (tf 6).toInt) ∧ ((pf 13).toInt ≤ (pf' 13).toInt) ∧ ((pf' 13).toInt - (pf 13).toInt ≤ (pf' 11).toInt - (pf 11).toInt) ∧ (bp ta (pf 11) + 1 ≤ bp ta (pf' 11)) ∧ ((pf' 12).toInt = 0) ∧ ((pf' 26).toInt = 0) ∧ (-1 ≤ (pf' 25).toInt) ∧ ((pf' 25).toInt < (pf' 13).toInt) ∧ (RzG ta (tf 6).toInt na' ma' (pf' 24) (pf' 25) 0 (pf' 13).toInt (3 * bp ta (pf' 11)) 200) ∧ (FsI (tf 6).toInt (pf' 13).toInt na')) (fun ps => ∃ (pf' : Nat → Int32) (na' : Nat → Nat → Int32) (ma' : Nat → Nat → Int32) (wa' : Nat → Nat → Int32), ps = [wdP cs h r g tf ta pf' na' ma' wa' cf ca ef ea xf xa] ∧ 0 ≤ (pf' 11).toInt ∧ (pf' 11).toInt + 1 ≤ (tf 6).toInt) := by
  refine th_enter (by decide) (Nat.le_of_ble_eq_true rfl) ?_
  intro p e s m below meth c A ls hAe S hr hlk hnm hA hT hX hw hl hne hadm
  have hl : lv_has ls 4 [(0, .ref h)] := hl
  have cst0 : (0 : Int32).toInt = 0 := rfl
  have cst1 : (1 : Int32).toInt = 1 := rfl
  have cst2 : (2 : Int32).toInt = 2 := rfl
  have cst3 : (3 : Int32).toInt = 3 := rfl
  have hX : (fun A U H => (oN A U H) ∧ (oP A g U H)) A s s.heap := by rw [hAe]; exact hX
  obtain ⟨hN, hP⟩ := hX
  have hZ := hP.1
  have hF0 := hP.2.1
  obtain ⟨lv, hlv⟩ : ∃ y : Nat, y = 61 := ⟨_, rfl⟩
  have hfb : FrB 0 na ma na ma := FrB.rf
  have hfw : FrW (pf 26).toInt wa wa := FrW.rf
  have hb11 := tk_b htk (x := (pf 11)) (by first | with_reducible rfl | with_reducible assumption | omega) (by first | with_reducible rfl | with_reducible assumption | omega)
  refine lv_aload_n S.x S.b d_Mpg_piece_0 rfl (lv_at hl 0 rfl) ?_
  refine lv_iconst (v := 3) S.x S.b d_Mpg_piece_1 (by decide) ?_
  refine px_calli (pr := []) (px_runV (As := [.int 3]) (rest := []) S (c_mp_isKey l D cs h r g tf ta pf na ma wa cf ca ef ea xf xa 3  (show 0 ≤ (pf 11).toInt from by first | exact g0 | omega) (show (pf 11).toInt < (tf 6).toInt from by first | exact g1 | omega) (show (tf 6).toInt ≤ 2049 from by first | exact g2 | omega) htk _) hT (pr := []) (pcs := [wdP cs h r g tf ta pf na ma wa cf ca ef ea xf xa]) hw px_X.tt (px_recv hT hw 0 0 rfl rfl rfl) m11_201 m11_198 m11_200 ms_8_10 m1_21 q_Mpg_isKey ⟨show 0 + 1 ≤ (8 * 61 + 32) from by first | with_reducible rfl | with_reducible assumption | omega, show 8 + (2 + 11) + 0 ≤ (220 * 61 + 1440) from by first | with_reducible rfl | with_reducible assumption | omega⟩ hl.1 rfl (Nat.le_of_ble_eq_true rfl) d_Mpg_piece_2 ⟨Nat.le_of_ble_eq_true rfl, Nat.le_of_ble_eq_true rfl⟩) hw hA (fun v2 p1 H locs hp1 hw => ?_)
  obtain ⟨rfl, e3, e4⟩ := hp1
  have e3 := z_rng e3
  have e4 : v2.toInt = 1 → (pf 11).toInt + 1 < (tf 6).toInt ∧ so ta (pf 11) = 2 ∧ wh ta (pf 11) = (3 : Int) := e4
  have hw : pw D A s.heap H locs [wdP cs h r g tf ta pf na ma wa cf ca ef ea xf xa] := hw
  have lv2 := Int32.le_toInt v2
  have uv2 := Int32.toInt_lt v2
  refine lv_if_eq (tgt := 13) S.x S.b d_Mpg_piece_5 (by decide) (fun c5 => ?_) (fun c5 => ?_)
  · have nc5 : v2.toInt = (0 : Int) := (i_eq (x := v2) (y := 0)).mp c5
    refine lv_aload_n S.x S.b d_Mpg_piece_13 rfl (lv_at hl 0 rfl) ?_
    refine lv_aload_n S.x S.b d_Mpg_piece_14 rfl (lv_at hl 0 rfl) ?_
    refine px_calli (pr := []) (px_runV (As := []) (rest := [.ref h]) S (c_mp_isType l D cs h r g tf ta pf na ma wa cf ca ef ea xf xa   (show 0 ≤ (pf 11).toInt from by first | exact g0 | omega) (show (pf 11).toInt < (tf 6).toInt from by first | exact g1 | omega) (show (tf 6).toInt ≤ 2049 from by first | exact g2 | omega) htk _) hT (pr := []) (pcs := [wdP cs h r g tf ta pf na ma wa cf ca ef ea xf xa]) hw px_X.tt (px_recv hT hw 0 0 rfl rfl rfl) m12_85 m12_82 m12_84 ms_10_6 m1_21 q_Mpg_isType ⟨show 1 + 1 ≤ (8 * 61 + 32) from by first | with_reducible rfl | with_reducible assumption | omega, show 8 + (1 + 11) + 40 ≤ (220 * 61 + 1440) from by first | with_reducible rfl | with_reducible assumption | omega⟩ hl.1 rfl (Nat.le_of_ble_eq_true rfl) d_Mpg_piece_15 ⟨Nat.le_of_ble_eq_true rfl, Nat.le_of_ble_eq_true rfl⟩) hw hA (fun v7 p6 H locs hp6 hw => ?_)
    obtain ⟨rfl, e8, e9⟩ := hp6
    have e8 := z_rng e8
    have e9 : v7.toInt = 1 → (pf 11).toInt + 1 < (tf 6).toInt ∧ so ta (pf 11) = 2 ∧ 0 ≤ wh ta (pf 11) ∧ wh ta (pf 11) ≤ 1 := e9
    have hw : pw D A s.heap H locs [wdP cs h r g tf ta pf na ma wa cf ca ef ea xf xa] := hw
    have lv7 := Int32.le_toInt v7
    have uv7 := Int32.toInt_lt v7
    refine lv_if_ne (tgt := 29) S.x S.b d_Mpg_piece_18 (by decide) (fun c10 => ?_) (fun c10 => ?_)
    · have nc10 : ¬ v7.toInt = (0 : Int) := mt (i_eq (x := v7) (y := 0)).mpr c10
      refine lv_iconst (v := 1) S.x S.b d_Mpg_piece_29 (by decide) ?_
      refine lv_goto (tgt := 34) S.x S.b d_Mpg_piece_30 (by decide) ?_
      refine th_callv (ps0 := [wdP cs h r g tf ta pf na ma wa cf ca ef ea xf xa]) (pr := [wdP cs h r g tf ta pf na ma wa cf ca ef ea xf xa]) (pcs := []) (As := [.int 1]) (rest := []) (c_mp_need l hlf D cs h 1) S hT hw (oX_call (P := (fun A U H => (oN A U H))) (pr := [wdP cs h r g tf ta pf na ma wa cf ca ef ea xf xa]) oG_N hw hA hN) (px_recv hT hw 0 0 rfl rfl rfl) m11_233 m11_230 m11_232 ms_9_0 m1_21 q_Mpg_need ⟨show 6 + 1 ≤ (8 * 61 + 32) from by first | with_reducible rfl | with_reducible assumption | omega, show 8 + (2 + 11) + 100 ≤ (220 * 61 + 1440) from by first | with_reducible rfl | with_reducible assumption | omega⟩ hl.1 rfl (Nat.le_of_ble_eq_true rfl) d_Mpg_piece_34 ⟨Nat.le_of_ble_eq_true rfl, Nat.le_of_ble_eq_true rfl⟩ hne hlk hA hAe (fun o t h => Or.inr h) ?_ (fun p11 H locs hp11 hw => ?_)
      · exact fun p1 H1 locs1 hp hw => by subst hp; exact ⟨_, ⟨pf, na, ma, wa, rfl, by first | with_reducible rfl | with_reducible assumption | omega, by first | with_reducible rfl | with_reducible assumption | omega⟩, hw.sub [0] rfl rfl⟩
      obtain ⟨rfl, hndp11⟩ := hp11
      have hndp11 : ¬ (1 : Int) = 0 := hndp11
      have hw : pw D A s.heap H locs [wdP cs h r g tf ta pf na ma wa cf ca ef ea xf xa] := hw
      refine lv_aload_n S.x S.b d_Mpg_piece_37 rfl (lv_at hl 0 rfl) ?_
      refine px_get S k_Mpg hT hw 0 0 10 (v := .ref (r 10)) rfl rfl rfl (by decide) m9_234 d_Mpg_piece_38 ?_
      refine lv_aload_n S.x S.b d_Mpg_piece_41 rfl (lv_at hl 0 rfl) ?_
      refine px_get S k_Mpg hT hw 0 0 11 (v := .int (pf 11)) rfl rfl rfl (by decide) m9_235 d_Mpg_piece_42 ?_
      refine px_iald S hT hw 0 9 (n := 2060) (f := (ta 10)) rfl gp_10 (x := (pf 11)) (vp_in_iff.mpr (by first | exact oz_846323bf3a g0 g1 g2 | (constructor <;> omega))) d_Mpg_piece_45 ?_
      refine lv_topi (fun z13 ez13 => ?_)
      have lz13 := Int32.le_toInt z13
      have uz13 := Int32.toInt_lt z13
      have rz13 : z13.toInt = wh ta (pf 11) := by rw [ez13]; rfl
      have hk3 := tk_k3 htk (x := (pf 11)) (by first | with_reducible rfl | with_reducible assumption | omega) (by first | with_reducible rfl | with_reducible assumption | omega) (by first | with_reducible rfl | with_reducible assumption | omega) (by first | with_reducible rfl | with_reducible assumption | omega)
      refine lv_istore_n (lv' := [(1, .int z13), (0, .ref h)]) S.x S.b d_Mpg_piece_46 rfl hl (by decide) rfl (fun ls hl => ?_)
      refine lv_aload_n S.x S.b d_Mpg_piece_47 rfl (lv_at hl 1 rfl) ?_
      refine px_get S k_Mpg hT hw 0 0 9 (v := .ref (r 9)) rfl rfl rfl (by decide) m9_233 d_Mpg_piece_48 ?_
      refine lv_aload_n S.x S.b d_Mpg_piece_51 rfl (lv_at hl 1 rfl) ?_
      refine px_get S k_Mpg hT hw 0 0 11 (v := .int (pf 11)) rfl rfl rfl (by decide) m9_235 d_Mpg_piece_52 ?_
      refine lv_iconst (v := 1) S.x S.b d_Mpg_piece_55 (by decide) ?_
      refine lv_iadd S.x S.b d_Mpg_piece_56 ?_
      have lr14 := Int32.le_toInt (pf 11)
      have ur14 := Int32.toInt_lt (pf 11)
      refine lv_topi (fun z15 ez15 => ?_)
      have tz15 : z15.toInt = ((pf 11).toInt + (1 : Int) + 2147483648) % 4294967296 - 2147483648 := by rw [ez15]; exact i_add (pf 11) 1
      have lz15 := Int32.le_toInt z15
      have uz15 := Int32.toInt_lt z15
      try replace tz15 : z15.toInt = (pf 11).toInt + (1 : Int) := by omega
      refine px_bald S hT hw 0 8 (n := 2060) (f := (ta 9)) rfl gp_9 (x := z15) (vp_in_iff.mpr (by first | exact oz_b51d39aa29 tz15 g0 g1 g2 | (constructor <;> omega))) d_Mpg_piece_57 ?_
      refine lv_topi (fun z16 ez16 => ?_)
      have lz16 := Int32.le_toInt z16
      have uz16 := Int32.toInt_lt z16
      have rz16 := tk_s htk (x := z15) (by first | with_reducible rfl | with_reducible assumption | omega) (by first | with_reducible rfl | with_reducible assumption | omega) ez16
      refine lv_iconst (v := 1) S.x S.b d_Mpg_piece_58 (by decide) ?_
      refine lv_icmp_ne (tgt := 81) S.x S.b d_Mpg_piece_59 (by decide) (fun c17 => ?_) (fun c17 => ?_)
      · have nc17 : ¬ z16.toInt = (1 : Int) := mt (i_eq (x := z16) (y := 1)).mpr c17
        refine lv_iconst (v := 0) S.x S.b d_Mpg_piece_81 (by decide) ?_
        refine lv_istore_n (lv' := [(2, .int 0), (1, .int z13), (0, .ref h)]) S.x S.b d_Mpg_piece_82 rfl hl (by decide) rfl (fun ls hl => ?_)
        refine lv_iload_n S.x S.b d_Mpg_piece_83 rfl (lv_at hl 0 rfl) ?_
        refine lv_if_ne (tgt := 92) S.x S.b d_Mpg_piece_84 (by decide) (fun c18 => ?_) (fun c18 => ?_)
        · exact absurd c18 (by decide)
        ·
          refine lv_iload_n S.x S.b d_Mpg_piece_87 rfl (lv_at hl 1 rfl) ?_
          refine lv_iconst (v := 2) S.x S.b d_Mpg_piece_88 (by decide) ?_
          refine lv_icmp_ne (tgt := 124) S.x S.b d_Mpg_piece_89 (by decide) (fun c19 => ?_) (fun c19 => ?_)
          · have nc19 : ¬ z13.toInt = (2 : Int) := mt (i_eq (x := z13) (y := 2)).mpr c19
            refine lv_aload_n S.x S.b d_Mpg_piece_124 rfl (lv_at hl 2 rfl) ?_
            refine lv_aload_n S.x S.b d_Mpg_piece_125 rfl (lv_at hl 2 rfl) ?_
            refine th_calli (ps0 := [wdP cs h r g tf ta pf na ma wa cf ca ef ea xf xa]) (pr := []) (pcs := [wdP cs h r g tf ta pf na ma wa cf ca ef ea xf xa]) (As := []) (rest := [.ref h]) (c_mp_declaration l D cs h r g tf ta cf ca ef ea xf xa pf na ma wa  lv (show 0 ≤ (pf 11).toInt from by first | exact g0 | omega) (show (pf 11).toInt < (tf 6).toInt from by first | exact g1 | omega) (show (tf 6).toInt ≤ 2049 from by first | exact g2 | omega) (show 0 ≤ (pf 12).toInt from by first | exact oz_b1de7dbe7e g3 | omega) (show (pf 12).toInt ≤ 60 from by first | exact oz_c48710cd70 g3 | omega) (show 0 ≤ (pf 13).toInt from by first | exact g4 | omega) (show (pf 13).toInt ≤ (pf 11).toInt + 10 from by first | exact g5 | omega) (show 0 ≤ (pf 26).toInt from by first | exact oz_b1de7dbe7e g6 | omega) (show (pf 26).toInt ≤ (pf 12).toInt from by first | exact oz_aca53b6681 g3 g6 | omega) (show 61 ≤ (pf 12).toInt + (lv : Int) from by first | with_reducible rfl | with_reducible assumption | omega) (show lv ≤ 61 from by first | with_reducible rfl | with_reducible assumption | omega) (show (pf 11).toInt + 1 < (tf 6).toInt from by first | with_reducible rfl | with_reducible assumption | omega) (show so ta (pf 11) = 2 from by first | with_reducible rfl | with_reducible assumption | omega) (show 0 ≤ wh ta (pf 11) from by first | exact hk3.2 | omega) (show wh ta (pf 11) ≤ 1 from by first | with_reducible rfl | with_reducible assumption | omega) hlf htk (FsI.le (N' := (pf 13).toInt) hfs (by first | with_reducible rfl | with_reducible assumption | omega))) S hT hw (oX_call (P := (fun A U H => (oN A U H) ∧ (oP A g U H))) (pr := []) (oG_and oG_N oG_P) hw hA ⟨hN, hP⟩) (px_recv hT hw 0 0 rfl rfl rfl) m12_105 m12_102 m12_104 ms_10_11 m1_21 q_Mpg_declaration ⟨show (8 * lv + 25) + 1 ≤ (8 * 61 + 32) from by first | with_reducible rfl | with_reducible assumption | omega, show 8 + (2 + 11) + (220 * lv + 1160) ≤ (220 * 61 + 1440) from by first | with_reducible rfl | with_reducible assumption | omega⟩ hl.1 rfl (Nat.le_of_ble_eq_true rfl) d_Mpg_piece_126 ⟨Nat.le_of_ble_eq_true rfl, Nat.le_of_ble_eq_true rfl⟩ hne hlk hA hAe (fun o t h => Or.inr h) ?_ (fun v29 p28 H locs hp28 hw => ?_)
            · exact fun p1 H1 locs1 hp hw => by obtain ⟨pq1, pq2, pq3, pq4, rfl, hq1, hq2⟩ := hp; exact ⟨_, ⟨pq1, pq2, pq3, pq4, rfl, hq1, hq2⟩, hw⟩
            obtain ⟨pf24, na25, ma26, wa27, rfl, e30, e31, e32, e33, e34, e35, e36, e37, e38, e39, e40, e41, e42, e43⟩ := hp28
            have e30 : (pf 11).toInt + 1 ≤ (pf24 11).toInt := e30
            have e31 : (pf24 11).toInt < (tf 6).toInt := e31
            have e32 : (pf 13).toInt + 1 ≤ (pf24 13).toInt := e32
            have e33 : (pf24 13).toInt - (pf 13).toInt ≤ (pf24 11).toInt - (pf 11).toInt := e33
            have e34 : bp ta (pf 11) + 1 ≤ bp ta (pf24 11) := e34
            have e35 : (pf24 12).toInt = (pf 12).toInt := e35
            have e36 : (pf24 24).toInt = (pf 24).toInt := e36
            have e37 : (pf24 25).toInt = (pf 25).toInt := e37
            have e38 : (pf24 26).toInt = (pf 26).toInt := e38
            have e39 : FrB (pf 13).toInt na ma na25 ma26 := e39
            have hzg := hzg.ag fg_ok (FrB.ag e39 (by first | with_reducible rfl | with_reducible assumption | omega))
            have hfb := hfb.tr e39 (by first | with_reducible rfl | with_reducible assumption | omega)
            have e40 : FrW (pf 26).toInt wa wa27 := e40
            have hfw := hfw.tr e40 (by first | with_reducible rfl | with_reducible assumption | omega)
            have e41 : VlS ta (tf 6).toInt na25 ma26 v29 (pf 13).toInt (pf24 13).toInt (3 * (bp ta (pf24 11) - bp ta (pf 11))) (200 - (pf 12).toInt) := e41
            have hv_v29 := e41
            have hn_hv_v29 := hv_v29.num fs_ok
            have e42 : DcN na25 v29 := e42
            have hf_14_v29 : na25 14 v29.toNatClampNeg = 23 := e42
            have e43 : FsI (tf 6).toInt (pf24 13).toInt na25 := e43
            have hfs := e43
            have hw : pw D A s.heap H locs [wdP cs h r g tf ta pf24 na25 ma26 wa27 cf ca ef ea xf xa] := hw
            have lv29 := Int32.le_toInt v29
            have uv29 := Int32.toInt_lt v29
            refine px_callv (pr := []) (px_runV (As := [.int v29]) (rest := []) S (c_mp_add l D cs h r g tf ta ma26 wa27 cf ca ef ea xf xa pf24 na25 v29  (show (pf24 25).toInt < 2100 from by first | exact oz_94e1af121e e37 g8 g5 e30 e31 g2 | omega) htk _) hT (pr := []) (pcs := [wdP cs h r g tf ta pf24 na25 ma26 wa27 cf ca ef ea xf xa]) hw px_X.tt (px_recv hT hw 0 0 rfl rfl rfl) m12_81 m12_78 m12_80 ms_10_5 m1_21 q_Mpg_add ⟨show 1 + 1 ≤ (8 * 61 + 32) from by first | with_reducible rfl | with_reducible assumption | omega, show 8 + (2 + 11) + 30 ≤ (220 * 61 + 1440) from by first | with_reducible rfl | with_reducible assumption | omega⟩ hl.1 rfl (Nat.le_of_ble_eq_true rfl) d_Mpg_piece_129 ⟨Nat.le_of_ble_eq_true rfl, Nat.le_of_ble_eq_true rfl⟩) hw hA (fun p48 H locs hp48 hw => ?_)
            obtain ⟨pf46, na47, rfl, e50, e51, e52, e53, e54, e55⟩ := hp48
            have e50 : (pf46 11).toInt = (pf24 11).toInt := e50
            have e51 : (pf46 12).toInt = (pf24 12).toInt := e51
            have e52 : (pf46 13).toInt = (pf24 13).toInt := e52
            have e53 : (pf46 26).toInt = (pf24 26).toInt := e53
            have e54 : (pf46 25).toInt = v29.toInt := e54
            have e55 : Hg na25 na47 (pf24 24) (pf24 25) v29 (pf46 24) := e55
            have hvg := vg_decl (VlV.le hv_v29 (Int.le_refl _) (Int.le_refl _) (Int.le_refl _) (show _ ≤ (200 : Int) from by first | with_reducible rfl | with_reducible assumption | omega)) hf_14_v29
            have hzg := Hg.row e55 fg_ok (rz_eq hzg (by first | with_reducible rfl | with_reducible assumption | omega) (by first | with_reducible rfl | with_reducible assumption | omega)) (VlV.le hvg (by first | with_reducible rfl | with_reducible assumption | omega) (Int.le_refl _) (Int.le_refl _) (by first | with_reducible rfl | with_reducible assumption | omega)) (by first | with_reducible rfl | with_reducible assumption | omega) (by first | with_reducible rfl | with_reducible assumption | omega)
            have hfs := FsI.hg hfs e55
            obtain ⟨qb561, qb562, qb563, qb564⟩ := tk_eq (ta := ta) (x := (pf46 11)) (y := (pf24 11)) (by first | with_reducible rfl | with_reducible assumption | omega)
            have hw : pw D A s.heap H locs [wdP cs h r g tf ta pf46 na47 ma26 wa27 cf ca ef ea xf xa] := hw
            exact th_vret S hr hlk hAe hw (⟨pf46, na47, ma26, wa27, rfl, (show (pf 11).toInt + 1 ≤ (pf46 11).toInt from by first | exact oz_213e98d3f1 e30 e50 | omega), (show (pf46 11).toInt < (tf 6).toInt from by first | exact oz_5d2fbac15b e31 e50 | omega), (show (pf 13).toInt ≤ (pf46 13).toInt from by first | exact oz_a98a1e881c e32 e52 | omega), (show (pf46 13).toInt - (pf 13).toInt ≤ (pf46 11).toInt - (pf 11).toInt from by first | exact oz_7d2ce61601 e33 e50 e52 | omega), (show bp ta (pf 11) + 1 ≤ bp ta (pf46 11) from by first | with_reducible rfl | with_reducible assumption | omega), (show (pf46 12).toInt = 0 from by first | exact oz_bfc0cf0d20 e51 e35 g3 | omega), (show (pf46 26).toInt = 0 from by first | exact oz_bfc0cf0d20 e53 e38 g6 | omega), (show -1 ≤ (pf46 25).toInt from by first | with_reducible rfl | with_reducible assumption | omega), (show (pf46 25).toInt < (pf46 13).toInt from by first | with_reducible rfl | with_reducible assumption | omega), (show RzG ta (tf 6).toInt na47 ma26 (pf46 24) (pf46 25) 0 (pf46 13).toInt (3 * bp ta (pf46 11)) 200 from (RzV.le (rz_eq (Or.inr hzg) (by first | with_reducible rfl | with_reducible assumption | omega) (by first | with_reducible rfl | with_reducible assumption | omega)) (by first | with_reducible rfl | with_reducible assumption | omega) (by first | with_reducible rfl | with_reducible assumption | omega) (by first | with_reducible rfl | with_reducible assumption | omega) (by first | with_reducible rfl | with_reducible assumption | omega))), (show FsI (tf 6).toInt (pf46 13).toInt na47 from (FsI.le hfs (by first | with_reducible rfl | with_reducible assumption | omega)))⟩) d_Mpg_piece_132
          · have nc19 : z13.toInt = (2 : Int) := (i_eq (x := z13) (y := 2)).mp c19
            refine lv_aload_n S.x S.b d_Mpg_piece_92 rfl (lv_at hl 2 rfl) ?_
            refine lv_dup S.x S.b d_Mpg_piece_93 rfl ?_
            refine px_get S k_Mpg hT hw 0 0 11 (v := .int (pf 11)) rfl rfl rfl (by decide) m9_235 d_Mpg_piece_94 ?_
            refine lv_iconst (v := 1) S.x S.b d_Mpg_piece_97 (by decide) ?_
            refine lv_iadd S.x S.b d_Mpg_piece_98 ?_
            have lr57 := Int32.le_toInt (pf 11)
            have ur57 := Int32.toInt_lt (pf 11)
            refine lv_topi (fun z58 ez58 => ?_)
            have tz58 : z58.toInt = ((pf 11).toInt + (1 : Int) + 2147483648) % 4294967296 - 2147483648 := by rw [ez58]; exact i_add (pf 11) 1
            have lz58 := Int32.le_toInt z58
            have uz58 := Int32.toInt_lt z58
            try replace tz58 : z58.toInt = (pf 11).toInt + (1 : Int) := by omega
            have hnx98 := tk_n htk (x := (pf 11)) (y := z58) (by first | with_reducible rfl | with_reducible assumption | omega) (by first | with_reducible rfl | with_reducible assumption | omega) (by first | with_reducible rfl | with_reducible assumption | omega)
            refine px_put S k_Mpg hT hw 0 0 11 rfl rfl (by decide) m9_235 rfl rfl rfl (Nat.le_of_ble_eq_true rfl) d_Mpg_piece_99 (w' := wdP cs h r g tf ta (upd pf 11 z58) na ma wa cf ca ef ea xf xa) (ps' := [wdP cs h r g tf ta (upd pf 11 z58) na ma wa cf ca ef ea xf xa]) rfl rfl (fun H locs hw => ?_)
            refine lv_aload_n S.x S.b d_Mpg_piece_102 rfl (lv_at hl 2 rfl) ?_
            refine th_calli (ps0 := [wdP cs h r g tf ta pf na ma wa cf ca ef ea xf xa]) (pr := []) (pcs := [wdP cs h r g tf ta (upd pf 11 z58) na ma wa cf ca ef ea xf xa]) (As := []) (rest := []) (c_mp_name l D cs h r g tf ta na ma wa cf ca ef ea xf xa (upd pf 11 z58)   (show 0 ≤ z58.toInt from by first | exact oz_b3b25f0e49 tz58 g0 | omega) (show z58.toInt < (tf 6).toInt from by first | with_reducible rfl | with_reducible assumption | omega) (show (tf 6).toInt ≤ 2049 from by first | exact g2 | omega) hlf htk) S hT hw (oX_call (P := (fun A U H => (oN A U H) ∧ (oP A g U H))) (pr := []) (oG_and oG_N oG_P) hw hA ⟨hN, hP⟩) (px_recv hT hw 0 0 rfl rfl rfl) m12_2 m11_239 m12_1 ms_9_2 m1_21 q_Mpg_name ⟨show 7 + 1 ≤ (8 * 61 + 32) from by first | with_reducible rfl | with_reducible assumption | omega, show 8 + (1 + 11) + 150 ≤ (220 * 61 + 1440) from by first | with_reducible rfl | with_reducible assumption | omega⟩ hl.1 rfl (Nat.le_of_ble_eq_true rfl) d_Mpg_piece_103 ⟨Nat.le_of_ble_eq_true rfl, Nat.le_of_ble_eq_true rfl⟩ hne hlk hA hAe (fun o t h => Or.inr h) ?_ (fun v62 p61 H locs hp61 hw => ?_)
            · exact fun p1 H1 locs1 hp hw => by obtain ⟨pq1, pq2, pq3, pq4, rfl, hq1, hq2⟩ := hp; exact ⟨_, ⟨pq1, pq2, pq3, pq4, rfl, hq1, hq2⟩, hw⟩
            obtain ⟨pf60, rfl, e63, e64, e65, e66, e67, e68, e69, e70, e71, e72⟩ := hp61
            have e63 : v62.toInt = z58.toInt := e63
            have e64 : SoIs ta v62 1 := e64
            have e65 : (pf60 11).toInt = z58.toInt + 1 := e65
            have e66 : (pf60 11).toInt < (tf 6).toInt := e66
            have e67 : bp ta z58 + 1 ≤ bp ta (pf60 11) := e67
            have e68 : (pf60 12).toInt = (pf 12).toInt := e68
            have e69 : (pf60 13).toInt = (pf 13).toInt := e69
            have e70 : (pf60 24).toInt = (pf 24).toInt := e70
            have e71 : (pf60 25).toInt = (pf 25).toInt := e71
            have e72 : (pf60 26).toInt = (pf 26).toInt := e72
            have hw : pw D A s.heap H locs [wdP cs h r g tf ta pf60 na ma wa cf ca ef ea xf xa] := hw
            have lv62 := Int32.le_toInt v62
            have uv62 := Int32.toInt_lt v62
            refine lv_istore_n (lv' := [(3, .int v62), (2, .int 0), (1, .int z13), (0, .ref h)]) S.x S.b d_Mpg_piece_106 rfl hl (by decide) rfl (fun ls hl => ?_)
            refine lv_aload_n S.x S.b d_Mpg_piece_107 rfl (lv_at hl 3 rfl) ?_
            refine lv_aload_n S.x S.b d_Mpg_piece_108 rfl (lv_at hl 3 rfl) ?_
            obtain ⟨sk73, hRsk73, st74, sb75, hSsk73⟩ := oP_lit hP (k := 87) (tx := "(") (n := 1) (List.mem_of_getElem? (i := 35) rfl)
            refine va_ldcS S.x S.b S.own hRsk73 d_Mpg_piece_109 ?_
            refine px_calli (pr := []) (px_runV (As := [.ref sk73]) (rest := [.ref h]) S (c_mp_is l D cs sk73 1 h r g tf ta pf60 na ma wa cf ca ef ea xf xa   (show 0 ≤ (pf60 11).toInt from by first | exact oz_6f750b233b e65 tz58 g0 | omega) (show (pf60 11).toInt < (tf 6).toInt from by first | exact e66 | omega) (show (tf 6).toInt ≤ 2049 from by first | exact g2 | omega) (show 1 ≤ 100 from by first | decide | omega) htk _) hT (pr := []) (pcs := [wdP cs h r g tf ta pf60 na ma wa cf ca ef ea xf xa]) hw (oX_call (P := (fun A U H => (oP A g U H) ∧ (StS A sk73 1 U H))) (pr := []) (oG_and oG_P oG_Q) hw hA ⟨hP, ⟨_, _, hSsk73⟩⟩) (px_recv hT hw 0 0 rfl rfl rfl) m11_217 m11_214 m11_216 ms_8_14 m1_21 q_Mpg_is ⟨show 3 + 1 ≤ (8 * 61 + 32) from by first | with_reducible rfl | with_reducible assumption | omega, show 8 + (2 + 11) + 120 ≤ (220 * 61 + 1440) from by first | with_reducible rfl | with_reducible assumption | omega⟩ hl.1 rfl (Nat.le_of_ble_eq_true rfl) d_Mpg_piece_111 ⟨Nat.le_of_ble_eq_true rfl, Nat.le_of_ble_eq_true rfl⟩) hw hA (fun v77 p76 H locs hp76 hw => ?_)
            obtain ⟨rfl, e78, e79⟩ := hp76
            have e78 := z_rng e78
            have e79 : v77.toInt = 1 → (pf60 11).toInt + 1 < (tf 6).toInt ∧ so ta (pf60 11) = 5 := e79
            have hw : pw D A s.heap H locs [wdP cs h r g tf ta pf60 na ma wa cf ca ef ea xf xa] := hw
            have lv77 := Int32.le_toInt v77
            have uv77 := Int32.toInt_lt v77
            refine th_callv (ps0 := [wdP cs h r g tf ta pf na ma wa cf ca ef ea xf xa]) (pr := [wdP cs h r g tf ta pf60 na ma wa cf ca ef ea xf xa]) (pcs := []) (As := [.int v77]) (rest := []) (c_mp_need l hlf D cs h v77) S hT hw (oX_call (P := (fun A U H => (oN A U H))) (pr := [wdP cs h r g tf ta pf60 na ma wa cf ca ef ea xf xa]) oG_N hw hA hN) (px_recv hT hw 0 0 rfl rfl rfl) m11_233 m11_230 m11_232 ms_9_0 m1_21 q_Mpg_need ⟨show 6 + 1 ≤ (8 * 61 + 32) from by first | with_reducible rfl | with_reducible assumption | omega, show 8 + (2 + 11) + 100 ≤ (220 * 61 + 1440) from by first | with_reducible rfl | with_reducible assumption | omega⟩ hl.1 rfl (Nat.le_of_ble_eq_true rfl) d_Mpg_piece_114 ⟨Nat.le_of_ble_eq_true rfl, Nat.le_of_ble_eq_true rfl⟩ hne hlk hA hAe (fun o t h => Or.inr h) ?_ (fun p80 H locs hp80 hw => ?_)
            · exact fun p1 H1 locs1 hp hw => by subst hp; exact ⟨_, ⟨pf60, na, ma, wa, rfl, by first | with_reducible rfl | with_reducible assumption | omega, by first | with_reducible rfl | with_reducible assumption | omega⟩, hw.sub [0] rfl rfl⟩
            obtain ⟨rfl, hndp80⟩ := hp80
            have hndp80 : ¬ v77.toInt = 0 := hndp80
            have hw : pw D A s.heap H locs [wdP cs h r g tf ta pf60 na ma wa cf ca ef ea xf xa] := hw
            refine lv_aload_n S.x S.b d_Mpg_piece_117 rfl (lv_at hl 3 rfl) ?_
            refine lv_iload_n S.x S.b d_Mpg_piece_118 rfl (lv_at hl 2 rfl) ?_
            refine lv_iload_n S.x S.b d_Mpg_piece_119 rfl (lv_at hl 0 rfl) ?_
            refine th_callv (ps0 := [wdP cs h r g tf ta pf na ma wa cf ca ef ea xf xa]) (pr := []) (pcs := [wdP cs h r g tf ta pf60 na ma wa cf ca ef ea xf xa]) (As := [.int z13, .int v62]) (rest := []) (c_mp_functionText l D cs h r g tf ta cf ca ef ea xf xa pf60 na ma wa z13 v62  (show 0 ≤ (pf60 11).toInt from by first | exact oz_6f750b233b e65 tz58 g0 | omega) (show (pf60 11).toInt < (tf 6).toInt from by first | exact e66 | omega) (show (tf 6).toInt ≤ 2049 from by first | exact g2 | omega) (show (pf60 12).toInt = 0 from by first | exact oz_4193540c58 e68 g3 | omega) (show 0 ≤ (pf60 13).toInt from by first | exact oz_f3ebed1ad0 e69 g4 | omega) (show (pf60 13).toInt ≤ (pf60 11).toInt + 10 from by first | exact oz_48adc2bebd e65 e69 g5 tz58 | omega) (show (pf60 26).toInt = 0 from by first | exact oz_4193540c58 e72 g6 | omega) (show -1 ≤ (pf60 25).toInt from by first | exact oz_b850331a4a e71 g7 | omega) (show (pf60 25).toInt < (pf60 13).toInt from by first | exact oz_b6579fb52e e69 e71 g8 | omega) (show 0 ≤ z13.toInt from by first | exact oz_9175d0c236 nc19 | omega) (show z13.toInt ≤ 2 from by first | exact oz_7fea0476a4 nc19 | omega) (show 0 ≤ v62.toInt from by first | exact oz_b39abd85f8 e63 tz58 g0 | omega) (show v62.toInt < (tf 6).toInt from by first | exact oz_7faa3985b4 e63 e66 e65 | omega) (show 4 ≤ bp ta (pf60 11) from by first | with_reducible rfl | with_reducible assumption | omega) hlf htk (FsI.le (N' := (pf60 13).toInt) hfs (by first | with_reducible rfl | with_reducible assumption | omega)) (by assumption) (RzV.le (rz_eq hzg (by first | with_reducible rfl | with_reducible assumption | omega) (by first | with_reducible rfl | with_reducible assumption | omega)) (by first | with_reducible rfl | with_reducible assumption | omega) (by first | with_reducible rfl | with_reducible assumption | omega) (by first | with_reducible rfl | with_reducible assumption | omega) (by first | with_reducible rfl | with_reducible assumption | omega))) S hT hw (oX_call (P := (fun A U H => (oN A U H) ∧ (oP A g U H))) (pr := []) (oG_and oG_N oG_P) hw hA ⟨hN, hP⟩) (px_recv hT hw 0 0 rfl rfl rfl) m12_89 m12_86 m12_88 ms_10_7 m1_21 q_Mpg_functionText ⟨show (8 * 61 + 30) + 1 ≤ (8 * 61 + 32) from by first | with_reducible rfl | with_reducible assumption | omega, show 8 + (6 + 11) + (220 * 61 + 1360) ≤ (220 * 61 + 1440) from by first | with_reducible rfl | with_reducible assumption | omega⟩ hl.1 rfl (Nat.le_of_ble_eq_true rfl) d_Mpg_piece_120 ⟨Nat.le_of_ble_eq_true rfl, Nat.le_of_ble_eq_true rfl⟩ hne hlk hA hAe (fun o t h => Or.inr h) ?_ (fun p90 H locs hp90 hw => ?_)
            · exact fun p1 H1 locs1 hp hw => by obtain ⟨pq1, pq2, pq3, pq4, rfl, hq1, hq2⟩ := hp; exact ⟨_, ⟨pq1, pq2, pq3, pq4, rfl, hq1, hq2⟩, hw⟩
            obtain ⟨pf86, na87, ma88, wa89, rfl, e92, e93, e94, e95, e96, e97, e98, e99, e100, e101, e102⟩ := hp90
            have e92 : (pf60 11).toInt + 1 ≤ (pf86 11).toInt := e92
            have e93 : (pf86 11).toInt < (tf 6).toInt := e93
            have e94 : (pf60 13).toInt ≤ (pf86 13).toInt := e94
            have e95 : (pf86 13).toInt - (pf60 13).toInt ≤ (pf86 11).toInt - (pf60 11).toInt := e95
            have e96 : bp ta (pf60 11) + 1 ≤ bp ta (pf86 11) := e96
            have e97 : (pf86 12).toInt = 0 := e97
            have e98 : (pf86 26).toInt = 0 := e98
            have e99 : -1 ≤ (pf86 25).toInt := e99
            have e100 : (pf86 25).toInt < (pf86 13).toInt := e100
            have e101 : RzG ta (tf 6).toInt na87 ma88 (pf86 24) (pf86 25) 0 (pf86 13).toInt (3 * bp ta (pf86 11)) 200 := e101
            have hzg := e101
            have e102 : FsI (tf 6).toInt (pf86 13).toInt na87 := e102
            have hfs := e102
            have hw : pw D A s.heap H locs [wdP cs h r g tf ta pf86 na87 ma88 wa89 cf ca ef ea xf xa] := hw
            exact th_vret S hr hlk hAe hw (⟨pf86, na87, ma88, wa89, rfl, (show (pf 11).toInt + 1 ≤ (pf86 11).toInt from by first | exact oz_a0ac8cc8e1 tz58 e92 e65 | omega), (show (pf86 11).toInt < (tf 6).toInt from by first | exact e93 | omega), (show (pf 13).toInt ≤ (pf86 13).toInt from by first | exact oz_49930e0c7e e69 e94 | omega), (show (pf86 13).toInt - (pf 13).toInt ≤ (pf86 11).toInt - (pf 11).toInt from by first | exact oz_b01104479c tz58 e69 e95 e65 | omega), (show bp ta (pf 11) + 1 ≤ bp ta (pf86 11) from by first | with_reducible rfl | with_reducible assumption | omega), (show (pf86 12).toInt = 0 from by first | exact e97 | omega), (show (pf86 26).toInt = 0 from by first | exact e98 | omega), (show -1 ≤ (pf86 25).toInt from by first | exact e99 | omega), (show (pf86 25).toInt < (pf86 13).toInt from by first | exact e100 | omega), (show RzG ta (tf 6).toInt na87 ma88 (pf86 24) (pf86 25) 0 (pf86 13).toInt (3 * bp ta (pf86 11)) 200 from (RzV.le (rz_eq hzg (by first | with_reducible rfl | with_reducible assumption | omega) (by first | with_reducible rfl | with_reducible assumption | omega)) (by first | with_reducible rfl | with_reducible assumption | omega) (by first | with_reducible rfl | with_reducible assumption | omega) (by first | with_reducible rfl | with_reducible assumption | omega) (by first | with_reducible rfl | with_reducible assumption | omega))), (show FsI (tf 6).toInt (pf86 13).toInt na87 from (FsI.le hfs (by first | with_reducible rfl | with_reducible assumption | omega)))⟩) d_Mpg_piece_123
      · have nc17 : z16.toInt = (1 : Int) := (i_eq (x := z16) (y := 1)).mp c17
        refine lv_aload_n S.x S.b d_Mpg_piece_62 rfl (lv_at hl 1 rfl) ?_
        refine lv_aload_n S.x S.b d_Mpg_piece_63 rfl (lv_at hl 1 rfl) ?_
        refine px_get S k_Mpg hT hw 0 0 11 (v := .int (pf 11)) rfl rfl rfl (by decide) m9_235 d_Mpg_piece_64 ?_
        refine lv_iconst (v := 2) S.x S.b d_Mpg_piece_67 (by decide) ?_
        refine lv_iadd S.x S.b d_Mpg_piece_68 ?_
        have lr103 := Int32.le_toInt (pf 11)
        have ur103 := Int32.toInt_lt (pf 11)
        refine lv_topi (fun z104 ez104 => ?_)
        have tz104 : z104.toInt = ((pf 11).toInt + (2 : Int) + 2147483648) % 4294967296 - 2147483648 := by rw [ez104]; exact i_add (pf 11) 2
        have lz104 := Int32.le_toInt z104
        have uz104 := Int32.toInt_lt z104
        try replace tz104 : z104.toInt = (pf 11).toInt + (2 : Int) := by omega
        obtain ⟨sk105, hRsk105, st106, sb107, hSsk105⟩ := oP_lit hP (k := 87) (tx := "(") (n := 1) (List.mem_of_getElem? (i := 35) rfl)
        refine va_ldcS S.x S.b S.own hRsk105 d_Mpg_piece_69 ?_
        refine px_calli (pr := []) (px_runV (As := [.int z104, .ref sk105]) (rest := []) S (c_mp_isAt l D cs sk105 1 h r g tf ta pf na ma wa cf ca ef ea xf xa z104  (show 0 ≤ z104.toInt from by first | exact oz_6c4a1e09c3 tz104 g0 | omega) (show z104.toInt < (tf 6).toInt from by first | with_reducible rfl | with_reducible assumption | omega) (show (tf 6).toInt ≤ 2049 from by first | exact g2 | omega) (show 1 ≤ 100 from by first | decide | omega) htk _) hT (pr := []) (pcs := [wdP cs h r g tf ta pf na ma wa cf ca ef ea xf xa]) hw (oX_call (P := (fun A U H => (oP A g U H) ∧ (StS A sk105 1 U H))) (pr := []) (oG_and oG_P oG_Q) hw hA ⟨hP, ⟨_, _, hSsk105⟩⟩) (px_recv hT hw 0 0 rfl rfl rfl) m11_221 m11_218 m11_220 ms_8_15 m1_21 q_Mpg_isAt ⟨show 2 + 1 ≤ (8 * 61 + 32) from by first | with_reducible rfl | with_reducible assumption | omega, show 8 + (3 + 11) + 80 ≤ (220 * 61 + 1440) from by first | with_reducible rfl | with_reducible assumption | omega⟩ hl.1 rfl (Nat.le_of_ble_eq_true rfl) d_Mpg_piece_71 ⟨Nat.le_of_ble_eq_true rfl, Nat.le_of_ble_eq_true rfl⟩) hw hA (fun v109 p108 H locs hp108 hw => ?_)
        obtain ⟨rfl, e110, e111⟩ := hp108
        have e110 := z_rng e110
        have e111 : v109.toInt = 1 → z104.toInt + 1 < (tf 6).toInt ∧ so ta z104 = 5 := e111
        have hw : pw D A s.heap H locs [wdP cs h r g tf ta pf na ma wa cf ca ef ea xf xa] := hw
        have lv109 := Int32.le_toInt v109
        have uv109 := Int32.toInt_lt v109
        refine lv_if_eq (tgt := 81) S.x S.b d_Mpg_piece_74 (by decide) (fun c112 => ?_) (fun c112 => ?_)
        · have nc112 : v109.toInt = (0 : Int) := (i_eq (x := v109) (y := 0)).mp c112
          refine lv_iconst (v := 0) S.x S.b d_Mpg_piece_81 (by decide) ?_
          refine lv_istore_n (lv' := [(2, .int 0), (1, .int z13), (0, .ref h)]) S.x S.b d_Mpg_piece_82 rfl hl (by decide) rfl (fun ls hl => ?_)
          refine lv_iload_n S.x S.b d_Mpg_piece_83 rfl (lv_at hl 0 rfl) ?_
          refine lv_if_ne (tgt := 92) S.x S.b d_Mpg_piece_84 (by decide) (fun c113 => ?_) (fun c113 => ?_)
          · exact absurd c113 (by decide)
          ·
            refine lv_iload_n S.x S.b d_Mpg_piece_87 rfl (lv_at hl 1 rfl) ?_
            refine lv_iconst (v := 2) S.x S.b d_Mpg_piece_88 (by decide) ?_
            refine lv_icmp_ne (tgt := 124) S.x S.b d_Mpg_piece_89 (by decide) (fun c114 => ?_) (fun c114 => ?_)
            · have nc114 : ¬ z13.toInt = (2 : Int) := mt (i_eq (x := z13) (y := 2)).mpr c114
              refine lv_aload_n S.x S.b d_Mpg_piece_124 rfl (lv_at hl 2 rfl) ?_
              refine lv_aload_n S.x S.b d_Mpg_piece_125 rfl (lv_at hl 2 rfl) ?_
              refine th_calli (ps0 := [wdP cs h r g tf ta pf na ma wa cf ca ef ea xf xa]) (pr := []) (pcs := [wdP cs h r g tf ta pf na ma wa cf ca ef ea xf xa]) (As := []) (rest := [.ref h]) (c_mp_declaration l D cs h r g tf ta cf ca ef ea xf xa pf na ma wa  lv (show 0 ≤ (pf 11).toInt from by first | exact g0 | omega) (show (pf 11).toInt < (tf 6).toInt from by first | exact g1 | omega) (show (tf 6).toInt ≤ 2049 from by first | exact g2 | omega) (show 0 ≤ (pf 12).toInt from by first | exact oz_b1de7dbe7e g3 | omega) (show (pf 12).toInt ≤ 60 from by first | exact oz_c48710cd70 g3 | omega) (show 0 ≤ (pf 13).toInt from by first | exact g4 | omega) (show (pf 13).toInt ≤ (pf 11).toInt + 10 from by first | exact g5 | omega) (show 0 ≤ (pf 26).toInt from by first | exact oz_b1de7dbe7e g6 | omega) (show (pf 26).toInt ≤ (pf 12).toInt from by first | exact oz_aca53b6681 g3 g6 | omega) (show 61 ≤ (pf 12).toInt + (lv : Int) from by first | with_reducible rfl | with_reducible assumption | omega) (show lv ≤ 61 from by first | with_reducible rfl | with_reducible assumption | omega) (show (pf 11).toInt + 1 < (tf 6).toInt from by first | with_reducible rfl | with_reducible assumption | omega) (show so ta (pf 11) = 2 from by first | with_reducible rfl | with_reducible assumption | omega) (show 0 ≤ wh ta (pf 11) from by first | exact hk3.2 | omega) (show wh ta (pf 11) ≤ 1 from by first | with_reducible rfl | with_reducible assumption | omega) hlf htk (FsI.le (N' := (pf 13).toInt) hfs (by first | with_reducible rfl | with_reducible assumption | omega))) S hT hw (oX_call (P := (fun A U H => (oN A U H) ∧ (oP A g U H))) (pr := []) (oG_and oG_N oG_P) hw hA ⟨hN, hP⟩) (px_recv hT hw 0 0 rfl rfl rfl) m12_105 m12_102 m12_104 ms_10_11 m1_21 q_Mpg_declaration ⟨show (8 * lv + 25) + 1 ≤ (8 * 61 + 32) from by first | with_reducible rfl | with_reducible assumption | omega, show 8 + (2 + 11) + (220 * lv + 1160) ≤ (220 * 61 + 1440) from by first | with_reducible rfl | with_reducible assumption | omega⟩ hl.1 rfl (Nat.le_of_ble_eq_true rfl) d_Mpg_piece_126 ⟨Nat.le_of_ble_eq_true rfl, Nat.le_of_ble_eq_true rfl⟩ hne hlk hA hAe (fun o t h => Or.inr h) ?_ (fun v124 p123 H locs hp123 hw => ?_)
              · exact fun p1 H1 locs1 hp hw => by obtain ⟨pq1, pq2, pq3, pq4, rfl, hq1, hq2⟩ := hp; exact ⟨_, ⟨pq1, pq2, pq3, pq4, rfl, hq1, hq2⟩, hw⟩
              obtain ⟨pf119, na120, ma121, wa122, rfl, e125, e126, e127, e128, e129, e130, e131, e132, e133, e134, e135, e136, e137, e138⟩ := hp123
              have e125 : (pf 11).toInt + 1 ≤ (pf119 11).toInt := e125
              have e126 : (pf119 11).toInt < (tf 6).toInt := e126
              have e127 : (pf 13).toInt + 1 ≤ (pf119 13).toInt := e127
              have e128 : (pf119 13).toInt - (pf 13).toInt ≤ (pf119 11).toInt - (pf 11).toInt := e128
              have e129 : bp ta (pf 11) + 1 ≤ bp ta (pf119 11) := e129
              have e130 : (pf119 12).toInt = (pf 12).toInt := e130
              have e131 : (pf119 24).toInt = (pf 24).toInt := e131
              have e132 : (pf119 25).toInt = (pf 25).toInt := e132
              have e133 : (pf119 26).toInt = (pf 26).toInt := e133
              have e134 : FrB (pf 13).toInt na ma na120 ma121 := e134
              have hzg := hzg.ag fg_ok (FrB.ag e134 (by first | with_reducible rfl | with_reducible assumption | omega))
              have hfb := hfb.tr e134 (by first | with_reducible rfl | with_reducible assumption | omega)
              have e135 : FrW (pf 26).toInt wa wa122 := e135
              have hfw := hfw.tr e135 (by first | with_reducible rfl | with_reducible assumption | omega)
              have e136 : VlS ta (tf 6).toInt na120 ma121 v124 (pf 13).toInt (pf119 13).toInt (3 * (bp ta (pf119 11) - bp ta (pf 11))) (200 - (pf 12).toInt) := e136
              have hv_v124 := e136
              have hn_hv_v124 := hv_v124.num fs_ok
              have e137 : DcN na120 v124 := e137
              have hf_14_v124 : na120 14 v124.toNatClampNeg = 23 := e137
              have e138 : FsI (tf 6).toInt (pf119 13).toInt na120 := e138
              have hfs := e138
              have hw : pw D A s.heap H locs [wdP cs h r g tf ta pf119 na120 ma121 wa122 cf ca ef ea xf xa] := hw
              have lv124 := Int32.le_toInt v124
              have uv124 := Int32.toInt_lt v124
              refine px_callv (pr := []) (px_runV (As := [.int v124]) (rest := []) S (c_mp_add l D cs h r g tf ta ma121 wa122 cf ca ef ea xf xa pf119 na120 v124  (show (pf119 25).toInt < 2100 from by first | exact oz_94e1af121e e132 g8 g5 e125 e126 g2 | omega) htk _) hT (pr := []) (pcs := [wdP cs h r g tf ta pf119 na120 ma121 wa122 cf ca ef ea xf xa]) hw px_X.tt (px_recv hT hw 0 0 rfl rfl rfl) m12_81 m12_78 m12_80 ms_10_5 m1_21 q_Mpg_add ⟨show 1 + 1 ≤ (8 * 61 + 32) from by first | with_reducible rfl | with_reducible assumption | omega, show 8 + (2 + 11) + 30 ≤ (220 * 61 + 1440) from by first | with_reducible rfl | with_reducible assumption | omega⟩ hl.1 rfl (Nat.le_of_ble_eq_true rfl) d_Mpg_piece_129 ⟨Nat.le_of_ble_eq_true rfl, Nat.le_of_ble_eq_true rfl⟩) hw hA (fun p143 H locs hp143 hw => ?_)
              obtain ⟨pf141, na142, rfl, e145, e146, e147, e148, e149, e150⟩ := hp143
              have e145 : (pf141 11).toInt = (pf119 11).toInt := e145
              have e146 : (pf141 12).toInt = (pf119 12).toInt := e146
              have e147 : (pf141 13).toInt = (pf119 13).toInt := e147
              have e148 : (pf141 26).toInt = (pf119 26).toInt := e148
              have e149 : (pf141 25).toInt = v124.toInt := e149
              have e150 : Hg na120 na142 (pf119 24) (pf119 25) v124 (pf141 24) := e150
              have hvg := vg_decl (VlV.le hv_v124 (Int.le_refl _) (Int.le_refl _) (Int.le_refl _) (show _ ≤ (200 : Int) from by first | with_reducible rfl | with_reducible assumption | omega)) hf_14_v124
              have hzg := Hg.row e150 fg_ok (rz_eq hzg (by first | with_reducible rfl | with_reducible assumption | omega) (by first | with_reducible rfl | with_reducible assumption | omega)) (VlV.le hvg (by first | with_reducible rfl | with_reducible assumption | omega) (Int.le_refl _) (Int.le_refl _) (by first | with_reducible rfl | with_reducible assumption | omega)) (by first | with_reducible rfl | with_reducible assumption | omega) (by first | with_reducible rfl | with_reducible assumption | omega)
              have hfs := FsI.hg hfs e150
              obtain ⟨qb1511, qb1512, qb1513, qb1514⟩ := tk_eq (ta := ta) (x := (pf141 11)) (y := (pf119 11)) (by first | with_reducible rfl | with_reducible assumption | omega)
              have hw : pw D A s.heap H locs [wdP cs h r g tf ta pf141 na142 ma121 wa122 cf ca ef ea xf xa] := hw
              exact th_vret S hr hlk hAe hw (⟨pf141, na142, ma121, wa122, rfl, (show (pf 11).toInt + 1 ≤ (pf141 11).toInt from by first | exact oz_213e98d3f1 e125 e145 | omega), (show (pf141 11).toInt < (tf 6).toInt from by first | exact oz_5d2fbac15b e126 e145 | omega), (show (pf 13).toInt ≤ (pf141 13).toInt from by first | exact oz_a98a1e881c e127 e147 | omega), (show (pf141 13).toInt - (pf 13).toInt ≤ (pf141 11).toInt - (pf 11).toInt from by first | exact oz_7d2ce61601 e128 e145 e147 | omega), (show bp ta (pf 11) + 1 ≤ bp ta (pf141 11) from by first | with_reducible rfl | with_reducible assumption | omega), (show (pf141 12).toInt = 0 from by first | exact oz_bfc0cf0d20 e146 e130 g3 | omega), (show (pf141 26).toInt = 0 from by first | exact oz_bfc0cf0d20 e148 e133 g6 | omega), (show -1 ≤ (pf141 25).toInt from by first | with_reducible rfl | with_reducible assumption | omega), (show (pf141 25).toInt < (pf141 13).toInt from by first | with_reducible rfl | with_reducible assumption | omega), (show RzG ta (tf 6).toInt na142 ma121 (pf141 24) (pf141 25) 0 (pf141 13).toInt (3 * bp ta (pf141 11)) 200 from (RzV.le (rz_eq (Or.inr hzg) (by first | with_reducible rfl | with_reducible assumption | omega) (by first | with_reducible rfl | with_reducible assumption | omega)) (by first | with_reducible rfl | with_reducible assumption | omega) (by first | with_reducible rfl | with_reducible assumption | omega) (by first | with_reducible rfl | with_reducible assumption | omega) (by first | with_reducible rfl | with_reducible assumption | omega))), (show FsI (tf 6).toInt (pf141 13).toInt na142 from (FsI.le hfs (by first | with_reducible rfl | with_reducible assumption | omega)))⟩) d_Mpg_piece_132
            · have nc114 : z13.toInt = (2 : Int) := (i_eq (x := z13) (y := 2)).mp c114
              refine lv_aload_n S.x S.b d_Mpg_piece_92 rfl (lv_at hl 2 rfl) ?_
              refine lv_dup S.x S.b d_Mpg_piece_93 rfl ?_
              refine px_get S k_Mpg hT hw 0 0 11 (v := .int (pf 11)) rfl rfl rfl (by decide) m9_235 d_Mpg_piece_94 ?_
              refine lv_iconst (v := 1) S.x S.b d_Mpg_piece_97 (by decide) ?_
              refine lv_iadd S.x S.b d_Mpg_piece_98 ?_
              have lr152 := Int32.le_toInt (pf 11)
              have ur152 := Int32.toInt_lt (pf 11)
              refine lv_topi (fun z153 ez153 => ?_)
              have tz153 : z153.toInt = ((pf 11).toInt + (1 : Int) + 2147483648) % 4294967296 - 2147483648 := by rw [ez153]; exact i_add (pf 11) 1
              have lz153 := Int32.le_toInt z153
              have uz153 := Int32.toInt_lt z153
              try replace tz153 : z153.toInt = (pf 11).toInt + (1 : Int) := by omega
              have hnx98 := tk_n htk (x := (pf 11)) (y := z153) (by first | with_reducible rfl | with_reducible assumption | omega) (by first | with_reducible rfl | with_reducible assumption | omega) (by first | with_reducible rfl | with_reducible assumption | omega)
              refine px_put S k_Mpg hT hw 0 0 11 rfl rfl (by decide) m9_235 rfl rfl rfl (Nat.le_of_ble_eq_true rfl) d_Mpg_piece_99 (w' := wdP cs h r g tf ta (upd pf 11 z153) na ma wa cf ca ef ea xf xa) (ps' := [wdP cs h r g tf ta (upd pf 11 z153) na ma wa cf ca ef ea xf xa]) rfl rfl (fun H locs hw => ?_)
              refine lv_aload_n S.x S.b d_Mpg_piece_102 rfl (lv_at hl 2 rfl) ?_
              refine th_calli (ps0 := [wdP cs h r g tf ta pf na ma wa cf ca ef ea xf xa]) (pr := []) (pcs := [wdP cs h r g tf ta (upd pf 11 z153) na ma wa cf ca ef ea xf xa]) (As := []) (rest := []) (c_mp_name l D cs h r g tf ta na ma wa cf ca ef ea xf xa (upd pf 11 z153)   (show 0 ≤ z153.toInt from by first | exact oz_b3b25f0e49 tz153 g0 | omega) (show z153.toInt < (tf 6).toInt from by first | with_reducible rfl | with_reducible assumption | omega) (show (tf 6).toInt ≤ 2049 from by first | exact g2 | omega) hlf htk) S hT hw (oX_call (P := (fun A U H => (oN A U H) ∧ (oP A g U H))) (pr := []) (oG_and oG_N oG_P) hw hA ⟨hN, hP⟩) (px_recv hT hw 0 0 rfl rfl rfl) m12_2 m11_239 m12_1 ms_9_2 m1_21 q_Mpg_name ⟨show 7 + 1 ≤ (8 * 61 + 32) from by first | with_reducible rfl | with_reducible assumption | omega, show 8 + (1 + 11) + 150 ≤ (220 * 61 + 1440) from by first | with_reducible rfl | with_reducible assumption | omega⟩ hl.1 rfl (Nat.le_of_ble_eq_true rfl) d_Mpg_piece_103 ⟨Nat.le_of_ble_eq_true rfl, Nat.le_of_ble_eq_true rfl⟩ hne hlk hA hAe (fun o t h => Or.inr h) ?_ (fun v157 p156 H locs hp156 hw => ?_)
              · exact fun p1 H1 locs1 hp hw => by obtain ⟨pq1, pq2, pq3, pq4, rfl, hq1, hq2⟩ := hp; exact ⟨_, ⟨pq1, pq2, pq3, pq4, rfl, hq1, hq2⟩, hw⟩
              obtain ⟨pf155, rfl, e158, e159, e160, e161, e162, e163, e164, e165, e166, e167⟩ := hp156
              have e158 : v157.toInt = z153.toInt := e158
              have e159 : SoIs ta v157 1 := e159
              have e160 : (pf155 11).toInt = z153.toInt + 1 := e160
              have e161 : (pf155 11).toInt < (tf 6).toInt := e161
              have e162 : bp ta z153 + 1 ≤ bp ta (pf155 11) := e162
              have e163 : (pf155 12).toInt = (pf 12).toInt := e163
              have e164 : (pf155 13).toInt = (pf 13).toInt := e164
              have e165 : (pf155 24).toInt = (pf 24).toInt := e165
              have e166 : (pf155 25).toInt = (pf 25).toInt := e166
              have e167 : (pf155 26).toInt = (pf 26).toInt := e167
              have hw : pw D A s.heap H locs [wdP cs h r g tf ta pf155 na ma wa cf ca ef ea xf xa] := hw
              have lv157 := Int32.le_toInt v157
              have uv157 := Int32.toInt_lt v157
              refine lv_istore_n (lv' := [(3, .int v157), (2, .int 0), (1, .int z13), (0, .ref h)]) S.x S.b d_Mpg_piece_106 rfl hl (by decide) rfl (fun ls hl => ?_)
              refine lv_aload_n S.x S.b d_Mpg_piece_107 rfl (lv_at hl 3 rfl) ?_
              refine lv_aload_n S.x S.b d_Mpg_piece_108 rfl (lv_at hl 3 rfl) ?_
              obtain ⟨sk168, hRsk168, st169, sb170, hSsk168⟩ := oP_lit hP (k := 87) (tx := "(") (n := 1) (List.mem_of_getElem? (i := 35) rfl)
              refine va_ldcS S.x S.b S.own hRsk168 d_Mpg_piece_109 ?_
              refine px_calli (pr := []) (px_runV (As := [.ref sk168]) (rest := [.ref h]) S (c_mp_is l D cs sk168 1 h r g tf ta pf155 na ma wa cf ca ef ea xf xa   (show 0 ≤ (pf155 11).toInt from by first | exact oz_6f750b233b e160 tz153 g0 | omega) (show (pf155 11).toInt < (tf 6).toInt from by first | exact e161 | omega) (show (tf 6).toInt ≤ 2049 from by first | exact g2 | omega) (show 1 ≤ 100 from by first | decide | omega) htk _) hT (pr := []) (pcs := [wdP cs h r g tf ta pf155 na ma wa cf ca ef ea xf xa]) hw (oX_call (P := (fun A U H => (oP A g U H) ∧ (StS A sk168 1 U H))) (pr := []) (oG_and oG_P oG_Q) hw hA ⟨hP, ⟨_, _, hSsk168⟩⟩) (px_recv hT hw 0 0 rfl rfl rfl) m11_217 m11_214 m11_216 ms_8_14 m1_21 q_Mpg_is ⟨show 3 + 1 ≤ (8 * 61 + 32) from by first | with_reducible rfl | with_reducible assumption | omega, show 8 + (2 + 11) + 120 ≤ (220 * 61 + 1440) from by first | with_reducible rfl | with_reducible assumption | omega⟩ hl.1 rfl (Nat.le_of_ble_eq_true rfl) d_Mpg_piece_111 ⟨Nat.le_of_ble_eq_true rfl, Nat.le_of_ble_eq_true rfl⟩) hw hA (fun v172 p171 H locs hp171 hw => ?_)
              obtain ⟨rfl, e173, e174⟩ := hp171
              have e173 := z_rng e173
              have e174 : v172.toInt = 1 → (pf155 11).toInt + 1 < (tf 6).toInt ∧ so ta (pf155 11) = 5 := e174
              have hw : pw D A s.heap H locs [wdP cs h r g tf ta pf155 na ma wa cf ca ef ea xf xa] := hw
              have lv172 := Int32.le_toInt v172
              have uv172 := Int32.toInt_lt v172
              refine th_callv (ps0 := [wdP cs h r g tf ta pf na ma wa cf ca ef ea xf xa]) (pr := [wdP cs h r g tf ta pf155 na ma wa cf ca ef ea xf xa]) (pcs := []) (As := [.int v172]) (rest := []) (c_mp_need l hlf D cs h v172) S hT hw (oX_call (P := (fun A U H => (oN A U H))) (pr := [wdP cs h r g tf ta pf155 na ma wa cf ca ef ea xf xa]) oG_N hw hA hN) (px_recv hT hw 0 0 rfl rfl rfl) m11_233 m11_230 m11_232 ms_9_0 m1_21 q_Mpg_need ⟨show 6 + 1 ≤ (8 * 61 + 32) from by first | with_reducible rfl | with_reducible assumption | omega, show 8 + (2 + 11) + 100 ≤ (220 * 61 + 1440) from by first | with_reducible rfl | with_reducible assumption | omega⟩ hl.1 rfl (Nat.le_of_ble_eq_true rfl) d_Mpg_piece_114 ⟨Nat.le_of_ble_eq_true rfl, Nat.le_of_ble_eq_true rfl⟩ hne hlk hA hAe (fun o t h => Or.inr h) ?_ (fun p175 H locs hp175 hw => ?_)
              · exact fun p1 H1 locs1 hp hw => by subst hp; exact ⟨_, ⟨pf155, na, ma, wa, rfl, by first | with_reducible rfl | with_reducible assumption | omega, by first | with_reducible rfl | with_reducible assumption | omega⟩, hw.sub [0] rfl rfl⟩
              obtain ⟨rfl, hndp175⟩ := hp175
              have hndp175 : ¬ v172.toInt = 0 := hndp175
              have hw : pw D A s.heap H locs [wdP cs h r g tf ta pf155 na ma wa cf ca ef ea xf xa] := hw
              refine lv_aload_n S.x S.b d_Mpg_piece_117 rfl (lv_at hl 3 rfl) ?_
              refine lv_iload_n S.x S.b d_Mpg_piece_118 rfl (lv_at hl 2 rfl) ?_
              refine lv_iload_n S.x S.b d_Mpg_piece_119 rfl (lv_at hl 0 rfl) ?_
              refine th_callv (ps0 := [wdP cs h r g tf ta pf na ma wa cf ca ef ea xf xa]) (pr := []) (pcs := [wdP cs h r g tf ta pf155 na ma wa cf ca ef ea xf xa]) (As := [.int z13, .int v157]) (rest := []) (c_mp_functionText l D cs h r g tf ta cf ca ef ea xf xa pf155 na ma wa z13 v157  (show 0 ≤ (pf155 11).toInt from by first | exact oz_6f750b233b e160 tz153 g0 | omega) (show (pf155 11).toInt < (tf 6).toInt from by first | exact e161 | omega) (show (tf 6).toInt ≤ 2049 from by first | exact g2 | omega) (show (pf155 12).toInt = 0 from by first | exact oz_4193540c58 e163 g3 | omega) (show 0 ≤ (pf155 13).toInt from by first | exact oz_f3ebed1ad0 e164 g4 | omega) (show (pf155 13).toInt ≤ (pf155 11).toInt + 10 from by first | exact oz_48adc2bebd e160 e164 g5 tz153 | omega) (show (pf155 26).toInt = 0 from by first | exact oz_4193540c58 e167 g6 | omega) (show -1 ≤ (pf155 25).toInt from by first | exact oz_b850331a4a e166 g7 | omega) (show (pf155 25).toInt < (pf155 13).toInt from by first | exact oz_b6579fb52e e164 e166 g8 | omega) (show 0 ≤ z13.toInt from by first | exact oz_9175d0c236 nc114 | omega) (show z13.toInt ≤ 2 from by first | exact oz_7fea0476a4 nc114 | omega) (show 0 ≤ v157.toInt from by first | exact oz_b39abd85f8 e158 tz153 g0 | omega) (show v157.toInt < (tf 6).toInt from by first | exact oz_7faa3985b4 e158 e161 e160 | omega) (show 4 ≤ bp ta (pf155 11) from by first | with_reducible rfl | with_reducible assumption | omega) hlf htk (FsI.le (N' := (pf155 13).toInt) hfs (by first | with_reducible rfl | with_reducible assumption | omega)) (by assumption) (RzV.le (rz_eq hzg (by first | with_reducible rfl | with_reducible assumption | omega) (by first | with_reducible rfl | with_reducible assumption | omega)) (by first | with_reducible rfl | with_reducible assumption | omega) (by first | with_reducible rfl | with_reducible assumption | omega) (by first | with_reducible rfl | with_reducible assumption | omega) (by first | with_reducible rfl | with_reducible assumption | omega))) S hT hw (oX_call (P := (fun A U H => (oN A U H) ∧ (oP A g U H))) (pr := []) (oG_and oG_N oG_P) hw hA ⟨hN, hP⟩) (px_recv hT hw 0 0 rfl rfl rfl) m12_89 m12_86 m12_88 ms_10_7 m1_21 q_Mpg_functionText ⟨show (8 * 61 + 30) + 1 ≤ (8 * 61 + 32) from by first | with_reducible rfl | with_reducible assumption | omega, show 8 + (6 + 11) + (220 * 61 + 1360) ≤ (220 * 61 + 1440) from by first | with_reducible rfl | with_reducible assumption | omega⟩ hl.1 rfl (Nat.le_of_ble_eq_true rfl) d_Mpg_piece_120 ⟨Nat.le_of_ble_eq_true rfl, Nat.le_of_ble_eq_true rfl⟩ hne hlk hA hAe (fun o t h => Or.inr h) ?_ (fun p185 H locs hp185 hw => ?_)
              · exact fun p1 H1 locs1 hp hw => by obtain ⟨pq1, pq2, pq3, pq4, rfl, hq1, hq2⟩ := hp; exact ⟨_, ⟨pq1, pq2, pq3, pq4, rfl, hq1, hq2⟩, hw⟩
              obtain ⟨pf181, na182, ma183, wa184, rfl, e187, e188, e189, e190, e191, e192, e193, e194, e195, e196, e197⟩ := hp185
              have e187 : (pf155 11).toInt + 1 ≤ (pf181 11).toInt := e187
              have e188 : (pf181 11).toInt < (tf 6).toInt := e188
              have e189 : (pf155 13).toInt ≤ (pf181 13).toInt := e189
              have e190 : (pf181 13).toInt - (pf155 13).toInt ≤ (pf181 11).toInt - (pf155 11).toInt := e190
              have e191 : bp ta (pf155 11) + 1 ≤ bp ta (pf181 11) := e191
              have e192 : (pf181 12).toInt = 0 := e192
              have e193 : (pf181 26).toInt = 0 := e193
              have e194 : -1 ≤ (pf181 25).toInt := e194
              have e195 : (pf181 25).toInt < (pf181 13).toInt := e195
              have e196 : RzG ta (tf 6).toInt na182 ma183 (pf181 24) (pf181 25) 0 (pf181 13).toInt (3 * bp ta (pf181 11)) 200 := e196
              have hzg := e196
              have e197 : FsI (tf 6).toInt (pf181 13).toInt na182 := e197
              have hfs := e197
              have hw : pw D A s.heap H locs [wdP cs h r g tf ta pf181 na182 ma183 wa184 cf ca ef ea xf xa] := hw
              exact th_vret S hr hlk hAe hw (⟨pf181, na182, ma183, wa184, rfl, (show (pf 11).toInt + 1 ≤ (pf181 11).toInt from by first | exact oz_a0ac8cc8e1 tz153 e187 e160 | omega), (show (pf181 11).toInt < (tf 6).toInt from by first | exact e188 | omega), (show (pf 13).toInt ≤ (pf181 13).toInt from by first | exact oz_49930e0c7e e164 e189 | omega), (show (pf181 13).toInt - (pf 13).toInt ≤ (pf181 11).toInt - (pf 11).toInt from by first | exact oz_b01104479c tz153 e164 e190 e160 | omega), (show bp ta (pf 11) + 1 ≤ bp ta (pf181 11) from by first | with_reducible rfl | with_reducible assumption | omega), (show (pf181 12).toInt = 0 from by first | exact e192 | omega), (show (pf181 26).toInt = 0 from by first | exact e193 | omega), (show -1 ≤ (pf181 25).toInt from by first | exact e194 | omega), (show (pf181 25).toInt < (pf181 13).toInt from by first | exact e195 | omega), (show RzG ta (tf 6).toInt na182 ma183 (pf181 24) (pf181 25) 0 (pf181 13).toInt (3 * bp ta (pf181 11)) 200 from (RzV.le (rz_eq hzg (by first | with_reducible rfl | with_reducible assumption | omega) (by first | with_reducible rfl | with_reducible assumption | omega)) (by first | with_reducible rfl | with_reducible assumption | omega) (by first | with_reducible rfl | with_reducible assumption | omega) (by first | with_reducible rfl | with_reducible assumption | omega) (by first | with_reducible rfl | with_reducible assumption | omega))), (show FsI (tf 6).toInt (pf181 13).toInt na182 from (FsI.le hfs (by first | with_reducible rfl | with_reducible assumption | omega)))⟩) d_Mpg_piece_123
        · have nc112 : ¬ v109.toInt = (0 : Int) := mt (i_eq (x := v109) (y := 0)).mpr c112
          refine lv_iconst (v := 1) S.x S.b d_Mpg_piece_77 (by decide) ?_
          refine lv_goto (tgt := 82) S.x S.b d_Mpg_piece_78 (by decide) ?_
          refine lv_istore_n (lv' := [(2, .int 1), (1, .int z13), (0, .ref h)]) S.x S.b d_Mpg_piece_82 rfl hl (by decide) rfl (fun ls hl => ?_)
          refine lv_iload_n S.x S.b d_Mpg_piece_83 rfl (lv_at hl 0 rfl) ?_
          refine lv_if_ne (tgt := 92) S.x S.b d_Mpg_piece_84 (by decide) (fun c198 => ?_) (fun c198 => ?_)
          ·
            refine lv_aload_n S.x S.b d_Mpg_piece_92 rfl (lv_at hl 2 rfl) ?_
            refine lv_dup S.x S.b d_Mpg_piece_93 rfl ?_
            refine px_get S k_Mpg hT hw 0 0 11 (v := .int (pf 11)) rfl rfl rfl (by decide) m9_235 d_Mpg_piece_94 ?_
            refine lv_iconst (v := 1) S.x S.b d_Mpg_piece_97 (by decide) ?_
            refine lv_iadd S.x S.b d_Mpg_piece_98 ?_
            have lr199 := Int32.le_toInt (pf 11)
            have ur199 := Int32.toInt_lt (pf 11)
            refine lv_topi (fun z200 ez200 => ?_)
            have tz200 : z200.toInt = ((pf 11).toInt + (1 : Int) + 2147483648) % 4294967296 - 2147483648 := by rw [ez200]; exact i_add (pf 11) 1
            have lz200 := Int32.le_toInt z200
            have uz200 := Int32.toInt_lt z200
            try replace tz200 : z200.toInt = (pf 11).toInt + (1 : Int) := by omega
            have hnx98 := tk_n htk (x := (pf 11)) (y := z200) (by first | with_reducible rfl | with_reducible assumption | omega) (by first | with_reducible rfl | with_reducible assumption | omega) (by first | with_reducible rfl | with_reducible assumption | omega)
            refine px_put S k_Mpg hT hw 0 0 11 rfl rfl (by decide) m9_235 rfl rfl rfl (Nat.le_of_ble_eq_true rfl) d_Mpg_piece_99 (w' := wdP cs h r g tf ta (upd pf 11 z200) na ma wa cf ca ef ea xf xa) (ps' := [wdP cs h r g tf ta (upd pf 11 z200) na ma wa cf ca ef ea xf xa]) rfl rfl (fun H locs hw => ?_)
            refine lv_aload_n S.x S.b d_Mpg_piece_102 rfl (lv_at hl 2 rfl) ?_
            refine th_calli (ps0 := [wdP cs h r g tf ta pf na ma wa cf ca ef ea xf xa]) (pr := []) (pcs := [wdP cs h r g tf ta (upd pf 11 z200) na ma wa cf ca ef ea xf xa]) (As := []) (rest := []) (c_mp_name l D cs h r g tf ta na ma wa cf ca ef ea xf xa (upd pf 11 z200)   (show 0 ≤ z200.toInt from by first | exact oz_b3b25f0e49 tz200 g0 | omega) (show z200.toInt < (tf 6).toInt from by first | with_reducible rfl | with_reducible assumption | omega) (show (tf 6).toInt ≤ 2049 from by first | exact g2 | omega) hlf htk) S hT hw (oX_call (P := (fun A U H => (oN A U H) ∧ (oP A g U H))) (pr := []) (oG_and oG_N oG_P) hw hA ⟨hN, hP⟩) (px_recv hT hw 0 0 rfl rfl rfl) m12_2 m11_239 m12_1 ms_9_2 m1_21 q_Mpg_name ⟨show 7 + 1 ≤ (8 * 61 + 32) from by first | with_reducible rfl | with_reducible assumption | omega, show 8 + (1 + 11) + 150 ≤ (220 * 61 + 1440) from by first | with_reducible rfl | with_reducible assumption | omega⟩ hl.1 rfl (Nat.le_of_ble_eq_true rfl) d_Mpg_piece_103 ⟨Nat.le_of_ble_eq_true rfl, Nat.le_of_ble_eq_true rfl⟩ hne hlk hA hAe (fun o t h => Or.inr h) ?_ (fun v204 p203 H locs hp203 hw => ?_)
            · exact fun p1 H1 locs1 hp hw => by obtain ⟨pq1, pq2, pq3, pq4, rfl, hq1, hq2⟩ := hp; exact ⟨_, ⟨pq1, pq2, pq3, pq4, rfl, hq1, hq2⟩, hw⟩
            obtain ⟨pf202, rfl, e205, e206, e207, e208, e209, e210, e211, e212, e213, e214⟩ := hp203
            have e205 : v204.toInt = z200.toInt := e205
            have e206 : SoIs ta v204 1 := e206
            have e207 : (pf202 11).toInt = z200.toInt + 1 := e207
            have e208 : (pf202 11).toInt < (tf 6).toInt := e208
            have e209 : bp ta z200 + 1 ≤ bp ta (pf202 11) := e209
            have e210 : (pf202 12).toInt = (pf 12).toInt := e210
            have e211 : (pf202 13).toInt = (pf 13).toInt := e211
            have e212 : (pf202 24).toInt = (pf 24).toInt := e212
            have e213 : (pf202 25).toInt = (pf 25).toInt := e213
            have e214 : (pf202 26).toInt = (pf 26).toInt := e214
            have hw : pw D A s.heap H locs [wdP cs h r g tf ta pf202 na ma wa cf ca ef ea xf xa] := hw
            have lv204 := Int32.le_toInt v204
            have uv204 := Int32.toInt_lt v204
            refine lv_istore_n (lv' := [(3, .int v204), (2, .int 1), (1, .int z13), (0, .ref h)]) S.x S.b d_Mpg_piece_106 rfl hl (by decide) rfl (fun ls hl => ?_)
            refine lv_aload_n S.x S.b d_Mpg_piece_107 rfl (lv_at hl 3 rfl) ?_
            refine lv_aload_n S.x S.b d_Mpg_piece_108 rfl (lv_at hl 3 rfl) ?_
            obtain ⟨sk215, hRsk215, st216, sb217, hSsk215⟩ := oP_lit hP (k := 87) (tx := "(") (n := 1) (List.mem_of_getElem? (i := 35) rfl)
            refine va_ldcS S.x S.b S.own hRsk215 d_Mpg_piece_109 ?_
            refine px_calli (pr := []) (px_runV (As := [.ref sk215]) (rest := [.ref h]) S (c_mp_is l D cs sk215 1 h r g tf ta pf202 na ma wa cf ca ef ea xf xa   (show 0 ≤ (pf202 11).toInt from by first | exact oz_6f750b233b e207 tz200 g0 | omega) (show (pf202 11).toInt < (tf 6).toInt from by first | exact e208 | omega) (show (tf 6).toInt ≤ 2049 from by first | exact g2 | omega) (show 1 ≤ 100 from by first | decide | omega) htk _) hT (pr := []) (pcs := [wdP cs h r g tf ta pf202 na ma wa cf ca ef ea xf xa]) hw (oX_call (P := (fun A U H => (oP A g U H) ∧ (StS A sk215 1 U H))) (pr := []) (oG_and oG_P oG_Q) hw hA ⟨hP, ⟨_, _, hSsk215⟩⟩) (px_recv hT hw 0 0 rfl rfl rfl) m11_217 m11_214 m11_216 ms_8_14 m1_21 q_Mpg_is ⟨show 3 + 1 ≤ (8 * 61 + 32) from by first | with_reducible rfl | with_reducible assumption | omega, show 8 + (2 + 11) + 120 ≤ (220 * 61 + 1440) from by first | with_reducible rfl | with_reducible assumption | omega⟩ hl.1 rfl (Nat.le_of_ble_eq_true rfl) d_Mpg_piece_111 ⟨Nat.le_of_ble_eq_true rfl, Nat.le_of_ble_eq_true rfl⟩) hw hA (fun v219 p218 H locs hp218 hw => ?_)
            obtain ⟨rfl, e220, e221⟩ := hp218
            have e220 := z_rng e220
            have e221 : v219.toInt = 1 → (pf202 11).toInt + 1 < (tf 6).toInt ∧ so ta (pf202 11) = 5 := e221
            have hw : pw D A s.heap H locs [wdP cs h r g tf ta pf202 na ma wa cf ca ef ea xf xa] := hw
            have lv219 := Int32.le_toInt v219
            have uv219 := Int32.toInt_lt v219
            refine th_callv (ps0 := [wdP cs h r g tf ta pf na ma wa cf ca ef ea xf xa]) (pr := [wdP cs h r g tf ta pf202 na ma wa cf ca ef ea xf xa]) (pcs := []) (As := [.int v219]) (rest := []) (c_mp_need l hlf D cs h v219) S hT hw (oX_call (P := (fun A U H => (oN A U H))) (pr := [wdP cs h r g tf ta pf202 na ma wa cf ca ef ea xf xa]) oG_N hw hA hN) (px_recv hT hw 0 0 rfl rfl rfl) m11_233 m11_230 m11_232 ms_9_0 m1_21 q_Mpg_need ⟨show 6 + 1 ≤ (8 * 61 + 32) from by first | with_reducible rfl | with_reducible assumption | omega, show 8 + (2 + 11) + 100 ≤ (220 * 61 + 1440) from by first | with_reducible rfl | with_reducible assumption | omega⟩ hl.1 rfl (Nat.le_of_ble_eq_true rfl) d_Mpg_piece_114 ⟨Nat.le_of_ble_eq_true rfl, Nat.le_of_ble_eq_true rfl⟩ hne hlk hA hAe (fun o t h => Or.inr h) ?_ (fun p222 H locs hp222 hw => ?_)
            · exact fun p1 H1 locs1 hp hw => by subst hp; exact ⟨_, ⟨pf202, na, ma, wa, rfl, by first | with_reducible rfl | with_reducible assumption | omega, by first | with_reducible rfl | with_reducible assumption | omega⟩, hw.sub [0] rfl rfl⟩
            obtain ⟨rfl, hndp222⟩ := hp222
            have hndp222 : ¬ v219.toInt = 0 := hndp222
            have hw : pw D A s.heap H locs [wdP cs h r g tf ta pf202 na ma wa cf ca ef ea xf xa] := hw
            refine lv_aload_n S.x S.b d_Mpg_piece_117 rfl (lv_at hl 3 rfl) ?_
            refine lv_iload_n S.x S.b d_Mpg_piece_118 rfl (lv_at hl 2 rfl) ?_
            refine lv_iload_n S.x S.b d_Mpg_piece_119 rfl (lv_at hl 0 rfl) ?_
            refine th_callv (ps0 := [wdP cs h r g tf ta pf na ma wa cf ca ef ea xf xa]) (pr := []) (pcs := [wdP cs h r g tf ta pf202 na ma wa cf ca ef ea xf xa]) (As := [.int z13, .int v204]) (rest := []) (c_mp_functionText l D cs h r g tf ta cf ca ef ea xf xa pf202 na ma wa z13 v204  (show 0 ≤ (pf202 11).toInt from by first | exact oz_6f750b233b e207 tz200 g0 | omega) (show (pf202 11).toInt < (tf 6).toInt from by first | exact e208 | omega) (show (tf 6).toInt ≤ 2049 from by first | exact g2 | omega) (show (pf202 12).toInt = 0 from by first | exact oz_4193540c58 e210 g3 | omega) (show 0 ≤ (pf202 13).toInt from by first | exact oz_f3ebed1ad0 e211 g4 | omega) (show (pf202 13).toInt ≤ (pf202 11).toInt + 10 from by first | exact oz_48adc2bebd e207 e211 g5 tz200 | omega) (show (pf202 26).toInt = 0 from by first | exact oz_4193540c58 e214 g6 | omega) (show -1 ≤ (pf202 25).toInt from by first | exact oz_b850331a4a e213 g7 | omega) (show (pf202 25).toInt < (pf202 13).toInt from by first | exact oz_b6579fb52e e211 e213 g8 | omega) (show 0 ≤ z13.toInt from by first | with_reducible rfl | with_reducible assumption | omega) (show z13.toInt ≤ 2 from by first | with_reducible rfl | with_reducible assumption | omega) (show 0 ≤ v204.toInt from by first | exact oz_b39abd85f8 e205 tz200 g0 | omega) (show v204.toInt < (tf 6).toInt from by first | exact oz_7faa3985b4 e205 e208 e207 | omega) (show 4 ≤ bp ta (pf202 11) from by first | with_reducible rfl | with_reducible assumption | omega) hlf htk (FsI.le (N' := (pf202 13).toInt) hfs (by first | with_reducible rfl | with_reducible assumption | omega)) (by assumption) (RzV.le (rz_eq hzg (by first | with_reducible rfl | with_reducible assumption | omega) (by first | with_reducible rfl | with_reducible assumption | omega)) (by first | with_reducible rfl | with_reducible assumption | omega) (by first | with_reducible rfl | with_reducible assumption | omega) (by first | with_reducible rfl | with_reducible assumption | omega) (by first | with_reducible rfl | with_reducible assumption | omega))) S hT hw (oX_call (P := (fun A U H => (oN A U H) ∧ (oP A g U H))) (pr := []) (oG_and oG_N oG_P) hw hA ⟨hN, hP⟩) (px_recv hT hw 0 0 rfl rfl rfl) m12_89 m12_86 m12_88 ms_10_7 m1_21 q_Mpg_functionText ⟨show (8 * 61 + 30) + 1 ≤ (8 * 61 + 32) from by first | with_reducible rfl | with_reducible assumption | omega, show 8 + (6 + 11) + (220 * 61 + 1360) ≤ (220 * 61 + 1440) from by first | with_reducible rfl | with_reducible assumption | omega⟩ hl.1 rfl (Nat.le_of_ble_eq_true rfl) d_Mpg_piece_120 ⟨Nat.le_of_ble_eq_true rfl, Nat.le_of_ble_eq_true rfl⟩ hne hlk hA hAe (fun o t h => Or.inr h) ?_ (fun p232 H locs hp232 hw => ?_)
            · exact fun p1 H1 locs1 hp hw => by obtain ⟨pq1, pq2, pq3, pq4, rfl, hq1, hq2⟩ := hp; exact ⟨_, ⟨pq1, pq2, pq3, pq4, rfl, hq1, hq2⟩, hw⟩
            obtain ⟨pf228, na229, ma230, wa231, rfl, e234, e235, e236, e237, e238, e239, e240, e241, e242, e243, e244⟩ := hp232
            have e234 : (pf202 11).toInt + 1 ≤ (pf228 11).toInt := e234
            have e235 : (pf228 11).toInt < (tf 6).toInt := e235
            have e236 : (pf202 13).toInt ≤ (pf228 13).toInt := e236
            have e237 : (pf228 13).toInt - (pf202 13).toInt ≤ (pf228 11).toInt - (pf202 11).toInt := e237
            have e238 : bp ta (pf202 11) + 1 ≤ bp ta (pf228 11) := e238
            have e239 : (pf228 12).toInt = 0 := e239
            have e240 : (pf228 26).toInt = 0 := e240
            have e241 : -1 ≤ (pf228 25).toInt := e241
            have e242 : (pf228 25).toInt < (pf228 13).toInt := e242
            have e243 : RzG ta (tf 6).toInt na229 ma230 (pf228 24) (pf228 25) 0 (pf228 13).toInt (3 * bp ta (pf228 11)) 200 := e243
            have hzg := e243
            have e244 : FsI (tf 6).toInt (pf228 13).toInt na229 := e244
            have hfs := e244
            have hw : pw D A s.heap H locs [wdP cs h r g tf ta pf228 na229 ma230 wa231 cf ca ef ea xf xa] := hw
            exact th_vret S hr hlk hAe hw (⟨pf228, na229, ma230, wa231, rfl, (show (pf 11).toInt + 1 ≤ (pf228 11).toInt from by first | exact oz_a0ac8cc8e1 tz200 e234 e207 | omega), (show (pf228 11).toInt < (tf 6).toInt from by first | exact e235 | omega), (show (pf 13).toInt ≤ (pf228 13).toInt from by first | exact oz_49930e0c7e e211 e236 | omega), (show (pf228 13).toInt - (pf 13).toInt ≤ (pf228 11).toInt - (pf 11).toInt from by first | exact oz_b01104479c tz200 e211 e237 e207 | omega), (show bp ta (pf 11) + 1 ≤ bp ta (pf228 11) from by first | with_reducible rfl | with_reducible assumption | omega), (show (pf228 12).toInt = 0 from by first | exact e239 | omega), (show (pf228 26).toInt = 0 from by first | exact e240 | omega), (show -1 ≤ (pf228 25).toInt from by first | exact e241 | omega), (show (pf228 25).toInt < (pf228 13).toInt from by first | exact e242 | omega), (show RzG ta (tf 6).toInt na229 ma230 (pf228 24) (pf228 25) 0 (pf228 13).toInt (3 * bp ta (pf228 11)) 200 from (RzV.le (rz_eq hzg (by first | with_reducible rfl | with_reducible assumption | omega) (by first | with_reducible rfl | with_reducible assumption | omega)) (by first | with_reducible rfl | with_reducible assumption | omega) (by first | with_reducible rfl | with_reducible assumption | omega) (by first | with_reducible rfl | with_reducible assumption | omega) (by first | with_reducible rfl | with_reducible assumption | omega))), (show FsI (tf 6).toInt (pf228 13).toInt na229 from (FsI.le hfs (by first | with_reducible rfl | with_reducible assumption | omega)))⟩) d_Mpg_piece_123
          · exact absurd c198 (by decide)
    · have nc10 : v7.toInt = (0 : Int) := (i_eq (x := v7) (y := 0)).mp c10
      refine lv_aload_n S.x S.b d_Mpg_piece_21 rfl (lv_at hl 0 rfl) ?_
      refine lv_iconst (v := 2) S.x S.b d_Mpg_piece_22 (by decide) ?_
      refine px_calli (pr := []) (px_runV (As := [.int 2]) (rest := [.ref h]) S (c_mp_isKey l D cs h r g tf ta pf na ma wa cf ca ef ea xf xa 2  (show 0 ≤ (pf 11).toInt from by first | exact g0 | omega) (show (pf 11).toInt < (tf 6).toInt from by first | exact g1 | omega) (show (tf 6).toInt ≤ 2049 from by first | exact g2 | omega) htk _) hT (pr := []) (pcs := [wdP cs h r g tf ta pf na ma wa cf ca ef ea xf xa]) hw px_X.tt (px_recv hT hw 0 0 rfl rfl rfl) m11_201 m11_198 m11_200 ms_8_10 m1_21 q_Mpg_isKey ⟨show 0 + 1 ≤ (8 * 61 + 32) from by first | with_reducible rfl | with_reducible assumption | omega, show 8 + (2 + 11) + 0 ≤ (220 * 61 + 1440) from by first | with_reducible rfl | with_reducible assumption | omega⟩ hl.1 rfl (Nat.le_of_ble_eq_true rfl) d_Mpg_piece_23 ⟨Nat.le_of_ble_eq_true rfl, Nat.le_of_ble_eq_true rfl⟩) hw hA (fun v246 p245 H locs hp245 hw => ?_)
      obtain ⟨rfl, e247, e248⟩ := hp245
      have e247 := z_rng e247
      have e248 : v246.toInt = 1 → (pf 11).toInt + 1 < (tf 6).toInt ∧ so ta (pf 11) = 2 ∧ wh ta (pf 11) = (2 : Int) := e248
      have hw : pw D A s.heap H locs [wdP cs h r g tf ta pf na ma wa cf ca ef ea xf xa] := hw
      have lv246 := Int32.le_toInt v246
      have uv246 := Int32.toInt_lt v246
      refine lv_if_eq (tgt := 33) S.x S.b d_Mpg_piece_26 (by decide) (fun c249 => ?_) (fun c249 => ?_)
      · have nc249 : v246.toInt = (0 : Int) := (i_eq (x := v246) (y := 0)).mp c249
        refine lv_iconst (v := 0) S.x S.b d_Mpg_piece_33 (by decide) ?_
        refine th_callv (ps0 := [wdP cs h r g tf ta pf na ma wa cf ca ef ea xf xa]) (pr := [wdP cs h r g tf ta pf na ma wa cf ca ef ea xf xa]) (pcs := []) (As := [.int 0]) (rest := []) (c_mp_need l hlf D cs h 0) S hT hw (oX_call (P := (fun A U H => (oN A U H))) (pr := [wdP cs h r g tf ta pf na ma wa cf ca ef ea xf xa]) oG_N hw hA hN) (px_recv hT hw 0 0 rfl rfl rfl) m11_233 m11_230 m11_232 ms_9_0 m1_21 q_Mpg_need ⟨show 6 + 1 ≤ (8 * 61 + 32) from by first | with_reducible rfl | with_reducible assumption | omega, show 8 + (2 + 11) + 100 ≤ (220 * 61 + 1440) from by first | with_reducible rfl | with_reducible assumption | omega⟩ hl.1 rfl (Nat.le_of_ble_eq_true rfl) d_Mpg_piece_34 ⟨Nat.le_of_ble_eq_true rfl, Nat.le_of_ble_eq_true rfl⟩ hne hlk hA hAe (fun o t h => Or.inr h) ?_ (fun p250 H locs hp250 hw => ?_)
        · exact fun p1 H1 locs1 hp hw => by subst hp; exact ⟨_, ⟨pf, na, ma, wa, rfl, by first | with_reducible rfl | with_reducible assumption | omega, by first | with_reducible rfl | with_reducible assumption | omega⟩, hw.sub [0] rfl rfl⟩
        obtain ⟨rfl, hndp250⟩ := hp250
        have hndp250 : ¬ (0 : Int) = 0 := hndp250
        have hw : pw D A s.heap H locs [wdP cs h r g tf ta pf na ma wa cf ca ef ea xf xa] := hw
        refine lv_aload_n S.x S.b d_Mpg_piece_37 rfl (lv_at hl 0 rfl) ?_
        refine px_get S k_Mpg hT hw 0 0 10 (v := .ref (r 10)) rfl rfl rfl (by decide) m9_234 d_Mpg_piece_38 ?_
        refine lv_aload_n S.x S.b d_Mpg_piece_41 rfl (lv_at hl 0 rfl) ?_
        refine px_get S k_Mpg hT hw 0 0 11 (v := .int (pf 11)) rfl rfl rfl (by decide) m9_235 d_Mpg_piece_42 ?_
        refine px_iald S hT hw 0 9 (n := 2060) (f := (ta 10)) rfl gp_10 (x := (pf 11)) (vp_in_iff.mpr (by first | exact oz_846323bf3a g0 g1 g2 | (constructor <;> omega))) d_Mpg_piece_45 ?_
        refine lv_topi (fun z252 ez252 => ?_)
        have lz252 := Int32.le_toInt z252
        have uz252 := Int32.toInt_lt z252
        have rz252 : z252.toInt = wh ta (pf 11) := by rw [ez252]; rfl
        have hk3 := tk_k3 htk (x := (pf 11)) (by first | with_reducible rfl | with_reducible assumption | omega) (by first | with_reducible rfl | with_reducible assumption | omega) (by first | with_reducible rfl | with_reducible assumption | omega) (by first | with_reducible rfl | with_reducible assumption | omega)
        refine lv_istore_n (lv' := [(1, .int z252), (0, .ref h)]) S.x S.b d_Mpg_piece_46 rfl hl (by decide) rfl (fun ls hl => ?_)
        refine lv_aload_n S.x S.b d_Mpg_piece_47 rfl (lv_at hl 1 rfl) ?_
        refine px_get S k_Mpg hT hw 0 0 9 (v := .ref (r 9)) rfl rfl rfl (by decide) m9_233 d_Mpg_piece_48 ?_
        refine lv_aload_n S.x S.b d_Mpg_piece_51 rfl (lv_at hl 1 rfl) ?_
        refine px_get S k_Mpg hT hw 0 0 11 (v := .int (pf 11)) rfl rfl rfl (by decide) m9_235 d_Mpg_piece_52 ?_
        refine lv_iconst (v := 1) S.x S.b d_Mpg_piece_55 (by decide) ?_
        refine lv_iadd S.x S.b d_Mpg_piece_56 ?_
        have lr253 := Int32.le_toInt (pf 11)
        have ur253 := Int32.toInt_lt (pf 11)
        refine lv_topi (fun z254 ez254 => ?_)
        have tz254 : z254.toInt = ((pf 11).toInt + (1 : Int) + 2147483648) % 4294967296 - 2147483648 := by rw [ez254]; exact i_add (pf 11) 1
        have lz254 := Int32.le_toInt z254
        have uz254 := Int32.toInt_lt z254
        try replace tz254 : z254.toInt = (pf 11).toInt + (1 : Int) := by omega
        refine px_bald S hT hw 0 8 (n := 2060) (f := (ta 9)) rfl gp_9 (x := z254) (vp_in_iff.mpr (by first | exact oz_b51d39aa29 tz254 g0 g1 g2 | (constructor <;> omega))) d_Mpg_piece_57 ?_
        refine lv_topi (fun z255 ez255 => ?_)
        have lz255 := Int32.le_toInt z255
        have uz255 := Int32.toInt_lt z255
        have rz255 := tk_s htk (x := z254) (by first | with_reducible rfl | with_reducible assumption | omega) (by first | with_reducible rfl | with_reducible assumption | omega) ez255
        refine lv_iconst (v := 1) S.x S.b d_Mpg_piece_58 (by decide) ?_
        refine lv_icmp_ne (tgt := 81) S.x S.b d_Mpg_piece_59 (by decide) (fun c256 => ?_) (fun c256 => ?_)
        · have nc256 : ¬ z255.toInt = (1 : Int) := mt (i_eq (x := z255) (y := 1)).mpr c256
          refine lv_iconst (v := 0) S.x S.b d_Mpg_piece_81 (by decide) ?_
          refine lv_istore_n (lv' := [(2, .int 0), (1, .int z252), (0, .ref h)]) S.x S.b d_Mpg_piece_82 rfl hl (by decide) rfl (fun ls hl => ?_)
          refine lv_iload_n S.x S.b d_Mpg_piece_83 rfl (lv_at hl 0 rfl) ?_
          refine lv_if_ne (tgt := 92) S.x S.b d_Mpg_piece_84 (by decide) (fun c257 => ?_) (fun c257 => ?_)
          · exact absurd c257 (by decide)
          ·
            refine lv_iload_n S.x S.b d_Mpg_piece_87 rfl (lv_at hl 1 rfl) ?_
            refine lv_iconst (v := 2) S.x S.b d_Mpg_piece_88 (by decide) ?_
            refine lv_icmp_ne (tgt := 124) S.x S.b d_Mpg_piece_89 (by decide) (fun c258 => ?_) (fun c258 => ?_)
            · have nc258 : ¬ z252.toInt = (2 : Int) := mt (i_eq (x := z252) (y := 2)).mpr c258
              refine lv_aload_n S.x S.b d_Mpg_piece_124 rfl (lv_at hl 2 rfl) ?_
              refine lv_aload_n S.x S.b d_Mpg_piece_125 rfl (lv_at hl 2 rfl) ?_
              refine th_calli (ps0 := [wdP cs h r g tf ta pf na ma wa cf ca ef ea xf xa]) (pr := []) (pcs := [wdP cs h r g tf ta pf na ma wa cf ca ef ea xf xa]) (As := []) (rest := [.ref h]) (c_mp_declaration l D cs h r g tf ta cf ca ef ea xf xa pf na ma wa  lv (show 0 ≤ (pf 11).toInt from by first | exact g0 | omega) (show (pf 11).toInt < (tf 6).toInt from by first | exact g1 | omega) (show (tf 6).toInt ≤ 2049 from by first | exact g2 | omega) (show 0 ≤ (pf 12).toInt from by first | exact oz_b1de7dbe7e g3 | omega) (show (pf 12).toInt ≤ 60 from by first | exact oz_c48710cd70 g3 | omega) (show 0 ≤ (pf 13).toInt from by first | exact g4 | omega) (show (pf 13).toInt ≤ (pf 11).toInt + 10 from by first | exact g5 | omega) (show 0 ≤ (pf 26).toInt from by first | exact oz_b1de7dbe7e g6 | omega) (show (pf 26).toInt ≤ (pf 12).toInt from by first | exact oz_aca53b6681 g3 g6 | omega) (show 61 ≤ (pf 12).toInt + (lv : Int) from by first | with_reducible rfl | with_reducible assumption | omega) (show lv ≤ 61 from by first | with_reducible rfl | with_reducible assumption | omega) (show (pf 11).toInt + 1 < (tf 6).toInt from by first | with_reducible rfl | with_reducible assumption | omega) (show so ta (pf 11) = 2 from by first | with_reducible rfl | with_reducible assumption | omega) (show 0 ≤ wh ta (pf 11) from by first | exact hk3.2 | omega) (show wh ta (pf 11) ≤ 1 from by first | with_reducible rfl | with_reducible assumption | omega) hlf htk (FsI.le (N' := (pf 13).toInt) hfs (by first | with_reducible rfl | with_reducible assumption | omega))) S hT hw (oX_call (P := (fun A U H => (oN A U H) ∧ (oP A g U H))) (pr := []) (oG_and oG_N oG_P) hw hA ⟨hN, hP⟩) (px_recv hT hw 0 0 rfl rfl rfl) m12_105 m12_102 m12_104 ms_10_11 m1_21 q_Mpg_declaration ⟨show (8 * lv + 25) + 1 ≤ (8 * 61 + 32) from by first | with_reducible rfl | with_reducible assumption | omega, show 8 + (2 + 11) + (220 * lv + 1160) ≤ (220 * 61 + 1440) from by first | with_reducible rfl | with_reducible assumption | omega⟩ hl.1 rfl (Nat.le_of_ble_eq_true rfl) d_Mpg_piece_126 ⟨Nat.le_of_ble_eq_true rfl, Nat.le_of_ble_eq_true rfl⟩ hne hlk hA hAe (fun o t h => Or.inr h) ?_ (fun v268 p267 H locs hp267 hw => ?_)
              · exact fun p1 H1 locs1 hp hw => by obtain ⟨pq1, pq2, pq3, pq4, rfl, hq1, hq2⟩ := hp; exact ⟨_, ⟨pq1, pq2, pq3, pq4, rfl, hq1, hq2⟩, hw⟩
              obtain ⟨pf263, na264, ma265, wa266, rfl, e269, e270, e271, e272, e273, e274, e275, e276, e277, e278, e279, e280, e281, e282⟩ := hp267
              have e269 : (pf 11).toInt + 1 ≤ (pf263 11).toInt := e269
              have e270 : (pf263 11).toInt < (tf 6).toInt := e270
              have e271 : (pf 13).toInt + 1 ≤ (pf263 13).toInt := e271
              have e272 : (pf263 13).toInt - (pf 13).toInt ≤ (pf263 11).toInt - (pf 11).toInt := e272
              have e273 : bp ta (pf 11) + 1 ≤ bp ta (pf263 11) := e273
              have e274 : (pf263 12).toInt = (pf 12).toInt := e274
              have e275 : (pf263 24).toInt = (pf 24).toInt := e275
              have e276 : (pf263 25).toInt = (pf 25).toInt := e276
              have e277 : (pf263 26).toInt = (pf 26).toInt := e277
              have e278 : FrB (pf 13).toInt na ma na264 ma265 := e278
              have hzg := hzg.ag fg_ok (FrB.ag e278 (by first | with_reducible rfl | with_reducible assumption | omega))
              have hfb := hfb.tr e278 (by first | with_reducible rfl | with_reducible assumption | omega)
              have e279 : FrW (pf 26).toInt wa wa266 := e279
              have hfw := hfw.tr e279 (by first | with_reducible rfl | with_reducible assumption | omega)
              have e280 : VlS ta (tf 6).toInt na264 ma265 v268 (pf 13).toInt (pf263 13).toInt (3 * (bp ta (pf263 11) - bp ta (pf 11))) (200 - (pf 12).toInt) := e280
              have hv_v268 := e280
              have hn_hv_v268 := hv_v268.num fs_ok
              have e281 : DcN na264 v268 := e281
              have hf_14_v268 : na264 14 v268.toNatClampNeg = 23 := e281
              have e282 : FsI (tf 6).toInt (pf263 13).toInt na264 := e282
              have hfs := e282
              have hw : pw D A s.heap H locs [wdP cs h r g tf ta pf263 na264 ma265 wa266 cf ca ef ea xf xa] := hw
              have lv268 := Int32.le_toInt v268
              have uv268 := Int32.toInt_lt v268
              refine px_callv (pr := []) (px_runV (As := [.int v268]) (rest := []) S (c_mp_add l D cs h r g tf ta ma265 wa266 cf ca ef ea xf xa pf263 na264 v268  (show (pf263 25).toInt < 2100 from by first | exact oz_94e1af121e e276 g8 g5 e269 e270 g2 | omega) htk _) hT (pr := []) (pcs := [wdP cs h r g tf ta pf263 na264 ma265 wa266 cf ca ef ea xf xa]) hw px_X.tt (px_recv hT hw 0 0 rfl rfl rfl) m12_81 m12_78 m12_80 ms_10_5 m1_21 q_Mpg_add ⟨show 1 + 1 ≤ (8 * 61 + 32) from by first | with_reducible rfl | with_reducible assumption | omega, show 8 + (2 + 11) + 30 ≤ (220 * 61 + 1440) from by first | with_reducible rfl | with_reducible assumption | omega⟩ hl.1 rfl (Nat.le_of_ble_eq_true rfl) d_Mpg_piece_129 ⟨Nat.le_of_ble_eq_true rfl, Nat.le_of_ble_eq_true rfl⟩) hw hA (fun p287 H locs hp287 hw => ?_)
              obtain ⟨pf285, na286, rfl, e289, e290, e291, e292, e293, e294⟩ := hp287
              have e289 : (pf285 11).toInt = (pf263 11).toInt := e289
              have e290 : (pf285 12).toInt = (pf263 12).toInt := e290
              have e291 : (pf285 13).toInt = (pf263 13).toInt := e291
              have e292 : (pf285 26).toInt = (pf263 26).toInt := e292
              have e293 : (pf285 25).toInt = v268.toInt := e293
              have e294 : Hg na264 na286 (pf263 24) (pf263 25) v268 (pf285 24) := e294
              have hvg := vg_decl (VlV.le hv_v268 (Int.le_refl _) (Int.le_refl _) (Int.le_refl _) (show _ ≤ (200 : Int) from by first | with_reducible rfl | with_reducible assumption | omega)) hf_14_v268
              have hzg := Hg.row e294 fg_ok (rz_eq hzg (by first | with_reducible rfl | with_reducible assumption | omega) (by first | with_reducible rfl | with_reducible assumption | omega)) (VlV.le hvg (by first | with_reducible rfl | with_reducible assumption | omega) (Int.le_refl _) (Int.le_refl _) (by first | with_reducible rfl | with_reducible assumption | omega)) (by first | with_reducible rfl | with_reducible assumption | omega) (by first | with_reducible rfl | with_reducible assumption | omega)
              have hfs := FsI.hg hfs e294
              obtain ⟨qb2951, qb2952, qb2953, qb2954⟩ := tk_eq (ta := ta) (x := (pf285 11)) (y := (pf263 11)) (by first | with_reducible rfl | with_reducible assumption | omega)
              have hw : pw D A s.heap H locs [wdP cs h r g tf ta pf285 na286 ma265 wa266 cf ca ef ea xf xa] := hw
              exact th_vret S hr hlk hAe hw (⟨pf285, na286, ma265, wa266, rfl, (show (pf 11).toInt + 1 ≤ (pf285 11).toInt from by first | exact oz_213e98d3f1 e269 e289 | omega), (show (pf285 11).toInt < (tf 6).toInt from by first | exact oz_5d2fbac15b e270 e289 | omega), (show (pf 13).toInt ≤ (pf285 13).toInt from by first | exact oz_a98a1e881c e271 e291 | omega), (show (pf285 13).toInt - (pf 13).toInt ≤ (pf285 11).toInt - (pf 11).toInt from by first | exact oz_7d2ce61601 e272 e289 e291 | omega), (show bp ta (pf 11) + 1 ≤ bp ta (pf285 11) from by first | with_reducible rfl | with_reducible assumption | omega), (show (pf285 12).toInt = 0 from by first | exact oz_bfc0cf0d20 e290 e274 g3 | omega), (show (pf285 26).toInt = 0 from by first | exact oz_bfc0cf0d20 e292 e277 g6 | omega), (show -1 ≤ (pf285 25).toInt from by first | with_reducible rfl | with_reducible assumption | omega), (show (pf285 25).toInt < (pf285 13).toInt from by first | with_reducible rfl | with_reducible assumption | omega), (show RzG ta (tf 6).toInt na286 ma265 (pf285 24) (pf285 25) 0 (pf285 13).toInt (3 * bp ta (pf285 11)) 200 from (RzV.le (rz_eq (Or.inr hzg) (by first | with_reducible rfl | with_reducible assumption | omega) (by first | with_reducible rfl | with_reducible assumption | omega)) (by first | with_reducible rfl | with_reducible assumption | omega) (by first | with_reducible rfl | with_reducible assumption | omega) (by first | with_reducible rfl | with_reducible assumption | omega) (by first | with_reducible rfl | with_reducible assumption | omega))), (show FsI (tf 6).toInt (pf285 13).toInt na286 from (FsI.le hfs (by first | with_reducible rfl | with_reducible assumption | omega)))⟩) d_Mpg_piece_132
            · have nc258 : z252.toInt = (2 : Int) := (i_eq (x := z252) (y := 2)).mp c258
              refine lv_aload_n S.x S.b d_Mpg_piece_92 rfl (lv_at hl 2 rfl) ?_
              refine lv_dup S.x S.b d_Mpg_piece_93 rfl ?_
              refine px_get S k_Mpg hT hw 0 0 11 (v := .int (pf 11)) rfl rfl rfl (by decide) m9_235 d_Mpg_piece_94 ?_
              refine lv_iconst (v := 1) S.x S.b d_Mpg_piece_97 (by decide) ?_
              refine lv_iadd S.x S.b d_Mpg_piece_98 ?_
              have lr296 := Int32.le_toInt (pf 11)
              have ur296 := Int32.toInt_lt (pf 11)
              refine lv_topi (fun z297 ez297 => ?_)
              have tz297 : z297.toInt = ((pf 11).toInt + (1 : Int) + 2147483648) % 4294967296 - 2147483648 := by rw [ez297]; exact i_add (pf 11) 1
              have lz297 := Int32.le_toInt z297
              have uz297 := Int32.toInt_lt z297
              try replace tz297 : z297.toInt = (pf 11).toInt + (1 : Int) := by omega
              have hnx98 := tk_n htk (x := (pf 11)) (y := z297) (by first | with_reducible rfl | with_reducible assumption | omega) (by first | with_reducible rfl | with_reducible assumption | omega) (by first | with_reducible rfl | with_reducible assumption | omega)
              refine px_put S k_Mpg hT hw 0 0 11 rfl rfl (by decide) m9_235 rfl rfl rfl (Nat.le_of_ble_eq_true rfl) d_Mpg_piece_99 (w' := wdP cs h r g tf ta (upd pf 11 z297) na ma wa cf ca ef ea xf xa) (ps' := [wdP cs h r g tf ta (upd pf 11 z297) na ma wa cf ca ef ea xf xa]) rfl rfl (fun H locs hw => ?_)
              refine lv_aload_n S.x S.b d_Mpg_piece_102 rfl (lv_at hl 2 rfl) ?_
              refine th_calli (ps0 := [wdP cs h r g tf ta pf na ma wa cf ca ef ea xf xa]) (pr := []) (pcs := [wdP cs h r g tf ta (upd pf 11 z297) na ma wa cf ca ef ea xf xa]) (As := []) (rest := []) (c_mp_name l D cs h r g tf ta na ma wa cf ca ef ea xf xa (upd pf 11 z297)   (show 0 ≤ z297.toInt from by first | exact oz_b3b25f0e49 tz297 g0 | omega) (show z297.toInt < (tf 6).toInt from by first | with_reducible rfl | with_reducible assumption | omega) (show (tf 6).toInt ≤ 2049 from by first | exact g2 | omega) hlf htk) S hT hw (oX_call (P := (fun A U H => (oN A U H) ∧ (oP A g U H))) (pr := []) (oG_and oG_N oG_P) hw hA ⟨hN, hP⟩) (px_recv hT hw 0 0 rfl rfl rfl) m12_2 m11_239 m12_1 ms_9_2 m1_21 q_Mpg_name ⟨show 7 + 1 ≤ (8 * 61 + 32) from by first | with_reducible rfl | with_reducible assumption | omega, show 8 + (1 + 11) + 150 ≤ (220 * 61 + 1440) from by first | with_reducible rfl | with_reducible assumption | omega⟩ hl.1 rfl (Nat.le_of_ble_eq_true rfl) d_Mpg_piece_103 ⟨Nat.le_of_ble_eq_true rfl, Nat.le_of_ble_eq_true rfl⟩ hne hlk hA hAe (fun o t h => Or.inr h) ?_ (fun v301 p300 H locs hp300 hw => ?_)
              · exact fun p1 H1 locs1 hp hw => by obtain ⟨pq1, pq2, pq3, pq4, rfl, hq1, hq2⟩ := hp; exact ⟨_, ⟨pq1, pq2, pq3, pq4, rfl, hq1, hq2⟩, hw⟩
              obtain ⟨pf299, rfl, e302, e303, e304, e305, e306, e307, e308, e309, e310, e311⟩ := hp300
              have e302 : v301.toInt = z297.toInt := e302
              have e303 : SoIs ta v301 1 := e303
              have e304 : (pf299 11).toInt = z297.toInt + 1 := e304
              have e305 : (pf299 11).toInt < (tf 6).toInt := e305
              have e306 : bp ta z297 + 1 ≤ bp ta (pf299 11) := e306
              have e307 : (pf299 12).toInt = (pf 12).toInt := e307
              have e308 : (pf299 13).toInt = (pf 13).toInt := e308
              have e309 : (pf299 24).toInt = (pf 24).toInt := e309
              have e310 : (pf299 25).toInt = (pf 25).toInt := e310
              have e311 : (pf299 26).toInt = (pf 26).toInt := e311
              have hw : pw D A s.heap H locs [wdP cs h r g tf ta pf299 na ma wa cf ca ef ea xf xa] := hw
              have lv301 := Int32.le_toInt v301
              have uv301 := Int32.toInt_lt v301
              refine lv_istore_n (lv' := [(3, .int v301), (2, .int 0), (1, .int z252), (0, .ref h)]) S.x S.b d_Mpg_piece_106 rfl hl (by decide) rfl (fun ls hl => ?_)
              refine lv_aload_n S.x S.b d_Mpg_piece_107 rfl (lv_at hl 3 rfl) ?_
              refine lv_aload_n S.x S.b d_Mpg_piece_108 rfl (lv_at hl 3 rfl) ?_
              obtain ⟨sk312, hRsk312, st313, sb314, hSsk312⟩ := oP_lit hP (k := 87) (tx := "(") (n := 1) (List.mem_of_getElem? (i := 35) rfl)
              refine va_ldcS S.x S.b S.own hRsk312 d_Mpg_piece_109 ?_
              refine px_calli (pr := []) (px_runV (As := [.ref sk312]) (rest := [.ref h]) S (c_mp_is l D cs sk312 1 h r g tf ta pf299 na ma wa cf ca ef ea xf xa   (show 0 ≤ (pf299 11).toInt from by first | exact oz_6f750b233b e304 tz297 g0 | omega) (show (pf299 11).toInt < (tf 6).toInt from by first | exact e305 | omega) (show (tf 6).toInt ≤ 2049 from by first | exact g2 | omega) (show 1 ≤ 100 from by first | decide | omega) htk _) hT (pr := []) (pcs := [wdP cs h r g tf ta pf299 na ma wa cf ca ef ea xf xa]) hw (oX_call (P := (fun A U H => (oP A g U H) ∧ (StS A sk312 1 U H))) (pr := []) (oG_and oG_P oG_Q) hw hA ⟨hP, ⟨_, _, hSsk312⟩⟩) (px_recv hT hw 0 0 rfl rfl rfl) m11_217 m11_214 m11_216 ms_8_14 m1_21 q_Mpg_is ⟨show 3 + 1 ≤ (8 * 61 + 32) from by first | with_reducible rfl | with_reducible assumption | omega, show 8 + (2 + 11) + 120 ≤ (220 * 61 + 1440) from by first | with_reducible rfl | with_reducible assumption | omega⟩ hl.1 rfl (Nat.le_of_ble_eq_true rfl) d_Mpg_piece_111 ⟨Nat.le_of_ble_eq_true rfl, Nat.le_of_ble_eq_true rfl⟩) hw hA (fun v316 p315 H locs hp315 hw => ?_)
              obtain ⟨rfl, e317, e318⟩ := hp315
              have e317 := z_rng e317
              have e318 : v316.toInt = 1 → (pf299 11).toInt + 1 < (tf 6).toInt ∧ so ta (pf299 11) = 5 := e318
              have hw : pw D A s.heap H locs [wdP cs h r g tf ta pf299 na ma wa cf ca ef ea xf xa] := hw
              have lv316 := Int32.le_toInt v316
              have uv316 := Int32.toInt_lt v316
              refine th_callv (ps0 := [wdP cs h r g tf ta pf na ma wa cf ca ef ea xf xa]) (pr := [wdP cs h r g tf ta pf299 na ma wa cf ca ef ea xf xa]) (pcs := []) (As := [.int v316]) (rest := []) (c_mp_need l hlf D cs h v316) S hT hw (oX_call (P := (fun A U H => (oN A U H))) (pr := [wdP cs h r g tf ta pf299 na ma wa cf ca ef ea xf xa]) oG_N hw hA hN) (px_recv hT hw 0 0 rfl rfl rfl) m11_233 m11_230 m11_232 ms_9_0 m1_21 q_Mpg_need ⟨show 6 + 1 ≤ (8 * 61 + 32) from by first | with_reducible rfl | with_reducible assumption | omega, show 8 + (2 + 11) + 100 ≤ (220 * 61 + 1440) from by first | with_reducible rfl | with_reducible assumption | omega⟩ hl.1 rfl (Nat.le_of_ble_eq_true rfl) d_Mpg_piece_114 ⟨Nat.le_of_ble_eq_true rfl, Nat.le_of_ble_eq_true rfl⟩ hne hlk hA hAe (fun o t h => Or.inr h) ?_ (fun p319 H locs hp319 hw => ?_)
              · exact fun p1 H1 locs1 hp hw => by subst hp; exact ⟨_, ⟨pf299, na, ma, wa, rfl, by first | with_reducible rfl | with_reducible assumption | omega, by first | with_reducible rfl | with_reducible assumption | omega⟩, hw.sub [0] rfl rfl⟩
              obtain ⟨rfl, hndp319⟩ := hp319
              have hndp319 : ¬ v316.toInt = 0 := hndp319
              have hw : pw D A s.heap H locs [wdP cs h r g tf ta pf299 na ma wa cf ca ef ea xf xa] := hw
              refine lv_aload_n S.x S.b d_Mpg_piece_117 rfl (lv_at hl 3 rfl) ?_
              refine lv_iload_n S.x S.b d_Mpg_piece_118 rfl (lv_at hl 2 rfl) ?_
              refine lv_iload_n S.x S.b d_Mpg_piece_119 rfl (lv_at hl 0 rfl) ?_
              refine th_callv (ps0 := [wdP cs h r g tf ta pf na ma wa cf ca ef ea xf xa]) (pr := []) (pcs := [wdP cs h r g tf ta pf299 na ma wa cf ca ef ea xf xa]) (As := [.int z252, .int v301]) (rest := []) (c_mp_functionText l D cs h r g tf ta cf ca ef ea xf xa pf299 na ma wa z252 v301  (show 0 ≤ (pf299 11).toInt from by first | exact oz_6f750b233b e304 tz297 g0 | omega) (show (pf299 11).toInt < (tf 6).toInt from by first | exact e305 | omega) (show (tf 6).toInt ≤ 2049 from by first | exact g2 | omega) (show (pf299 12).toInt = 0 from by first | exact oz_4193540c58 e307 g3 | omega) (show 0 ≤ (pf299 13).toInt from by first | exact oz_f3ebed1ad0 e308 g4 | omega) (show (pf299 13).toInt ≤ (pf299 11).toInt + 10 from by first | exact oz_48adc2bebd e304 e308 g5 tz297 | omega) (show (pf299 26).toInt = 0 from by first | exact oz_4193540c58 e311 g6 | omega) (show -1 ≤ (pf299 25).toInt from by first | exact oz_b850331a4a e310 g7 | omega) (show (pf299 25).toInt < (pf299 13).toInt from by first | exact oz_b6579fb52e e308 e310 g8 | omega) (show 0 ≤ z252.toInt from by first | exact oz_9175d0c236 nc258 | omega) (show z252.toInt ≤ 2 from by first | exact oz_7fea0476a4 nc258 | omega) (show 0 ≤ v301.toInt from by first | exact oz_b39abd85f8 e302 tz297 g0 | omega) (show v301.toInt < (tf 6).toInt from by first | exact oz_7faa3985b4 e302 e305 e304 | omega) (show 4 ≤ bp ta (pf299 11) from by first | with_reducible rfl | with_reducible assumption | omega) hlf htk (FsI.le (N' := (pf299 13).toInt) hfs (by first | with_reducible rfl | with_reducible assumption | omega)) (by assumption) (RzV.le (rz_eq hzg (by first | with_reducible rfl | with_reducible assumption | omega) (by first | with_reducible rfl | with_reducible assumption | omega)) (by first | with_reducible rfl | with_reducible assumption | omega) (by first | with_reducible rfl | with_reducible assumption | omega) (by first | with_reducible rfl | with_reducible assumption | omega) (by first | with_reducible rfl | with_reducible assumption | omega))) S hT hw (oX_call (P := (fun A U H => (oN A U H) ∧ (oP A g U H))) (pr := []) (oG_and oG_N oG_P) hw hA ⟨hN, hP⟩) (px_recv hT hw 0 0 rfl rfl rfl) m12_89 m12_86 m12_88 ms_10_7 m1_21 q_Mpg_functionText ⟨show (8 * 61 + 30) + 1 ≤ (8 * 61 + 32) from by first | with_reducible rfl | with_reducible assumption | omega, show 8 + (6 + 11) + (220 * 61 + 1360) ≤ (220 * 61 + 1440) from by first | with_reducible rfl | with_reducible assumption | omega⟩ hl.1 rfl (Nat.le_of_ble_eq_true rfl) d_Mpg_piece_120 ⟨Nat.le_of_ble_eq_true rfl, Nat.le_of_ble_eq_true rfl⟩ hne hlk hA hAe (fun o t h => Or.inr h) ?_ (fun p329 H locs hp329 hw => ?_)
              · exact fun p1 H1 locs1 hp hw => by obtain ⟨pq1, pq2, pq3, pq4, rfl, hq1, hq2⟩ := hp; exact ⟨_, ⟨pq1, pq2, pq3, pq4, rfl, hq1, hq2⟩, hw⟩
              obtain ⟨pf325, na326, ma327, wa328, rfl, e331, e332, e333, e334, e335, e336, e337, e338, e339, e340, e341⟩ := hp329
              have e331 : (pf299 11).toInt + 1 ≤ (pf325 11).toInt := e331
              have e332 : (pf325 11).toInt < (tf 6).toInt := e332
              have e333 : (pf299 13).toInt ≤ (pf325 13).toInt := e333
              have e334 : (pf325 13).toInt - (pf299 13).toInt ≤ (pf325 11).toInt - (pf299 11).toInt := e334
              have e335 : bp ta (pf299 11) + 1 ≤ bp ta (pf325 11) := e335
              have e336 : (pf325 12).toInt = 0 := e336
              have e337 : (pf325 26).toInt = 0 := e337
              have e338 : -1 ≤ (pf325 25).toInt := e338
              have e339 : (pf325 25).toInt < (pf325 13).toInt := e339
              have e340 : RzG ta (tf 6).toInt na326 ma327 (pf325 24) (pf325 25) 0 (pf325 13).toInt (3 * bp ta (pf325 11)) 200 := e340
              have hzg := e340
              have e341 : FsI (tf 6).toInt (pf325 13).toInt na326 := e341
              have hfs := e341
              have hw : pw D A s.heap H locs [wdP cs h r g tf ta pf325 na326 ma327 wa328 cf ca ef ea xf xa] := hw
              exact th_vret S hr hlk hAe hw (⟨pf325, na326, ma327, wa328, rfl, (show (pf 11).toInt + 1 ≤ (pf325 11).toInt from by first | exact oz_a0ac8cc8e1 tz297 e331 e304 | omega), (show (pf325 11).toInt < (tf 6).toInt from by first | exact e332 | omega), (show (pf 13).toInt ≤ (pf325 13).toInt from by first | exact oz_49930e0c7e e308 e333 | omega), (show (pf325 13).toInt - (pf 13).toInt ≤ (pf325 11).toInt - (pf 11).toInt from by first | exact oz_b01104479c tz297 e308 e334 e304 | omega), (show bp ta (pf 11) + 1 ≤ bp ta (pf325 11) from by first | with_reducible rfl | with_reducible assumption | omega), (show (pf325 12).toInt = 0 from by first | exact e336 | omega), (show (pf325 26).toInt = 0 from by first | exact e337 | omega), (show -1 ≤ (pf325 25).toInt from by first | exact e338 | omega), (show (pf325 25).toInt < (pf325 13).toInt from by first | exact e339 | omega), (show RzG ta (tf 6).toInt na326 ma327 (pf325 24) (pf325 25) 0 (pf325 13).toInt (3 * bp ta (pf325 11)) 200 from (RzV.le (rz_eq hzg (by first | with_reducible rfl | with_reducible assumption | omega) (by first | with_reducible rfl | with_reducible assumption | omega)) (by first | with_reducible rfl | with_reducible assumption | omega) (by first | with_reducible rfl | with_reducible assumption | omega) (by first | with_reducible rfl | with_reducible assumption | omega) (by first | with_reducible rfl | with_reducible assumption | omega))), (show FsI (tf 6).toInt (pf325 13).toInt na326 from (FsI.le hfs (by first | with_reducible rfl | with_reducible assumption | omega)))⟩) d_Mpg_piece_123
        · have nc256 : z255.toInt = (1 : Int) := (i_eq (x := z255) (y := 1)).mp c256
          refine lv_aload_n S.x S.b d_Mpg_piece_62 rfl (lv_at hl 1 rfl) ?_
          refine lv_aload_n S.x S.b d_Mpg_piece_63 rfl (lv_at hl 1 rfl) ?_
          refine px_get S k_Mpg hT hw 0 0 11 (v := .int (pf 11)) rfl rfl rfl (by decide) m9_235 d_Mpg_piece_64 ?_
          refine lv_iconst (v := 2) S.x S.b d_Mpg_piece_67 (by decide) ?_
          refine lv_iadd S.x S.b d_Mpg_piece_68 ?_
          have lr342 := Int32.le_toInt (pf 11)
          have ur342 := Int32.toInt_lt (pf 11)
          refine lv_topi (fun z343 ez343 => ?_)
          have tz343 : z343.toInt = ((pf 11).toInt + (2 : Int) + 2147483648) % 4294967296 - 2147483648 := by rw [ez343]; exact i_add (pf 11) 2
          have lz343 := Int32.le_toInt z343
          have uz343 := Int32.toInt_lt z343
          try replace tz343 : z343.toInt = (pf 11).toInt + (2 : Int) := by omega
          obtain ⟨sk344, hRsk344, st345, sb346, hSsk344⟩ := oP_lit hP (k := 87) (tx := "(") (n := 1) (List.mem_of_getElem? (i := 35) rfl)
          refine va_ldcS S.x S.b S.own hRsk344 d_Mpg_piece_69 ?_
          refine px_calli (pr := []) (px_runV (As := [.int z343, .ref sk344]) (rest := []) S (c_mp_isAt l D cs sk344 1 h r g tf ta pf na ma wa cf ca ef ea xf xa z343  (show 0 ≤ z343.toInt from by first | exact oz_6c4a1e09c3 tz343 g0 | omega) (show z343.toInt < (tf 6).toInt from by first | with_reducible rfl | with_reducible assumption | omega) (show (tf 6).toInt ≤ 2049 from by first | exact g2 | omega) (show 1 ≤ 100 from by first | decide | omega) htk _) hT (pr := []) (pcs := [wdP cs h r g tf ta pf na ma wa cf ca ef ea xf xa]) hw (oX_call (P := (fun A U H => (oP A g U H) ∧ (StS A sk344 1 U H))) (pr := []) (oG_and oG_P oG_Q) hw hA ⟨hP, ⟨_, _, hSsk344⟩⟩) (px_recv hT hw 0 0 rfl rfl rfl) m11_221 m11_218 m11_220 ms_8_15 m1_21 q_Mpg_isAt ⟨show 2 + 1 ≤ (8 * 61 + 32) from by first | with_reducible rfl | with_reducible assumption | omega, show 8 + (3 + 11) + 80 ≤ (220 * 61 + 1440) from by first | with_reducible rfl | with_reducible assumption | omega⟩ hl.1 rfl (Nat.le_of_ble_eq_true rfl) d_Mpg_piece_71 ⟨Nat.le_of_ble_eq_true rfl, Nat.le_of_ble_eq_true rfl⟩) hw hA (fun v348 p347 H locs hp347 hw => ?_)
          obtain ⟨rfl, e349, e350⟩ := hp347
          have e349 := z_rng e349
          have e350 : v348.toInt = 1 → z343.toInt + 1 < (tf 6).toInt ∧ so ta z343 = 5 := e350
          have hw : pw D A s.heap H locs [wdP cs h r g tf ta pf na ma wa cf ca ef ea xf xa] := hw
          have lv348 := Int32.le_toInt v348
          have uv348 := Int32.toInt_lt v348
          refine lv_if_eq (tgt := 81) S.x S.b d_Mpg_piece_74 (by decide) (fun c351 => ?_) (fun c351 => ?_)
          · have nc351 : v348.toInt = (0 : Int) := (i_eq (x := v348) (y := 0)).mp c351
            refine lv_iconst (v := 0) S.x S.b d_Mpg_piece_81 (by decide) ?_
            refine lv_istore_n (lv' := [(2, .int 0), (1, .int z252), (0, .ref h)]) S.x S.b d_Mpg_piece_82 rfl hl (by decide) rfl (fun ls hl => ?_)
            refine lv_iload_n S.x S.b d_Mpg_piece_83 rfl (lv_at hl 0 rfl) ?_
            refine lv_if_ne (tgt := 92) S.x S.b d_Mpg_piece_84 (by decide) (fun c352 => ?_) (fun c352 => ?_)
            · exact absurd c352 (by decide)
            ·
              refine lv_iload_n S.x S.b d_Mpg_piece_87 rfl (lv_at hl 1 rfl) ?_
              refine lv_iconst (v := 2) S.x S.b d_Mpg_piece_88 (by decide) ?_
              refine lv_icmp_ne (tgt := 124) S.x S.b d_Mpg_piece_89 (by decide) (fun c353 => ?_) (fun c353 => ?_)
              · have nc353 : ¬ z252.toInt = (2 : Int) := mt (i_eq (x := z252) (y := 2)).mpr c353
                refine lv_aload_n S.x S.b d_Mpg_piece_124 rfl (lv_at hl 2 rfl) ?_
                refine lv_aload_n S.x S.b d_Mpg_piece_125 rfl (lv_at hl 2 rfl) ?_
                refine th_calli (ps0 := [wdP cs h r g tf ta pf na ma wa cf ca ef ea xf xa]) (pr := []) (pcs := [wdP cs h r g tf ta pf na ma wa cf ca ef ea xf xa]) (As := []) (rest := [.ref h]) (c_mp_declaration l D cs h r g tf ta cf ca ef ea xf xa pf na ma wa  lv (show 0 ≤ (pf 11).toInt from by first | exact g0 | omega) (show (pf 11).toInt < (tf 6).toInt from by first | exact g1 | omega) (show (tf 6).toInt ≤ 2049 from by first | exact g2 | omega) (show 0 ≤ (pf 12).toInt from by first | exact oz_b1de7dbe7e g3 | omega) (show (pf 12).toInt ≤ 60 from by first | exact oz_c48710cd70 g3 | omega) (show 0 ≤ (pf 13).toInt from by first | exact g4 | omega) (show (pf 13).toInt ≤ (pf 11).toInt + 10 from by first | exact g5 | omega) (show 0 ≤ (pf 26).toInt from by first | exact oz_b1de7dbe7e g6 | omega) (show (pf 26).toInt ≤ (pf 12).toInt from by first | exact oz_aca53b6681 g3 g6 | omega) (show 61 ≤ (pf 12).toInt + (lv : Int) from by first | with_reducible rfl | with_reducible assumption | omega) (show lv ≤ 61 from by first | with_reducible rfl | with_reducible assumption | omega) (show (pf 11).toInt + 1 < (tf 6).toInt from by first | with_reducible rfl | with_reducible assumption | omega) (show so ta (pf 11) = 2 from by first | with_reducible rfl | with_reducible assumption | omega) (show 0 ≤ wh ta (pf 11) from by first | exact hk3.2 | omega) (show wh ta (pf 11) ≤ 1 from by first | with_reducible rfl | with_reducible assumption | omega) hlf htk (FsI.le (N' := (pf 13).toInt) hfs (by first | with_reducible rfl | with_reducible assumption | omega))) S hT hw (oX_call (P := (fun A U H => (oN A U H) ∧ (oP A g U H))) (pr := []) (oG_and oG_N oG_P) hw hA ⟨hN, hP⟩) (px_recv hT hw 0 0 rfl rfl rfl) m12_105 m12_102 m12_104 ms_10_11 m1_21 q_Mpg_declaration ⟨show (8 * lv + 25) + 1 ≤ (8 * 61 + 32) from by first | with_reducible rfl | with_reducible assumption | omega, show 8 + (2 + 11) + (220 * lv + 1160) ≤ (220 * 61 + 1440) from by first | with_reducible rfl | with_reducible assumption | omega⟩ hl.1 rfl (Nat.le_of_ble_eq_true rfl) d_Mpg_piece_126 ⟨Nat.le_of_ble_eq_true rfl, Nat.le_of_ble_eq_true rfl⟩ hne hlk hA hAe (fun o t h => Or.inr h) ?_ (fun v363 p362 H locs hp362 hw => ?_)
                · exact fun p1 H1 locs1 hp hw => by obtain ⟨pq1, pq2, pq3, pq4, rfl, hq1, hq2⟩ := hp; exact ⟨_, ⟨pq1, pq2, pq3, pq4, rfl, hq1, hq2⟩, hw⟩
                obtain ⟨pf358, na359, ma360, wa361, rfl, e364, e365, e366, e367, e368, e369, e370, e371, e372, e373, e374, e375, e376, e377⟩ := hp362
                have e364 : (pf 11).toInt + 1 ≤ (pf358 11).toInt := e364
                have e365 : (pf358 11).toInt < (tf 6).toInt := e365
                have e366 : (pf 13).toInt + 1 ≤ (pf358 13).toInt := e366
                have e367 : (pf358 13).toInt - (pf 13).toInt ≤ (pf358 11).toInt - (pf 11).toInt := e367
                have e368 : bp ta (pf 11) + 1 ≤ bp ta (pf358 11) := e368
                have e369 : (pf358 12).toInt = (pf 12).toInt := e369
                have e370 : (pf358 24).toInt = (pf 24).toInt := e370
                have e371 : (pf358 25).toInt = (pf 25).toInt := e371
                have e372 : (pf358 26).toInt = (pf 26).toInt := e372
                have e373 : FrB (pf 13).toInt na ma na359 ma360 := e373
                have hzg := hzg.ag fg_ok (FrB.ag e373 (by first | with_reducible rfl | with_reducible assumption | omega))
                have hfb := hfb.tr e373 (by first | with_reducible rfl | with_reducible assumption | omega)
                have e374 : FrW (pf 26).toInt wa wa361 := e374
                have hfw := hfw.tr e374 (by first | with_reducible rfl | with_reducible assumption | omega)
                have e375 : VlS ta (tf 6).toInt na359 ma360 v363 (pf 13).toInt (pf358 13).toInt (3 * (bp ta (pf358 11) - bp ta (pf 11))) (200 - (pf 12).toInt) := e375
                have hv_v363 := e375
                have hn_hv_v363 := hv_v363.num fs_ok
                have e376 : DcN na359 v363 := e376
                have hf_14_v363 : na359 14 v363.toNatClampNeg = 23 := e376
                have e377 : FsI (tf 6).toInt (pf358 13).toInt na359 := e377
                have hfs := e377
                have hw : pw D A s.heap H locs [wdP cs h r g tf ta pf358 na359 ma360 wa361 cf ca ef ea xf xa] := hw
                have lv363 := Int32.le_toInt v363
                have uv363 := Int32.toInt_lt v363
                refine px_callv (pr := []) (px_runV (As := [.int v363]) (rest := []) S (c_mp_add l D cs h r g tf ta ma360 wa361 cf ca ef ea xf xa pf358 na359 v363  (show (pf358 25).toInt < 2100 from by first | exact oz_94e1af121e e371 g8 g5 e364 e365 g2 | omega) htk _) hT (pr := []) (pcs := [wdP cs h r g tf ta pf358 na359 ma360 wa361 cf ca ef ea xf xa]) hw px_X.tt (px_recv hT hw 0 0 rfl rfl rfl) m12_81 m12_78 m12_80 ms_10_5 m1_21 q_Mpg_add ⟨show 1 + 1 ≤ (8 * 61 + 32) from by first | with_reducible rfl | with_reducible assumption | omega, show 8 + (2 + 11) + 30 ≤ (220 * 61 + 1440) from by first | with_reducible rfl | with_reducible assumption | omega⟩ hl.1 rfl (Nat.le_of_ble_eq_true rfl) d_Mpg_piece_129 ⟨Nat.le_of_ble_eq_true rfl, Nat.le_of_ble_eq_true rfl⟩) hw hA (fun p382 H locs hp382 hw => ?_)
                obtain ⟨pf380, na381, rfl, e384, e385, e386, e387, e388, e389⟩ := hp382
                have e384 : (pf380 11).toInt = (pf358 11).toInt := e384
                have e385 : (pf380 12).toInt = (pf358 12).toInt := e385
                have e386 : (pf380 13).toInt = (pf358 13).toInt := e386
                have e387 : (pf380 26).toInt = (pf358 26).toInt := e387
                have e388 : (pf380 25).toInt = v363.toInt := e388
                have e389 : Hg na359 na381 (pf358 24) (pf358 25) v363 (pf380 24) := e389
                have hvg := vg_decl (VlV.le hv_v363 (Int.le_refl _) (Int.le_refl _) (Int.le_refl _) (show _ ≤ (200 : Int) from by first | with_reducible rfl | with_reducible assumption | omega)) hf_14_v363
                have hzg := Hg.row e389 fg_ok (rz_eq hzg (by first | with_reducible rfl | with_reducible assumption | omega) (by first | with_reducible rfl | with_reducible assumption | omega)) (VlV.le hvg (by first | with_reducible rfl | with_reducible assumption | omega) (Int.le_refl _) (Int.le_refl _) (by first | with_reducible rfl | with_reducible assumption | omega)) (by first | with_reducible rfl | with_reducible assumption | omega) (by first | with_reducible rfl | with_reducible assumption | omega)
                have hfs := FsI.hg hfs e389
                obtain ⟨qb3901, qb3902, qb3903, qb3904⟩ := tk_eq (ta := ta) (x := (pf380 11)) (y := (pf358 11)) (by first | with_reducible rfl | with_reducible assumption | omega)
                have hw : pw D A s.heap H locs [wdP cs h r g tf ta pf380 na381 ma360 wa361 cf ca ef ea xf xa] := hw
                exact th_vret S hr hlk hAe hw (⟨pf380, na381, ma360, wa361, rfl, (show (pf 11).toInt + 1 ≤ (pf380 11).toInt from by first | exact oz_213e98d3f1 e364 e384 | omega), (show (pf380 11).toInt < (tf 6).toInt from by first | exact oz_5d2fbac15b e365 e384 | omega), (show (pf 13).toInt ≤ (pf380 13).toInt from by first | exact oz_a98a1e881c e366 e386 | omega), (show (pf380 13).toInt - (pf 13).toInt ≤ (pf380 11).toInt - (pf 11).toInt from by first | exact oz_7d2ce61601 e367 e384 e386 | omega), (show bp ta (pf 11) + 1 ≤ bp ta (pf380 11) from by first | with_reducible rfl | with_reducible assumption | omega), (show (pf380 12).toInt = 0 from by first | exact oz_bfc0cf0d20 e385 e369 g3 | omega), (show (pf380 26).toInt = 0 from by first | exact oz_bfc0cf0d20 e387 e372 g6 | omega), (show -1 ≤ (pf380 25).toInt from by first | with_reducible rfl | with_reducible assumption | omega), (show (pf380 25).toInt < (pf380 13).toInt from by first | with_reducible rfl | with_reducible assumption | omega), (show RzG ta (tf 6).toInt na381 ma360 (pf380 24) (pf380 25) 0 (pf380 13).toInt (3 * bp ta (pf380 11)) 200 from (RzV.le (rz_eq (Or.inr hzg) (by first | with_reducible rfl | with_reducible assumption | omega) (by first | with_reducible rfl | with_reducible assumption | omega)) (by first | with_reducible rfl | with_reducible assumption | omega) (by first | with_reducible rfl | with_reducible assumption | omega) (by first | with_reducible rfl | with_reducible assumption | omega) (by first | with_reducible rfl | with_reducible assumption | omega))), (show FsI (tf 6).toInt (pf380 13).toInt na381 from (FsI.le hfs (by first | with_reducible rfl | with_reducible assumption | omega)))⟩) d_Mpg_piece_132
              · have nc353 : z252.toInt = (2 : Int) := (i_eq (x := z252) (y := 2)).mp c353
                refine lv_aload_n S.x S.b d_Mpg_piece_92 rfl (lv_at hl 2 rfl) ?_
                refine lv_dup S.x S.b d_Mpg_piece_93 rfl ?_
                refine px_get S k_Mpg hT hw 0 0 11 (v := .int (pf 11)) rfl rfl rfl (by decide) m9_235 d_Mpg_piece_94 ?_
                refine lv_iconst (v := 1) S.x S.b d_Mpg_piece_97 (by decide) ?_
                refine lv_iadd S.x S.b d_Mpg_piece_98 ?_
                have lr391 := Int32.le_toInt (pf 11)
                have ur391 := Int32.toInt_lt (pf 11)
                refine lv_topi (fun z392 ez392 => ?_)
                have tz392 : z392.toInt = ((pf 11).toInt + (1 : Int) + 2147483648) % 4294967296 - 2147483648 := by rw [ez392]; exact i_add (pf 11) 1
                have lz392 := Int32.le_toInt z392
                have uz392 := Int32.toInt_lt z392
                try replace tz392 : z392.toInt = (pf 11).toInt + (1 : Int) := by omega
                have hnx98 := tk_n htk (x := (pf 11)) (y := z392) (by first | with_reducible rfl | with_reducible assumption | omega) (by first | with_reducible rfl | with_reducible assumption | omega) (by first | with_reducible rfl | with_reducible assumption | omega)
                refine px_put S k_Mpg hT hw 0 0 11 rfl rfl (by decide) m9_235 rfl rfl rfl (Nat.le_of_ble_eq_true rfl) d_Mpg_piece_99 (w' := wdP cs h r g tf ta (upd pf 11 z392) na ma wa cf ca ef ea xf xa) (ps' := [wdP cs h r g tf ta (upd pf 11 z392) na ma wa cf ca ef ea xf xa]) rfl rfl (fun H locs hw => ?_)
                refine lv_aload_n S.x S.b d_Mpg_piece_102 rfl (lv_at hl 2 rfl) ?_
                refine th_calli (ps0 := [wdP cs h r g tf ta pf na ma wa cf ca ef ea xf xa]) (pr := []) (pcs := [wdP cs h r g tf ta (upd pf 11 z392) na ma wa cf ca ef ea xf xa]) (As := []) (rest := []) (c_mp_name l D cs h r g tf ta na ma wa cf ca ef ea xf xa (upd pf 11 z392)   (show 0 ≤ z392.toInt from by first | exact oz_b3b25f0e49 tz392 g0 | omega) (show z392.toInt < (tf 6).toInt from by first | with_reducible rfl | with_reducible assumption | omega) (show (tf 6).toInt ≤ 2049 from by first | exact g2 | omega) hlf htk) S hT hw (oX_call (P := (fun A U H => (oN A U H) ∧ (oP A g U H))) (pr := []) (oG_and oG_N oG_P) hw hA ⟨hN, hP⟩) (px_recv hT hw 0 0 rfl rfl rfl) m12_2 m11_239 m12_1 ms_9_2 m1_21 q_Mpg_name ⟨show 7 + 1 ≤ (8 * 61 + 32) from by first | with_reducible rfl | with_reducible assumption | omega, show 8 + (1 + 11) + 150 ≤ (220 * 61 + 1440) from by first | with_reducible rfl | with_reducible assumption | omega⟩ hl.1 rfl (Nat.le_of_ble_eq_true rfl) d_Mpg_piece_103 ⟨Nat.le_of_ble_eq_true rfl, Nat.le_of_ble_eq_true rfl⟩ hne hlk hA hAe (fun o t h => Or.inr h) ?_ (fun v396 p395 H locs hp395 hw => ?_)
                · exact fun p1 H1 locs1 hp hw => by obtain ⟨pq1, pq2, pq3, pq4, rfl, hq1, hq2⟩ := hp; exact ⟨_, ⟨pq1, pq2, pq3, pq4, rfl, hq1, hq2⟩, hw⟩
                obtain ⟨pf394, rfl, e397, e398, e399, e400, e401, e402, e403, e404, e405, e406⟩ := hp395
                have e397 : v396.toInt = z392.toInt := e397
                have e398 : SoIs ta v396 1 := e398
                have e399 : (pf394 11).toInt = z392.toInt + 1 := e399
                have e400 : (pf394 11).toInt < (tf 6).toInt := e400
                have e401 : bp ta z392 + 1 ≤ bp ta (pf394 11) := e401
                have e402 : (pf394 12).toInt = (pf 12).toInt := e402
                have e403 : (pf394 13).toInt = (pf 13).toInt := e403
                have e404 : (pf394 24).toInt = (pf 24).toInt := e404
                have e405 : (pf394 25).toInt = (pf 25).toInt := e405
                have e406 : (pf394 26).toInt = (pf 26).toInt := e406
                have hw : pw D A s.heap H locs [wdP cs h r g tf ta pf394 na ma wa cf ca ef ea xf xa] := hw
                have lv396 := Int32.le_toInt v396
                have uv396 := Int32.toInt_lt v396
                refine lv_istore_n (lv' := [(3, .int v396), (2, .int 0), (1, .int z252), (0, .ref h)]) S.x S.b d_Mpg_piece_106 rfl hl (by decide) rfl (fun ls hl => ?_)
                refine lv_aload_n S.x S.b d_Mpg_piece_107 rfl (lv_at hl 3 rfl) ?_
                refine lv_aload_n S.x S.b d_Mpg_piece_108 rfl (lv_at hl 3 rfl) ?_
                obtain ⟨sk407, hRsk407, st408, sb409, hSsk407⟩ := oP_lit hP (k := 87) (tx := "(") (n := 1) (List.mem_of_getElem? (i := 35) rfl)
                refine va_ldcS S.x S.b S.own hRsk407 d_Mpg_piece_109 ?_
                refine px_calli (pr := []) (px_runV (As := [.ref sk407]) (rest := [.ref h]) S (c_mp_is l D cs sk407 1 h r g tf ta pf394 na ma wa cf ca ef ea xf xa   (show 0 ≤ (pf394 11).toInt from by first | exact oz_6f750b233b e399 tz392 g0 | omega) (show (pf394 11).toInt < (tf 6).toInt from by first | exact e400 | omega) (show (tf 6).toInt ≤ 2049 from by first | exact g2 | omega) (show 1 ≤ 100 from by first | decide | omega) htk _) hT (pr := []) (pcs := [wdP cs h r g tf ta pf394 na ma wa cf ca ef ea xf xa]) hw (oX_call (P := (fun A U H => (oP A g U H) ∧ (StS A sk407 1 U H))) (pr := []) (oG_and oG_P oG_Q) hw hA ⟨hP, ⟨_, _, hSsk407⟩⟩) (px_recv hT hw 0 0 rfl rfl rfl) m11_217 m11_214 m11_216 ms_8_14 m1_21 q_Mpg_is ⟨show 3 + 1 ≤ (8 * 61 + 32) from by first | with_reducible rfl | with_reducible assumption | omega, show 8 + (2 + 11) + 120 ≤ (220 * 61 + 1440) from by first | with_reducible rfl | with_reducible assumption | omega⟩ hl.1 rfl (Nat.le_of_ble_eq_true rfl) d_Mpg_piece_111 ⟨Nat.le_of_ble_eq_true rfl, Nat.le_of_ble_eq_true rfl⟩) hw hA (fun v411 p410 H locs hp410 hw => ?_)
                obtain ⟨rfl, e412, e413⟩ := hp410
                have e412 := z_rng e412
                have e413 : v411.toInt = 1 → (pf394 11).toInt + 1 < (tf 6).toInt ∧ so ta (pf394 11) = 5 := e413
                have hw : pw D A s.heap H locs [wdP cs h r g tf ta pf394 na ma wa cf ca ef ea xf xa] := hw
                have lv411 := Int32.le_toInt v411
                have uv411 := Int32.toInt_lt v411
                refine th_callv (ps0 := [wdP cs h r g tf ta pf na ma wa cf ca ef ea xf xa]) (pr := [wdP cs h r g tf ta pf394 na ma wa cf ca ef ea xf xa]) (pcs := []) (As := [.int v411]) (rest := []) (c_mp_need l hlf D cs h v411) S hT hw (oX_call (P := (fun A U H => (oN A U H))) (pr := [wdP cs h r g tf ta pf394 na ma wa cf ca ef ea xf xa]) oG_N hw hA hN) (px_recv hT hw 0 0 rfl rfl rfl) m11_233 m11_230 m11_232 ms_9_0 m1_21 q_Mpg_need ⟨show 6 + 1 ≤ (8 * 61 + 32) from by first | with_reducible rfl | with_reducible assumption | omega, show 8 + (2 + 11) + 100 ≤ (220 * 61 + 1440) from by first | with_reducible rfl | with_reducible assumption | omega⟩ hl.1 rfl (Nat.le_of_ble_eq_true rfl) d_Mpg_piece_114 ⟨Nat.le_of_ble_eq_true rfl, Nat.le_of_ble_eq_true rfl⟩ hne hlk hA hAe (fun o t h => Or.inr h) ?_ (fun p414 H locs hp414 hw => ?_)
                · exact fun p1 H1 locs1 hp hw => by subst hp; exact ⟨_, ⟨pf394, na, ma, wa, rfl, by first | with_reducible rfl | with_reducible assumption | omega, by first | with_reducible rfl | with_reducible assumption | omega⟩, hw.sub [0] rfl rfl⟩
                obtain ⟨rfl, hndp414⟩ := hp414
                have hndp414 : ¬ v411.toInt = 0 := hndp414
                have hw : pw D A s.heap H locs [wdP cs h r g tf ta pf394 na ma wa cf ca ef ea xf xa] := hw
                refine lv_aload_n S.x S.b d_Mpg_piece_117 rfl (lv_at hl 3 rfl) ?_
                refine lv_iload_n S.x S.b d_Mpg_piece_118 rfl (lv_at hl 2 rfl) ?_
                refine lv_iload_n S.x S.b d_Mpg_piece_119 rfl (lv_at hl 0 rfl) ?_
                refine th_callv (ps0 := [wdP cs h r g tf ta pf na ma wa cf ca ef ea xf xa]) (pr := []) (pcs := [wdP cs h r g tf ta pf394 na ma wa cf ca ef ea xf xa]) (As := [.int z252, .int v396]) (rest := []) (c_mp_functionText l D cs h r g tf ta cf ca ef ea xf xa pf394 na ma wa z252 v396  (show 0 ≤ (pf394 11).toInt from by first | exact oz_6f750b233b e399 tz392 g0 | omega) (show (pf394 11).toInt < (tf 6).toInt from by first | exact e400 | omega) (show (tf 6).toInt ≤ 2049 from by first | exact g2 | omega) (show (pf394 12).toInt = 0 from by first | exact oz_4193540c58 e402 g3 | omega) (show 0 ≤ (pf394 13).toInt from by first | exact oz_f3ebed1ad0 e403 g4 | omega) (show (pf394 13).toInt ≤ (pf394 11).toInt + 10 from by first | exact oz_48adc2bebd e399 e403 g5 tz392 | omega) (show (pf394 26).toInt = 0 from by first | exact oz_4193540c58 e406 g6 | omega) (show -1 ≤ (pf394 25).toInt from by first | exact oz_b850331a4a e405 g7 | omega) (show (pf394 25).toInt < (pf394 13).toInt from by first | exact oz_b6579fb52e e403 e405 g8 | omega) (show 0 ≤ z252.toInt from by first | exact oz_9175d0c236 nc353 | omega) (show z252.toInt ≤ 2 from by first | exact oz_7fea0476a4 nc353 | omega) (show 0 ≤ v396.toInt from by first | exact oz_b39abd85f8 e397 tz392 g0 | omega) (show v396.toInt < (tf 6).toInt from by first | exact oz_7faa3985b4 e397 e400 e399 | omega) (show 4 ≤ bp ta (pf394 11) from by first | with_reducible rfl | with_reducible assumption | omega) hlf htk (FsI.le (N' := (pf394 13).toInt) hfs (by first | with_reducible rfl | with_reducible assumption | omega)) (by assumption) (RzV.le (rz_eq hzg (by first | with_reducible rfl | with_reducible assumption | omega) (by first | with_reducible rfl | with_reducible assumption | omega)) (by first | with_reducible rfl | with_reducible assumption | omega) (by first | with_reducible rfl | with_reducible assumption | omega) (by first | with_reducible rfl | with_reducible assumption | omega) (by first | with_reducible rfl | with_reducible assumption | omega))) S hT hw (oX_call (P := (fun A U H => (oN A U H) ∧ (oP A g U H))) (pr := []) (oG_and oG_N oG_P) hw hA ⟨hN, hP⟩) (px_recv hT hw 0 0 rfl rfl rfl) m12_89 m12_86 m12_88 ms_10_7 m1_21 q_Mpg_functionText ⟨show (8 * 61 + 30) + 1 ≤ (8 * 61 + 32) from by first | with_reducible rfl | with_reducible assumption | omega, show 8 + (6 + 11) + (220 * 61 + 1360) ≤ (220 * 61 + 1440) from by first | with_reducible rfl | with_reducible assumption | omega⟩ hl.1 rfl (Nat.le_of_ble_eq_true rfl) d_Mpg_piece_120 ⟨Nat.le_of_ble_eq_true rfl, Nat.le_of_ble_eq_true rfl⟩ hne hlk hA hAe (fun o t h => Or.inr h) ?_ (fun p424 H locs hp424 hw => ?_)
                · exact fun p1 H1 locs1 hp hw => by obtain ⟨pq1, pq2, pq3, pq4, rfl, hq1, hq2⟩ := hp; exact ⟨_, ⟨pq1, pq2, pq3, pq4, rfl, hq1, hq2⟩, hw⟩
                obtain ⟨pf420, na421, ma422, wa423, rfl, e426, e427, e428, e429, e430, e431, e432, e433, e434, e435, e436⟩ := hp424
                have e426 : (pf394 11).toInt + 1 ≤ (pf420 11).toInt := e426
                have e427 : (pf420 11).toInt < (tf 6).toInt := e427
                have e428 : (pf394 13).toInt ≤ (pf420 13).toInt := e428
                have e429 : (pf420 13).toInt - (pf394 13).toInt ≤ (pf420 11).toInt - (pf394 11).toInt := e429
                have e430 : bp ta (pf394 11) + 1 ≤ bp ta (pf420 11) := e430
                have e431 : (pf420 12).toInt = 0 := e431
                have e432 : (pf420 26).toInt = 0 := e432
                have e433 : -1 ≤ (pf420 25).toInt := e433
                have e434 : (pf420 25).toInt < (pf420 13).toInt := e434
                have e435 : RzG ta (tf 6).toInt na421 ma422 (pf420 24) (pf420 25) 0 (pf420 13).toInt (3 * bp ta (pf420 11)) 200 := e435
                have hzg := e435
                have e436 : FsI (tf 6).toInt (pf420 13).toInt na421 := e436
                have hfs := e436
                have hw : pw D A s.heap H locs [wdP cs h r g tf ta pf420 na421 ma422 wa423 cf ca ef ea xf xa] := hw
                exact th_vret S hr hlk hAe hw (⟨pf420, na421, ma422, wa423, rfl, (show (pf 11).toInt + 1 ≤ (pf420 11).toInt from by first | exact oz_a0ac8cc8e1 tz392 e426 e399 | omega), (show (pf420 11).toInt < (tf 6).toInt from by first | exact e427 | omega), (show (pf 13).toInt ≤ (pf420 13).toInt from by first | exact oz_49930e0c7e e403 e428 | omega), (show (pf420 13).toInt - (pf 13).toInt ≤ (pf420 11).toInt - (pf 11).toInt from by first | exact oz_b01104479c tz392 e403 e429 e399 | omega), (show bp ta (pf 11) + 1 ≤ bp ta (pf420 11) from by first | with_reducible rfl | with_reducible assumption | omega), (show (pf420 12).toInt = 0 from by first | exact e431 | omega), (show (pf420 26).toInt = 0 from by first | exact e432 | omega), (show -1 ≤ (pf420 25).toInt from by first | exact e433 | omega), (show (pf420 25).toInt < (pf420 13).toInt from by first | exact e434 | omega), (show RzG ta (tf 6).toInt na421 ma422 (pf420 24) (pf420 25) 0 (pf420 13).toInt (3 * bp ta (pf420 11)) 200 from (RzV.le (rz_eq hzg (by first | with_reducible rfl | with_reducible assumption | omega) (by first | with_reducible rfl | with_reducible assumption | omega)) (by first | with_reducible rfl | with_reducible assumption | omega) (by first | with_reducible rfl | with_reducible assumption | omega) (by first | with_reducible rfl | with_reducible assumption | omega) (by first | with_reducible rfl | with_reducible assumption | omega))), (show FsI (tf 6).toInt (pf420 13).toInt na421 from (FsI.le hfs (by first | with_reducible rfl | with_reducible assumption | omega)))⟩) d_Mpg_piece_123
          · have nc351 : ¬ v348.toInt = (0 : Int) := mt (i_eq (x := v348) (y := 0)).mpr c351
            refine lv_iconst (v := 1) S.x S.b d_Mpg_piece_77 (by decide) ?_
            refine lv_goto (tgt := 82) S.x S.b d_Mpg_piece_78 (by decide) ?_
            refine lv_istore_n (lv' := [(2, .int 1), (1, .int z252), (0, .ref h)]) S.x S.b d_Mpg_piece_82 rfl hl (by decide) rfl (fun ls hl => ?_)
            refine lv_iload_n S.x S.b d_Mpg_piece_83 rfl (lv_at hl 0 rfl) ?_
            refine lv_if_ne (tgt := 92) S.x S.b d_Mpg_piece_84 (by decide) (fun c437 => ?_) (fun c437 => ?_)
            ·
              refine lv_aload_n S.x S.b d_Mpg_piece_92 rfl (lv_at hl 2 rfl) ?_
              refine lv_dup S.x S.b d_Mpg_piece_93 rfl ?_
              refine px_get S k_Mpg hT hw 0 0 11 (v := .int (pf 11)) rfl rfl rfl (by decide) m9_235 d_Mpg_piece_94 ?_
              refine lv_iconst (v := 1) S.x S.b d_Mpg_piece_97 (by decide) ?_
              refine lv_iadd S.x S.b d_Mpg_piece_98 ?_
              have lr438 := Int32.le_toInt (pf 11)
              have ur438 := Int32.toInt_lt (pf 11)
              refine lv_topi (fun z439 ez439 => ?_)
              have tz439 : z439.toInt = ((pf 11).toInt + (1 : Int) + 2147483648) % 4294967296 - 2147483648 := by rw [ez439]; exact i_add (pf 11) 1
              have lz439 := Int32.le_toInt z439
              have uz439 := Int32.toInt_lt z439
              try replace tz439 : z439.toInt = (pf 11).toInt + (1 : Int) := by omega
              have hnx98 := tk_n htk (x := (pf 11)) (y := z439) (by first | with_reducible rfl | with_reducible assumption | omega) (by first | with_reducible rfl | with_reducible assumption | omega) (by first | with_reducible rfl | with_reducible assumption | omega)
              refine px_put S k_Mpg hT hw 0 0 11 rfl rfl (by decide) m9_235 rfl rfl rfl (Nat.le_of_ble_eq_true rfl) d_Mpg_piece_99 (w' := wdP cs h r g tf ta (upd pf 11 z439) na ma wa cf ca ef ea xf xa) (ps' := [wdP cs h r g tf ta (upd pf 11 z439) na ma wa cf ca ef ea xf xa]) rfl rfl (fun H locs hw => ?_)
              refine lv_aload_n S.x S.b d_Mpg_piece_102 rfl (lv_at hl 2 rfl) ?_
              refine th_calli (ps0 := [wdP cs h r g tf ta pf na ma wa cf ca ef ea xf xa]) (pr := []) (pcs := [wdP cs h r g tf ta (upd pf 11 z439) na ma wa cf ca ef ea xf xa]) (As := []) (rest := []) (c_mp_name l D cs h r g tf ta na ma wa cf ca ef ea xf xa (upd pf 11 z439)   (show 0 ≤ z439.toInt from by first | exact oz_b3b25f0e49 tz439 g0 | omega) (show z439.toInt < (tf 6).toInt from by first | with_reducible rfl | with_reducible assumption | omega) (show (tf 6).toInt ≤ 2049 from by first | exact g2 | omega) hlf htk) S hT hw (oX_call (P := (fun A U H => (oN A U H) ∧ (oP A g U H))) (pr := []) (oG_and oG_N oG_P) hw hA ⟨hN, hP⟩) (px_recv hT hw 0 0 rfl rfl rfl) m12_2 m11_239 m12_1 ms_9_2 m1_21 q_Mpg_name ⟨show 7 + 1 ≤ (8 * 61 + 32) from by first | with_reducible rfl | with_reducible assumption | omega, show 8 + (1 + 11) + 150 ≤ (220 * 61 + 1440) from by first | with_reducible rfl | with_reducible assumption | omega⟩ hl.1 rfl (Nat.le_of_ble_eq_true rfl) d_Mpg_piece_103 ⟨Nat.le_of_ble_eq_true rfl, Nat.le_of_ble_eq_true rfl⟩ hne hlk hA hAe (fun o t h => Or.inr h) ?_ (fun v443 p442 H locs hp442 hw => ?_)
              · exact fun p1 H1 locs1 hp hw => by obtain ⟨pq1, pq2, pq3, pq4, rfl, hq1, hq2⟩ := hp; exact ⟨_, ⟨pq1, pq2, pq3, pq4, rfl, hq1, hq2⟩, hw⟩
              obtain ⟨pf441, rfl, e444, e445, e446, e447, e448, e449, e450, e451, e452, e453⟩ := hp442
              have e444 : v443.toInt = z439.toInt := e444
              have e445 : SoIs ta v443 1 := e445
              have e446 : (pf441 11).toInt = z439.toInt + 1 := e446
              have e447 : (pf441 11).toInt < (tf 6).toInt := e447
              have e448 : bp ta z439 + 1 ≤ bp ta (pf441 11) := e448
              have e449 : (pf441 12).toInt = (pf 12).toInt := e449
              have e450 : (pf441 13).toInt = (pf 13).toInt := e450
              have e451 : (pf441 24).toInt = (pf 24).toInt := e451
              have e452 : (pf441 25).toInt = (pf 25).toInt := e452
              have e453 : (pf441 26).toInt = (pf 26).toInt := e453
              have hw : pw D A s.heap H locs [wdP cs h r g tf ta pf441 na ma wa cf ca ef ea xf xa] := hw
              have lv443 := Int32.le_toInt v443
              have uv443 := Int32.toInt_lt v443
              refine lv_istore_n (lv' := [(3, .int v443), (2, .int 1), (1, .int z252), (0, .ref h)]) S.x S.b d_Mpg_piece_106 rfl hl (by decide) rfl (fun ls hl => ?_)
              refine lv_aload_n S.x S.b d_Mpg_piece_107 rfl (lv_at hl 3 rfl) ?_
              refine lv_aload_n S.x S.b d_Mpg_piece_108 rfl (lv_at hl 3 rfl) ?_
              obtain ⟨sk454, hRsk454, st455, sb456, hSsk454⟩ := oP_lit hP (k := 87) (tx := "(") (n := 1) (List.mem_of_getElem? (i := 35) rfl)
              refine va_ldcS S.x S.b S.own hRsk454 d_Mpg_piece_109 ?_
              refine px_calli (pr := []) (px_runV (As := [.ref sk454]) (rest := [.ref h]) S (c_mp_is l D cs sk454 1 h r g tf ta pf441 na ma wa cf ca ef ea xf xa   (show 0 ≤ (pf441 11).toInt from by first | exact oz_6f750b233b e446 tz439 g0 | omega) (show (pf441 11).toInt < (tf 6).toInt from by first | exact e447 | omega) (show (tf 6).toInt ≤ 2049 from by first | exact g2 | omega) (show 1 ≤ 100 from by first | decide | omega) htk _) hT (pr := []) (pcs := [wdP cs h r g tf ta pf441 na ma wa cf ca ef ea xf xa]) hw (oX_call (P := (fun A U H => (oP A g U H) ∧ (StS A sk454 1 U H))) (pr := []) (oG_and oG_P oG_Q) hw hA ⟨hP, ⟨_, _, hSsk454⟩⟩) (px_recv hT hw 0 0 rfl rfl rfl) m11_217 m11_214 m11_216 ms_8_14 m1_21 q_Mpg_is ⟨show 3 + 1 ≤ (8 * 61 + 32) from by first | with_reducible rfl | with_reducible assumption | omega, show 8 + (2 + 11) + 120 ≤ (220 * 61 + 1440) from by first | with_reducible rfl | with_reducible assumption | omega⟩ hl.1 rfl (Nat.le_of_ble_eq_true rfl) d_Mpg_piece_111 ⟨Nat.le_of_ble_eq_true rfl, Nat.le_of_ble_eq_true rfl⟩) hw hA (fun v458 p457 H locs hp457 hw => ?_)
              obtain ⟨rfl, e459, e460⟩ := hp457
              have e459 := z_rng e459
              have e460 : v458.toInt = 1 → (pf441 11).toInt + 1 < (tf 6).toInt ∧ so ta (pf441 11) = 5 := e460
              have hw : pw D A s.heap H locs [wdP cs h r g tf ta pf441 na ma wa cf ca ef ea xf xa] := hw
              have lv458 := Int32.le_toInt v458
              have uv458 := Int32.toInt_lt v458
              refine th_callv (ps0 := [wdP cs h r g tf ta pf na ma wa cf ca ef ea xf xa]) (pr := [wdP cs h r g tf ta pf441 na ma wa cf ca ef ea xf xa]) (pcs := []) (As := [.int v458]) (rest := []) (c_mp_need l hlf D cs h v458) S hT hw (oX_call (P := (fun A U H => (oN A U H))) (pr := [wdP cs h r g tf ta pf441 na ma wa cf ca ef ea xf xa]) oG_N hw hA hN) (px_recv hT hw 0 0 rfl rfl rfl) m11_233 m11_230 m11_232 ms_9_0 m1_21 q_Mpg_need ⟨show 6 + 1 ≤ (8 * 61 + 32) from by first | with_reducible rfl | with_reducible assumption | omega, show 8 + (2 + 11) + 100 ≤ (220 * 61 + 1440) from by first | with_reducible rfl | with_reducible assumption | omega⟩ hl.1 rfl (Nat.le_of_ble_eq_true rfl) d_Mpg_piece_114 ⟨Nat.le_of_ble_eq_true rfl, Nat.le_of_ble_eq_true rfl⟩ hne hlk hA hAe (fun o t h => Or.inr h) ?_ (fun p461 H locs hp461 hw => ?_)
              · exact fun p1 H1 locs1 hp hw => by subst hp; exact ⟨_, ⟨pf441, na, ma, wa, rfl, by first | with_reducible rfl | with_reducible assumption | omega, by first | with_reducible rfl | with_reducible assumption | omega⟩, hw.sub [0] rfl rfl⟩
              obtain ⟨rfl, hndp461⟩ := hp461
              have hndp461 : ¬ v458.toInt = 0 := hndp461
              have hw : pw D A s.heap H locs [wdP cs h r g tf ta pf441 na ma wa cf ca ef ea xf xa] := hw
              refine lv_aload_n S.x S.b d_Mpg_piece_117 rfl (lv_at hl 3 rfl) ?_
              refine lv_iload_n S.x S.b d_Mpg_piece_118 rfl (lv_at hl 2 rfl) ?_
              refine lv_iload_n S.x S.b d_Mpg_piece_119 rfl (lv_at hl 0 rfl) ?_
              refine th_callv (ps0 := [wdP cs h r g tf ta pf na ma wa cf ca ef ea xf xa]) (pr := []) (pcs := [wdP cs h r g tf ta pf441 na ma wa cf ca ef ea xf xa]) (As := [.int z252, .int v443]) (rest := []) (c_mp_functionText l D cs h r g tf ta cf ca ef ea xf xa pf441 na ma wa z252 v443  (show 0 ≤ (pf441 11).toInt from by first | exact oz_6f750b233b e446 tz439 g0 | omega) (show (pf441 11).toInt < (tf 6).toInt from by first | exact e447 | omega) (show (tf 6).toInt ≤ 2049 from by first | exact g2 | omega) (show (pf441 12).toInt = 0 from by first | exact oz_4193540c58 e449 g3 | omega) (show 0 ≤ (pf441 13).toInt from by first | exact oz_f3ebed1ad0 e450 g4 | omega) (show (pf441 13).toInt ≤ (pf441 11).toInt + 10 from by first | exact oz_48adc2bebd e446 e450 g5 tz439 | omega) (show (pf441 26).toInt = 0 from by first | exact oz_4193540c58 e453 g6 | omega) (show -1 ≤ (pf441 25).toInt from by first | exact oz_b850331a4a e452 g7 | omega) (show (pf441 25).toInt < (pf441 13).toInt from by first | exact oz_b6579fb52e e450 e452 g8 | omega) (show 0 ≤ z252.toInt from by first | with_reducible rfl | with_reducible assumption | omega) (show z252.toInt ≤ 2 from by first | with_reducible rfl | with_reducible assumption | omega) (show 0 ≤ v443.toInt from by first | exact oz_b39abd85f8 e444 tz439 g0 | omega) (show v443.toInt < (tf 6).toInt from by first | exact oz_7faa3985b4 e444 e447 e446 | omega) (show 4 ≤ bp ta (pf441 11) from by first | with_reducible rfl | with_reducible assumption | omega) hlf htk (FsI.le (N' := (pf441 13).toInt) hfs (by first | with_reducible rfl | with_reducible assumption | omega)) (by assumption) (RzV.le (rz_eq hzg (by first | with_reducible rfl | with_reducible assumption | omega) (by first | with_reducible rfl | with_reducible assumption | omega)) (by first | with_reducible rfl | with_reducible assumption | omega) (by first | with_reducible rfl | with_reducible assumption | omega) (by first | with_reducible rfl | with_reducible assumption | omega) (by first | with_reducible rfl | with_reducible assumption | omega))) S hT hw (oX_call (P := (fun A U H => (oN A U H) ∧ (oP A g U H))) (pr := []) (oG_and oG_N oG_P) hw hA ⟨hN, hP⟩) (px_recv hT hw 0 0 rfl rfl rfl) m12_89 m12_86 m12_88 ms_10_7 m1_21 q_Mpg_functionText ⟨show (8 * 61 + 30) + 1 ≤ (8 * 61 + 32) from by first | with_reducible rfl | with_reducible assumption | omega, show 8 + (6 + 11) + (220 * 61 + 1360) ≤ (220 * 61 + 1440) from by first | with_reducible rfl | with_reducible assumption | omega⟩ hl.1 rfl (Nat.le_of_ble_eq_true rfl) d_Mpg_piece_120 ⟨Nat.le_of_ble_eq_true rfl, Nat.le_of_ble_eq_true rfl⟩ hne hlk hA hAe (fun o t h => Or.inr h) ?_ (fun p471 H locs hp471 hw => ?_)
              · exact fun p1 H1 locs1 hp hw => by obtain ⟨pq1, pq2, pq3, pq4, rfl, hq1, hq2⟩ := hp; exact ⟨_, ⟨pq1, pq2, pq3, pq4, rfl, hq1, hq2⟩, hw⟩
              obtain ⟨pf467, na468, ma469, wa470, rfl, e473, e474, e475, e476, e477, e478, e479, e480, e481, e482, e483⟩ := hp471
              have e473 : (pf441 11).toInt + 1 ≤ (pf467 11).toInt := e473
              have e474 : (pf467 11).toInt < (tf 6).toInt := e474
              have e475 : (pf441 13).toInt ≤ (pf467 13).toInt := e475
              have e476 : (pf467 13).toInt - (pf441 13).toInt ≤ (pf467 11).toInt - (pf441 11).toInt := e476
              have e477 : bp ta (pf441 11) + 1 ≤ bp ta (pf467 11) := e477
              have e478 : (pf467 12).toInt = 0 := e478
              have e479 : (pf467 26).toInt = 0 := e479
              have e480 : -1 ≤ (pf467 25).toInt := e480
              have e481 : (pf467 25).toInt < (pf467 13).toInt := e481
              have e482 : RzG ta (tf 6).toInt na468 ma469 (pf467 24) (pf467 25) 0 (pf467 13).toInt (3 * bp ta (pf467 11)) 200 := e482
              have hzg := e482
              have e483 : FsI (tf 6).toInt (pf467 13).toInt na468 := e483
              have hfs := e483
              have hw : pw D A s.heap H locs [wdP cs h r g tf ta pf467 na468 ma469 wa470 cf ca ef ea xf xa] := hw
              exact th_vret S hr hlk hAe hw (⟨pf467, na468, ma469, wa470, rfl, (show (pf 11).toInt + 1 ≤ (pf467 11).toInt from by first | exact oz_a0ac8cc8e1 tz439 e473 e446 | omega), (show (pf467 11).toInt < (tf 6).toInt from by first | exact e474 | omega), (show (pf 13).toInt ≤ (pf467 13).toInt from by first | exact oz_49930e0c7e e450 e475 | omega), (show (pf467 13).toInt - (pf 13).toInt ≤ (pf467 11).toInt - (pf 11).toInt from by first | exact oz_b01104479c tz439 e450 e476 e446 | omega), (show bp ta (pf 11) + 1 ≤ bp ta (pf467 11) from by first | with_reducible rfl | with_reducible assumption | omega), (show (pf467 12).toInt = 0 from by first | exact e478 | omega), (show (pf467 26).toInt = 0 from by first | exact e479 | omega), (show -1 ≤ (pf467 25).toInt from by first | exact e480 | omega), (show (pf467 25).toInt < (pf467 13).toInt from by first | exact e481 | omega), (show RzG ta (tf 6).toInt na468 ma469 (pf467 24) (pf467 25) 0 (pf467 13).toInt (3 * bp ta (pf467 11)) 200 from (RzV.le (rz_eq hzg (by first | with_reducible rfl | with_reducible assumption | omega) (by first | with_reducible rfl | with_reducible assumption | omega)) (by first | with_reducible rfl | with_reducible assumption | omega) (by first | with_reducible rfl | with_reducible assumption | omega) (by first | with_reducible rfl | with_reducible assumption | omega) (by first | with_reducible rfl | with_reducible assumption | omega))), (show FsI (tf 6).toInt (pf467 13).toInt na468 from (FsI.le hfs (by first | with_reducible rfl | with_reducible assumption | omega)))⟩) d_Mpg_piece_123
            · exact absurd c437 (by decide)
      · have nc249 : ¬ v246.toInt = (0 : Int) := mt (i_eq (x := v246) (y := 0)).mpr c249
        refine lv_iconst (v := 1) S.x S.b d_Mpg_piece_29 (by decide) ?_
        refine lv_goto (tgt := 34) S.x S.b d_Mpg_piece_30 (by decide) ?_
        refine th_callv (ps0 := [wdP cs h r g tf ta pf na ma wa cf ca ef ea xf xa]) (pr := [wdP cs h r g tf ta pf na ma wa cf ca ef ea xf xa]) (pcs := []) (As := [.int 1]) (rest := []) (c_mp_need l hlf D cs h 1) S hT hw (oX_call (P := (fun A U H => (oN A U H))) (pr := [wdP cs h r g tf ta pf na ma wa cf ca ef ea xf xa]) oG_N hw hA hN) (px_recv hT hw 0 0 rfl rfl rfl) m11_233 m11_230 m11_232 ms_9_0 m1_21 q_Mpg_need ⟨show 6 + 1 ≤ (8 * 61 + 32) from by first | with_reducible rfl | with_reducible assumption | omega, show 8 + (2 + 11) + 100 ≤ (220 * 61 + 1440) from by first | with_reducible rfl | with_reducible assumption | omega⟩ hl.1 rfl (Nat.le_of_ble_eq_true rfl) d_Mpg_piece_34 ⟨Nat.le_of_ble_eq_true rfl, Nat.le_of_ble_eq_true rfl⟩ hne hlk hA hAe (fun o t h => Or.inr h) ?_ (fun p484 H locs hp484 hw => ?_)
        · exact fun p1 H1 locs1 hp hw => by subst hp; exact ⟨_, ⟨pf, na, ma, wa, rfl, by first | with_reducible rfl | with_reducible assumption | omega, by first | with_reducible rfl | with_reducible assumption | omega⟩, hw.sub [0] rfl rfl⟩
        obtain ⟨rfl, hndp484⟩ := hp484
        have hndp484 : ¬ (1 : Int) = 0 := hndp484
        have hw : pw D A s.heap H locs [wdP cs h r g tf ta pf na ma wa cf ca ef ea xf xa] := hw
        refine lv_aload_n S.x S.b d_Mpg_piece_37 rfl (lv_at hl 0 rfl) ?_
        refine px_get S k_Mpg hT hw 0 0 10 (v := .ref (r 10)) rfl rfl rfl (by decide) m9_234 d_Mpg_piece_38 ?_
        refine lv_aload_n S.x S.b d_Mpg_piece_41 rfl (lv_at hl 0 rfl) ?_
        refine px_get S k_Mpg hT hw 0 0 11 (v := .int (pf 11)) rfl rfl rfl (by decide) m9_235 d_Mpg_piece_42 ?_
        refine px_iald S hT hw 0 9 (n := 2060) (f := (ta 10)) rfl gp_10 (x := (pf 11)) (vp_in_iff.mpr (by first | exact oz_846323bf3a g0 g1 g2 | (constructor <;> omega))) d_Mpg_piece_45 ?_
        refine lv_topi (fun z486 ez486 => ?_)
        have lz486 := Int32.le_toInt z486
        have uz486 := Int32.toInt_lt z486
        have rz486 : z486.toInt = wh ta (pf 11) := by rw [ez486]; rfl
        have hk3 := tk_k3 htk (x := (pf 11)) (by first | with_reducible rfl | with_reducible assumption | omega) (by first | with_reducible rfl | with_reducible assumption | omega) (by first | with_reducible rfl | with_reducible assumption | omega) (by first | with_reducible rfl | with_reducible assumption | omega)
        refine lv_istore_n (lv' := [(1, .int z486), (0, .ref h)]) S.x S.b d_Mpg_piece_46 rfl hl (by decide) rfl (fun ls hl => ?_)
        refine lv_aload_n S.x S.b d_Mpg_piece_47 rfl (lv_at hl 1 rfl) ?_
        refine px_get S k_Mpg hT hw 0 0 9 (v := .ref (r 9)) rfl rfl rfl (by decide) m9_233 d_Mpg_piece_48 ?_
        refine lv_aload_n S.x S.b d_Mpg_piece_51 rfl (lv_at hl 1 rfl) ?_
        refine px_get S k_Mpg hT hw 0 0 11 (v := .int (pf 11)) rfl rfl rfl (by decide) m9_235 d_Mpg_piece_52 ?_
        refine lv_iconst (v := 1) S.x S.b d_Mpg_piece_55 (by decide) ?_
        refine lv_iadd S.x S.b d_Mpg_piece_56 ?_
        have lr487 := Int32.le_toInt (pf 11)
        have ur487 := Int32.toInt_lt (pf 11)
        refine lv_topi (fun z488 ez488 => ?_)
        have tz488 : z488.toInt = ((pf 11).toInt + (1 : Int) + 2147483648) % 4294967296 - 2147483648 := by rw [ez488]; exact i_add (pf 11) 1
        have lz488 := Int32.le_toInt z488
        have uz488 := Int32.toInt_lt z488
        try replace tz488 : z488.toInt = (pf 11).toInt + (1 : Int) := by omega
        refine px_bald S hT hw 0 8 (n := 2060) (f := (ta 9)) rfl gp_9 (x := z488) (vp_in_iff.mpr (by first | exact oz_b51d39aa29 tz488 g0 g1 g2 | (constructor <;> omega))) d_Mpg_piece_57 ?_
        refine lv_topi (fun z489 ez489 => ?_)
        have lz489 := Int32.le_toInt z489
        have uz489 := Int32.toInt_lt z489
        have rz489 := tk_s htk (x := z488) (by first | with_reducible rfl | with_reducible assumption | omega) (by first | with_reducible rfl | with_reducible assumption | omega) ez489
        refine lv_iconst (v := 1) S.x S.b d_Mpg_piece_58 (by decide) ?_
        refine lv_icmp_ne (tgt := 81) S.x S.b d_Mpg_piece_59 (by decide) (fun c490 => ?_) (fun c490 => ?_)
        · have nc490 : ¬ z489.toInt = (1 : Int) := mt (i_eq (x := z489) (y := 1)).mpr c490
          refine lv_iconst (v := 0) S.x S.b d_Mpg_piece_81 (by decide) ?_
          refine lv_istore_n (lv' := [(2, .int 0), (1, .int z486), (0, .ref h)]) S.x S.b d_Mpg_piece_82 rfl hl (by decide) rfl (fun ls hl => ?_)
          refine lv_iload_n S.x S.b d_Mpg_piece_83 rfl (lv_at hl 0 rfl) ?_
          refine lv_if_ne (tgt := 92) S.x S.b d_Mpg_piece_84 (by decide) (fun c491 => ?_) (fun c491 => ?_)
          · exact absurd c491 (by decide)
          ·
            refine lv_iload_n S.x S.b d_Mpg_piece_87 rfl (lv_at hl 1 rfl) ?_
            refine lv_iconst (v := 2) S.x S.b d_Mpg_piece_88 (by decide) ?_
            refine lv_icmp_ne (tgt := 124) S.x S.b d_Mpg_piece_89 (by decide) (fun c492 => ?_) (fun c492 => ?_)
            · have nc492 : ¬ z486.toInt = (2 : Int) := mt (i_eq (x := z486) (y := 2)).mpr c492
              refine lv_aload_n S.x S.b d_Mpg_piece_124 rfl (lv_at hl 2 rfl) ?_
              refine lv_aload_n S.x S.b d_Mpg_piece_125 rfl (lv_at hl 2 rfl) ?_
              refine th_calli (ps0 := [wdP cs h r g tf ta pf na ma wa cf ca ef ea xf xa]) (pr := []) (pcs := [wdP cs h r g tf ta pf na ma wa cf ca ef ea xf xa]) (As := []) (rest := [.ref h]) (c_mp_declaration l D cs h r g tf ta cf ca ef ea xf xa pf na ma wa  lv (show 0 ≤ (pf 11).toInt from by first | exact g0 | omega) (show (pf 11).toInt < (tf 6).toInt from by first | exact g1 | omega) (show (tf 6).toInt ≤ 2049 from by first | exact g2 | omega) (show 0 ≤ (pf 12).toInt from by first | exact oz_b1de7dbe7e g3 | omega) (show (pf 12).toInt ≤ 60 from by first | exact oz_c48710cd70 g3 | omega) (show 0 ≤ (pf 13).toInt from by first | exact g4 | omega) (show (pf 13).toInt ≤ (pf 11).toInt + 10 from by first | exact g5 | omega) (show 0 ≤ (pf 26).toInt from by first | exact oz_b1de7dbe7e g6 | omega) (show (pf 26).toInt ≤ (pf 12).toInt from by first | exact oz_aca53b6681 g3 g6 | omega) (show 61 ≤ (pf 12).toInt + (lv : Int) from by first | with_reducible rfl | with_reducible assumption | omega) (show lv ≤ 61 from by first | with_reducible rfl | with_reducible assumption | omega) (show (pf 11).toInt + 1 < (tf 6).toInt from by first | with_reducible rfl | with_reducible assumption | omega) (show so ta (pf 11) = 2 from by first | with_reducible rfl | with_reducible assumption | omega) (show 0 ≤ wh ta (pf 11) from by first | exact hk3.2 | omega) (show wh ta (pf 11) ≤ 1 from by first | with_reducible rfl | with_reducible assumption | omega) hlf htk (FsI.le (N' := (pf 13).toInt) hfs (by first | with_reducible rfl | with_reducible assumption | omega))) S hT hw (oX_call (P := (fun A U H => (oN A U H) ∧ (oP A g U H))) (pr := []) (oG_and oG_N oG_P) hw hA ⟨hN, hP⟩) (px_recv hT hw 0 0 rfl rfl rfl) m12_105 m12_102 m12_104 ms_10_11 m1_21 q_Mpg_declaration ⟨show (8 * lv + 25) + 1 ≤ (8 * 61 + 32) from by first | with_reducible rfl | with_reducible assumption | omega, show 8 + (2 + 11) + (220 * lv + 1160) ≤ (220 * 61 + 1440) from by first | with_reducible rfl | with_reducible assumption | omega⟩ hl.1 rfl (Nat.le_of_ble_eq_true rfl) d_Mpg_piece_126 ⟨Nat.le_of_ble_eq_true rfl, Nat.le_of_ble_eq_true rfl⟩ hne hlk hA hAe (fun o t h => Or.inr h) ?_ (fun v502 p501 H locs hp501 hw => ?_)
              · exact fun p1 H1 locs1 hp hw => by obtain ⟨pq1, pq2, pq3, pq4, rfl, hq1, hq2⟩ := hp; exact ⟨_, ⟨pq1, pq2, pq3, pq4, rfl, hq1, hq2⟩, hw⟩
              obtain ⟨pf497, na498, ma499, wa500, rfl, e503, e504, e505, e506, e507, e508, e509, e510, e511, e512, e513, e514, e515, e516⟩ := hp501
              have e503 : (pf 11).toInt + 1 ≤ (pf497 11).toInt := e503
              have e504 : (pf497 11).toInt < (tf 6).toInt := e504
              have e505 : (pf 13).toInt + 1 ≤ (pf497 13).toInt := e505
              have e506 : (pf497 13).toInt - (pf 13).toInt ≤ (pf497 11).toInt - (pf 11).toInt := e506
              have e507 : bp ta (pf 11) + 1 ≤ bp ta (pf497 11) := e507
              have e508 : (pf497 12).toInt = (pf 12).toInt := e508
              have e509 : (pf497 24).toInt = (pf 24).toInt := e509
              have e510 : (pf497 25).toInt = (pf 25).toInt := e510
              have e511 : (pf497 26).toInt = (pf 26).toInt := e511
              have e512 : FrB (pf 13).toInt na ma na498 ma499 := e512
              have hzg := hzg.ag fg_ok (FrB.ag e512 (by first | with_reducible rfl | with_reducible assumption | omega))
              have hfb := hfb.tr e512 (by first | with_reducible rfl | with_reducible assumption | omega)
              have e513 : FrW (pf 26).toInt wa wa500 := e513
              have hfw := hfw.tr e513 (by first | with_reducible rfl | with_reducible assumption | omega)
              have e514 : VlS ta (tf 6).toInt na498 ma499 v502 (pf 13).toInt (pf497 13).toInt (3 * (bp ta (pf497 11) - bp ta (pf 11))) (200 - (pf 12).toInt) := e514
              have hv_v502 := e514
              have hn_hv_v502 := hv_v502.num fs_ok
              have e515 : DcN na498 v502 := e515
              have hf_14_v502 : na498 14 v502.toNatClampNeg = 23 := e515
              have e516 : FsI (tf 6).toInt (pf497 13).toInt na498 := e516
              have hfs := e516
              have hw : pw D A s.heap H locs [wdP cs h r g tf ta pf497 na498 ma499 wa500 cf ca ef ea xf xa] := hw
              have lv502 := Int32.le_toInt v502
              have uv502 := Int32.toInt_lt v502
              refine px_callv (pr := []) (px_runV (As := [.int v502]) (rest := []) S (c_mp_add l D cs h r g tf ta ma499 wa500 cf ca ef ea xf xa pf497 na498 v502  (show (pf497 25).toInt < 2100 from by first | exact oz_94e1af121e e510 g8 g5 e503 e504 g2 | omega) htk _) hT (pr := []) (pcs := [wdP cs h r g tf ta pf497 na498 ma499 wa500 cf ca ef ea xf xa]) hw px_X.tt (px_recv hT hw 0 0 rfl rfl rfl) m12_81 m12_78 m12_80 ms_10_5 m1_21 q_Mpg_add ⟨show 1 + 1 ≤ (8 * 61 + 32) from by first | with_reducible rfl | with_reducible assumption | omega, show 8 + (2 + 11) + 30 ≤ (220 * 61 + 1440) from by first | with_reducible rfl | with_reducible assumption | omega⟩ hl.1 rfl (Nat.le_of_ble_eq_true rfl) d_Mpg_piece_129 ⟨Nat.le_of_ble_eq_true rfl, Nat.le_of_ble_eq_true rfl⟩) hw hA (fun p521 H locs hp521 hw => ?_)
              obtain ⟨pf519, na520, rfl, e523, e524, e525, e526, e527, e528⟩ := hp521
              have e523 : (pf519 11).toInt = (pf497 11).toInt := e523
              have e524 : (pf519 12).toInt = (pf497 12).toInt := e524
              have e525 : (pf519 13).toInt = (pf497 13).toInt := e525
              have e526 : (pf519 26).toInt = (pf497 26).toInt := e526
              have e527 : (pf519 25).toInt = v502.toInt := e527
              have e528 : Hg na498 na520 (pf497 24) (pf497 25) v502 (pf519 24) := e528
              have hvg := vg_decl (VlV.le hv_v502 (Int.le_refl _) (Int.le_refl _) (Int.le_refl _) (show _ ≤ (200 : Int) from by first | with_reducible rfl | with_reducible assumption | omega)) hf_14_v502
              have hzg := Hg.row e528 fg_ok (rz_eq hzg (by first | with_reducible rfl | with_reducible assumption | omega) (by first | with_reducible rfl | with_reducible assumption | omega)) (VlV.le hvg (by first | with_reducible rfl | with_reducible assumption | omega) (Int.le_refl _) (Int.le_refl _) (by first | with_reducible rfl | with_reducible assumption | omega)) (by first | with_reducible rfl | with_reducible assumption | omega) (by first | with_reducible rfl | with_reducible assumption | omega)
              have hfs := FsI.hg hfs e528
              obtain ⟨qb5291, qb5292, qb5293, qb5294⟩ := tk_eq (ta := ta) (x := (pf519 11)) (y := (pf497 11)) (by first | with_reducible rfl | with_reducible assumption | omega)
              have hw : pw D A s.heap H locs [wdP cs h r g tf ta pf519 na520 ma499 wa500 cf ca ef ea xf xa] := hw
              exact th_vret S hr hlk hAe hw (⟨pf519, na520, ma499, wa500, rfl, (show (pf 11).toInt + 1 ≤ (pf519 11).toInt from by first | exact oz_213e98d3f1 e503 e523 | omega), (show (pf519 11).toInt < (tf 6).toInt from by first | exact oz_5d2fbac15b e504 e523 | omega), (show (pf 13).toInt ≤ (pf519 13).toInt from by first | exact oz_a98a1e881c e505 e525 | omega), (show (pf519 13).toInt - (pf 13).toInt ≤ (pf519 11).toInt - (pf 11).toInt from by first | exact oz_7d2ce61601 e506 e523 e525 | omega), (show bp ta (pf 11) + 1 ≤ bp ta (pf519 11) from by first | with_reducible rfl | with_reducible assumption | omega), (show (pf519 12).toInt = 0 from by first | exact oz_bfc0cf0d20 e524 e508 g3 | omega), (show (pf519 26).toInt = 0 from by first | exact oz_bfc0cf0d20 e526 e511 g6 | omega), (show -1 ≤ (pf519 25).toInt from by first | with_reducible rfl | with_reducible assumption | omega), (show (pf519 25).toInt < (pf519 13).toInt from by first | with_reducible rfl | with_reducible assumption | omega), (show RzG ta (tf 6).toInt na520 ma499 (pf519 24) (pf519 25) 0 (pf519 13).toInt (3 * bp ta (pf519 11)) 200 from (RzV.le (rz_eq (Or.inr hzg) (by first | with_reducible rfl | with_reducible assumption | omega) (by first | with_reducible rfl | with_reducible assumption | omega)) (by first | with_reducible rfl | with_reducible assumption | omega) (by first | with_reducible rfl | with_reducible assumption | omega) (by first | with_reducible rfl | with_reducible assumption | omega) (by first | with_reducible rfl | with_reducible assumption | omega))), (show FsI (tf 6).toInt (pf519 13).toInt na520 from (FsI.le hfs (by first | with_reducible rfl | with_reducible assumption | omega)))⟩) d_Mpg_piece_132
            · have nc492 : z486.toInt = (2 : Int) := (i_eq (x := z486) (y := 2)).mp c492
              refine lv_aload_n S.x S.b d_Mpg_piece_92 rfl (lv_at hl 2 rfl) ?_
              refine lv_dup S.x S.b d_Mpg_piece_93 rfl ?_
              refine px_get S k_Mpg hT hw 0 0 11 (v := .int (pf 11)) rfl rfl rfl (by decide) m9_235 d_Mpg_piece_94 ?_
              refine lv_iconst (v := 1) S.x S.b d_Mpg_piece_97 (by decide) ?_
              refine lv_iadd S.x S.b d_Mpg_piece_98 ?_
              have lr530 := Int32.le_toInt (pf 11)
              have ur530 := Int32.toInt_lt (pf 11)
              refine lv_topi (fun z531 ez531 => ?_)
              have tz531 : z531.toInt = ((pf 11).toInt + (1 : Int) + 2147483648) % 4294967296 - 2147483648 := by rw [ez531]; exact i_add (pf 11) 1
              have lz531 := Int32.le_toInt z531
              have uz531 := Int32.toInt_lt z531
              try replace tz531 : z531.toInt = (pf 11).toInt + (1 : Int) := by omega
              have hnx98 := tk_n htk (x := (pf 11)) (y := z531) (by first | with_reducible rfl | with_reducible assumption | omega) (by first | with_reducible rfl | with_reducible assumption | omega) (by first | with_reducible rfl | with_reducible assumption | omega)
              refine px_put S k_Mpg hT hw 0 0 11 rfl rfl (by decide) m9_235 rfl rfl rfl (Nat.le_of_ble_eq_true rfl) d_Mpg_piece_99 (w' := wdP cs h r g tf ta (upd pf 11 z531) na ma wa cf ca ef ea xf xa) (ps' := [wdP cs h r g tf ta (upd pf 11 z531) na ma wa cf ca ef ea xf xa]) rfl rfl (fun H locs hw => ?_)
              refine lv_aload_n S.x S.b d_Mpg_piece_102 rfl (lv_at hl 2 rfl) ?_
              refine th_calli (ps0 := [wdP cs h r g tf ta pf na ma wa cf ca ef ea xf xa]) (pr := []) (pcs := [wdP cs h r g tf ta (upd pf 11 z531) na ma wa cf ca ef ea xf xa]) (As := []) (rest := []) (c_mp_name l D cs h r g tf ta na ma wa cf ca ef ea xf xa (upd pf 11 z531)   (show 0 ≤ z531.toInt from by first | exact oz_b3b25f0e49 tz531 g0 | omega) (show z531.toInt < (tf 6).toInt from by first | with_reducible rfl | with_reducible assumption | omega) (show (tf 6).toInt ≤ 2049 from by first | exact g2 | omega) hlf htk) S hT hw (oX_call (P := (fun A U H => (oN A U H) ∧ (oP A g U H))) (pr := []) (oG_and oG_N oG_P) hw hA ⟨hN, hP⟩) (px_recv hT hw 0 0 rfl rfl rfl) m12_2 m11_239 m12_1 ms_9_2 m1_21 q_Mpg_name ⟨show 7 + 1 ≤ (8 * 61 + 32) from by first | with_reducible rfl | with_reducible assumption | omega, show 8 + (1 + 11) + 150 ≤ (220 * 61 + 1440) from by first | with_reducible rfl | with_reducible assumption | omega⟩ hl.1 rfl (Nat.le_of_ble_eq_true rfl) d_Mpg_piece_103 ⟨Nat.le_of_ble_eq_true rfl, Nat.le_of_ble_eq_true rfl⟩ hne hlk hA hAe (fun o t h => Or.inr h) ?_ (fun v535 p534 H locs hp534 hw => ?_)
              · exact fun p1 H1 locs1 hp hw => by obtain ⟨pq1, pq2, pq3, pq4, rfl, hq1, hq2⟩ := hp; exact ⟨_, ⟨pq1, pq2, pq3, pq4, rfl, hq1, hq2⟩, hw⟩
              obtain ⟨pf533, rfl, e536, e537, e538, e539, e540, e541, e542, e543, e544, e545⟩ := hp534
              have e536 : v535.toInt = z531.toInt := e536
              have e537 : SoIs ta v535 1 := e537
              have e538 : (pf533 11).toInt = z531.toInt + 1 := e538
              have e539 : (pf533 11).toInt < (tf 6).toInt := e539
              have e540 : bp ta z531 + 1 ≤ bp ta (pf533 11) := e540
              have e541 : (pf533 12).toInt = (pf 12).toInt := e541
              have e542 : (pf533 13).toInt = (pf 13).toInt := e542
              have e543 : (pf533 24).toInt = (pf 24).toInt := e543
              have e544 : (pf533 25).toInt = (pf 25).toInt := e544
              have e545 : (pf533 26).toInt = (pf 26).toInt := e545
              have hw : pw D A s.heap H locs [wdP cs h r g tf ta pf533 na ma wa cf ca ef ea xf xa] := hw
              have lv535 := Int32.le_toInt v535
              have uv535 := Int32.toInt_lt v535
              refine lv_istore_n (lv' := [(3, .int v535), (2, .int 0), (1, .int z486), (0, .ref h)]) S.x S.b d_Mpg_piece_106 rfl hl (by decide) rfl (fun ls hl => ?_)
              refine lv_aload_n S.x S.b d_Mpg_piece_107 rfl (lv_at hl 3 rfl) ?_
              refine lv_aload_n S.x S.b d_Mpg_piece_108 rfl (lv_at hl 3 rfl) ?_
              obtain ⟨sk546, hRsk546, st547, sb548, hSsk546⟩ := oP_lit hP (k := 87) (tx := "(") (n := 1) (List.mem_of_getElem? (i := 35) rfl)
              refine va_ldcS S.x S.b S.own hRsk546 d_Mpg_piece_109 ?_
              refine px_calli (pr := []) (px_runV (As := [.ref sk546]) (rest := [.ref h]) S (c_mp_is l D cs sk546 1 h r g tf ta pf533 na ma wa cf ca ef ea xf xa   (show 0 ≤ (pf533 11).toInt from by first | exact oz_6f750b233b e538 tz531 g0 | omega) (show (pf533 11).toInt < (tf 6).toInt from by first | exact e539 | omega) (show (tf 6).toInt ≤ 2049 from by first | exact g2 | omega) (show 1 ≤ 100 from by first | decide | omega) htk _) hT (pr := []) (pcs := [wdP cs h r g tf ta pf533 na ma wa cf ca ef ea xf xa]) hw (oX_call (P := (fun A U H => (oP A g U H) ∧ (StS A sk546 1 U H))) (pr := []) (oG_and oG_P oG_Q) hw hA ⟨hP, ⟨_, _, hSsk546⟩⟩) (px_recv hT hw 0 0 rfl rfl rfl) m11_217 m11_214 m11_216 ms_8_14 m1_21 q_Mpg_is ⟨show 3 + 1 ≤ (8 * 61 + 32) from by first | with_reducible rfl | with_reducible assumption | omega, show 8 + (2 + 11) + 120 ≤ (220 * 61 + 1440) from by first | with_reducible rfl | with_reducible assumption | omega⟩ hl.1 rfl (Nat.le_of_ble_eq_true rfl) d_Mpg_piece_111 ⟨Nat.le_of_ble_eq_true rfl, Nat.le_of_ble_eq_true rfl⟩) hw hA (fun v550 p549 H locs hp549 hw => ?_)
              obtain ⟨rfl, e551, e552⟩ := hp549
              have e551 := z_rng e551
              have e552 : v550.toInt = 1 → (pf533 11).toInt + 1 < (tf 6).toInt ∧ so ta (pf533 11) = 5 := e552
              have hw : pw D A s.heap H locs [wdP cs h r g tf ta pf533 na ma wa cf ca ef ea xf xa] := hw
              have lv550 := Int32.le_toInt v550
              have uv550 := Int32.toInt_lt v550
              refine th_callv (ps0 := [wdP cs h r g tf ta pf na ma wa cf ca ef ea xf xa]) (pr := [wdP cs h r g tf ta pf533 na ma wa cf ca ef ea xf xa]) (pcs := []) (As := [.int v550]) (rest := []) (c_mp_need l hlf D cs h v550) S hT hw (oX_call (P := (fun A U H => (oN A U H))) (pr := [wdP cs h r g tf ta pf533 na ma wa cf ca ef ea xf xa]) oG_N hw hA hN) (px_recv hT hw 0 0 rfl rfl rfl) m11_233 m11_230 m11_232 ms_9_0 m1_21 q_Mpg_need ⟨show 6 + 1 ≤ (8 * 61 + 32) from by first | with_reducible rfl | with_reducible assumption | omega, show 8 + (2 + 11) + 100 ≤ (220 * 61 + 1440) from by first | with_reducible rfl | with_reducible assumption | omega⟩ hl.1 rfl (Nat.le_of_ble_eq_true rfl) d_Mpg_piece_114 ⟨Nat.le_of_ble_eq_true rfl, Nat.le_of_ble_eq_true rfl⟩ hne hlk hA hAe (fun o t h => Or.inr h) ?_ (fun p553 H locs hp553 hw => ?_)
              · exact fun p1 H1 locs1 hp hw => by subst hp; exact ⟨_, ⟨pf533, na, ma, wa, rfl, by first | with_reducible rfl | with_reducible assumption | omega, by first | with_reducible rfl | with_reducible assumption | omega⟩, hw.sub [0] rfl rfl⟩
              obtain ⟨rfl, hndp553⟩ := hp553
              have hndp553 : ¬ v550.toInt = 0 := hndp553
              have hw : pw D A s.heap H locs [wdP cs h r g tf ta pf533 na ma wa cf ca ef ea xf xa] := hw
              refine lv_aload_n S.x S.b d_Mpg_piece_117 rfl (lv_at hl 3 rfl) ?_
              refine lv_iload_n S.x S.b d_Mpg_piece_118 rfl (lv_at hl 2 rfl) ?_
              refine lv_iload_n S.x S.b d_Mpg_piece_119 rfl (lv_at hl 0 rfl) ?_
              refine th_callv (ps0 := [wdP cs h r g tf ta pf na ma wa cf ca ef ea xf xa]) (pr := []) (pcs := [wdP cs h r g tf ta pf533 na ma wa cf ca ef ea xf xa]) (As := [.int z486, .int v535]) (rest := []) (c_mp_functionText l D cs h r g tf ta cf ca ef ea xf xa pf533 na ma wa z486 v535  (show 0 ≤ (pf533 11).toInt from by first | exact oz_6f750b233b e538 tz531 g0 | omega) (show (pf533 11).toInt < (tf 6).toInt from by first | exact e539 | omega) (show (tf 6).toInt ≤ 2049 from by first | exact g2 | omega) (show (pf533 12).toInt = 0 from by first | exact oz_4193540c58 e541 g3 | omega) (show 0 ≤ (pf533 13).toInt from by first | exact oz_f3ebed1ad0 e542 g4 | omega) (show (pf533 13).toInt ≤ (pf533 11).toInt + 10 from by first | exact oz_48adc2bebd e538 e542 g5 tz531 | omega) (show (pf533 26).toInt = 0 from by first | exact oz_4193540c58 e545 g6 | omega) (show -1 ≤ (pf533 25).toInt from by first | exact oz_b850331a4a e544 g7 | omega) (show (pf533 25).toInt < (pf533 13).toInt from by first | exact oz_b6579fb52e e542 e544 g8 | omega) (show 0 ≤ z486.toInt from by first | exact oz_9175d0c236 nc492 | omega) (show z486.toInt ≤ 2 from by first | exact oz_7fea0476a4 nc492 | omega) (show 0 ≤ v535.toInt from by first | exact oz_b39abd85f8 e536 tz531 g0 | omega) (show v535.toInt < (tf 6).toInt from by first | exact oz_7faa3985b4 e536 e539 e538 | omega) (show 4 ≤ bp ta (pf533 11) from by first | with_reducible rfl | with_reducible assumption | omega) hlf htk (FsI.le (N' := (pf533 13).toInt) hfs (by first | with_reducible rfl | with_reducible assumption | omega)) (by assumption) (RzV.le (rz_eq hzg (by first | with_reducible rfl | with_reducible assumption | omega) (by first | with_reducible rfl | with_reducible assumption | omega)) (by first | with_reducible rfl | with_reducible assumption | omega) (by first | with_reducible rfl | with_reducible assumption | omega) (by first | with_reducible rfl | with_reducible assumption | omega) (by first | with_reducible rfl | with_reducible assumption | omega))) S hT hw (oX_call (P := (fun A U H => (oN A U H) ∧ (oP A g U H))) (pr := []) (oG_and oG_N oG_P) hw hA ⟨hN, hP⟩) (px_recv hT hw 0 0 rfl rfl rfl) m12_89 m12_86 m12_88 ms_10_7 m1_21 q_Mpg_functionText ⟨show (8 * 61 + 30) + 1 ≤ (8 * 61 + 32) from by first | with_reducible rfl | with_reducible assumption | omega, show 8 + (6 + 11) + (220 * 61 + 1360) ≤ (220 * 61 + 1440) from by first | with_reducible rfl | with_reducible assumption | omega⟩ hl.1 rfl (Nat.le_of_ble_eq_true rfl) d_Mpg_piece_120 ⟨Nat.le_of_ble_eq_true rfl, Nat.le_of_ble_eq_true rfl⟩ hne hlk hA hAe (fun o t h => Or.inr h) ?_ (fun p563 H locs hp563 hw => ?_)
              · exact fun p1 H1 locs1 hp hw => by obtain ⟨pq1, pq2, pq3, pq4, rfl, hq1, hq2⟩ := hp; exact ⟨_, ⟨pq1, pq2, pq3, pq4, rfl, hq1, hq2⟩, hw⟩
              obtain ⟨pf559, na560, ma561, wa562, rfl, e565, e566, e567, e568, e569, e570, e571, e572, e573, e574, e575⟩ := hp563
              have e565 : (pf533 11).toInt + 1 ≤ (pf559 11).toInt := e565
              have e566 : (pf559 11).toInt < (tf 6).toInt := e566
              have e567 : (pf533 13).toInt ≤ (pf559 13).toInt := e567
              have e568 : (pf559 13).toInt - (pf533 13).toInt ≤ (pf559 11).toInt - (pf533 11).toInt := e568
              have e569 : bp ta (pf533 11) + 1 ≤ bp ta (pf559 11) := e569
              have e570 : (pf559 12).toInt = 0 := e570
              have e571 : (pf559 26).toInt = 0 := e571
              have e572 : -1 ≤ (pf559 25).toInt := e572
              have e573 : (pf559 25).toInt < (pf559 13).toInt := e573
              have e574 : RzG ta (tf 6).toInt na560 ma561 (pf559 24) (pf559 25) 0 (pf559 13).toInt (3 * bp ta (pf559 11)) 200 := e574
              have hzg := e574
              have e575 : FsI (tf 6).toInt (pf559 13).toInt na560 := e575
              have hfs := e575
              have hw : pw D A s.heap H locs [wdP cs h r g tf ta pf559 na560 ma561 wa562 cf ca ef ea xf xa] := hw
              exact th_vret S hr hlk hAe hw (⟨pf559, na560, ma561, wa562, rfl, (show (pf 11).toInt + 1 ≤ (pf559 11).toInt from by first | exact oz_a0ac8cc8e1 tz531 e565 e538 | omega), (show (pf559 11).toInt < (tf 6).toInt from by first | exact e566 | omega), (show (pf 13).toInt ≤ (pf559 13).toInt from by first | exact oz_49930e0c7e e542 e567 | omega), (show (pf559 13).toInt - (pf 13).toInt ≤ (pf559 11).toInt - (pf 11).toInt from by first | exact oz_b01104479c tz531 e542 e568 e538 | omega), (show bp ta (pf 11) + 1 ≤ bp ta (pf559 11) from by first | with_reducible rfl | with_reducible assumption | omega), (show (pf559 12).toInt = 0 from by first | exact e570 | omega), (show (pf559 26).toInt = 0 from by first | exact e571 | omega), (show -1 ≤ (pf559 25).toInt from by first | exact e572 | omega), (show (pf559 25).toInt < (pf559 13).toInt from by first | exact e573 | omega), (show RzG ta (tf 6).toInt na560 ma561 (pf559 24) (pf559 25) 0 (pf559 13).toInt (3 * bp ta (pf559 11)) 200 from (RzV.le (rz_eq hzg (by first | with_reducible rfl | with_reducible assumption | omega) (by first | with_reducible rfl | with_reducible assumption | omega)) (by first | with_reducible rfl | with_reducible assumption | omega) (by first | with_reducible rfl | with_reducible assumption | omega) (by first | with_reducible rfl | with_reducible assumption | omega) (by first | with_reducible rfl | with_reducible assumption | omega))), (show FsI (tf 6).toInt (pf559 13).toInt na560 from (FsI.le hfs (by first | with_reducible rfl | with_reducible assumption | omega)))⟩) d_Mpg_piece_123
        · have nc490 : z489.toInt = (1 : Int) := (i_eq (x := z489) (y := 1)).mp c490
          refine lv_aload_n S.x S.b d_Mpg_piece_62 rfl (lv_at hl 1 rfl) ?_
          refine lv_aload_n S.x S.b d_Mpg_piece_63 rfl (lv_at hl 1 rfl) ?_
          refine px_get S k_Mpg hT hw 0 0 11 (v := .int (pf 11)) rfl rfl rfl (by decide) m9_235 d_Mpg_piece_64 ?_
          refine lv_iconst (v := 2) S.x S.b d_Mpg_piece_67 (by decide) ?_
          refine lv_iadd S.x S.b d_Mpg_piece_68 ?_
          have lr576 := Int32.le_toInt (pf 11)
          have ur576 := Int32.toInt_lt (pf 11)
          refine lv_topi (fun z577 ez577 => ?_)
          have tz577 : z577.toInt = ((pf 11).toInt + (2 : Int) + 2147483648) % 4294967296 - 2147483648 := by rw [ez577]; exact i_add (pf 11) 2
          have lz577 := Int32.le_toInt z577
          have uz577 := Int32.toInt_lt z577
          try replace tz577 : z577.toInt = (pf 11).toInt + (2 : Int) := by omega
          obtain ⟨sk578, hRsk578, st579, sb580, hSsk578⟩ := oP_lit hP (k := 87) (tx := "(") (n := 1) (List.mem_of_getElem? (i := 35) rfl)
          refine va_ldcS S.x S.b S.own hRsk578 d_Mpg_piece_69 ?_
          refine px_calli (pr := []) (px_runV (As := [.int z577, .ref sk578]) (rest := []) S (c_mp_isAt l D cs sk578 1 h r g tf ta pf na ma wa cf ca ef ea xf xa z577  (show 0 ≤ z577.toInt from by first | exact oz_6c4a1e09c3 tz577 g0 | omega) (show z577.toInt < (tf 6).toInt from by first | with_reducible rfl | with_reducible assumption | omega) (show (tf 6).toInt ≤ 2049 from by first | exact g2 | omega) (show 1 ≤ 100 from by first | decide | omega) htk _) hT (pr := []) (pcs := [wdP cs h r g tf ta pf na ma wa cf ca ef ea xf xa]) hw (oX_call (P := (fun A U H => (oP A g U H) ∧ (StS A sk578 1 U H))) (pr := []) (oG_and oG_P oG_Q) hw hA ⟨hP, ⟨_, _, hSsk578⟩⟩) (px_recv hT hw 0 0 rfl rfl rfl) m11_221 m11_218 m11_220 ms_8_15 m1_21 q_Mpg_isAt ⟨show 2 + 1 ≤ (8 * 61 + 32) from by first | with_reducible rfl | with_reducible assumption | omega, show 8 + (3 + 11) + 80 ≤ (220 * 61 + 1440) from by first | with_reducible rfl | with_reducible assumption | omega⟩ hl.1 rfl (Nat.le_of_ble_eq_true rfl) d_Mpg_piece_71 ⟨Nat.le_of_ble_eq_true rfl, Nat.le_of_ble_eq_true rfl⟩) hw hA (fun v582 p581 H locs hp581 hw => ?_)
          obtain ⟨rfl, e583, e584⟩ := hp581
          have e583 := z_rng e583
          have e584 : v582.toInt = 1 → z577.toInt + 1 < (tf 6).toInt ∧ so ta z577 = 5 := e584
          have hw : pw D A s.heap H locs [wdP cs h r g tf ta pf na ma wa cf ca ef ea xf xa] := hw
          have lv582 := Int32.le_toInt v582
          have uv582 := Int32.toInt_lt v582
          refine lv_if_eq (tgt := 81) S.x S.b d_Mpg_piece_74 (by decide) (fun c585 => ?_) (fun c585 => ?_)
          · have nc585 : v582.toInt = (0 : Int) := (i_eq (x := v582) (y := 0)).mp c585
            refine lv_iconst (v := 0) S.x S.b d_Mpg_piece_81 (by decide) ?_
            refine lv_istore_n (lv' := [(2, .int 0), (1, .int z486), (0, .ref h)]) S.x S.b d_Mpg_piece_82 rfl hl (by decide) rfl (fun ls hl => ?_)
            refine lv_iload_n S.x S.b d_Mpg_piece_83 rfl (lv_at hl 0 rfl) ?_
            refine lv_if_ne (tgt := 92) S.x S.b d_Mpg_piece_84 (by decide) (fun c586 => ?_) (fun c586 => ?_)
            · exact absurd c586 (by decide)
            ·
              refine lv_iload_n S.x S.b d_Mpg_piece_87 rfl (lv_at hl 1 rfl) ?_
              refine lv_iconst (v := 2) S.x S.b d_Mpg_piece_88 (by decide) ?_
              refine lv_icmp_ne (tgt := 124) S.x S.b d_Mpg_piece_89 (by decide) (fun c587 => ?_) (fun c587 => ?_)
              · have nc587 : ¬ z486.toInt = (2 : Int) := mt (i_eq (x := z486) (y := 2)).mpr c587
                refine lv_aload_n S.x S.b d_Mpg_piece_124 rfl (lv_at hl 2 rfl) ?_
                refine lv_aload_n S.x S.b d_Mpg_piece_125 rfl (lv_at hl 2 rfl) ?_
                refine th_calli (ps0 := [wdP cs h r g tf ta pf na ma wa cf ca ef ea xf xa]) (pr := []) (pcs := [wdP cs h r g tf ta pf na ma wa cf ca ef ea xf xa]) (As := []) (rest := [.ref h]) (c_mp_declaration l D cs h r g tf ta cf ca ef ea xf xa pf na ma wa  lv (show 0 ≤ (pf 11).toInt from by first | exact g0 | omega) (show (pf 11).toInt < (tf 6).toInt from by first | exact g1 | omega) (show (tf 6).toInt ≤ 2049 from by first | exact g2 | omega) (show 0 ≤ (pf 12).toInt from by first | exact oz_b1de7dbe7e g3 | omega) (show (pf 12).toInt ≤ 60 from by first | exact oz_c48710cd70 g3 | omega) (show 0 ≤ (pf 13).toInt from by first | exact g4 | omega) (show (pf 13).toInt ≤ (pf 11).toInt + 10 from by first | exact g5 | omega) (show 0 ≤ (pf 26).toInt from by first | exact oz_b1de7dbe7e g6 | omega) (show (pf 26).toInt ≤ (pf 12).toInt from by first | exact oz_aca53b6681 g3 g6 | omega) (show 61 ≤ (pf 12).toInt + (lv : Int) from by first | with_reducible rfl | with_reducible assumption | omega) (show lv ≤ 61 from by first | with_reducible rfl | with_reducible assumption | omega) (show (pf 11).toInt + 1 < (tf 6).toInt from by first | with_reducible rfl | with_reducible assumption | omega) (show so ta (pf 11) = 2 from by first | with_reducible rfl | with_reducible assumption | omega) (show 0 ≤ wh ta (pf 11) from by first | exact hk3.2 | omega) (show wh ta (pf 11) ≤ 1 from by first | with_reducible rfl | with_reducible assumption | omega) hlf htk (FsI.le (N' := (pf 13).toInt) hfs (by first | with_reducible rfl | with_reducible assumption | omega))) S hT hw (oX_call (P := (fun A U H => (oN A U H) ∧ (oP A g U H))) (pr := []) (oG_and oG_N oG_P) hw hA ⟨hN, hP⟩) (px_recv hT hw 0 0 rfl rfl rfl) m12_105 m12_102 m12_104 ms_10_11 m1_21 q_Mpg_declaration ⟨show (8 * lv + 25) + 1 ≤ (8 * 61 + 32) from by first | with_reducible rfl | with_reducible assumption | omega, show 8 + (2 + 11) + (220 * lv + 1160) ≤ (220 * 61 + 1440) from by first | with_reducible rfl | with_reducible assumption | omega⟩ hl.1 rfl (Nat.le_of_ble_eq_true rfl) d_Mpg_piece_126 ⟨Nat.le_of_ble_eq_true rfl, Nat.le_of_ble_eq_true rfl⟩ hne hlk hA hAe (fun o t h => Or.inr h) ?_ (fun v597 p596 H locs hp596 hw => ?_)
                · exact fun p1 H1 locs1 hp hw => by obtain ⟨pq1, pq2, pq3, pq4, rfl, hq1, hq2⟩ := hp; exact ⟨_, ⟨pq1, pq2, pq3, pq4, rfl, hq1, hq2⟩, hw⟩
                obtain ⟨pf592, na593, ma594, wa595, rfl, e598, e599, e600, e601, e602, e603, e604, e605, e606, e607, e608, e609, e610, e611⟩ := hp596
                have e598 : (pf 11).toInt + 1 ≤ (pf592 11).toInt := e598
                have e599 : (pf592 11).toInt < (tf 6).toInt := e599
                have e600 : (pf 13).toInt + 1 ≤ (pf592 13).toInt := e600
                have e601 : (pf592 13).toInt - (pf 13).toInt ≤ (pf592 11).toInt - (pf 11).toInt := e601
                have e602 : bp ta (pf 11) + 1 ≤ bp ta (pf592 11) := e602
                have e603 : (pf592 12).toInt = (pf 12).toInt := e603
                have e604 : (pf592 24).toInt = (pf 24).toInt := e604
                have e605 : (pf592 25).toInt = (pf 25).toInt := e605
                have e606 : (pf592 26).toInt = (pf 26).toInt := e606
                have e607 : FrB (pf 13).toInt na ma na593 ma594 := e607
                have hzg := hzg.ag fg_ok (FrB.ag e607 (by first | with_reducible rfl | with_reducible assumption | omega))
                have hfb := hfb.tr e607 (by first | with_reducible rfl | with_reducible assumption | omega)
                have e608 : FrW (pf 26).toInt wa wa595 := e608
                have hfw := hfw.tr e608 (by first | with_reducible rfl | with_reducible assumption | omega)
                have e609 : VlS ta (tf 6).toInt na593 ma594 v597 (pf 13).toInt (pf592 13).toInt (3 * (bp ta (pf592 11) - bp ta (pf 11))) (200 - (pf 12).toInt) := e609
                have hv_v597 := e609
                have hn_hv_v597 := hv_v597.num fs_ok
                have e610 : DcN na593 v597 := e610
                have hf_14_v597 : na593 14 v597.toNatClampNeg = 23 := e610
                have e611 : FsI (tf 6).toInt (pf592 13).toInt na593 := e611
                have hfs := e611
                have hw : pw D A s.heap H locs [wdP cs h r g tf ta pf592 na593 ma594 wa595 cf ca ef ea xf xa] := hw
                have lv597 := Int32.le_toInt v597
                have uv597 := Int32.toInt_lt v597
                refine px_callv (pr := []) (px_runV (As := [.int v597]) (rest := []) S (c_mp_add l D cs h r g tf ta ma594 wa595 cf ca ef ea xf xa pf592 na593 v597  (show (pf592 25).toInt < 2100 from by first | exact oz_94e1af121e e605 g8 g5 e598 e599 g2 | omega) htk _) hT (pr := []) (pcs := [wdP cs h r g tf ta pf592 na593 ma594 wa595 cf ca ef ea xf xa]) hw px_X.tt (px_recv hT hw 0 0 rfl rfl rfl) m12_81 m12_78 m12_80 ms_10_5 m1_21 q_Mpg_add ⟨show 1 + 1 ≤ (8 * 61 + 32) from by first | with_reducible rfl | with_reducible assumption | omega, show 8 + (2 + 11) + 30 ≤ (220 * 61 + 1440) from by first | with_reducible rfl | with_reducible assumption | omega⟩ hl.1 rfl (Nat.le_of_ble_eq_true rfl) d_Mpg_piece_129 ⟨Nat.le_of_ble_eq_true rfl, Nat.le_of_ble_eq_true rfl⟩) hw hA (fun p616 H locs hp616 hw => ?_)
                obtain ⟨pf614, na615, rfl, e618, e619, e620, e621, e622, e623⟩ := hp616
                have e618 : (pf614 11).toInt = (pf592 11).toInt := e618
                have e619 : (pf614 12).toInt = (pf592 12).toInt := e619
                have e620 : (pf614 13).toInt = (pf592 13).toInt := e620
                have e621 : (pf614 26).toInt = (pf592 26).toInt := e621
                have e622 : (pf614 25).toInt = v597.toInt := e622
                have e623 : Hg na593 na615 (pf592 24) (pf592 25) v597 (pf614 24) := e623
                have hvg := vg_decl (VlV.le hv_v597 (Int.le_refl _) (Int.le_refl _) (Int.le_refl _) (show _ ≤ (200 : Int) from by first | with_reducible rfl | with_reducible assumption | omega)) hf_14_v597
                have hzg := Hg.row e623 fg_ok (rz_eq hzg (by first | with_reducible rfl | with_reducible assumption | omega) (by first | with_reducible rfl | with_reducible assumption | omega)) (VlV.le hvg (by first | with_reducible rfl | with_reducible assumption | omega) (Int.le_refl _) (Int.le_refl _) (by first | with_reducible rfl | with_reducible assumption | omega)) (by first | with_reducible rfl | with_reducible assumption | omega) (by first | with_reducible rfl | with_reducible assumption | omega)
                have hfs := FsI.hg hfs e623
                obtain ⟨qb6241, qb6242, qb6243, qb6244⟩ := tk_eq (ta := ta) (x := (pf614 11)) (y := (pf592 11)) (by first | with_reducible rfl | with_reducible assumption | omega)
                have hw : pw D A s.heap H locs [wdP cs h r g tf ta pf614 na615 ma594 wa595 cf ca ef ea xf xa] := hw
                exact th_vret S hr hlk hAe hw (⟨pf614, na615, ma594, wa595, rfl, (show (pf 11).toInt + 1 ≤ (pf614 11).toInt from by first | exact oz_213e98d3f1 e598 e618 | omega), (show (pf614 11).toInt < (tf 6).toInt from by first | exact oz_5d2fbac15b e599 e618 | omega), (show (pf 13).toInt ≤ (pf614 13).toInt from by first | exact oz_a98a1e881c e600 e620 | omega), (show (pf614 13).toInt - (pf 13).toInt ≤ (pf614 11).toInt - (pf 11).toInt from by first | exact oz_7d2ce61601 e601 e618 e620 | omega), (show bp ta (pf 11) + 1 ≤ bp ta (pf614 11) from by first | with_reducible rfl | with_reducible assumption | omega), (show (pf614 12).toInt = 0 from by first | exact oz_bfc0cf0d20 e619 e603 g3 | omega), (show (pf614 26).toInt = 0 from by first | exact oz_bfc0cf0d20 e621 e606 g6 | omega), (show -1 ≤ (pf614 25).toInt from by first | with_reducible rfl | with_reducible assumption | omega), (show (pf614 25).toInt < (pf614 13).toInt from by first | with_reducible rfl | with_reducible assumption | omega), (show RzG ta (tf 6).toInt na615 ma594 (pf614 24) (pf614 25) 0 (pf614 13).toInt (3 * bp ta (pf614 11)) 200 from (RzV.le (rz_eq (Or.inr hzg) (by first | with_reducible rfl | with_reducible assumption | omega) (by first | with_reducible rfl | with_reducible assumption | omega)) (by first | with_reducible rfl | with_reducible assumption | omega) (by first | with_reducible rfl | with_reducible assumption | omega) (by first | with_reducible rfl | with_reducible assumption | omega) (by first | with_reducible rfl | with_reducible assumption | omega))), (show FsI (tf 6).toInt (pf614 13).toInt na615 from (FsI.le hfs (by first | with_reducible rfl | with_reducible assumption | omega)))⟩) d_Mpg_piece_132
              · have nc587 : z486.toInt = (2 : Int) := (i_eq (x := z486) (y := 2)).mp c587
                refine lv_aload_n S.x S.b d_Mpg_piece_92 rfl (lv_at hl 2 rfl) ?_
                refine lv_dup S.x S.b d_Mpg_piece_93 rfl ?_
                refine px_get S k_Mpg hT hw 0 0 11 (v := .int (pf 11)) rfl rfl rfl (by decide) m9_235 d_Mpg_piece_94 ?_
                refine lv_iconst (v := 1) S.x S.b d_Mpg_piece_97 (by decide) ?_
                refine lv_iadd S.x S.b d_Mpg_piece_98 ?_
                have lr625 := Int32.le_toInt (pf 11)
                have ur625 := Int32.toInt_lt (pf 11)
                refine lv_topi (fun z626 ez626 => ?_)
                have tz626 : z626.toInt = ((pf 11).toInt + (1 : Int) + 2147483648) % 4294967296 - 2147483648 := by rw [ez626]; exact i_add (pf 11) 1
                have lz626 := Int32.le_toInt z626
                have uz626 := Int32.toInt_lt z626
                try replace tz626 : z626.toInt = (pf 11).toInt + (1 : Int) := by omega
                have hnx98 := tk_n htk (x := (pf 11)) (y := z626) (by first | with_reducible rfl | with_reducible assumption | omega) (by first | with_reducible rfl | with_reducible assumption | omega) (by first | with_reducible rfl | with_reducible assumption | omega)
                refine px_put S k_Mpg hT hw 0 0 11 rfl rfl (by decide) m9_235 rfl rfl rfl (Nat.le_of_ble_eq_true rfl) d_Mpg_piece_99 (w' := wdP cs h r g tf ta (upd pf 11 z626) na ma wa cf ca ef ea xf xa) (ps' := [wdP cs h r g tf ta (upd pf 11 z626) na ma wa cf ca ef ea xf xa]) rfl rfl (fun H locs hw => ?_)
                refine lv_aload_n S.x S.b d_Mpg_piece_102 rfl (lv_at hl 2 rfl) ?_
                refine th_calli (ps0 := [wdP cs h r g tf ta pf na ma wa cf ca ef ea xf xa]) (pr := []) (pcs := [wdP cs h r g tf ta (upd pf 11 z626) na ma wa cf ca ef ea xf xa]) (As := []) (rest := []) (c_mp_name l D cs h r g tf ta na ma wa cf ca ef ea xf xa (upd pf 11 z626)   (show 0 ≤ z626.toInt from by first | exact oz_b3b25f0e49 tz626 g0 | omega) (show z626.toInt < (tf 6).toInt from by first | with_reducible rfl | with_reducible assumption | omega) (show (tf 6).toInt ≤ 2049 from by first | exact g2 | omega) hlf htk) S hT hw (oX_call (P := (fun A U H => (oN A U H) ∧ (oP A g U H))) (pr := []) (oG_and oG_N oG_P) hw hA ⟨hN, hP⟩) (px_recv hT hw 0 0 rfl rfl rfl) m12_2 m11_239 m12_1 ms_9_2 m1_21 q_Mpg_name ⟨show 7 + 1 ≤ (8 * 61 + 32) from by first | with_reducible rfl | with_reducible assumption | omega, show 8 + (1 + 11) + 150 ≤ (220 * 61 + 1440) from by first | with_reducible rfl | with_reducible assumption | omega⟩ hl.1 rfl (Nat.le_of_ble_eq_true rfl) d_Mpg_piece_103 ⟨Nat.le_of_ble_eq_true rfl, Nat.le_of_ble_eq_true rfl⟩ hne hlk hA hAe (fun o t h => Or.inr h) ?_ (fun v630 p629 H locs hp629 hw => ?_)
                · exact fun p1 H1 locs1 hp hw => by obtain ⟨pq1, pq2, pq3, pq4, rfl, hq1, hq2⟩ := hp; exact ⟨_, ⟨pq1, pq2, pq3, pq4, rfl, hq1, hq2⟩, hw⟩
                obtain ⟨pf628, rfl, e631, e632, e633, e634, e635, e636, e637, e638, e639, e640⟩ := hp629
                have e631 : v630.toInt = z626.toInt := e631
                have e632 : SoIs ta v630 1 := e632
                have e633 : (pf628 11).toInt = z626.toInt + 1 := e633
                have e634 : (pf628 11).toInt < (tf 6).toInt := e634
                have e635 : bp ta z626 + 1 ≤ bp ta (pf628 11) := e635
                have e636 : (pf628 12).toInt = (pf 12).toInt := e636
                have e637 : (pf628 13).toInt = (pf 13).toInt := e637
                have e638 : (pf628 24).toInt = (pf 24).toInt := e638
                have e639 : (pf628 25).toInt = (pf 25).toInt := e639
                have e640 : (pf628 26).toInt = (pf 26).toInt := e640
                have hw : pw D A s.heap H locs [wdP cs h r g tf ta pf628 na ma wa cf ca ef ea xf xa] := hw
                have lv630 := Int32.le_toInt v630
                have uv630 := Int32.toInt_lt v630
                refine lv_istore_n (lv' := [(3, .int v630), (2, .int 0), (1, .int z486), (0, .ref h)]) S.x S.b d_Mpg_piece_106 rfl hl (by decide) rfl (fun ls hl => ?_)
                refine lv_aload_n S.x S.b d_Mpg_piece_107 rfl (lv_at hl 3 rfl) ?_
                refine lv_aload_n S.x S.b d_Mpg_piece_108 rfl (lv_at hl 3 rfl) ?_
                obtain ⟨sk641, hRsk641, st642, sb643, hSsk641⟩ := oP_lit hP (k := 87) (tx := "(") (n := 1) (List.mem_of_getElem? (i := 35) rfl)
                refine va_ldcS S.x S.b S.own hRsk641 d_Mpg_piece_109 ?_
                refine px_calli (pr := []) (px_runV (As := [.ref sk641]) (rest := [.ref h]) S (c_mp_is l D cs sk641 1 h r g tf ta pf628 na ma wa cf ca ef ea xf xa   (show 0 ≤ (pf628 11).toInt from by first | exact oz_6f750b233b e633 tz626 g0 | omega) (show (pf628 11).toInt < (tf 6).toInt from by first | exact e634 | omega) (show (tf 6).toInt ≤ 2049 from by first | exact g2 | omega) (show 1 ≤ 100 from by first | decide | omega) htk _) hT (pr := []) (pcs := [wdP cs h r g tf ta pf628 na ma wa cf ca ef ea xf xa]) hw (oX_call (P := (fun A U H => (oP A g U H) ∧ (StS A sk641 1 U H))) (pr := []) (oG_and oG_P oG_Q) hw hA ⟨hP, ⟨_, _, hSsk641⟩⟩) (px_recv hT hw 0 0 rfl rfl rfl) m11_217 m11_214 m11_216 ms_8_14 m1_21 q_Mpg_is ⟨show 3 + 1 ≤ (8 * 61 + 32) from by first | with_reducible rfl | with_reducible assumption | omega, show 8 + (2 + 11) + 120 ≤ (220 * 61 + 1440) from by first | with_reducible rfl | with_reducible assumption | omega⟩ hl.1 rfl (Nat.le_of_ble_eq_true rfl) d_Mpg_piece_111 ⟨Nat.le_of_ble_eq_true rfl, Nat.le_of_ble_eq_true rfl⟩) hw hA (fun v645 p644 H locs hp644 hw => ?_)
                obtain ⟨rfl, e646, e647⟩ := hp644
                have e646 := z_rng e646
                have e647 : v645.toInt = 1 → (pf628 11).toInt + 1 < (tf 6).toInt ∧ so ta (pf628 11) = 5 := e647
                have hw : pw D A s.heap H locs [wdP cs h r g tf ta pf628 na ma wa cf ca ef ea xf xa] := hw
                have lv645 := Int32.le_toInt v645
                have uv645 := Int32.toInt_lt v645
                refine th_callv (ps0 := [wdP cs h r g tf ta pf na ma wa cf ca ef ea xf xa]) (pr := [wdP cs h r g tf ta pf628 na ma wa cf ca ef ea xf xa]) (pcs := []) (As := [.int v645]) (rest := []) (c_mp_need l hlf D cs h v645) S hT hw (oX_call (P := (fun A U H => (oN A U H))) (pr := [wdP cs h r g tf ta pf628 na ma wa cf ca ef ea xf xa]) oG_N hw hA hN) (px_recv hT hw 0 0 rfl rfl rfl) m11_233 m11_230 m11_232 ms_9_0 m1_21 q_Mpg_need ⟨show 6 + 1 ≤ (8 * 61 + 32) from by first | with_reducible rfl | with_reducible assumption | omega, show 8 + (2 + 11) + 100 ≤ (220 * 61 + 1440) from by first | with_reducible rfl | with_reducible assumption | omega⟩ hl.1 rfl (Nat.le_of_ble_eq_true rfl) d_Mpg_piece_114 ⟨Nat.le_of_ble_eq_true rfl, Nat.le_of_ble_eq_true rfl⟩ hne hlk hA hAe (fun o t h => Or.inr h) ?_ (fun p648 H locs hp648 hw => ?_)
                · exact fun p1 H1 locs1 hp hw => by subst hp; exact ⟨_, ⟨pf628, na, ma, wa, rfl, by first | with_reducible rfl | with_reducible assumption | omega, by first | with_reducible rfl | with_reducible assumption | omega⟩, hw.sub [0] rfl rfl⟩
                obtain ⟨rfl, hndp648⟩ := hp648
                have hndp648 : ¬ v645.toInt = 0 := hndp648
                have hw : pw D A s.heap H locs [wdP cs h r g tf ta pf628 na ma wa cf ca ef ea xf xa] := hw
                refine lv_aload_n S.x S.b d_Mpg_piece_117 rfl (lv_at hl 3 rfl) ?_
                refine lv_iload_n S.x S.b d_Mpg_piece_118 rfl (lv_at hl 2 rfl) ?_
                refine lv_iload_n S.x S.b d_Mpg_piece_119 rfl (lv_at hl 0 rfl) ?_
                refine th_callv (ps0 := [wdP cs h r g tf ta pf na ma wa cf ca ef ea xf xa]) (pr := []) (pcs := [wdP cs h r g tf ta pf628 na ma wa cf ca ef ea xf xa]) (As := [.int z486, .int v630]) (rest := []) (c_mp_functionText l D cs h r g tf ta cf ca ef ea xf xa pf628 na ma wa z486 v630  (show 0 ≤ (pf628 11).toInt from by first | exact oz_6f750b233b e633 tz626 g0 | omega) (show (pf628 11).toInt < (tf 6).toInt from by first | exact e634 | omega) (show (tf 6).toInt ≤ 2049 from by first | exact g2 | omega) (show (pf628 12).toInt = 0 from by first | exact oz_4193540c58 e636 g3 | omega) (show 0 ≤ (pf628 13).toInt from by first | exact oz_f3ebed1ad0 e637 g4 | omega) (show (pf628 13).toInt ≤ (pf628 11).toInt + 10 from by first | exact oz_48adc2bebd e633 e637 g5 tz626 | omega) (show (pf628 26).toInt = 0 from by first | exact oz_4193540c58 e640 g6 | omega) (show -1 ≤ (pf628 25).toInt from by first | exact oz_b850331a4a e639 g7 | omega) (show (pf628 25).toInt < (pf628 13).toInt from by first | exact oz_b6579fb52e e637 e639 g8 | omega) (show 0 ≤ z486.toInt from by first | exact oz_9175d0c236 nc587 | omega) (show z486.toInt ≤ 2 from by first | exact oz_7fea0476a4 nc587 | omega) (show 0 ≤ v630.toInt from by first | exact oz_b39abd85f8 e631 tz626 g0 | omega) (show v630.toInt < (tf 6).toInt from by first | exact oz_7faa3985b4 e631 e634 e633 | omega) (show 4 ≤ bp ta (pf628 11) from by first | with_reducible rfl | with_reducible assumption | omega) hlf htk (FsI.le (N' := (pf628 13).toInt) hfs (by first | with_reducible rfl | with_reducible assumption | omega)) (by assumption) (RzV.le (rz_eq hzg (by first | with_reducible rfl | with_reducible assumption | omega) (by first | with_reducible rfl | with_reducible assumption | omega)) (by first | with_reducible rfl | with_reducible assumption | omega) (by first | with_reducible rfl | with_reducible assumption | omega) (by first | with_reducible rfl | with_reducible assumption | omega) (by first | with_reducible rfl | with_reducible assumption | omega))) S hT hw (oX_call (P := (fun A U H => (oN A U H) ∧ (oP A g U H))) (pr := []) (oG_and oG_N oG_P) hw hA ⟨hN, hP⟩) (px_recv hT hw 0 0 rfl rfl rfl) m12_89 m12_86 m12_88 ms_10_7 m1_21 q_Mpg_functionText ⟨show (8 * 61 + 30) + 1 ≤ (8 * 61 + 32) from by first | with_reducible rfl | with_reducible assumption | omega, show 8 + (6 + 11) + (220 * 61 + 1360) ≤ (220 * 61 + 1440) from by first | with_reducible rfl | with_reducible assumption | omega⟩ hl.1 rfl (Nat.le_of_ble_eq_true rfl) d_Mpg_piece_120 ⟨Nat.le_of_ble_eq_true rfl, Nat.le_of_ble_eq_true rfl⟩ hne hlk hA hAe (fun o t h => Or.inr h) ?_ (fun p658 H locs hp658 hw => ?_)
                · exact fun p1 H1 locs1 hp hw => by obtain ⟨pq1, pq2, pq3, pq4, rfl, hq1, hq2⟩ := hp; exact ⟨_, ⟨pq1, pq2, pq3, pq4, rfl, hq1, hq2⟩, hw⟩
                obtain ⟨pf654, na655, ma656, wa657, rfl, e660, e661, e662, e663, e664, e665, e666, e667, e668, e669, e670⟩ := hp658
                have e660 : (pf628 11).toInt + 1 ≤ (pf654 11).toInt := e660
                have e661 : (pf654 11).toInt < (tf 6).toInt := e661
                have e662 : (pf628 13).toInt ≤ (pf654 13).toInt := e662
                have e663 : (pf654 13).toInt - (pf628 13).toInt ≤ (pf654 11).toInt - (pf628 11).toInt := e663
                have e664 : bp ta (pf628 11) + 1 ≤ bp ta (pf654 11) := e664
                have e665 : (pf654 12).toInt = 0 := e665
                have e666 : (pf654 26).toInt = 0 := e666
                have e667 : -1 ≤ (pf654 25).toInt := e667
                have e668 : (pf654 25).toInt < (pf654 13).toInt := e668
                have e669 : RzG ta (tf 6).toInt na655 ma656 (pf654 24) (pf654 25) 0 (pf654 13).toInt (3 * bp ta (pf654 11)) 200 := e669
                have hzg := e669
                have e670 : FsI (tf 6).toInt (pf654 13).toInt na655 := e670
                have hfs := e670
                have hw : pw D A s.heap H locs [wdP cs h r g tf ta pf654 na655 ma656 wa657 cf ca ef ea xf xa] := hw
                exact th_vret S hr hlk hAe hw (⟨pf654, na655, ma656, wa657, rfl, (show (pf 11).toInt + 1 ≤ (pf654 11).toInt from by first | exact oz_a0ac8cc8e1 tz626 e660 e633 | omega), (show (pf654 11).toInt < (tf 6).toInt from by first | exact e661 | omega), (show (pf 13).toInt ≤ (pf654 13).toInt from by first | exact oz_49930e0c7e e637 e662 | omega), (show (pf654 13).toInt - (pf 13).toInt ≤ (pf654 11).toInt - (pf 11).toInt from by first | exact oz_b01104479c tz626 e637 e663 e633 | omega), (show bp ta (pf 11) + 1 ≤ bp ta (pf654 11) from by first | with_reducible rfl | with_reducible assumption | omega), (show (pf654 12).toInt = 0 from by first | exact e665 | omega), (show (pf654 26).toInt = 0 from by first | exact e666 | omega), (show -1 ≤ (pf654 25).toInt from by first | exact e667 | omega), (show (pf654 25).toInt < (pf654 13).toInt from by first | exact e668 | omega), (show RzG ta (tf 6).toInt na655 ma656 (pf654 24) (pf654 25) 0 (pf654 13).toInt (3 * bp ta (pf654 11)) 200 from (RzV.le (rz_eq hzg (by first | with_reducible rfl | with_reducible assumption | omega) (by first | with_reducible rfl | with_reducible assumption | omega)) (by first | with_reducible rfl | with_reducible assumption | omega) (by first | with_reducible rfl | with_reducible assumption | omega) (by first | with_reducible rfl | with_reducible assumption | omega) (by first | with_reducible rfl | with_reducible assumption | omega))), (show FsI (tf 6).toInt (pf654 13).toInt na655 from (FsI.le hfs (by first | with_reducible rfl | with_reducible assumption | omega)))⟩) d_Mpg_piece_123
          · have nc585 : ¬ v582.toInt = (0 : Int) := mt (i_eq (x := v582) (y := 0)).mpr c585
            refine lv_iconst (v := 1) S.x S.b d_Mpg_piece_77 (by decide) ?_
            refine lv_goto (tgt := 82) S.x S.b d_Mpg_piece_78 (by decide) ?_
            refine lv_istore_n (lv' := [(2, .int 1), (1, .int z486), (0, .ref h)]) S.x S.b d_Mpg_piece_82 rfl hl (by decide) rfl (fun ls hl => ?_)
            refine lv_iload_n S.x S.b d_Mpg_piece_83 rfl (lv_at hl 0 rfl) ?_
            refine lv_if_ne (tgt := 92) S.x S.b d_Mpg_piece_84 (by decide) (fun c671 => ?_) (fun c671 => ?_)
            ·
              refine lv_aload_n S.x S.b d_Mpg_piece_92 rfl (lv_at hl 2 rfl) ?_
              refine lv_dup S.x S.b d_Mpg_piece_93 rfl ?_
              refine px_get S k_Mpg hT hw 0 0 11 (v := .int (pf 11)) rfl rfl rfl (by decide) m9_235 d_Mpg_piece_94 ?_
              refine lv_iconst (v := 1) S.x S.b d_Mpg_piece_97 (by decide) ?_
              refine lv_iadd S.x S.b d_Mpg_piece_98 ?_
              have lr672 := Int32.le_toInt (pf 11)
              have ur672 := Int32.toInt_lt (pf 11)
              refine lv_topi (fun z673 ez673 => ?_)
              have tz673 : z673.toInt = ((pf 11).toInt + (1 : Int) + 2147483648) % 4294967296 - 2147483648 := by rw [ez673]; exact i_add (pf 11) 1
              have lz673 := Int32.le_toInt z673
              have uz673 := Int32.toInt_lt z673
              try replace tz673 : z673.toInt = (pf 11).toInt + (1 : Int) := by omega
              have hnx98 := tk_n htk (x := (pf 11)) (y := z673) (by first | with_reducible rfl | with_reducible assumption | omega) (by first | with_reducible rfl | with_reducible assumption | omega) (by first | with_reducible rfl | with_reducible assumption | omega)
              refine px_put S k_Mpg hT hw 0 0 11 rfl rfl (by decide) m9_235 rfl rfl rfl (Nat.le_of_ble_eq_true rfl) d_Mpg_piece_99 (w' := wdP cs h r g tf ta (upd pf 11 z673) na ma wa cf ca ef ea xf xa) (ps' := [wdP cs h r g tf ta (upd pf 11 z673) na ma wa cf ca ef ea xf xa]) rfl rfl (fun H locs hw => ?_)
              refine lv_aload_n S.x S.b d_Mpg_piece_102 rfl (lv_at hl 2 rfl) ?_
              refine th_calli (ps0 := [wdP cs h r g tf ta pf na ma wa cf ca ef ea xf xa]) (pr := []) (pcs := [wdP cs h r g tf ta (upd pf 11 z673) na ma wa cf ca ef ea xf xa]) (As := []) (rest := []) (c_mp_name l D cs h r g tf ta na ma wa cf ca ef ea xf xa (upd pf 11 z673)   (show 0 ≤ z673.toInt from by first | exact oz_b3b25f0e49 tz673 g0 | omega) (show z673.toInt < (tf 6).toInt from by first | with_reducible rfl | with_reducible assumption | omega) (show (tf 6).toInt ≤ 2049 from by first | exact g2 | omega) hlf htk) S hT hw (oX_call (P := (fun A U H => (oN A U H) ∧ (oP A g U H))) (pr := []) (oG_and oG_N oG_P) hw hA ⟨hN, hP⟩) (px_recv hT hw 0 0 rfl rfl rfl) m12_2 m11_239 m12_1 ms_9_2 m1_21 q_Mpg_name ⟨show 7 + 1 ≤ (8 * 61 + 32) from by first | with_reducible rfl | with_reducible assumption | omega, show 8 + (1 + 11) + 150 ≤ (220 * 61 + 1440) from by first | with_reducible rfl | with_reducible assumption | omega⟩ hl.1 rfl (Nat.le_of_ble_eq_true rfl) d_Mpg_piece_103 ⟨Nat.le_of_ble_eq_true rfl, Nat.le_of_ble_eq_true rfl⟩ hne hlk hA hAe (fun o t h => Or.inr h) ?_ (fun v677 p676 H locs hp676 hw => ?_)
              · exact fun p1 H1 locs1 hp hw => by obtain ⟨pq1, pq2, pq3, pq4, rfl, hq1, hq2⟩ := hp; exact ⟨_, ⟨pq1, pq2, pq3, pq4, rfl, hq1, hq2⟩, hw⟩
              obtain ⟨pf675, rfl, e678, e679, e680, e681, e682, e683, e684, e685, e686, e687⟩ := hp676
              have e678 : v677.toInt = z673.toInt := e678
              have e679 : SoIs ta v677 1 := e679
              have e680 : (pf675 11).toInt = z673.toInt + 1 := e680
              have e681 : (pf675 11).toInt < (tf 6).toInt := e681
              have e682 : bp ta z673 + 1 ≤ bp ta (pf675 11) := e682
              have e683 : (pf675 12).toInt = (pf 12).toInt := e683
              have e684 : (pf675 13).toInt = (pf 13).toInt := e684
              have e685 : (pf675 24).toInt = (pf 24).toInt := e685
              have e686 : (pf675 25).toInt = (pf 25).toInt := e686
              have e687 : (pf675 26).toInt = (pf 26).toInt := e687
              have hw : pw D A s.heap H locs [wdP cs h r g tf ta pf675 na ma wa cf ca ef ea xf xa] := hw
              have lv677 := Int32.le_toInt v677
              have uv677 := Int32.toInt_lt v677
              refine lv_istore_n (lv' := [(3, .int v677), (2, .int 1), (1, .int z486), (0, .ref h)]) S.x S.b d_Mpg_piece_106 rfl hl (by decide) rfl (fun ls hl => ?_)
              refine lv_aload_n S.x S.b d_Mpg_piece_107 rfl (lv_at hl 3 rfl) ?_
              refine lv_aload_n S.x S.b d_Mpg_piece_108 rfl (lv_at hl 3 rfl) ?_
              obtain ⟨sk688, hRsk688, st689, sb690, hSsk688⟩ := oP_lit hP (k := 87) (tx := "(") (n := 1) (List.mem_of_getElem? (i := 35) rfl)
              refine va_ldcS S.x S.b S.own hRsk688 d_Mpg_piece_109 ?_
              refine px_calli (pr := []) (px_runV (As := [.ref sk688]) (rest := [.ref h]) S (c_mp_is l D cs sk688 1 h r g tf ta pf675 na ma wa cf ca ef ea xf xa   (show 0 ≤ (pf675 11).toInt from by first | exact oz_6f750b233b e680 tz673 g0 | omega) (show (pf675 11).toInt < (tf 6).toInt from by first | exact e681 | omega) (show (tf 6).toInt ≤ 2049 from by first | exact g2 | omega) (show 1 ≤ 100 from by first | decide | omega) htk _) hT (pr := []) (pcs := [wdP cs h r g tf ta pf675 na ma wa cf ca ef ea xf xa]) hw (oX_call (P := (fun A U H => (oP A g U H) ∧ (StS A sk688 1 U H))) (pr := []) (oG_and oG_P oG_Q) hw hA ⟨hP, ⟨_, _, hSsk688⟩⟩) (px_recv hT hw 0 0 rfl rfl rfl) m11_217 m11_214 m11_216 ms_8_14 m1_21 q_Mpg_is ⟨show 3 + 1 ≤ (8 * 61 + 32) from by first | with_reducible rfl | with_reducible assumption | omega, show 8 + (2 + 11) + 120 ≤ (220 * 61 + 1440) from by first | with_reducible rfl | with_reducible assumption | omega⟩ hl.1 rfl (Nat.le_of_ble_eq_true rfl) d_Mpg_piece_111 ⟨Nat.le_of_ble_eq_true rfl, Nat.le_of_ble_eq_true rfl⟩) hw hA (fun v692 p691 H locs hp691 hw => ?_)
              obtain ⟨rfl, e693, e694⟩ := hp691
              have e693 := z_rng e693
              have e694 : v692.toInt = 1 → (pf675 11).toInt + 1 < (tf 6).toInt ∧ so ta (pf675 11) = 5 := e694
              have hw : pw D A s.heap H locs [wdP cs h r g tf ta pf675 na ma wa cf ca ef ea xf xa] := hw
              have lv692 := Int32.le_toInt v692
              have uv692 := Int32.toInt_lt v692
              refine th_callv (ps0 := [wdP cs h r g tf ta pf na ma wa cf ca ef ea xf xa]) (pr := [wdP cs h r g tf ta pf675 na ma wa cf ca ef ea xf xa]) (pcs := []) (As := [.int v692]) (rest := []) (c_mp_need l hlf D cs h v692) S hT hw (oX_call (P := (fun A U H => (oN A U H))) (pr := [wdP cs h r g tf ta pf675 na ma wa cf ca ef ea xf xa]) oG_N hw hA hN) (px_recv hT hw 0 0 rfl rfl rfl) m11_233 m11_230 m11_232 ms_9_0 m1_21 q_Mpg_need ⟨show 6 + 1 ≤ (8 * 61 + 32) from by first | with_reducible rfl | with_reducible assumption | omega, show 8 + (2 + 11) + 100 ≤ (220 * 61 + 1440) from by first | with_reducible rfl | with_reducible assumption | omega⟩ hl.1 rfl (Nat.le_of_ble_eq_true rfl) d_Mpg_piece_114 ⟨Nat.le_of_ble_eq_true rfl, Nat.le_of_ble_eq_true rfl⟩ hne hlk hA hAe (fun o t h => Or.inr h) ?_ (fun p695 H locs hp695 hw => ?_)
              · exact fun p1 H1 locs1 hp hw => by subst hp; exact ⟨_, ⟨pf675, na, ma, wa, rfl, by first | with_reducible rfl | with_reducible assumption | omega, by first | with_reducible rfl | with_reducible assumption | omega⟩, hw.sub [0] rfl rfl⟩
              obtain ⟨rfl, hndp695⟩ := hp695
              have hndp695 : ¬ v692.toInt = 0 := hndp695
              have hw : pw D A s.heap H locs [wdP cs h r g tf ta pf675 na ma wa cf ca ef ea xf xa] := hw
              refine lv_aload_n S.x S.b d_Mpg_piece_117 rfl (lv_at hl 3 rfl) ?_
              refine lv_iload_n S.x S.b d_Mpg_piece_118 rfl (lv_at hl 2 rfl) ?_
              refine lv_iload_n S.x S.b d_Mpg_piece_119 rfl (lv_at hl 0 rfl) ?_
              refine th_callv (ps0 := [wdP cs h r g tf ta pf na ma wa cf ca ef ea xf xa]) (pr := []) (pcs := [wdP cs h r g tf ta pf675 na ma wa cf ca ef ea xf xa]) (As := [.int z486, .int v677]) (rest := []) (c_mp_functionText l D cs h r g tf ta cf ca ef ea xf xa pf675 na ma wa z486 v677  (show 0 ≤ (pf675 11).toInt from by first | exact oz_6f750b233b e680 tz673 g0 | omega) (show (pf675 11).toInt < (tf 6).toInt from by first | exact e681 | omega) (show (tf 6).toInt ≤ 2049 from by first | exact g2 | omega) (show (pf675 12).toInt = 0 from by first | exact oz_4193540c58 e683 g3 | omega) (show 0 ≤ (pf675 13).toInt from by first | exact oz_f3ebed1ad0 e684 g4 | omega) (show (pf675 13).toInt ≤ (pf675 11).toInt + 10 from by first | exact oz_48adc2bebd e680 e684 g5 tz673 | omega) (show (pf675 26).toInt = 0 from by first | exact oz_4193540c58 e687 g6 | omega) (show -1 ≤ (pf675 25).toInt from by first | exact oz_b850331a4a e686 g7 | omega) (show (pf675 25).toInt < (pf675 13).toInt from by first | exact oz_b6579fb52e e684 e686 g8 | omega) (show 0 ≤ z486.toInt from by first | with_reducible rfl | with_reducible assumption | omega) (show z486.toInt ≤ 2 from by first | with_reducible rfl | with_reducible assumption | omega) (show 0 ≤ v677.toInt from by first | exact oz_b39abd85f8 e678 tz673 g0 | omega) (show v677.toInt < (tf 6).toInt from by first | exact oz_7faa3985b4 e678 e681 e680 | omega) (show 4 ≤ bp ta (pf675 11) from by first | with_reducible rfl | with_reducible assumption | omega) hlf htk (FsI.le (N' := (pf675 13).toInt) hfs (by first | with_reducible rfl | with_reducible assumption | omega)) (by assumption) (RzV.le (rz_eq hzg (by first | with_reducible rfl | with_reducible assumption | omega) (by first | with_reducible rfl | with_reducible assumption | omega)) (by first | with_reducible rfl | with_reducible assumption | omega) (by first | with_reducible rfl | with_reducible assumption | omega) (by first | with_reducible rfl | with_reducible assumption | omega) (by first | with_reducible rfl | with_reducible assumption | omega))) S hT hw (oX_call (P := (fun A U H => (oN A U H) ∧ (oP A g U H))) (pr := []) (oG_and oG_N oG_P) hw hA ⟨hN, hP⟩) (px_recv hT hw 0 0 rfl rfl rfl) m12_89 m12_86 m12_88 ms_10_7 m1_21 q_Mpg_functionText ⟨show (8 * 61 + 30) + 1 ≤ (8 * 61 + 32) from by first | with_reducible rfl | with_reducible assumption | omega, show 8 + (6 + 11) + (220 * 61 + 1360) ≤ (220 * 61 + 1440) from by first | with_reducible rfl | with_reducible assumption | omega⟩ hl.1 rfl (Nat.le_of_ble_eq_true rfl) d_Mpg_piece_120 ⟨Nat.le_of_ble_eq_true rfl, Nat.le_of_ble_eq_true rfl⟩ hne hlk hA hAe (fun o t h => Or.inr h) ?_ (fun p705 H locs hp705 hw => ?_)
              · exact fun p1 H1 locs1 hp hw => by obtain ⟨pq1, pq2, pq3, pq4, rfl, hq1, hq2⟩ := hp; exact ⟨_, ⟨pq1, pq2, pq3, pq4, rfl, hq1, hq2⟩, hw⟩
              obtain ⟨pf701, na702, ma703, wa704, rfl, e707, e708, e709, e710, e711, e712, e713, e714, e715, e716, e717⟩ := hp705
              have e707 : (pf675 11).toInt + 1 ≤ (pf701 11).toInt := e707
              have e708 : (pf701 11).toInt < (tf 6).toInt := e708
              have e709 : (pf675 13).toInt ≤ (pf701 13).toInt := e709
              have e710 : (pf701 13).toInt - (pf675 13).toInt ≤ (pf701 11).toInt - (pf675 11).toInt := e710
              have e711 : bp ta (pf675 11) + 1 ≤ bp ta (pf701 11) := e711
              have e712 : (pf701 12).toInt = 0 := e712
              have e713 : (pf701 26).toInt = 0 := e713
              have e714 : -1 ≤ (pf701 25).toInt := e714
              have e715 : (pf701 25).toInt < (pf701 13).toInt := e715
              have e716 : RzG ta (tf 6).toInt na702 ma703 (pf701 24) (pf701 25) 0 (pf701 13).toInt (3 * bp ta (pf701 11)) 200 := e716
              have hzg := e716
              have e717 : FsI (tf 6).toInt (pf701 13).toInt na702 := e717
              have hfs := e717
              have hw : pw D A s.heap H locs [wdP cs h r g tf ta pf701 na702 ma703 wa704 cf ca ef ea xf xa] := hw
              exact th_vret S hr hlk hAe hw (⟨pf701, na702, ma703, wa704, rfl, (show (pf 11).toInt + 1 ≤ (pf701 11).toInt from by first | exact oz_a0ac8cc8e1 tz673 e707 e680 | omega), (show (pf701 11).toInt < (tf 6).toInt from by first | exact e708 | omega), (show (pf 13).toInt ≤ (pf701 13).toInt from by first | exact oz_49930e0c7e e684 e709 | omega), (show (pf701 13).toInt - (pf 13).toInt ≤ (pf701 11).toInt - (pf 11).toInt from by first | exact oz_b01104479c tz673 e684 e710 e680 | omega), (show bp ta (pf 11) + 1 ≤ bp ta (pf701 11) from by first | with_reducible rfl | with_reducible assumption | omega), (show (pf701 12).toInt = 0 from by first | exact e712 | omega), (show (pf701 26).toInt = 0 from by first | exact e713 | omega), (show -1 ≤ (pf701 25).toInt from by first | exact e714 | omega), (show (pf701 25).toInt < (pf701 13).toInt from by first | exact e715 | omega), (show RzG ta (tf 6).toInt na702 ma703 (pf701 24) (pf701 25) 0 (pf701 13).toInt (3 * bp ta (pf701 11)) 200 from (RzV.le (rz_eq hzg (by first | with_reducible rfl | with_reducible assumption | omega) (by first | with_reducible rfl | with_reducible assumption | omega)) (by first | with_reducible rfl | with_reducible assumption | omega) (by first | with_reducible rfl | with_reducible assumption | omega) (by first | with_reducible rfl | with_reducible assumption | omega) (by first | with_reducible rfl | with_reducible assumption | omega))), (show FsI (tf 6).toInt (pf701 13).toInt na702 from (FsI.le hfs (by first | with_reducible rfl | with_reducible assumption | omega)))⟩) d_Mpg_piece_123
            · exact absurd c671 (by decide)
  · have nc5 : ¬ v2.toInt = (0 : Int) := mt (i_eq (x := v2) (y := 0)).mpr c5
    refine lv_aload_n S.x S.b d_Mpg_piece_8 rfl (lv_at hl 0 rfl) ?_
    refine th_callv (ps0 := [wdP cs h r g tf ta pf na ma wa cf ca ef ea xf xa]) (pr := []) (pcs := [wdP cs h r g tf ta pf na ma wa cf ca ef ea xf xa]) (As := []) (rest := []) (c_mp_enumeration l D cs h r g tf ta cf ca ef ea xf xa pf na ma wa   (show 0 ≤ (pf 11).toInt from by first | exact g0 | omega) (show (pf 11).toInt < (tf 6).toInt from by first | exact g1 | omega) (show (tf 6).toInt ≤ 2049 from by first | exact g2 | omega) (show (pf 12).toInt = 0 from by first | exact g3 | omega) (show 0 ≤ (pf 13).toInt from by first | exact g4 | omega) (show (pf 13).toInt ≤ (pf 11).toInt + 10 from by first | exact g5 | omega) (show (pf 26).toInt = 0 from by first | exact g6 | omega) (show -1 ≤ (pf 25).toInt from by first | exact g7 | omega) (show (pf 25).toInt < (pf 13).toInt from by first | exact g8 | omega) (show (pf 11).toInt + 1 < (tf 6).toInt from by first | with_reducible rfl | with_reducible assumption | omega) hlf htk (FsI.le (N' := (pf 13).toInt) hfs (by first | with_reducible rfl | with_reducible assumption | omega)) (RzV.le (rz_eq hzg (by first | with_reducible rfl | with_reducible assumption | omega) (by first | with_reducible rfl | with_reducible assumption | omega)) (by first | with_reducible rfl | with_reducible assumption | omega) (by first | with_reducible rfl | with_reducible assumption | omega) (by first | with_reducible rfl | with_reducible assumption | omega) (by first | with_reducible rfl | with_reducible assumption | omega))) S hT hw (oX_call (P := (fun A U H => (oN A U H) ∧ (oP A g U H))) (pr := []) (oG_and oG_N oG_P) hw hA ⟨hN, hP⟩) (px_recv hT hw 0 0 rfl rfl rfl) m11_205 m11_202 m11_204 ms_8_11 m1_21 q_Mpg_enumeration ⟨show (8 * 61 + 24) + 1 ≤ (8 * 61 + 32) from by first | with_reducible rfl | with_reducible assumption | omega, show 8 + (5 + 11) + (220 * 61 + 1120) ≤ (220 * 61 + 1440) from by first | with_reducible rfl | with_reducible assumption | omega⟩ hl.1 rfl (Nat.le_of_ble_eq_true rfl) d_Mpg_piece_9 ⟨Nat.le_of_ble_eq_true rfl, Nat.le_of_ble_eq_true rfl⟩ hne hlk hA hAe (fun o t h => Or.inr h) ?_ (fun p726 H locs hp726 hw => ?_)
    · exact fun p1 H1 locs1 hp hw => by obtain ⟨pq1, pq2, pq3, pq4, rfl, hq1, hq2⟩ := hp; exact ⟨_, ⟨pq1, pq2, pq3, pq4, rfl, hq1, hq2⟩, hw⟩
    obtain ⟨pf722, na723, ma724, wa725, rfl, e728, e729, e730, e731, e732, e733, e734, e735, e736, e737, e738⟩ := hp726
    have e728 : (pf 11).toInt + 1 ≤ (pf722 11).toInt := e728
    have e729 : (pf722 11).toInt < (tf 6).toInt := e729
    have e730 : (pf 13).toInt ≤ (pf722 13).toInt := e730
    have e731 : (pf722 13).toInt - (pf 13).toInt ≤ (pf722 11).toInt - (pf 11).toInt := e731
    have e732 : bp ta (pf 11) + 1 ≤ bp ta (pf722 11) := e732
    have e733 : (pf722 12).toInt = 0 := e733
    have e734 : (pf722 26).toInt = 0 := e734
    have e735 : -1 ≤ (pf722 25).toInt := e735
    have e736 : (pf722 25).toInt < (pf722 13).toInt := e736
    have e737 : RzG ta (tf 6).toInt na723 ma724 (pf722 24) (pf722 25) 0 (pf722 13).toInt (3 * bp ta (pf722 11)) 200 := e737
    have hzg := e737
    have e738 : FsI (tf 6).toInt (pf722 13).toInt na723 := e738
    have hfs := e738
    have hw : pw D A s.heap H locs [wdP cs h r g tf ta pf722 na723 ma724 wa725 cf ca ef ea xf xa] := hw
    exact th_vret S hr hlk hAe hw (⟨pf722, na723, ma724, wa725, rfl, (show (pf 11).toInt + 1 ≤ (pf722 11).toInt from by first | exact e728 | omega), (show (pf722 11).toInt < (tf 6).toInt from by first | exact e729 | omega), (show (pf 13).toInt ≤ (pf722 13).toInt from by first | exact e730 | omega), (show (pf722 13).toInt - (pf 13).toInt ≤ (pf722 11).toInt - (pf 11).toInt from by first | exact e731 | omega), (show bp ta (pf 11) + 1 ≤ bp ta (pf722 11) from by first | exact e732 | omega), (show (pf722 12).toInt = 0 from by first | exact e733 | omega), (show (pf722 26).toInt = 0 from by first | exact e734 | omega), (show -1 ≤ (pf722 25).toInt from by first | exact e735 | omega), (show (pf722 25).toInt < (pf722 13).toInt from by first | exact e736 | omega), (show RzG ta (tf 6).toInt na723 ma724 (pf722 24) (pf722 25) 0 (pf722 13).toInt (3 * bp ta (pf722 11)) 200 from (RzV.le (rz_eq hzg (by first | with_reducible rfl | with_reducible assumption | omega) (by first | with_reducible rfl | with_reducible assumption | omega)) (by first | with_reducible rfl | with_reducible assumption | omega) (by first | with_reducible rfl | with_reducible assumption | omega) (by first | with_reducible rfl | with_reducible assumption | omega) (by first | with_reducible rfl | with_reducible assumption | omega))), (show FsI (tf 6).toInt (pf722 13).toInt na723 from (FsI.le hfs (by first | with_reducible rfl | with_reducible assumption | omega)))⟩) d_Mpg_piece_12
abbrev b_Mpg_whole : ByteArray := prog_16_method_62_code
def y_Mpg_whole : MethodName := ⟨"HomeSystemModel$Program", "whole", "()V"⟩
theorem d_Mpg_whole_0 : decode b_Mpg_whole 0 = .ok (.aload_n 0, 1) := by decide +kernel
theorem d_Mpg_whole_1 : decode b_Mpg_whole 1 = .ok (.getfield 201, 3) := by decide +kernel
theorem d_Mpg_whole_4 : decode b_Mpg_whole 4 = .ok (.aload_n 0, 1) := by decide +kernel
theorem d_Mpg_whole_5 : decode b_Mpg_whole 5 = .ok (.getfield 360, 3) := by decide +kernel
theorem d_Mpg_whole_8 : decode b_Mpg_whole 8 = .ok (.baload, 1) := by decide +kernel
theorem d_Mpg_whole_9 : decode b_Mpg_whole 9 = .ok (.bipush 7, 2) := by decide +kernel
theorem d_Mpg_whole_11 : decode b_Mpg_whole 11 = .ok (.if_icmp .eq 10, 3) := by decide +kernel
theorem d_Mpg_whole_14 : decode b_Mpg_whole 14 = .ok (.aload_n 0, 1) := by decide +kernel
theorem d_Mpg_whole_15 : decode b_Mpg_whole 15 = .ok (.invokevirtual 519, 3) := by decide +kernel
theorem d_Mpg_whole_18 : decode b_Mpg_whole 18 = .ok (.goto (-18), 3) := by decide +kernel
theorem d_Mpg_whole_21 : decode b_Mpg_whole 21 = .ok (.return_, 1) := by decide +kernel
theorem q_Mpg_whole : px_y y_Mpg_whole 0 := by unfold px_y; decide +kernel
set_option maxHeartbeats 4000000 in
set_option maxRecDepth 100000 in
theorem c_mp_whole (l : Launch) (D : va_G) (cs : Nat → ClassId) (h : Nat) (r : Nat → Nat) (g : Nat → Nat → Option Nat) (tf : Nat → Int32) (ta : Nat → Nat → Int32) (cf : Nat → Int32) (ca : Nat → Nat → Int32) (ef : Nat → Int32) (ea : Nat → Nat → Int32) (xf : Nat → Int32) (xa : Nat → Nat → Int32) (pf : Nat → Int32) (na : Nat → Nat → Int32) (ma : Nat → Nat → Int32) (wa : Nat → Nat → Int32)  (g0 : 0 ≤ (pf 11).toInt) (g1 : (pf 11).toInt < (tf 6).toInt) (g2 : (tf 6).toInt ≤ 2049) (g3 : (pf 12).toInt = 0) (g4 : 0 ≤ (pf 13).toInt) (g5 : (pf 13).toInt ≤ (pf 11).toInt + 10) (g6 : (pf 26).toInt = 0) (g7 : -1 ≤ (pf 25).toInt) (g8 : (pf 25).toInt < (pf 13).toInt) (hlf : l.flags = pinnedFlags ++ [noTraceFlag]) (htk : TkI tf ta) (hfs : FsI (tf 6).toInt (pf 13).toInt na) (hzg : RzG ta (tf 6).toInt na ma (pf 24) (pf 25) 0 (pf 13).toInt (3 * bp ta (pf 11)) 200) : ThV l y_Mpg_whole b_Mpg_whole 1 D cs (8 * 61 + 33) (220 * 61 + 1500) [.ref h] [wdP cs h r g tf ta pf na ma wa cf ca ef ea xf xa] (oX (fun A U H => (oN A U H) ∧ (oP A g U H)) [wdP cs h r g tf ta pf na ma wa cf ca ef ea xf xa]) "java/lang/IllegalArgumentException" (fun ps => ∃ (pf' : Nat → Int32) (na' : Nat → Nat → Int32) (ma' : Nat → Nat → Int32) (wa' : Nat → Nat → Int32), (ps = [wdP cs h r g tf ta pf' na' ma' wa' cf ca ef ea xf xa]) ∧ ((pf 11).toInt ≤ (pf' 11).toInt) ∧ ((pf' 11).toInt < (tf 6).toInt) ∧ ((pf 13).toInt ≤ (pf' 13).toInt) ∧ ((pf' 13).toInt ≤ (pf' 11).toInt + 10) ∧ ((pf' 12).toInt = 0) ∧ ((pf' 26).toInt = 0) ∧ (-1 ≤ (pf' 25).toInt) ∧ ((pf' 25).toInt < (pf' 13).toInt) ∧ (RzG ta (tf 6).toInt na' ma' (pf' 24) (pf' 25) 0 (pf' 13).toInt (3 * bp ta (pf' 11)) 200) ∧ (FsI (tf 6).toInt (pf' 13).toInt na')) (fun ps => ∃ (pf' : Nat → Int32) (na' : Nat → Nat → Int32) (ma' : Nat → Nat → Int32) (wa' : Nat → Nat → Int32), ps = [wdP cs h r g tf ta pf' na' ma' wa' cf ca ef ea xf xa] ∧ 0 ≤ (pf' 11).toInt ∧ (pf' 11).toInt + 1 ≤ (tf 6).toInt) := by
  refine th_enter (by decide) (Nat.le_of_ble_eq_true rfl) ?_
  intro p e s m below meth c A ls hAe S hr hlk hnm hA hT hX hw hl hne hadm
  have hl : lv_has ls 1 [(0, .ref h)] := hl
  have cst7 : (7 : Int32).toInt = 7 := rfl
  have hX : (fun A U H => (oN A U H) ∧ (oP A g U H)) A s s.heap := by rw [hAe]; exact hX
  obtain ⟨hN, hP⟩ := hX
  have hZ := hP.1
  have hF0 := hP.2.1
  obtain ⟨lv, hlv⟩ : ∃ y : Nat, y = 61 := ⟨_, rfl⟩
  have hfb : FrB 0 na ma na ma := FrB.rf
  have hfw : FrW (pf 26).toInt wa wa := FrW.rf
  have hb11 := tk_b htk (x := (pf 11)) (by first | with_reducible rfl | with_reducible assumption | omega) (by first | with_reducible rfl | with_reducible assumption | omega)
  have J0 : ∀ (n_0 : Nat) (pf_0 : Nat → Int32) (na_0 : Nat → Nat → Int32) (ma_0 : Nat → Nat → Int32) (wa_0 : Nat → Nat → Int32) (H : Heap) (locs : List Loc) (ls : Array Slot), ((pf 11).toInt ≤ (pf_0 11).toInt) → ((pf_0 11).toInt < (tf 6).toInt) → ((pf 13).toInt ≤ (pf_0 13).toInt) → ((pf_0 13).toInt ≤ (pf_0 11).toInt + 10) → ((pf_0 12).toInt = 0) → ((pf_0 26).toInt = 0) → (-1 ≤ (pf_0 25).toInt) → ((pf_0 25).toInt < (pf_0 13).toInt) → (RzG ta (tf 6).toInt na_0 ma_0 (pf_0 24) (pf_0 25) 0 (pf_0 13).toInt (3 * bp ta (pf_0 11)) 200) → (FsI (tf 6).toInt (pf_0 13).toInt na_0) → (tf 6).toInt - (pf_0 11).toInt < (n_0 : Int) → pw D A s.heap H locs [wdP cs h r g tf ta pf_0 na_0 ma_0 wa_0 cf ca ef ea xf xa] → lv_has ls 1 [(0, .ref h)] → W p l e { frames := (8 * 61 + 33), cells := 1, slots := 6, locals := (220 * 61 + 1500) } s m [.ref h].toArray below meth c H locs 0 0 (tx_MQ below (thQv D (va_A ([wdP cs h r g tf ta pf na ma wa cf ca ef ea xf xa] : List va_W).flatten s.heap.size) "java/lang/IllegalArgumentException" (fun ps => ∃ (pf' : Nat → Int32) (na' : Nat → Nat → Int32) (ma' : Nat → Nat → Int32) (wa' : Nat → Nat → Int32), (ps = [wdP cs h r g tf ta pf' na' ma' wa' cf ca ef ea xf xa]) ∧ ((pf 11).toInt ≤ (pf' 11).toInt) ∧ ((pf' 11).toInt < (tf 6).toInt) ∧ ((pf 13).toInt ≤ (pf' 13).toInt) ∧ ((pf' 13).toInt ≤ (pf' 11).toInt + 10) ∧ ((pf' 12).toInt = 0) ∧ ((pf' 26).toInt = 0) ∧ (-1 ≤ (pf' 25).toInt) ∧ ((pf' 25).toInt < (pf' 13).toInt) ∧ (RzG ta (tf 6).toInt na' ma' (pf' 24) (pf' 25) 0 (pf' 13).toInt (3 * bp ta (pf' 11)) 200) ∧ (FsI (tf 6).toInt (pf' 13).toInt na')) (fun ps => ∃ (pf' : Nat → Int32) (na' : Nat → Nat → Int32) (ma' : Nat → Nat → Int32) (wa' : Nat → Nat → Int32), ps = [wdP cs h r g tf ta pf' na' ma' wa' cf ca ef ea xf xa] ∧ 0 ≤ (pf' 11).toInt ∧ (pf' 11).toInt + 1 ≤ (tf 6).toInt) s.heap.size (tot s.heap)) [.ref h].toArray s 1 6 A) (F0 m 0 ls []) := by
    intro  n_0
    induction n_0 with
    | zero =>
      intro pf_0 na_0 ma_0 wa_0 H locs ls k0_0 k0_1 k0_2 k0_3 k0_4 k0_5 k0_6 k0_7 k0_8 k0_9 hm hw hl
      have hzg := k0_8
      have hfs := k0_9
      exact absurd hm (by first | with_reducible rfl | with_reducible assumption | omega)
    | succ n_0 ih0 =>
      intro pf_0 na_0 ma_0 wa_0 H locs ls k0_0 k0_1 k0_2 k0_3 k0_4 k0_5 k0_6 k0_7 k0_8 k0_9 hm hw hl
      have hzg := k0_8
      have hfs := k0_9
      refine lv_aload_n S.x S.b d_Mpg_whole_0 rfl (lv_at hl 0 rfl) ?_
      refine px_get S k_Mpg hT hw 0 0 9 (v := .ref (r 9)) rfl rfl rfl (by decide) m9_233 d_Mpg_whole_1 ?_
      refine lv_aload_n S.x S.b d_Mpg_whole_4 rfl (lv_at hl 0 rfl) ?_
      refine px_get S k_Mpg hT hw 0 0 11 (v := .int (pf_0 11)) rfl rfl rfl (by decide) m9_235 d_Mpg_whole_5 ?_
      refine px_bald S hT hw 0 8 (n := 2060) (f := (ta 9)) rfl gp_9 (x := (pf_0 11)) (vp_in_iff.mpr (by first | exact oz_f4999d31b0 k0_0 g0 k0_1 g2 | (constructor <;> omega))) d_Mpg_whole_8 ?_
      refine lv_topi (fun z1 ez1 => ?_)
      have lz1 := Int32.le_toInt z1
      have uz1 := Int32.toInt_lt z1
      have rz1 := tk_s htk (x := (pf_0 11)) (by first | with_reducible rfl | with_reducible assumption | omega) (by first | with_reducible rfl | with_reducible assumption | omega) ez1
      refine lv_bipush (v := 7) S.x S.b d_Mpg_whole_9 (by decide) ?_
      refine lv_icmp_eq (tgt := 21) S.x S.b d_Mpg_whole_11 (by decide) (fun c2 => ?_) (fun c2 => ?_)
      · have nc2 : z1.toInt = (7 : Int) := (i_eq (x := z1) (y := 7)).mp c2
        exact th_vret S hr hlk hAe hw (⟨pf_0, na_0, ma_0, wa_0, rfl, (show (pf 11).toInt ≤ (pf_0 11).toInt from by first | exact k0_0 | omega), (show (pf_0 11).toInt < (tf 6).toInt from by first | exact k0_1 | omega), (show (pf 13).toInt ≤ (pf_0 13).toInt from by first | exact k0_2 | omega), (show (pf_0 13).toInt ≤ (pf_0 11).toInt + 10 from by first | exact k0_3 | omega), (show (pf_0 12).toInt = 0 from by first | exact k0_4 | omega), (show (pf_0 26).toInt = 0 from by first | exact k0_5 | omega), (show -1 ≤ (pf_0 25).toInt from by first | exact k0_6 | omega), (show (pf_0 25).toInt < (pf_0 13).toInt from by first | exact k0_7 | omega), (show RzG ta (tf 6).toInt na_0 ma_0 (pf_0 24) (pf_0 25) 0 (pf_0 13).toInt (3 * bp ta (pf_0 11)) 200 from (RzV.le (rz_eq hzg (by first | with_reducible rfl | with_reducible assumption | omega) (by first | with_reducible rfl | with_reducible assumption | omega)) (by first | with_reducible rfl | with_reducible assumption | omega) (by first | with_reducible rfl | with_reducible assumption | omega) (by first | with_reducible rfl | with_reducible assumption | omega) (by first | with_reducible rfl | with_reducible assumption | omega))), (show FsI (tf 6).toInt (pf_0 13).toInt na_0 from (FsI.le hfs (by first | with_reducible rfl | with_reducible assumption | omega)))⟩) d_Mpg_whole_21
      · have nc2 : ¬ z1.toInt = (7 : Int) := mt (i_eq (x := z1) (y := 7)).mpr c2
        refine lv_aload_n S.x S.b d_Mpg_whole_14 rfl (lv_at hl 0 rfl) ?_
        refine th_callv (ps0 := [wdP cs h r g tf ta pf na ma wa cf ca ef ea xf xa]) (pr := []) (pcs := [wdP cs h r g tf ta pf_0 na_0 ma_0 wa_0 cf ca ef ea xf xa]) (As := []) (rest := []) (c_mp_piece l D cs h r g tf ta cf ca ef ea xf xa pf_0 na_0 ma_0 wa_0   (show 0 ≤ (pf_0 11).toInt from by first | exact oz_16d7fa9f32 k0_0 g0 | omega) (show (pf_0 11).toInt < (tf 6).toInt from by first | exact k0_1 | omega) (show (tf 6).toInt ≤ 2049 from by first | exact g2 | omega) (show (pf_0 12).toInt = 0 from by first | exact k0_4 | omega) (show 0 ≤ (pf_0 13).toInt from by first | exact oz_1a40fcd478 k0_7 k0_6 | omega) (show (pf_0 13).toInt ≤ (pf_0 11).toInt + 10 from by first | exact k0_3 | omega) (show (pf_0 26).toInt = 0 from by first | exact k0_5 | omega) (show -1 ≤ (pf_0 25).toInt from by first | exact k0_6 | omega) (show (pf_0 25).toInt < (pf_0 13).toInt from by first | exact k0_7 | omega) hlf htk (FsI.le (N' := (pf_0 13).toInt) hfs (by first | with_reducible rfl | with_reducible assumption | omega)) (RzV.le (rz_eq hzg (by first | with_reducible rfl | with_reducible assumption | omega) (by first | with_reducible rfl | with_reducible assumption | omega)) (by first | with_reducible rfl | with_reducible assumption | omega) (by first | with_reducible rfl | with_reducible assumption | omega) (by first | with_reducible rfl | with_reducible assumption | omega) (by first | with_reducible rfl | with_reducible assumption | omega))) S hT hw (oX_call (P := (fun A U H => (oN A U H) ∧ (oP A g U H))) (pr := []) (oG_and oG_N oG_P) hw hA ⟨hN, hP⟩) (px_recv hT hw 0 0 rfl rfl rfl) m11_197 m11_194 m11_196 ms_8_9 m1_21 q_Mpg_piece ⟨show (8 * 61 + 32) + 1 ≤ (8 * 61 + 33) from by first | with_reducible rfl | with_reducible assumption | omega, show 8 + (4 + 11) + (220 * 61 + 1440) ≤ (220 * 61 + 1500) from by first | with_reducible rfl | with_reducible assumption | omega⟩ hl.1 rfl (Nat.le_of_ble_eq_true rfl) d_Mpg_whole_15 ⟨Nat.le_of_ble_eq_true rfl, Nat.le_of_ble_eq_true rfl⟩ hne hlk hA hAe (fun o t h => Or.inr h) ?_ (fun p11 H locs hp11 hw => ?_)
        · exact fun p1 H1 locs1 hp hw => by obtain ⟨pq1, pq2, pq3, pq4, rfl, hq1, hq2⟩ := hp; exact ⟨_, ⟨pq1, pq2, pq3, pq4, rfl, hq1, hq2⟩, hw⟩
        obtain ⟨pf7, na8, ma9, wa10, rfl, e13, e14, e15, e16, e17, e18, e19, e20, e21, e22, e23⟩ := hp11
        have e13 : (pf_0 11).toInt + 1 ≤ (pf7 11).toInt := e13
        have e14 : (pf7 11).toInt < (tf 6).toInt := e14
        have e15 : (pf_0 13).toInt ≤ (pf7 13).toInt := e15
        have e16 : (pf7 13).toInt - (pf_0 13).toInt ≤ (pf7 11).toInt - (pf_0 11).toInt := e16
        have e17 : bp ta (pf_0 11) + 1 ≤ bp ta (pf7 11) := e17
        have e18 : (pf7 12).toInt = 0 := e18
        have e19 : (pf7 26).toInt = 0 := e19
        have e20 : -1 ≤ (pf7 25).toInt := e20
        have e21 : (pf7 25).toInt < (pf7 13).toInt := e21
        have e22 : RzG ta (tf 6).toInt na8 ma9 (pf7 24) (pf7 25) 0 (pf7 13).toInt (3 * bp ta (pf7 11)) 200 := e22
        have hzg := e22
        have e23 : FsI (tf 6).toInt (pf7 13).toInt na8 := e23
        have hfs := e23
        have hw : pw D A s.heap H locs [wdP cs h r g tf ta pf7 na8 ma9 wa10 cf ca ef ea xf xa] := hw
        refine lv_goto (tgt := 0) S.x S.b d_Mpg_whole_18 (by decide) ?_
        exact ih0 pf7 na8 ma9 wa10 _ _ ls (show (pf 11).toInt ≤ (pf7 11).toInt from by first | exact oz_82cfa9ed48 k0_0 e13 | omega) (show (pf7 11).toInt < (tf 6).toInt from by first | exact e14 | omega) (show (pf 13).toInt ≤ (pf7 13).toInt from by first | exact oz_be764f19f0 k0_2 e15 | omega) (show (pf7 13).toInt ≤ (pf7 11).toInt + 10 from by first | exact oz_80aa4b08cf e16 k0_3 | omega) (show (pf7 12).toInt = 0 from by first | exact e18 | omega) (show (pf7 26).toInt = 0 from by first | exact e19 | omega) (show -1 ≤ (pf7 25).toInt from by first | exact e20 | omega) (show (pf7 25).toInt < (pf7 13).toInt from by first | exact e21 | omega) (show RzG ta (tf 6).toInt na8 ma9 (pf7 24) (pf7 25) 0 (pf7 13).toInt (3 * bp ta (pf7 11)) 200 from (RzV.le (rz_eq hzg (by first | with_reducible rfl | with_reducible assumption | omega) (by first | with_reducible rfl | with_reducible assumption | omega)) (by first | with_reducible rfl | with_reducible assumption | omega) (by first | with_reducible rfl | with_reducible assumption | omega) (by first | with_reducible rfl | with_reducible assumption | omega) (by first | with_reducible rfl | with_reducible assumption | omega))) (show FsI (tf 6).toInt (pf7 13).toInt na8 from (FsI.le hfs (by first | with_reducible rfl | with_reducible assumption | omega))) (show (tf 6).toInt - (pf7 11).toInt < (n_0 : Int) from by first | exact oz_84bedd6ffc hm e13 | omega) hw (lv_sub hl [0] rfl)
  refine lv_aload_n S.x S.b d_Mpg_whole_0 rfl (lv_at hl 0 rfl) ?_
  refine px_get S k_Mpg hT hw 0 0 9 (v := .ref (r 9)) rfl rfl rfl (by decide) m9_233 d_Mpg_whole_1 ?_
  refine lv_aload_n S.x S.b d_Mpg_whole_4 rfl (lv_at hl 0 rfl) ?_
  refine px_get S k_Mpg hT hw 0 0 11 (v := .int (pf 11)) rfl rfl rfl (by decide) m9_235 d_Mpg_whole_5 ?_
  refine px_bald S hT hw 0 8 (n := 2060) (f := (ta 9)) rfl gp_9 (x := (pf 11)) (vp_in_iff.mpr (by first | exact oz_846323bf3a g0 g1 g2 | (constructor <;> omega))) d_Mpg_whole_8 ?_
  refine lv_topi (fun z24 ez24 => ?_)
  have lz24 := Int32.le_toInt z24
  have uz24 := Int32.toInt_lt z24
  have rz24 := tk_s htk (x := (pf 11)) (by first | with_reducible rfl | with_reducible assumption | omega) (by first | with_reducible rfl | with_reducible assumption | omega) ez24
  refine lv_bipush (v := 7) S.x S.b d_Mpg_whole_9 (by decide) ?_
  refine lv_icmp_eq (tgt := 21) S.x S.b d_Mpg_whole_11 (by decide) (fun c25 => ?_) (fun c25 => ?_)
  · have nc25 : z24.toInt = (7 : Int) := (i_eq (x := z24) (y := 7)).mp c25
    exact th_vret S hr hlk hAe hw (⟨pf, na, ma, wa, rfl, (show (pf 11).toInt ≤ (pf 11).toInt from by first | exact oz_1cb5f934a5 | omega), (show (pf 11).toInt < (tf 6).toInt from by first | exact g1 | omega), (show (pf 13).toInt ≤ (pf 13).toInt from by first | exact oz_1cb5f934a5 | omega), (show (pf 13).toInt ≤ (pf 11).toInt + 10 from by first | exact g5 | omega), (show (pf 12).toInt = 0 from by first | exact g3 | omega), (show (pf 26).toInt = 0 from by first | exact g6 | omega), (show -1 ≤ (pf 25).toInt from by first | exact g7 | omega), (show (pf 25).toInt < (pf 13).toInt from by first | exact g8 | omega), (show RzG ta (tf 6).toInt na ma (pf 24) (pf 25) 0 (pf 13).toInt (3 * bp ta (pf 11)) 200 from (RzV.le (rz_eq hzg (by first | with_reducible rfl | with_reducible assumption | omega) (by first | with_reducible rfl | with_reducible assumption | omega)) (by first | with_reducible rfl | with_reducible assumption | omega) (by first | with_reducible rfl | with_reducible assumption | omega) (by first | with_reducible rfl | with_reducible assumption | omega) (by first | with_reducible rfl | with_reducible assumption | omega))), (show FsI (tf 6).toInt (pf 13).toInt na from (FsI.le hfs (by first | with_reducible rfl | with_reducible assumption | omega)))⟩) d_Mpg_whole_21
  · have nc25 : ¬ z24.toInt = (7 : Int) := mt (i_eq (x := z24) (y := 7)).mpr c25
    refine lv_aload_n S.x S.b d_Mpg_whole_14 rfl (lv_at hl 0 rfl) ?_
    refine th_callv (ps0 := [wdP cs h r g tf ta pf na ma wa cf ca ef ea xf xa]) (pr := []) (pcs := [wdP cs h r g tf ta pf na ma wa cf ca ef ea xf xa]) (As := []) (rest := []) (c_mp_piece l D cs h r g tf ta cf ca ef ea xf xa pf na ma wa   (show 0 ≤ (pf 11).toInt from by first | exact g0 | omega) (show (pf 11).toInt < (tf 6).toInt from by first | exact g1 | omega) (show (tf 6).toInt ≤ 2049 from by first | exact g2 | omega) (show (pf 12).toInt = 0 from by first | exact g3 | omega) (show 0 ≤ (pf 13).toInt from by first | exact g4 | omega) (show (pf 13).toInt ≤ (pf 11).toInt + 10 from by first | exact g5 | omega) (show (pf 26).toInt = 0 from by first | exact g6 | omega) (show -1 ≤ (pf 25).toInt from by first | exact g7 | omega) (show (pf 25).toInt < (pf 13).toInt from by first | exact g8 | omega) hlf htk (FsI.le (N' := (pf 13).toInt) hfs (by first | with_reducible rfl | with_reducible assumption | omega)) (RzV.le (rz_eq hzg (by first | with_reducible rfl | with_reducible assumption | omega) (by first | with_reducible rfl | with_reducible assumption | omega)) (by first | with_reducible rfl | with_reducible assumption | omega) (by first | with_reducible rfl | with_reducible assumption | omega) (by first | with_reducible rfl | with_reducible assumption | omega) (by first | with_reducible rfl | with_reducible assumption | omega))) S hT hw (oX_call (P := (fun A U H => (oN A U H) ∧ (oP A g U H))) (pr := []) (oG_and oG_N oG_P) hw hA ⟨hN, hP⟩) (px_recv hT hw 0 0 rfl rfl rfl) m11_197 m11_194 m11_196 ms_8_9 m1_21 q_Mpg_piece ⟨show (8 * 61 + 32) + 1 ≤ (8 * 61 + 33) from by first | with_reducible rfl | with_reducible assumption | omega, show 8 + (4 + 11) + (220 * 61 + 1440) ≤ (220 * 61 + 1500) from by first | with_reducible rfl | with_reducible assumption | omega⟩ hl.1 rfl (Nat.le_of_ble_eq_true rfl) d_Mpg_whole_15 ⟨Nat.le_of_ble_eq_true rfl, Nat.le_of_ble_eq_true rfl⟩ hne hlk hA hAe (fun o t h => Or.inr h) ?_ (fun p34 H locs hp34 hw => ?_)
    · exact fun p1 H1 locs1 hp hw => by obtain ⟨pq1, pq2, pq3, pq4, rfl, hq1, hq2⟩ := hp; exact ⟨_, ⟨pq1, pq2, pq3, pq4, rfl, hq1, hq2⟩, hw⟩
    obtain ⟨pf30, na31, ma32, wa33, rfl, e36, e37, e38, e39, e40, e41, e42, e43, e44, e45, e46⟩ := hp34
    have e36 : (pf 11).toInt + 1 ≤ (pf30 11).toInt := e36
    have e37 : (pf30 11).toInt < (tf 6).toInt := e37
    have e38 : (pf 13).toInt ≤ (pf30 13).toInt := e38
    have e39 : (pf30 13).toInt - (pf 13).toInt ≤ (pf30 11).toInt - (pf 11).toInt := e39
    have e40 : bp ta (pf 11) + 1 ≤ bp ta (pf30 11) := e40
    have e41 : (pf30 12).toInt = 0 := e41
    have e42 : (pf30 26).toInt = 0 := e42
    have e43 : -1 ≤ (pf30 25).toInt := e43
    have e44 : (pf30 25).toInt < (pf30 13).toInt := e44
    have e45 : RzG ta (tf 6).toInt na31 ma32 (pf30 24) (pf30 25) 0 (pf30 13).toInt (3 * bp ta (pf30 11)) 200 := e45
    have hzg := e45
    have e46 : FsI (tf 6).toInt (pf30 13).toInt na31 := e46
    have hfs := e46
    have hw : pw D A s.heap H locs [wdP cs h r g tf ta pf30 na31 ma32 wa33 cf ca ef ea xf xa] := hw
    refine lv_goto (tgt := 0) S.x S.b d_Mpg_whole_18 (by decide) ?_
    exact J0 (((tf 6).toInt - (pf30 11).toInt).toNat + 1) pf30 na31 ma32 wa33 _ _ ls (show (pf 11).toInt ≤ (pf30 11).toInt from by first | exact oz_63ad71ac53 e36 | omega) (show (pf30 11).toInt < (tf 6).toInt from by first | exact e37 | omega) (show (pf 13).toInt ≤ (pf30 13).toInt from by first | exact e38 | omega) (show (pf30 13).toInt ≤ (pf30 11).toInt + 10 from by first | exact oz_80aa4b08cf e39 g5 | omega) (show (pf30 12).toInt = 0 from by first | exact e41 | omega) (show (pf30 26).toInt = 0 from by first | exact e42 | omega) (show -1 ≤ (pf30 25).toInt from by first | exact e43 | omega) (show (pf30 25).toInt < (pf30 13).toInt from by first | exact e44 | omega) (show RzG ta (tf 6).toInt na31 ma32 (pf30 24) (pf30 25) 0 (pf30 13).toInt (3 * bp ta (pf30 11)) 200 from (RzV.le (rz_eq hzg (by first | with_reducible rfl | with_reducible assumption | omega) (by first | with_reducible rfl | with_reducible assumption | omega)) (by first | with_reducible rfl | with_reducible assumption | omega) (by first | with_reducible rfl | with_reducible assumption | omega) (by first | with_reducible rfl | with_reducible assumption | omega) (by first | with_reducible rfl | with_reducible assumption | omega))) (show FsI (tf 6).toInt (pf30 13).toInt na31 from (FsI.le hfs (by first | with_reducible rfl | with_reducible assumption | omega))) (show (tf 6).toInt - (pf30 11).toInt < (((((tf 6).toInt - (pf30 11).toInt).toNat + 1 : Nat) : Int) : Int) from by first | exact oz_natlt | omega) hw (lv_sub hl [0] rfl)
