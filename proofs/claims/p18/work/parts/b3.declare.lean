theorem oz_45803030ed {a0 a1 a2 a3 : Int} (h0 : 6 * a0 ≤ 6 * a1 + (a2 - a3)) (h1 : 0 ≤ a3) : 6 * a0 ≤ 6 * a1 + (a2) := by omega
theorem oz_cfab8a20ba {a0 a1 a2 a3 a4 a5 a6 : Int} (h0 : a0 = a1) (h1 : a2 - a3 ≤ 4096 * (a1 - a4)) (h2 : 0 ≤ a3) (h3 : a3 ≤ 4 + 4096 * a4) (h4 : a5 ≤ a6) (h5 : a6 - a5 ≤ 4 * (a2 - a3)) : 0 ≤ a0 := by omega
theorem oz_b0b3c00e64 {a0 a1 a2 a3 a4 : Int} (h0 : a0 = a1) (h1 : 6 * a1 ≤ 6 * a2 + (a3 - a4)) (h2 : 6 * a2 + a3 ≤ 6540) (h3 : 0 ≤ a4) : a0 < 1100 := by omega
theorem oz_9921a0d148 {a0 a1 a2 : Int} (h0 : a0 = a1) (h1 : a2 ≤ a1) (h2 : 0 ≤ a2) : 0 ≤ a0 := by omega
theorem oz_8fa6d0de1e {a0 a1 a2 a3 a4 a5 a6 : Int} (h0 : a0 = a1) (h1 : a1 - a2 ≤ 4096 * (a3 - a4)) (h2 : 6 * a4 + a5 ≤ 6540) (h3 : a2 ≤ 4096 * a4) (h4 : 6 * a3 ≤ 6 * a4 + (a5 - a6)) (h5 : 0 ≤ a6) : a0 ≤ 40000000 := by omega
theorem oz_75b62dc8f3 {a0 a1 a2 a3 a4 a5 : Int} (h0 : a0 = a1) (h1 : a1 = a2) (h2 : 6 * a2 ≤ 6 * a3 + (a4 - a5)) (h3 : 6 * a3 + a4 ≤ 6540) (h4 : 0 ≤ a5) : a0 < 1100 := by omega
theorem oz_6e66b3a32a {a0 a1 a2 a3 a4 : Int} (h0 : a0 ≤ a2) (h1 : a1 = a3 + 1) (h2 : a4 = a2) (h3 : a3 = a4) : a0 ≤ a1 := by omega
theorem oz_c39670368a {a0 a1 a2 a3 a4 a5 a6 a7 a8 : Int} (h0 : a2 - a3 ≤ 4096 * (a4 - a0)) (h1 : a1 = a5) (h2 : a6 ≤ a7) (h3 : a7 - a6 ≤ 4 * (a2 - a3)) (h4 : a8 = a4) (h5 : a8 < a5) : a0 ≤ a1 := by omega
theorem oz_72984fb0b0 {a0 a1 a2 a3 a4 : Int} (h0 : a0 ≤ a2) (h1 : a1 = a3) (h2 : a4 = a2) (h3 : a4 ≤ a3) : a0 ≤ a1 := by omega
theorem oz_3cace5bd24 {a0 a1 a2 a3 a4 a5 : Int} (h0 : a0 ≤ a2) (h1 : a1 = a3) (h2 : a4 = a2) (h3 : a3 = a5) (h4 : a5 = a4 + (1 : Int)) : a0 ≤ a1 := by omega
theorem oz_8ad522f9ea {a0 a1 a2 a3 a4 a5 a6 a7 a8 a9 a10 : Int} (h0 : a4 - a1 ≤ 4 * (a5 - a3)) (h1 : a2 = a6) (h2 : a0 = a7) (h3 : a8 = a5) (h4 : a9 = a4) (h5 : a6 = a10) (h6 : (0 : Int) ≤ 3 → a7 = a9 + (1 : Int)) (h7 : a10 = a8 + (1 : Int)) : a0 - a1 ≤ 4 * (a2 - a3) := by omega
theorem oz_fe11ac0579 {a0 a1 a2 a3 a4 a5 a6 a7 a8 a9 : Int} (h0 : a4 - a1 ≤ 4096 * (a5 - a3)) (h1 : a2 = a6) (h2 : a0 = a7) (h3 : a8 = a5) (h4 : a9 = a4) (h5 : a7 ≤ a9 + 4096) (h6 : a8 < a6) : a0 - a1 ≤ 4096 * (a2 - a3) := by omega
theorem oz_db48280d0f {a0 a1 a2 a3 a4 a5 a6 a7 a8 a9 a10 : Int} (h0 : a4 - a1 ≤ 4096 * (a5 - a3)) (h1 : a0 = a6) (h2 : a2 = a7) (h3 : a8 = a5) (h4 : a9 = a4) (h5 : a6 = a10) (h6 : a8 < a7) (h7 : a10 = a9 + (1 : Int)) : a0 - a1 ≤ 4096 * (a2 - a3) := by omega
theorem oz_e0d0c81028 {a0 a1 a2 a3 a4 a5 a6 a7 a8 a9 a10 : Int} (h0 : a4 - a1 ≤ 4 * (a5 - a3)) (h1 : a2 = a6) (h2 : a0 = a7) (h3 : a8 = a5) (h4 : a9 = a4) (h5 : a6 = a10) (h6 : (1 : Int) ≤ 3 → a7 = a9 + (1 : Int)) (h7 : a10 = a8 + (1 : Int)) : a0 - a1 ≤ 4 * (a2 - a3) := by omega
theorem oz_0073e084eb {a0 : Int} (h0 : ¬ a0 < (0 : Int)) : 0 ≤ (a0 + 1) := by omega
theorem oz_34de85669e {a0 a1 a2 a3 a4 a5 a6 a7 : Int} (h0 : a0 = a1) (h1 : a1 = a2) (h2 : a3 - a4 ≤ 4096 * (a2 - a5)) (h3 : 0 ≤ a4) (h4 : a4 ≤ 4 + 4096 * a5) (h5 : a6 ≤ a7) (h6 : a7 - a6 ≤ 4 * (a3 - a4)) : 0 ≤ a0 := by omega
theorem oz_17a0157d43 {a0 a1 a2 a3 a4 a5 a6 a7 : Int} (h0 : a0 = a1) (h1 : a1 = a2) (h2 : a2 - a3 ≤ 4096 * (a4 - a5)) (h3 : 6 * a5 + a6 ≤ 6540) (h4 : a3 ≤ 4096 * a5) (h5 : 6 * a4 ≤ 6 * a5 + (a6 - a7)) (h6 : 0 ≤ a7) : a0 ≤ 40000000 := by omega
theorem oz_eb53d9d016 {a0 a1 a2 a3 a4 : Int} (h0 : a0 = a1) (h1 : a1 = a2) (h2 : a2 = a3) (h3 : a4 ≤ a3) (h4 : 0 ≤ a4) : 0 ≤ a0 := by omega
theorem oz_3ef51c39d5 {a0 a1 a2 a3 a4 a5 a6 : Int} (h0 : a0 = a1) (h1 : a1 = a2) (h2 : a2 = a3) (h3 : 6 * a3 ≤ 6 * a4 + (a5 - a6)) (h4 : 6 * a4 + a5 ≤ 6540) (h5 : 0 ≤ a6) : a0 < 1100 := by omega
theorem oz_a101ed4aa6 {a0 a1 a2 a3 a4 a5 : Int} (h0 : a0 ≤ a2) (h1 : a1 = a3 + 1) (h2 : a4 = a2) (h3 : a3 = a5) (h4 : a5 = a4) : a0 ≤ a1 := by omega
theorem oz_788511b878 {a0 a1 a2 a3 a4 a5 a6 a7 a8 a9 : Int} (h0 : a2 - a3 ≤ 4096 * (a4 - a0)) (h1 : a1 = a5) (h2 : a6 ≤ a7) (h3 : a7 - a6 ≤ 4 * (a2 - a3)) (h4 : a8 = a4) (h5 : a9 < a5) (h6 : a9 = a8) : a0 ≤ a1 := by omega
theorem oz_39bc41608f {a0 a1 a2 a3 a4 a5 : Int} (h0 : a0 ≤ a2) (h1 : a1 = a3) (h2 : a4 = a2) (h3 : a5 ≤ a3) (h4 : a5 = a4) : a0 ≤ a1 := by omega
theorem oz_47ce8e110c {a0 a1 a2 a3 a4 a5 a6 a7 a8 : Int} (h0 : a2 - a3 ≤ 4 * (a4 - a0)) (h1 : a1 = a5) (h2 : a3 ≤ a2) (h3 : a6 = a4) (h4 : a5 = a7) (h5 : a8 = a6) (h6 : a7 = a8 + (1 : Int)) : a0 ≤ a1 := by omega
theorem oz_0159125df4 {a0 a1 a2 a3 a4 a5 a6 a7 a8 a9 a10 a11 a12 : Int} (h0 : a4 - a1 ≤ 4 * (a5 - a3)) (h1 : a2 = a6) (h2 : a0 = a7) (h3 : a8 = a5) (h4 : a9 = a4) (h5 : a6 = a10) (h6 : (0 : Int) ≤ 3 → a7 = a11 + (1 : Int)) (h7 : a12 = a8) (h8 : a11 = a9) (h9 : a10 = a12 + (1 : Int)) : a0 - a1 ≤ 4 * (a2 - a3) := by omega
theorem oz_0e3be830c4 {a0 a1 a2 a3 a4 a5 a6 a7 a8 a9 a10 a11 : Int} (h0 : a4 - a1 ≤ 4096 * (a5 - a3)) (h1 : a2 = a6) (h2 : a0 = a7) (h3 : a8 = a5) (h4 : a9 = a4) (h5 : a7 ≤ a10 + 4096) (h6 : a11 < a6) (h7 : a11 = a8) (h8 : a10 = a9) : a0 - a1 ≤ 4096 * (a2 - a3) := by omega
theorem oz_f6b9fff360 {a0 a1 a2 a3 a4 a5 a6 a7 a8 a9 a10 a11 a12 : Int} (h0 : a4 - a1 ≤ 4096 * (a5 - a3)) (h1 : a0 = a6) (h2 : a2 = a7) (h3 : a8 = a5) (h4 : a9 = a4) (h5 : a6 = a10) (h6 : a11 < a7) (h7 : a11 = a8) (h8 : a12 = a9) (h9 : a10 = a12 + (1 : Int)) : a0 - a1 ≤ 4096 * (a2 - a3) := by omega
theorem oz_217fccdeec {a0 a1 a2 a3 a4 a5 a6 a7 a8 a9 a10 a11 a12 : Int} (h0 : a4 - a1 ≤ 4 * (a5 - a3)) (h1 : a2 = a6) (h2 : a0 = a7) (h3 : a8 = a5) (h4 : a9 = a4) (h5 : a6 = a10) (h6 : (1 : Int) ≤ 3 → a7 = a11 + (1 : Int)) (h7 : a12 = a8) (h8 : a11 = a9) (h9 : a10 = a12 + (1 : Int)) : a0 - a1 ≤ 4 * (a2 - a3) := by omega
theorem oz_591883cc22 {a0 a1 a2 a3 a4 a5 : Int} (h0 : a1 = a2) (h1 : a0 = a3) (h2 : a3 - a4 ≤ 4096 * (a2 - a5)) (h3 : a4 ≤ 4096 * a5) : a0 ≤ 4096 * a1 := by omega
theorem oz_4d7634dc29 {a0 a1 a2 a3 a4 : Int} (h0 : a0 = a1) (h1 : a2 - a3 ≤ 4 * (a1 - a4)) (h2 : 0 ≤ a4) (h3 : a3 ≤ a2) : 0 ≤ a0 := by omega
theorem oz_28f1d15c37 {a0 a1 a2 a3 a4 a5 : Int} (h0 : a1 = a2) (h1 : a0 = a3) (h2 : a3 - a4 ≤ 4096 * (a2 - a5)) (h3 : a4 ≤ 4 + 4096 * a5) : a0 ≤ 4 + 4096 * a1 := by omega
theorem oz_df71656335 {a0 a1 : Int} (h0 : a1 = a0) (h1 : ¬ a1 < (0 : Int)) : 0 ≤ a0 := by omega
theorem oz_a38eb904f0 {a0 a1 a2 a3 a4 a5 a6 a7 a8 : Int} (h0 : a2 - a3 ≤ 4 * (a4 - a0)) (h1 : a1 = a5) (h2 : a3 ≤ a2) (h3 : a6 = a4) (h4 : a5 = a7) (h5 : a7 = a6 + a8) (h6 : 0 ≤ a8) : a0 ≤ a1 := by omega
theorem oz_23efd63b06 {a0 a1 a2 a3 a4 a5 a6 a7 a8 a9 a10 a11 a12 a13 : Int} (h0 : a4 - a1 ≤ 4 * (a5 - a3)) (h1 : a2 = a6) (h2 : a0 = a7) (h3 : a8 = a5) (h4 : a9 = a4) (h5 : a6 = a10) (h6 : (2 : Int) ≤ 3 → a7 = a11 + a12) (h7 : a11 = a9) (h8 : a12 ≤ 4 * a13) (h9 : a10 = a8 + a13) : a0 - a1 ≤ 4 * (a2 - a3) := by omega
theorem oz_7cb314f517 {a0 a1 a2 a3 a4 a5 a6 a7 a8 a9 a10 a11 a12 : Int} (h0 : a4 - a1 ≤ 4096 * (a5 - a3)) (h1 : a0 = a6) (h2 : a2 = a7) (h3 : a8 = a5) (h4 : a9 = a4) (h5 : a6 = a10) (h6 : a11 < a7) (h7 : a11 = a8) (h8 : a10 = a9 + a12) (h9 : a12 ≤ 4096) : a0 - a1 ≤ 4096 * (a2 - a3) := by omega
theorem oz_232d3ab33c {a0 a1 a2 a3 a4 a5 a6 a7 a8 a9 a10 a11 a12 a13 : Int} (h0 : a4 - a1 ≤ 4 * (a5 - a3)) (h1 : a2 = a6) (h2 : a0 = a7) (h3 : a8 = a5) (h4 : a9 = a4) (h5 : a6 = a10) (h6 : (3 : Int) ≤ 3 → a7 = a11 + a12) (h7 : a11 = a9) (h8 : a12 ≤ 4 * a13) (h9 : a10 = a8 + a13) : a0 - a1 ≤ 4 * (a2 - a3) := by omega
theorem oz_1c3b0c11f9 {a0 a1 : Int}  : 6 * a0 ≤ 6 * a0 + (a1 - a1) := by omega
theorem oz_a1153f1990 {a0 a1 : Int}  : a0 - a0 ≤ 4 * (a1 - a1) := by omega
theorem oz_f4137ca117 {a0 a1 : Int}  : a0 - a0 ≤ 4096 * (a1 - a1) := by omega
theorem oz_2b1b45a940 {a0 a1 : Int} (h0 : a0 ≤ a1) : a0 ≤ (a1 + 1) := by omega
theorem m12_174 : Cond.methodLink "HomeSystemModel$Program" 618 ⟨"HomeSystemModel$Program", "checkNew", "(I)V"⟩ ∈ AL := AL_12 (List.mem_of_getElem? (i := 174) rfl) rfl
theorem m12_177 : Cond.code ⟨"HomeSystemModel$Program", "checkNew", "(I)V"⟩ prog_16_method_72_code 3 (Option.none : Option Jvm.ClassFile.FieldType) ∈ AL := AL_12 (List.mem_of_getElem? (i := 177) rfl) rfl
theorem ms_11_13 : Cond.selects "HomeSystemModel$Program" ⟨"HomeSystemModel$Program", "checkNew", "(I)V"⟩ ⟨"HomeSystemModel$Program", "checkNew", "(I)V"⟩ ∈ AL := AL_p (q := (⟨"HomeSystemModel$Program", "checkNew", "(I)V"⟩, 69)) (by unfold lw_privs; exact List.mem_append_right _ (List.mem_append_right _ (List.mem_append_right _ (List.mem_append_right _ (List.mem_append_right _ (List.mem_append_right _ (List.mem_append_right _ (List.mem_append_right _ (List.mem_append_right _ (List.mem_append_right _ (List.mem_append_left _ (List.mem_of_getElem? (i := 13) rfl))))))))))))
theorem m12_176 : Cond.instanceMethod ⟨"HomeSystemModel$Program", "checkNew", "(I)V"⟩ ∈ AL := AL_12 (List.mem_of_getElem? (i := 176) rfl) rfl
theorem m10_33 : Cond.fieldLink "HomeSystemModel$Program" 621 "HomeSystemModel$Program" "frame" "I" ∈ AL := AL_10 (List.mem_of_getElem? (i := 33) rfl) rfl
theorem m12_186 : Cond.methodLink "HomeSystemModel$Program" 630 ⟨"HomeSystemModel$Program", "lay", "(II)I"⟩ ∈ AL := AL_12 (List.mem_of_getElem? (i := 186) rfl) rfl
theorem m12_189 : Cond.code ⟨"HomeSystemModel$Program", "lay", "(II)I"⟩ prog_16_method_70_code 3 (Option.some FieldType.int) ∈ AL := AL_12 (List.mem_of_getElem? (i := 189) rfl) rfl
theorem ms_12_0 : Cond.selects "HomeSystemModel$Program" ⟨"HomeSystemModel$Program", "lay", "(II)I"⟩ ⟨"HomeSystemModel$Program", "lay", "(II)I"⟩ ∈ AL := AL_p (q := (⟨"HomeSystemModel$Program", "lay", "(II)I"⟩, 69)) (by unfold lw_privs; exact List.mem_append_right _ (List.mem_append_right _ (List.mem_append_right _ (List.mem_append_right _ (List.mem_append_right _ (List.mem_append_right _ (List.mem_append_right _ (List.mem_append_right _ (List.mem_append_right _ (List.mem_append_right _ (List.mem_append_right _ (List.mem_append_left _ (List.mem_of_getElem? (i := 0) rfl)))))))))))))
theorem m12_188 : Cond.instanceMethod ⟨"HomeSystemModel$Program", "lay", "(II)I"⟩ ∈ AL := AL_12 (List.mem_of_getElem? (i := 188) rfl) rfl
theorem m12_190 : Cond.methodLink "HomeSystemModel$Program" 633 ⟨"HomeSystemModel$Program", "know", "(IIII)V"⟩ ∈ AL := AL_12 (List.mem_of_getElem? (i := 190) rfl) rfl
theorem m12_193 : Cond.code ⟨"HomeSystemModel$Program", "know", "(IIII)V"⟩ prog_16_method_71_code 5 (Option.none : Option Jvm.ClassFile.FieldType) ∈ AL := AL_12 (List.mem_of_getElem? (i := 193) rfl) rfl
theorem ms_12_1 : Cond.selects "HomeSystemModel$Program" ⟨"HomeSystemModel$Program", "know", "(IIII)V"⟩ ⟨"HomeSystemModel$Program", "know", "(IIII)V"⟩ ∈ AL := AL_p (q := (⟨"HomeSystemModel$Program", "know", "(IIII)V"⟩, 69)) (by unfold lw_privs; exact List.mem_append_right _ (List.mem_append_right _ (List.mem_append_right _ (List.mem_append_right _ (List.mem_append_right _ (List.mem_append_right _ (List.mem_append_right _ (List.mem_append_right _ (List.mem_append_right _ (List.mem_append_right _ (List.mem_append_right _ (List.mem_append_left _ (List.mem_of_getElem? (i := 1) rfl)))))))))))))
theorem m12_192 : Cond.instanceMethod ⟨"HomeSystemModel$Program", "know", "(IIII)V"⟩ ∈ AL := AL_12 (List.mem_of_getElem? (i := 192) rfl) rfl
theorem m13_30 : Cond.methodLink "HomeSystemModel$Program" 624 ⟨"HomeSystemModel$Program", "declareArray", "(IZ)I"⟩ ∈ AL := AL_13 (List.mem_of_getElem? (i := 30) rfl) rfl
theorem m13_33 : Cond.code ⟨"HomeSystemModel$Program", "declareArray", "(IZ)I"⟩ prog_16_method_87_code 6 (Option.some FieldType.int) ∈ AL := AL_13 (List.mem_of_getElem? (i := 33) rfl) rfl
theorem ms_13_5 : Cond.selects "HomeSystemModel$Program" ⟨"HomeSystemModel$Program", "declareArray", "(IZ)I"⟩ ⟨"HomeSystemModel$Program", "declareArray", "(IZ)I"⟩ ∈ AL := AL_p (q := (⟨"HomeSystemModel$Program", "declareArray", "(IZ)I"⟩, 69)) (by unfold lw_privs; exact List.mem_append_right _ (List.mem_append_right _ (List.mem_append_right _ (List.mem_append_right _ (List.mem_append_right _ (List.mem_append_right _ (List.mem_append_right _ (List.mem_append_right _ (List.mem_append_right _ (List.mem_append_right _ (List.mem_append_right _ (List.mem_append_right _ (List.mem_append_left _ (List.mem_of_getElem? (i := 5) rfl))))))))))))))
theorem m13_32 : Cond.instanceMethod ⟨"HomeSystemModel$Program", "declareArray", "(IZ)I"⟩ ∈ AL := AL_13 (List.mem_of_getElem? (i := 32) rfl) rfl
abbrev b_Mpg_declare : ByteArray := prog_16_method_86_code
def y_Mpg_declare : MethodName := ⟨"HomeSystemModel$Program", "declare", "(IZ)V"⟩
theorem d_Mpg_declare_0 : decode b_Mpg_declare 0 = .ok (.aload_n 0, 1) := by decide +kernel
theorem d_Mpg_declare_1 : decode b_Mpg_declare 1 = .ok (.getfield 216, 3) := by decide +kernel
theorem d_Mpg_declare_4 : decode b_Mpg_declare 4 = .ok (.iload_n 1, 1) := by decide +kernel
theorem d_Mpg_declare_5 : decode b_Mpg_declare 5 = .ok (.iaload, 1) := by decide +kernel
theorem d_Mpg_declare_6 : decode b_Mpg_declare 6 = .ok (.istore_n 3, 1) := by decide +kernel
theorem d_Mpg_declare_7 : decode b_Mpg_declare 7 = .ok (.iload_n 3, 1) := by decide +kernel
theorem d_Mpg_declare_8 : decode b_Mpg_declare 8 = .ok (.ifCond .lt 225, 3) := by decide +kernel
theorem d_Mpg_declare_11 : decode b_Mpg_declare 11 = .ok (.aload_n 0, 1) := by decide +kernel
theorem d_Mpg_declare_12 : decode b_Mpg_declare 12 = .ok (.getfield 210, 3) := by decide +kernel
theorem d_Mpg_declare_15 : decode b_Mpg_declare 15 = .ok (.iload_n 3, 1) := by decide +kernel
theorem d_Mpg_declare_16 : decode b_Mpg_declare 16 = .ok (.iaload, 1) := by decide +kernel
theorem d_Mpg_declare_17 : decode b_Mpg_declare 17 = .ok (.istore 4, 2) := by decide +kernel
theorem d_Mpg_declare_19 : decode b_Mpg_declare 19 = .ok (.aload_n 0, 1) := by decide +kernel
theorem d_Mpg_declare_20 : decode b_Mpg_declare 20 = .ok (.iload 4, 2) := by decide +kernel
theorem d_Mpg_declare_22 : decode b_Mpg_declare 22 = .ok (.invokevirtual 618, 3) := by decide +kernel
theorem d_Mpg_declare_25 : decode b_Mpg_declare 25 = .ok (.aload_n 0, 1) := by decide +kernel
theorem d_Mpg_declare_26 : decode b_Mpg_declare 26 = .ok (.getfield 216, 3) := by decide +kernel
theorem d_Mpg_declare_29 : decode b_Mpg_declare 29 = .ok (.iload_n 3, 1) := by decide +kernel
theorem d_Mpg_declare_30 : decode b_Mpg_declare 30 = .ok (.iaload, 1) := by decide +kernel
theorem d_Mpg_declare_31 : decode b_Mpg_declare 31 = .ok (.ifCond .lt 92, 3) := by decide +kernel
theorem d_Mpg_declare_34 : decode b_Mpg_declare 34 = .ok (.aload_n 0, 1) := by decide +kernel
theorem d_Mpg_declare_35 : decode b_Mpg_declare 35 = .ok (.aload_n 0, 1) := by decide +kernel
theorem d_Mpg_declare_36 : decode b_Mpg_declare 36 = .ok (.getfield 621, 3) := by decide +kernel
theorem d_Mpg_declare_39 : decode b_Mpg_declare 39 = .ok (.aload_n 0, 1) := by decide +kernel
theorem d_Mpg_declare_40 : decode b_Mpg_declare 40 = .ok (.iload_n 3, 1) := by decide +kernel
theorem d_Mpg_declare_41 : decode b_Mpg_declare 41 = .ok (.aload_n 0, 1) := by decide +kernel
theorem d_Mpg_declare_42 : decode b_Mpg_declare 42 = .ok (.getfield 231, 3) := by decide +kernel
theorem d_Mpg_declare_45 : decode b_Mpg_declare 45 = .ok (.iload_n 1, 1) := by decide +kernel
theorem d_Mpg_declare_46 : decode b_Mpg_declare 46 = .ok (.iaload, 1) := by decide +kernel
theorem d_Mpg_declare_47 : decode b_Mpg_declare 47 = .ok (.iconst 1, 1) := by decide +kernel
theorem d_Mpg_declare_48 : decode b_Mpg_declare 48 = .ok (.if_icmp .ne 7, 3) := by decide +kernel
theorem d_Mpg_declare_51 : decode b_Mpg_declare 51 = .ok (.iconst 1, 1) := by decide +kernel
theorem d_Mpg_declare_52 : decode b_Mpg_declare 52 = .ok (.goto 4, 3) := by decide +kernel
theorem d_Mpg_declare_55 : decode b_Mpg_declare 55 = .ok (.iconst 0, 1) := by decide +kernel
theorem d_Mpg_declare_56 : decode b_Mpg_declare 56 = .ok (.invokevirtual 624, 3) := by decide +kernel
theorem d_Mpg_declare_59 : decode b_Mpg_declare 59 = .ok (.iadd, 1) := by decide +kernel
theorem d_Mpg_declare_60 : decode b_Mpg_declare 60 = .ok (.putfield 621, 3) := by decide +kernel
theorem d_Mpg_declare_63 : decode b_Mpg_declare 63 = .ok (.aload_n 0, 1) := by decide +kernel
theorem d_Mpg_declare_64 : decode b_Mpg_declare 64 = .ok (.getfield 225, 3) := by decide +kernel
theorem d_Mpg_declare_67 : decode b_Mpg_declare 67 = .ok (.iload_n 3, 1) := by decide +kernel
theorem d_Mpg_declare_68 : decode b_Mpg_declare 68 = .ok (.aload_n 0, 1) := by decide +kernel
theorem d_Mpg_declare_69 : decode b_Mpg_declare 69 = .ok (.aload_n 0, 1) := by decide +kernel
theorem d_Mpg_declare_70 : decode b_Mpg_declare 70 = .ok (.getfield 231, 3) := by decide +kernel
theorem d_Mpg_declare_73 : decode b_Mpg_declare 73 = .ok (.iload_n 1, 1) := by decide +kernel
theorem d_Mpg_declare_74 : decode b_Mpg_declare 74 = .ok (.iaload, 1) := by decide +kernel
theorem d_Mpg_declare_75 : decode b_Mpg_declare 75 = .ok (.iconst 1, 1) := by decide +kernel
theorem d_Mpg_declare_76 : decode b_Mpg_declare 76 = .ok (.if_icmp .ne 7, 3) := by decide +kernel
theorem d_Mpg_declare_79 : decode b_Mpg_declare 79 = .ok (.iconst 3, 1) := by decide +kernel
theorem d_Mpg_declare_80 : decode b_Mpg_declare 80 = .ok (.goto 4, 3) := by decide +kernel
theorem d_Mpg_declare_83 : decode b_Mpg_declare 83 = .ok (.iconst 2, 1) := by decide +kernel
theorem d_Mpg_declare_84 : decode b_Mpg_declare 84 = .ok (.aload_n 0, 1) := by decide +kernel
theorem d_Mpg_declare_85 : decode b_Mpg_declare 85 = .ok (.getfield 627, 3) := by decide +kernel
theorem d_Mpg_declare_88 : decode b_Mpg_declare 88 = .ok (.invokevirtual 630, 3) := by decide +kernel
theorem d_Mpg_declare_91 : decode b_Mpg_declare 91 = .ok (.iastore, 1) := by decide +kernel
theorem d_Mpg_declare_92 : decode b_Mpg_declare 92 = .ok (.aload_n 0, 1) := by decide +kernel
theorem d_Mpg_declare_93 : decode b_Mpg_declare 93 = .ok (.iload 4, 2) := by decide +kernel
theorem d_Mpg_declare_95 : decode b_Mpg_declare 95 = .ok (.aload_n 0, 1) := by decide +kernel
theorem d_Mpg_declare_96 : decode b_Mpg_declare 96 = .ok (.getfield 231, 3) := by decide +kernel
theorem d_Mpg_declare_99 : decode b_Mpg_declare 99 = .ok (.iload_n 1, 1) := by decide +kernel
theorem d_Mpg_declare_100 : decode b_Mpg_declare 100 = .ok (.iaload, 1) := by decide +kernel
theorem d_Mpg_declare_101 : decode b_Mpg_declare 101 = .ok (.iconst 1, 1) := by decide +kernel
theorem d_Mpg_declare_102 : decode b_Mpg_declare 102 = .ok (.if_icmp .ne 7, 3) := by decide +kernel
theorem d_Mpg_declare_105 : decode b_Mpg_declare 105 = .ok (.iconst 3, 1) := by decide +kernel
theorem d_Mpg_declare_106 : decode b_Mpg_declare 106 = .ok (.goto 4, 3) := by decide +kernel
theorem d_Mpg_declare_109 : decode b_Mpg_declare 109 = .ok (.iconst 2, 1) := by decide +kernel
theorem d_Mpg_declare_110 : decode b_Mpg_declare 110 = .ok (.iconst 0, 1) := by decide +kernel
theorem d_Mpg_declare_111 : decode b_Mpg_declare 111 = .ok (.aload_n 0, 1) := by decide +kernel
theorem d_Mpg_declare_112 : decode b_Mpg_declare 112 = .ok (.getfield 225, 3) := by decide +kernel
theorem d_Mpg_declare_115 : decode b_Mpg_declare 115 = .ok (.iload_n 3, 1) := by decide +kernel
theorem d_Mpg_declare_116 : decode b_Mpg_declare 116 = .ok (.iaload, 1) := by decide +kernel
theorem d_Mpg_declare_117 : decode b_Mpg_declare 117 = .ok (.invokevirtual 633, 3) := by decide +kernel
theorem d_Mpg_declare_120 : decode b_Mpg_declare 120 = .ok (.goto 103, 3) := by decide +kernel
theorem d_Mpg_declare_123 : decode b_Mpg_declare 123 = .ok (.aload_n 0, 1) := by decide +kernel
theorem d_Mpg_declare_124 : decode b_Mpg_declare 124 = .ok (.getfield 231, 3) := by decide +kernel
theorem d_Mpg_declare_127 : decode b_Mpg_declare 127 = .ok (.iload_n 3, 1) := by decide +kernel
theorem d_Mpg_declare_128 : decode b_Mpg_declare 128 = .ok (.iaload, 1) := by decide +kernel
theorem d_Mpg_declare_129 : decode b_Mpg_declare 129 = .ok (.iconst 1, 1) := by decide +kernel
theorem d_Mpg_declare_130 : decode b_Mpg_declare 130 = .ok (.if_icmp .ne 21, 3) := by decide +kernel
theorem d_Mpg_declare_133 : decode b_Mpg_declare 133 = .ok (.iload_n 2, 1) := by decide +kernel
theorem d_Mpg_declare_134 : decode b_Mpg_declare 134 = .ok (.ifCond .eq 17, 3) := by decide +kernel
theorem d_Mpg_declare_137 : decode b_Mpg_declare 137 = .ok (.aload_n 0, 1) := by decide +kernel
theorem d_Mpg_declare_138 : decode b_Mpg_declare 138 = .ok (.aload_n 0, 1) := by decide +kernel
theorem d_Mpg_declare_139 : decode b_Mpg_declare 139 = .ok (.getfield 219, 3) := by decide +kernel
theorem d_Mpg_declare_142 : decode b_Mpg_declare 142 = .ok (.iload_n 3, 1) := by decide +kernel
theorem d_Mpg_declare_143 : decode b_Mpg_declare 143 = .ok (.iaload, 1) := by decide +kernel
theorem d_Mpg_declare_144 : decode b_Mpg_declare 144 = .ok (.invokevirtual 593, 3) := by decide +kernel
theorem d_Mpg_declare_147 : decode b_Mpg_declare 147 = .ok (.pop, 1) := by decide +kernel
theorem d_Mpg_declare_148 : decode b_Mpg_declare 148 = .ok (.goto 25, 3) := by decide +kernel
theorem d_Mpg_declare_151 : decode b_Mpg_declare 151 = .ok (.aload_n 0, 1) := by decide +kernel
theorem d_Mpg_declare_152 : decode b_Mpg_declare 152 = .ok (.getfield 231, 3) := by decide +kernel
theorem d_Mpg_declare_155 : decode b_Mpg_declare 155 = .ok (.iload_n 3, 1) := by decide +kernel
theorem d_Mpg_declare_156 : decode b_Mpg_declare 156 = .ok (.iaload, 1) := by decide +kernel
theorem d_Mpg_declare_157 : decode b_Mpg_declare 157 = .ok (.iconst 1, 1) := by decide +kernel
theorem d_Mpg_declare_158 : decode b_Mpg_declare 158 = .ok (.if_icmp .ne 15, 3) := by decide +kernel
theorem d_Mpg_declare_161 : decode b_Mpg_declare 161 = .ok (.aload_n 0, 1) := by decide +kernel
theorem d_Mpg_declare_162 : decode b_Mpg_declare 162 = .ok (.aload_n 0, 1) := by decide +kernel
theorem d_Mpg_declare_163 : decode b_Mpg_declare 163 = .ok (.getfield 219, 3) := by decide +kernel
theorem d_Mpg_declare_166 : decode b_Mpg_declare 166 = .ok (.iload_n 3, 1) := by decide +kernel
theorem d_Mpg_declare_167 : decode b_Mpg_declare 167 = .ok (.iaload, 1) := by decide +kernel
theorem d_Mpg_declare_168 : decode b_Mpg_declare 168 = .ok (.iconst 1, 1) := by decide +kernel
theorem d_Mpg_declare_169 : decode b_Mpg_declare 169 = .ok (.invokevirtual 577, 3) := by decide +kernel
theorem d_Mpg_declare_172 : decode b_Mpg_declare 172 = .ok (.pop, 1) := by decide +kernel
theorem d_Mpg_declare_173 : decode b_Mpg_declare 173 = .ok (.aload_n 0, 1) := by decide +kernel
theorem d_Mpg_declare_174 : decode b_Mpg_declare 174 = .ok (.dup, 1) := by decide +kernel
theorem d_Mpg_declare_175 : decode b_Mpg_declare 175 = .ok (.getfield 621, 3) := by decide +kernel
theorem d_Mpg_declare_178 : decode b_Mpg_declare 178 = .ok (.iconst 1, 1) := by decide +kernel
theorem d_Mpg_declare_179 : decode b_Mpg_declare 179 = .ok (.iadd, 1) := by decide +kernel
theorem d_Mpg_declare_180 : decode b_Mpg_declare 180 = .ok (.putfield 621, 3) := by decide +kernel
theorem d_Mpg_declare_183 : decode b_Mpg_declare 183 = .ok (.aload_n 0, 1) := by decide +kernel
theorem d_Mpg_declare_184 : decode b_Mpg_declare 184 = .ok (.getfield 225, 3) := by decide +kernel
theorem d_Mpg_declare_187 : decode b_Mpg_declare 187 = .ok (.iload_n 3, 1) := by decide +kernel
theorem d_Mpg_declare_188 : decode b_Mpg_declare 188 = .ok (.aload_n 0, 1) := by decide +kernel
theorem d_Mpg_declare_189 : decode b_Mpg_declare 189 = .ok (.aload_n 0, 1) := by decide +kernel
theorem d_Mpg_declare_190 : decode b_Mpg_declare 190 = .ok (.getfield 231, 3) := by decide +kernel
theorem d_Mpg_declare_193 : decode b_Mpg_declare 193 = .ok (.iload_n 1, 1) := by decide +kernel
theorem d_Mpg_declare_194 : decode b_Mpg_declare 194 = .ok (.iaload, 1) := by decide +kernel
theorem d_Mpg_declare_195 : decode b_Mpg_declare 195 = .ok (.iconst 1, 1) := by decide +kernel
theorem d_Mpg_declare_196 : decode b_Mpg_declare 196 = .ok (.if_icmp .ne 7, 3) := by decide +kernel
theorem d_Mpg_declare_199 : decode b_Mpg_declare 199 = .ok (.iconst 1, 1) := by decide +kernel
theorem d_Mpg_declare_200 : decode b_Mpg_declare 200 = .ok (.goto 4, 3) := by decide +kernel
theorem d_Mpg_declare_203 : decode b_Mpg_declare 203 = .ok (.iconst 0, 1) := by decide +kernel
theorem d_Mpg_declare_204 : decode b_Mpg_declare 204 = .ok (.iconst 1, 1) := by decide +kernel
theorem d_Mpg_declare_205 : decode b_Mpg_declare 205 = .ok (.invokevirtual 630, 3) := by decide +kernel
theorem d_Mpg_declare_208 : decode b_Mpg_declare 208 = .ok (.iastore, 1) := by decide +kernel
theorem d_Mpg_declare_209 : decode b_Mpg_declare 209 = .ok (.aload_n 0, 1) := by decide +kernel
theorem d_Mpg_declare_210 : decode b_Mpg_declare 210 = .ok (.iload 4, 2) := by decide +kernel
theorem d_Mpg_declare_212 : decode b_Mpg_declare 212 = .ok (.iconst 1, 1) := by decide +kernel
theorem d_Mpg_declare_213 : decode b_Mpg_declare 213 = .ok (.iconst 0, 1) := by decide +kernel
theorem d_Mpg_declare_214 : decode b_Mpg_declare 214 = .ok (.aload_n 0, 1) := by decide +kernel
theorem d_Mpg_declare_215 : decode b_Mpg_declare 215 = .ok (.getfield 225, 3) := by decide +kernel
theorem d_Mpg_declare_218 : decode b_Mpg_declare 218 = .ok (.iload_n 3, 1) := by decide +kernel
theorem d_Mpg_declare_219 : decode b_Mpg_declare 219 = .ok (.iaload, 1) := by decide +kernel
theorem d_Mpg_declare_220 : decode b_Mpg_declare 220 = .ok (.invokevirtual 633, 3) := by decide +kernel
theorem d_Mpg_declare_223 : decode b_Mpg_declare 223 = .ok (.aload_n 0, 1) := by decide +kernel
theorem d_Mpg_declare_224 : decode b_Mpg_declare 224 = .ok (.getfield 228, 3) := by decide +kernel
theorem d_Mpg_declare_227 : decode b_Mpg_declare 227 = .ok (.iload_n 3, 1) := by decide +kernel
theorem d_Mpg_declare_228 : decode b_Mpg_declare 228 = .ok (.iaload, 1) := by decide +kernel
theorem d_Mpg_declare_229 : decode b_Mpg_declare 229 = .ok (.istore_n 3, 1) := by decide +kernel
theorem d_Mpg_declare_230 : decode b_Mpg_declare 230 = .ok (.goto (-223), 3) := by decide +kernel
theorem d_Mpg_declare_233 : decode b_Mpg_declare 233 = .ok (.return_, 1) := by decide +kernel
theorem q_Mpg_declare : px_y y_Mpg_declare 2 := by unfold px_y; decide +kernel
set_option maxHeartbeats 4000000 in
set_option maxRecDepth 100000 in
theorem c_mp_declare (l : Launch) (D : va_G) (cs : Nat → ClassId) (ma0 : Nat → Nat → Int32) (ys : Int) (nf : Int) (tx : Int) (d : Nat) (lo : Int) (hi : Int) (w : Int) (tv : Nat) (h : Nat) (r : Nat → Nat) (g : Nat → Nat → Option Nat) (tf : Nat → Int32) (ta : Nat → Nat → Int32) (pf : Nat → Int32) (na : Nat → Nat → Int32) (wa : Nat → Nat → Int32) (ef : Nat → Int32) (ea : Nat → Nat → Int32) (xf : Nat → Int32) (xa : Nat → Nat → Int32) (ma : Nat → Nat → Int32) (cf : Nat → Int32) (ca : Nat → Nat → Int32) (p0 p1 : Int32)  (g0 : 0 ≤ lo) (g1 : hi ≤ (pf 13).toInt) (g2 : (pf 13).toInt ≤ 2100) (g3 : (tf 6).toInt ≤ 2049) (g4 : 0 ≤ (cf 33).toInt) (g5 : 0 ≤ w) (g6 : 6 * (cf 33).toInt + w ≤ 6540) (g7 : 0 ≤ (cf 48).toInt) (g8 : 6 * (cf 48).toInt + w ≤ 6540) (g9 : (cf 38).toInt = nf) (g10 : 0 ≤ nf) (g11 : 0 ≤ (cf 37).toInt) (g12 : 0 ≤ (cf 54).toInt) (g13 : (cf 54).toInt ≤ 4096 * (cf 48).toInt) (g14 : 0 ≤ (cf 42).toInt) (g15 : (cf 42).toInt ≤ 4 + 4096 * (cf 48).toInt) (g16 : 0 ≤ (cf 44).toInt) (g17 : 0 ≤ (cf 45).toInt) (g18 : ys ≤ (cf 48).toInt ∨ tx = 1) (g19 : 0 ≤ (cf 46).toInt) (g20 : (cf 46).toInt ≤ 1) (g21 : 0 ≤ (cf 47).toInt) (g22 : (cf 47).toInt ≤ 1) (g23 : 0 ≤ p0.toInt) (g24 : lo ≤ p0.toInt) (g25 : p0.toInt < hi) (g26 : (na 14 p0.toNatClampNeg).toInt = 23) (g27 : (p1.toInt = 1 ∧ tv = 6 ∧ tx = 1) ∨ (p1.toInt = 0 ∧ tv = 5 ∧ tx = 0)) (htk : TkI tf ta) (hfs : FsI (tf 6).toInt (pf 13).toInt na) (hwr : WrV cf (tf 6).toInt) (hkt : KnT (tf 6).toInt ca (cf 33).toInt) (hft : FnT (tf 6).toInt na ca (cf 38).toInt) (hks : KnS ca (cf 33).toInt (cf 48).toInt ys) (hfp : FnP na ca nf) (hsr : SyR ca ys (cf 48).toInt (cf 54).toInt tx) (han : Ann na ma0 ma) (htx : txo (cf 43).toInt = tx) (hrv : RvV ta (tf 6).toInt na ma0 d (p0.toInt + 1) hi w (na 17 p0.toNatClampNeg)) : MetV l y_Mpg_declare b_Mpg_declare 5 D cs (4 * d + 22) (200 * d + 780) (0) (0) [.ref h, .int p0, .int p1] [wdP cs h r g tf ta pf na ma wa cf ca ef ea xf xa] (oX (fun A U H => (oP A g U H)) [wdP cs h r g tf ta pf na ma wa cf ca ef ea xf xa]) (fun ps => ∃ (ma' : Nat → Nat → Int32) (cf' : Nat → Int32) (ca' : Nat → Nat → Int32), (ps = [wdP cs h r g tf ta pf na ma' wa cf' ca' ef ea xf xa]) ∧ ((cf' 30).toInt = 0 → (cf 30).toInt = 0) ∧ (WrV cf' (tf 6).toInt) ∧ ((cf' 37).toInt = (cf 37).toInt) ∧ ((cf' 38).toInt = (cf 38).toInt) ∧ ((cf' 43).toInt = (cf 43).toInt) ∧ ((cf' 44).toInt = (cf 44).toInt) ∧ ((cf' 45).toInt = (cf 45).toInt) ∧ ((cf' 46).toInt = (cf 46).toInt) ∧ ((cf' 47).toInt = (cf 47).toInt) ∧ ((cf' 41).toInt = (cf 41).toInt) ∧ ((cf' 55).toInt = (cf 55).toInt) ∧ ((cf' 59).toInt = (cf 59).toInt) ∧ ((cf 33).toInt ≤ (cf' 33).toInt) ∧ (6 * (cf' 33).toInt ≤ 6 * (cf 33).toInt + (w)) ∧ ((cf 48).toInt ≤ (cf' 48).toInt) ∧ (6 * (cf' 48).toInt ≤ 6 * (cf 48).toInt + (w)) ∧ ((cf 54).toInt ≤ (cf' 54).toInt) ∧ ((cf 42).toInt ≤ (cf' 42).toInt) ∧ ((cf' 54).toInt - (cf 54).toInt ≤ 4 * ((cf' 42).toInt - (cf 42).toInt)) ∧ ((cf' 54).toInt - (cf 54).toInt ≤ 4096 * ((cf' 48).toInt - (cf 48).toInt)) ∧ ((cf' 42).toInt - (cf 42).toInt ≤ 4096 * ((cf' 48).toInt - (cf 48).toInt)) ∧ (KnT (tf 6).toInt ca' (cf' 33).toInt) ∧ (KnS ca' (cf' 33).toInt (cf' 48).toInt ys) ∧ (CaG ca ca' (cf 33).toInt (cf 48).toInt) ∧ (SyR ca' ys (cf' 48).toInt (cf' 54).toInt tx) ∧ (Ann na ma0 ma') ∧ (FrC lo hi ma ma') ∧ (Sy3 ca' (cf 48).toInt (cf' 48).toInt) ∧ (ZTw cf' ta ca' na ma0 (cf' 48).toInt ys nf ma' lo hi (na 17 p0.toNatClampNeg) tv)) := by
  refine px_enter (by decide) (Nat.le_of_ble_eq_true rfl) ?_
  intro p e s m below meth c A ls hAe S hr hlk hnm hA hT hX hw hl
  replace hl : lv_has ls 5 [(0, .ref h), (1, .int p0), (2, .int p1)] := hl
  have lp0 := Int32.le_toInt p0
  have up0 := Int32.toInt_lt p0
  have lp1 := Int32.le_toInt p1
  have up1 := Int32.toInt_lt p1
  have cst0 : (0 : Int32).toInt = 0 := rfl
  have cst1 : (1 : Int32).toInt = 1 := rfl
  have cst2 : (2 : Int32).toInt = 2 := rfl
  have cst3 : (3 : Int32).toInt = 3 := rfl
  have hX : (fun A U H => (oP A g U H)) A s s.heap := by rw [hAe]; exact hX
  have hP := hX
  have hZ := hP.1
  have hF0 := hP.2.1
  have hfc : FrC lo hi ma ma := FrC.rf
  have hwr0 := hwr.1
  have hk11 := hkt.1
  have hf11 := hft.1
  have hcg : CaG ca ca (cf 33).toInt (cf 48).toInt := CaG.rf
  have hs3 : Sy3 ca (cf 48).toInt (cf 48).toInt := sy3_0
  have J7 : ∀ (n_7 : Nat) (ma_7 : Nat → Nat → Int32) (cf_7 : Nat → Int32) (ca_7 : Nat → Nat → Int32) (mid_7 : Int) (wr_7 : Int) (x7_3 : Int32) (H : Heap) (locs : List Loc) (ls : Array Slot), ((cf_7 30).toInt = 0 → (cf 30).toInt = 0) → (WrV cf_7 (tf 6).toInt) → ((cf_7 37).toInt = (cf 37).toInt) → ((cf_7 38).toInt = (cf 38).toInt) → ((cf_7 43).toInt = (cf 43).toInt) → ((cf_7 44).toInt = (cf 44).toInt) → ((cf_7 45).toInt = (cf 45).toInt) → ((cf_7 46).toInt = (cf 46).toInt) → ((cf_7 47).toInt = (cf 47).toInt) → ((cf_7 41).toInt = (cf 41).toInt) → ((cf_7 55).toInt = (cf 55).toInt) → ((cf_7 59).toInt = (cf 59).toInt) → ((cf 33).toInt ≤ (cf_7 33).toInt) → (6 * (cf_7 33).toInt ≤ 6 * (cf 33).toInt + (w - wr_7)) → ((cf 48).toInt ≤ (cf_7 48).toInt) → (6 * (cf_7 48).toInt ≤ 6 * (cf 48).toInt + (w - wr_7)) → ((cf 54).toInt ≤ (cf_7 54).toInt) → ((cf 42).toInt ≤ (cf_7 42).toInt) → ((cf_7 54).toInt - (cf 54).toInt ≤ 4 * ((cf_7 42).toInt - (cf 42).toInt)) → ((cf_7 54).toInt - (cf 54).toInt ≤ 4096 * ((cf_7 48).toInt - (cf 48).toInt)) → ((cf_7 42).toInt - (cf 42).toInt ≤ 4096 * ((cf_7 48).toInt - (cf 48).toInt)) → (KnT (tf 6).toInt ca_7 (cf_7 33).toInt) → (KnS ca_7 (cf_7 33).toInt (cf_7 48).toInt ys) → (CaG ca ca_7 (cf 33).toInt (cf 48).toInt) → (SyR ca_7 ys (cf_7 48).toInt (cf_7 54).toInt tx) → (Ann na ma0 ma_7) → (FrC lo hi ma ma_7) → (Sy3 ca_7 (cf 48).toInt (cf_7 48).toInt) → (lo ≤ mid_7) → (p0.toInt + 1 ≤ mid_7) → (mid_7 ≤ hi) → (0 ≤ wr_7) → (wr_7 ≤ w) → (RvV ta (tf 6).toInt na ma0 d mid_7 hi wr_7 x7_3) → (ZTs cf_7 ta ca_7 na ma0 (cf_7 48).toInt ys nf ma_7 lo mid_7 (na 17 p0.toNatClampNeg) x7_3 tv) → hi - mid_7 < (n_7 : Int) → pw D A s.heap H locs [wdP cs h r g tf ta pf na ma_7 wa cf_7 ca_7 ef ea xf xa] → lv_has ls 5 [(0, .ref h), (1, .int p0), (2, .int p1), (3, .int x7_3)] → W p l e { frames := (4 * d + 22), cells := 0, slots := 0, locals := (200 * d + 780) } s m [.ref h, .int p0, .int p1].toArray below meth c H locs 0 0 (MQ below (va_Qv (fun ps => ∃ (ma' : Nat → Nat → Int32) (cf' : Nat → Int32) (ca' : Nat → Nat → Int32), (ps = [wdP cs h r g tf ta pf na ma' wa cf' ca' ef ea xf xa]) ∧ ((cf' 30).toInt = 0 → (cf 30).toInt = 0) ∧ (WrV cf' (tf 6).toInt) ∧ ((cf' 37).toInt = (cf 37).toInt) ∧ ((cf' 38).toInt = (cf 38).toInt) ∧ ((cf' 43).toInt = (cf 43).toInt) ∧ ((cf' 44).toInt = (cf 44).toInt) ∧ ((cf' 45).toInt = (cf 45).toInt) ∧ ((cf' 46).toInt = (cf 46).toInt) ∧ ((cf' 47).toInt = (cf 47).toInt) ∧ ((cf' 41).toInt = (cf 41).toInt) ∧ ((cf' 55).toInt = (cf 55).toInt) ∧ ((cf' 59).toInt = (cf 59).toInt) ∧ ((cf 33).toInt ≤ (cf' 33).toInt) ∧ (6 * (cf' 33).toInt ≤ 6 * (cf 33).toInt + (w)) ∧ ((cf 48).toInt ≤ (cf' 48).toInt) ∧ (6 * (cf' 48).toInt ≤ 6 * (cf 48).toInt + (w)) ∧ ((cf 54).toInt ≤ (cf' 54).toInt) ∧ ((cf 42).toInt ≤ (cf' 42).toInt) ∧ ((cf' 54).toInt - (cf 54).toInt ≤ 4 * ((cf' 42).toInt - (cf 42).toInt)) ∧ ((cf' 54).toInt - (cf 54).toInt ≤ 4096 * ((cf' 48).toInt - (cf 48).toInt)) ∧ ((cf' 42).toInt - (cf 42).toInt ≤ 4096 * ((cf' 48).toInt - (cf 48).toInt)) ∧ (KnT (tf 6).toInt ca' (cf' 33).toInt) ∧ (KnS ca' (cf' 33).toInt (cf' 48).toInt ys) ∧ (CaG ca ca' (cf 33).toInt (cf 48).toInt) ∧ (SyR ca' ys (cf' 48).toInt (cf' 54).toInt tx) ∧ (Ann na ma0 ma') ∧ (FrC lo hi ma ma') ∧ (Sy3 ca' (cf 48).toInt (cf' 48).toInt) ∧ (ZTw cf' ta ca' na ma0 (cf' 48).toInt ys nf ma' lo hi (na 17 p0.toNatClampNeg) tv)) (pc_B D (va_A ([wdP cs h r g tf ta pf na ma wa cf ca ef ea xf xa] : List va_W).flatten s.heap.size)) (va_A ([wdP cs h r g tf ta pf na ma wa cf ca ef ea xf xa] : List va_W).flatten s.heap.size)) [.ref h, .int p0, .int p1].toArray s 0 0 A) (F0 m 7 ls []) := by
    intro  n_7
    induction n_7 with
    | zero =>
      intro ma_7 cf_7 ca_7 mid_7 wr_7 x7_3 H locs ls k7_0 k7_1 k7_2 k7_3 k7_4 k7_5 k7_6 k7_7 k7_8 k7_9 k7_10 k7_11 k7_12 k7_13 k7_14 k7_15 k7_16 k7_17 k7_18 k7_19 k7_20 k7_21 k7_22 k7_23 k7_24 k7_25 k7_26 k7_27 k7_28 k7_29 k7_30 k7_31 k7_32 k7_33 k7_34 hm hw hl
      have lx7_3 := Int32.le_toInt x7_3
      have ux7_3 := Int32.toInt_lt x7_3
      have hwr := k7_1
      have hw0_k7_1 := hwr.1
      have hkt := k7_21
      have hk11_k7_21 := hkt.1
      have hks := k7_22
      have hcg := k7_23
      have hft := hft.cg k7_23
      have hfp := hfp.cg k7_23
      have hsr := k7_24
      have han := k7_25
      have hfc := k7_26
      have hs3 := k7_27
      have hrv := k7_33
      have hzts := k7_34
      exact absurd hm (by first | with_reducible rfl | with_reducible assumption | omega)
    | succ n_7 ih7 =>
      intro ma_7 cf_7 ca_7 mid_7 wr_7 x7_3 H locs ls k7_0 k7_1 k7_2 k7_3 k7_4 k7_5 k7_6 k7_7 k7_8 k7_9 k7_10 k7_11 k7_12 k7_13 k7_14 k7_15 k7_16 k7_17 k7_18 k7_19 k7_20 k7_21 k7_22 k7_23 k7_24 k7_25 k7_26 k7_27 k7_28 k7_29 k7_30 k7_31 k7_32 k7_33 k7_34 hm hw hl
      have lx7_3 := Int32.le_toInt x7_3
      have ux7_3 := Int32.toInt_lt x7_3
      have hwr := k7_1
      have hw0_k7_1 := hwr.1
      have hkt := k7_21
      have hk11_k7_21 := hkt.1
      have hks := k7_22
      have hcg := k7_23
      have hft := hft.cg k7_23
      have hfp := hfp.cg k7_23
      have hsr := k7_24
      have han := k7_25
      have hfc := k7_26
      have hs3 := k7_27
      have hrv := k7_33
      have hzts := k7_34
      refine lv_iload_n S.x S.b d_Mpg_declare_7 rfl (lv_at hl 3 rfl) ?_
      refine lv_if_lt (tgt := 233) S.x S.b d_Mpg_declare_8 (by decide) (fun c1 => ?_) (fun c1 => ?_)
      · have nc1 : x7_3.toInt < (0 : Int) := (i_lt (x := x7_3) (y := 0)).mp c1
        exact px_vret S hr hlk hAe hw (Nat.le_of_ble_eq_true rfl) (Nat.le_of_ble_eq_true rfl) (⟨ma_7, cf_7, ca_7, rfl, (show (cf_7 30).toInt = 0 → (cf 30).toInt = 0 from by first | exact k7_0 | omega), (show WrV cf_7 (tf 6).toInt from hwr), (show (cf_7 37).toInt = (cf 37).toInt from by first | exact k7_2 | omega), (show (cf_7 38).toInt = (cf 38).toInt from by first | exact k7_3 | omega), (show (cf_7 43).toInt = (cf 43).toInt from by first | exact k7_4 | omega), (show (cf_7 44).toInt = (cf 44).toInt from by first | exact k7_5 | omega), (show (cf_7 45).toInt = (cf 45).toInt from by first | exact k7_6 | omega), (show (cf_7 46).toInt = (cf 46).toInt from by first | exact k7_7 | omega), (show (cf_7 47).toInt = (cf 47).toInt from by first | exact k7_8 | omega), (show (cf_7 41).toInt = (cf 41).toInt from by first | exact k7_9 | omega), (show (cf_7 55).toInt = (cf 55).toInt from by first | exact k7_10 | omega), (show (cf_7 59).toInt = (cf 59).toInt from by first | exact k7_11 | omega), (show (cf 33).toInt ≤ (cf_7 33).toInt from by first | exact k7_12 | omega), (show 6 * (cf_7 33).toInt ≤ 6 * (cf 33).toInt + (w) from by first | exact oz_45803030ed k7_13 k7_31 | omega), (show (cf 48).toInt ≤ (cf_7 48).toInt from by first | exact k7_14 | omega), (show 6 * (cf_7 48).toInt ≤ 6 * (cf 48).toInt + (w) from by first | exact oz_45803030ed k7_15 k7_31 | omega), (show (cf 54).toInt ≤ (cf_7 54).toInt from by first | exact k7_16 | omega), (show (cf 42).toInt ≤ (cf_7 42).toInt from by first | exact k7_17 | omega), (show (cf_7 54).toInt - (cf 54).toInt ≤ 4 * ((cf_7 42).toInt - (cf 42).toInt) from by first | exact k7_18 | omega), (show (cf_7 54).toInt - (cf 54).toInt ≤ 4096 * ((cf_7 48).toInt - (cf 48).toInt) from by first | exact k7_19 | omega), (show (cf_7 42).toInt - (cf 42).toInt ≤ 4096 * ((cf_7 48).toInt - (cf 48).toInt) from by first | exact k7_20 | omega), (show KnT (tf 6).toInt ca_7 (cf_7 33).toInt from (KnT.eq hkt (by first | with_reducible rfl | with_reducible assumption | omega))), (show KnS ca_7 (cf_7 33).toInt (cf_7 48).toInt ys from (KnS.eq hks (by first | with_reducible rfl | with_reducible assumption | omega) (by first | with_reducible rfl | with_reducible assumption | omega))), (show CaG ca ca_7 (cf 33).toInt (cf 48).toInt from (hcg.le (by first | with_reducible rfl | with_reducible assumption | omega) (by first | with_reducible rfl | with_reducible assumption | omega))), (show SyR ca_7 ys (cf_7 48).toInt (cf_7 54).toInt tx from (SyR.eq hsr (by first | with_reducible rfl | with_reducible assumption | omega) (by first | with_reducible rfl | with_reducible assumption | omega))), (show Ann na ma0 ma_7 from han), (show FrC lo hi ma ma_7 from hfc), (show Sy3 ca_7 (cf 48).toInt (cf_7 48).toInt from (Sy3.eq hs3 (by first | with_reducible rfl | with_reducible assumption | omega))), (show ZTw cf_7 ta ca_7 na ma0 (cf_7 48).toInt ys nf ma_7 lo hi (na 17 p0.toNatClampNeg) tv from (ZTs.w hzts (by first | with_reducible rfl | with_reducible assumption | omega) (fun q => by first | with_reducible rfl | with_reducible assumption | omega) (by first | with_reducible rfl | with_reducible assumption | omega) (by first | with_reducible rfl | with_reducible assumption | omega) (by first | with_reducible rfl | with_reducible assumption | omega) rfl))⟩) d_Mpg_declare_233
      · have nc1 : ¬ x7_3.toInt < (0 : Int) := mt (i_lt (x := x7_3) (y := 0)).mpr c1
        refine lv_aload_n S.x S.b d_Mpg_declare_11 rfl (lv_at hl 0 rfl) ?_
        obtain ⟨md2, wv3, hm1_md2, hm2_md2, hm3_md2, hvc_x7_3, hx3_md2, hrv2⟩ := RvE.step hrv (by first | with_reducible rfl | with_reducible assumption | omega); have hvr := VcV.rng hvc_x7_3; have hvk := VcV.kind hvc_x7_3
        have hwp2 := RvE.wp hrv2
        refine px_get S k_Mpg hT hw 0 0 15 (v := .ref (r 15)) rfl rfl rfl (by decide) m9_239 d_Mpg_declare_12 ?_
        refine lv_iload_n S.x S.b d_Mpg_declare_15 rfl (lv_at hl 3 rfl) ?_
        refine px_iald S hT hw 0 11 (n := 2100) (f := (na 15)) rfl gp_15 (x := x7_3) (vp_in_iff.mpr (by constructor <;> omega)) d_Mpg_declare_16 ?_
        refine lv_topi (fun z4 ez4 => ?_)
        have lz4 := Int32.le_toInt z4
        have uz4 := Int32.toInt_lt z4
        have rz4 := VcV.tok hvc_x7_3 ez4
        refine lv_istore (lv' := [(4, .int z4), (0, .ref h), (1, .int p0), (2, .int p1), (3, .int x7_3)]) S.x S.b d_Mpg_declare_17 hl (by decide) rfl (fun ls hl => ?_)
        refine lv_aload_n S.x S.b d_Mpg_declare_19 rfl (lv_at hl 1 rfl) ?_
        refine lv_iload S.x S.b d_Mpg_declare_20 (lv_at hl 0 rfl) ?_
        refine px_callv (pr := []) (px_runV (As := [.int z4]) (rest := []) S (c_mp_checkNew l D cs h r g tf ta pf na ma_7 wa ca_7 ef ea xf xa cf_7 z4  (show 0 ≤ z4.toInt from by first | exact rz4.1 | omega) (show z4.toInt < (tf 6).toInt from by first | with_reducible rfl | with_reducible assumption | omega) (show (tf 6).toInt ≤ 2049 from by first | exact g3 | omega) (show 0 ≤ (cf_7 33).toInt from by first | exact oz_16d7fa9f32 k7_12 g4 | omega) (show 0 ≤ (cf_7 37).toInt from by first | exact oz_f3ebed1ad0 k7_2 g11 | omega) (show 0 ≤ (cf_7 38).toInt from by first | exact oz_e2fef14871 k7_3 g9 g10 | omega) htk hwr (KnT.eq hkt (by first | with_reducible rfl | with_reducible assumption | omega)) (FnT.eq hft (by first | with_reducible rfl | with_reducible assumption | omega)) _) hT (pr := []) (pcs := [wdP cs h r g tf ta pf na ma_7 wa cf_7 ca_7 ef ea xf xa]) hw (oX_call (P := (fun A U H => (oP A g U H))) (pr := []) oG_P hw hA hP) (px_recv hT hw 0 0 rfl rfl rfl) m12_177 m12_174 m12_176 ms_11_13 m1_21 q_Mpg_checkNew ⟨show 8 + 1 ≤ (4 * d + 22) from by first | with_reducible rfl | with_reducible assumption | omega, show 8 + (3 + 11) + 330 ≤ (200 * d + 780) from by first | with_reducible rfl | with_reducible assumption | omega⟩ hl.1 rfl (Nat.le_of_ble_eq_true rfl) d_Mpg_declare_22 ⟨Nat.le_of_ble_eq_true rfl, Nat.le_of_ble_eq_true rfl⟩) hw hA (fun p7 H locs hp7 hw => ?_)
        obtain ⟨cf6, rfl, e9, e10, e11, e12, e13, e14, e15, e16, e17, e18, e19, e20, e21, e22, e23, e24, e25, e26⟩ := hp7
        replace e9 : KpE cf_7 cf6 := e9
        have hkz_e9 := e9.2
        replace e10 : WrV cf6 (tf 6).toInt := e10
        have hwr := e10
        have hw0_e10 := hwr.1
        replace e11 : (cf6 33).toInt = (cf_7 33).toInt := e11
        replace e12 : (cf6 38).toInt = (cf_7 38).toInt := e12
        replace e13 : (cf6 48).toInt = (cf_7 48).toInt := e13
        replace e14 : (cf6 46).toInt = (cf_7 46).toInt := e14
        replace e15 : (cf6 47).toInt = (cf_7 47).toInt := e15
        replace e16 : (cf6 57).toInt = (cf_7 57).toInt := e16
        replace e17 : (cf6 37).toInt = (cf_7 37).toInt := e17
        replace e18 : (cf6 42).toInt = (cf_7 42).toInt := e18
        replace e19 : (cf6 43).toInt = (cf_7 43).toInt := e19
        replace e20 : (cf6 44).toInt = (cf_7 44).toInt := e20
        replace e21 : (cf6 45).toInt = (cf_7 45).toInt := e21
        replace e22 : (cf6 54).toInt = (cf_7 54).toInt := e22
        replace e23 : (cf6 55).toInt = (cf_7 55).toInt := e23
        replace e24 : (cf6 58).toInt = (cf_7 58).toInt := e24
        replace e25 : (cf6 59).toInt = (cf_7 59).toInt := e25
        replace e26 : (cf6 41).toInt = (cf_7 41).toInt := e26
        have hzts : ZTs cf6 ta ca_7 na ma0 (cf6 48).toInt ys nf ma_7 lo mid_7 (na 17 p0.toNatClampNeg) x7_3 tv := ZTs.to hzts (fun q => by first | with_reducible rfl | with_reducible assumption | omega) (by first | with_reducible rfl | with_reducible assumption | omega) (Int.le_refl _) (Int.le_refl _) rfl
        replace hw : pw D A s.heap H locs [wdP cs h r g tf ta pf na ma_7 wa cf6 ca_7 ef ea xf xa] := hw
        refine lv_aload_n S.x S.b d_Mpg_declare_25 rfl (lv_at hl 1 rfl) ?_
        refine px_get S k_Mpg hT hw 0 0 17 (v := .ref (r 17)) rfl rfl rfl (by decide) m10_1 d_Mpg_declare_26 ?_
        refine lv_iload_n S.x S.b d_Mpg_declare_29 rfl (lv_at hl 4 rfl) ?_
        refine px_iald S hT hw 0 13 (n := 2100) (f := (na 17)) rfl gp_17 (x := x7_3) (vp_in_iff.mpr (by constructor <;> omega)) d_Mpg_declare_30 ?_
        refine lv_topi (fun z27 ez27 => ?_)
        have lz27 := Int32.le_toInt z27
        have uz27 := Int32.toInt_lt z27
        have rz27 : z27.toInt = (na 17 x7_3.toNatClampNeg).toInt := by rw [ez27]
        refine lv_if_lt (tgt := 123) S.x S.b d_Mpg_declare_31 (by decide) (fun c28 => ?_) (fun c28 => ?_)
        · have nc28 : z27.toInt < (0 : Int) := (i_lt (x := z27) (y := 0)).mp c28
          refine lv_aload_n S.x S.b d_Mpg_declare_123 rfl (lv_at hl 1 rfl) ?_
          refine px_get S k_Mpg hT hw 0 0 22 (v := .ref (r 22)) rfl rfl rfl (by decide) m10_9 d_Mpg_declare_124 ?_
          refine lv_iload_n S.x S.b d_Mpg_declare_127 rfl (lv_at hl 4 rfl) ?_
          refine px_iald S hT hw 0 18 (n := 2100) (f := (ma_7 22)) rfl gp_22 (x := x7_3) (vp_in_iff.mpr (by constructor <;> omega)) d_Mpg_declare_128 ?_
          refine lv_topi (fun z29 ez29 => ?_)
          have lz29 := Int32.le_toInt z29
          have uz29 := Int32.toInt_lt z29
          have rz29 : z29.toInt = (ma0 22 x7_3.toNatClampNeg).toInt := (by rw [ez29, Ann.v22 han (by first | with_reducible rfl | with_reducible assumption | omega)])
          refine lv_iconst (v := 1) S.x S.b d_Mpg_declare_129 (by decide) ?_
          refine lv_icmp_ne (tgt := 151) S.x S.b d_Mpg_declare_130 (by decide) (fun c30 => ?_) (fun c30 => ?_)
          · have nc30 : ¬ z29.toInt = (1 : Int) := mt (i_eq (x := z29) (y := 1)).mpr c30
            refine lv_aload_n S.x S.b d_Mpg_declare_151 rfl (lv_at hl 1 rfl) ?_
            refine px_get S k_Mpg hT hw 0 0 22 (v := .ref (r 22)) rfl rfl rfl (by decide) m10_9 d_Mpg_declare_152 ?_
            refine lv_iload_n S.x S.b d_Mpg_declare_155 rfl (lv_at hl 4 rfl) ?_
            refine px_iald S hT hw 0 18 (n := 2100) (f := (ma_7 22)) rfl gp_22 (x := x7_3) (vp_in_iff.mpr (by constructor <;> omega)) d_Mpg_declare_156 ?_
            refine lv_topi (fun z31 ez31 => ?_)
            have lz31 := Int32.le_toInt z31
            have uz31 := Int32.toInt_lt z31
            have rz31 : z31.toInt = (ma0 22 x7_3.toNatClampNeg).toInt := (by rw [ez31, Ann.v22 han (by first | with_reducible rfl | with_reducible assumption | omega)])
            refine lv_iconst (v := 1) S.x S.b d_Mpg_declare_157 (by decide) ?_
            refine lv_icmp_ne (tgt := 173) S.x S.b d_Mpg_declare_158 (by decide) (fun c32 => ?_) (fun c32 => ?_)
            · have nc32 : ¬ z31.toInt = (1 : Int) := mt (i_eq (x := z31) (y := 1)).mpr c32
              refine lv_aload_n S.x S.b d_Mpg_declare_173 rfl (lv_at hl 1 rfl) ?_
              refine lv_dup S.x S.b d_Mpg_declare_174 rfl ?_
              refine px_get S k_Mpg hT hw 0 0 42 (v := .int (cf6 42)) rfl rfl rfl (by decide) m10_33 d_Mpg_declare_175 ?_
              refine lv_iconst (v := 1) S.x S.b d_Mpg_declare_178 (by decide) ?_
              refine lv_iadd S.x S.b d_Mpg_declare_179 ?_
              have lr33 := Int32.le_toInt (cf6 42)
              have ur33 := Int32.toInt_lt (cf6 42)
              refine lv_topi (fun z34 ez34 => ?_)
              have tz34 : z34.toInt = ((cf6 42).toInt + (1 : Int) + 2147483648) % 4294967296 - 2147483648 := by rw [ez34]; exact i_add (cf6 42) 1
              have lz34 := Int32.le_toInt z34
              have uz34 := Int32.toInt_lt z34
              try replace tz34 : z34.toInt = (cf6 42).toInt + (1 : Int) := by omega
              refine px_put S k_Mpg hT hw 0 0 42 rfl rfl (by decide) m10_33 rfl rfl rfl (Nat.le_of_ble_eq_true rfl) d_Mpg_declare_180 (w' := wdP cs h r g tf ta pf na ma_7 wa (upd cf6 42 z34) ca_7 ef ea xf xa) (ps' := [wdP cs h r g tf ta pf na ma_7 wa (upd cf6 42 z34) ca_7 ef ea xf xa]) rfl rfl (fun H locs hw => ?_)
              refine lv_aload_n S.x S.b d_Mpg_declare_183 rfl (lv_at hl 1 rfl) ?_
              refine px_get S k_Mpg hT hw 0 0 20 (v := .ref (r 20)) rfl rfl rfl (by decide) m10_6 d_Mpg_declare_184 ?_
              refine lv_iload_n S.x S.b d_Mpg_declare_187 rfl (lv_at hl 4 rfl) ?_
              refine lv_aload_n S.x S.b d_Mpg_declare_188 rfl (lv_at hl 1 rfl) ?_
              refine lv_aload_n S.x S.b d_Mpg_declare_189 rfl (lv_at hl 1 rfl) ?_
              refine px_get S k_Mpg hT hw 0 0 22 (v := .ref (r 22)) rfl rfl rfl (by decide) m10_9 d_Mpg_declare_190 ?_
              refine lv_iload_n S.x S.b d_Mpg_declare_193 rfl (lv_at hl 2 rfl) ?_
              refine px_iald S hT hw 0 18 (n := 2100) (f := (ma_7 22)) rfl gp_22 (x := p0) (vp_in_iff.mpr (by first | exact oz_a7e05de1cd g23 g25 g1 g2 | (constructor <;> omega))) d_Mpg_declare_194 ?_
              refine lv_topi (fun z35 ez35 => ?_)
              have lz35 := Int32.le_toInt z35
              have uz35 := Int32.toInt_lt z35
              have rz35 : z35.toInt = (ma0 22 p0.toNatClampNeg).toInt := (by rw [ez35, Ann.v22 han (by first | with_reducible rfl | with_reducible assumption | omega)])
              refine lv_iconst (v := 1) S.x S.b d_Mpg_declare_195 (by decide) ?_
              refine lv_icmp_ne (tgt := 203) S.x S.b d_Mpg_declare_196 (by decide) (fun c36 => ?_) (fun c36 => ?_)
              · have nc36 : ¬ z35.toInt = (1 : Int) := mt (i_eq (x := z35) (y := 1)).mpr c36
                refine lv_iconst (v := 0) S.x S.b d_Mpg_declare_203 (by decide) ?_
                refine lv_iconst (v := 1) S.x S.b d_Mpg_declare_204 (by decide) ?_
                refine px_calli (pr := []) (px_runV (As := [.int 0, .int 1]) (rest := [.int x7_3, .ref (r 20)]) S (c_mp_lay l D cs h r g tf ta pf na ma_7 wa ef ea xf xa (upd cf6 42 z34) ca_7 0 1  (show 0 ≤ (cf6 48).toInt from by first | exact oz_cfab8a20ba e13 k7_20 g14 g15 k7_16 k7_18 | omega) (show (cf6 48).toInt < 1100 from by first | exact oz_b0b3c00e64 e13 k7_15 g8 k7_31 | omega) (show 0 ≤ (0 : Int) from by first | decide | omega) (show (0 : Int) ≤ 5 from by first | decide | omega) (show 0 ≤ (1 : Int) from by first | decide | omega) (show (1 : Int) ≤ 4096 from by first | decide | omega) (show 0 ≤ (cf6 54).toInt from by first | exact oz_9921a0d148 e22 k7_16 g12 | omega) (show (cf6 54).toInt ≤ 40000000 from by first | exact oz_8fa6d0de1e e22 k7_19 g8 g13 k7_15 k7_31 | omega) htk _) hT (pr := []) (pcs := [wdP cs h r g tf ta pf na ma_7 wa (upd cf6 42 z34) ca_7 ef ea xf xa]) hw px_X.tt (px_recv hT hw 0 0 rfl rfl rfl) m12_189 m12_186 m12_188 ms_12_0 m1_21 q_Mpg_lay ⟨show 0 + 1 ≤ (4 * d + 22) from by first | with_reducible rfl | with_reducible assumption | omega, show 8 + (3 + 11) + 0 ≤ (200 * d + 780) from by first | with_reducible rfl | with_reducible assumption | omega⟩ hl.1 rfl (Nat.le_of_ble_eq_true rfl) d_Mpg_declare_205 ⟨Nat.le_of_ble_eq_true rfl, Nat.le_of_ble_eq_true rfl⟩) hw hA (fun v42 p41 H locs hp41 hw => ?_)
                obtain ⟨cf39, ca40, rfl, e43, e44, e45, e46, e47, e48, e49, e50, e51, e52, e53, e54, e55, e56, e57, e58, e59, e60, e61, e62, e63, e64, e65⟩ := hp41
                replace e43 : v42.toInt = (cf6 48).toInt := e43
                replace e44 : (cf39 48).toInt = (cf6 48).toInt + 1 := e44
                replace e45 : (cf6 54).toInt ≤ (cf39 54).toInt := e45
                replace e46 : (cf39 54).toInt ≤ (cf6 54).toInt + 4096 := e46
                replace e47 : (0 : Int) ≤ 3 → (cf39 54).toInt = (cf6 54).toInt + (1 : Int) := e47
                replace e48 : 4 ≤ (0 : Int) → (cf39 54).toInt = (cf6 54).toInt + 2 := e48
                replace e49 : (cf39 30).toInt = (cf6 30).toInt := e49
                replace e50 : (cf39 31).toInt = (cf6 31).toInt := e50
                replace e51 : (cf39 33).toInt = (cf6 33).toInt := e51
                replace e52 : (cf39 37).toInt = (cf6 37).toInt := e52
                replace e53 : (cf39 38).toInt = (cf6 38).toInt := e53
                replace e54 : (cf39 41).toInt = (cf6 41).toInt := e54
                replace e55 : (cf39 42).toInt = z34.toInt := e55
                replace e56 : (cf39 43).toInt = (cf6 43).toInt := e56
                replace e57 : (cf39 44).toInt = (cf6 44).toInt := e57
                replace e58 : (cf39 45).toInt = (cf6 45).toInt := e58
                replace e59 : (cf39 46).toInt = (cf6 46).toInt := e59
                replace e60 : (cf39 47).toInt = (cf6 47).toInt := e60
                replace e61 : (cf39 55).toInt = (cf6 55).toInt := e61
                replace e62 : (cf39 57).toInt = (cf6 57).toInt := e62
                replace e63 : (cf39 58).toInt = (cf6 58).toInt := e63
                replace e64 : (cf39 59).toInt = (cf6 59).toInt := e64
                replace e65 : LyU ca_7 ca40 (cf6 48) (0 : Int32) (cf6 54) (1 : Int32) (txo (cf6 43).toInt) := e65
                have hlu : LyU ca_7 ca40 (cf6 48) (0 : Int32) (cf6 54) (1 : Int32) tx := (by rw [← htx]; exact (by rw [show (cf 43).toInt = (cf6 43).toInt by omega]; exact e65))
                have hcl_e65 : CaG ca_7 ca40 (cf39 33).toInt (cf6 48).toInt := cag_ly hlu (by first | with_reducible rfl | with_reducible assumption | omega) (by first | with_reducible rfl | with_reducible assumption | omega)
                have hsr : SyR ca40 ys (cf39 48).toInt (cf39 54).toInt tx := SyR.eq (SyR.ly (cells' := (cf39 54).toInt) (SyR.eq hsr (ns' := (cf6 48).toInt) (by first | with_reducible rfl | with_reducible assumption | omega) rfl) hlu rfl (by first | with_reducible rfl | with_reducible assumption | omega) (by first | with_reducible rfl | with_reducible assumption | omega) (by first | with_reducible rfl | with_reducible assumption | omega) ⟨by first | with_reducible rfl | with_reducible assumption | omega, by first | with_reducible rfl | with_reducible assumption | omega⟩ ⟨by first | with_reducible rfl | with_reducible assumption | omega, by first | with_reducible rfl | with_reducible assumption | omega⟩ (fun q => by first | with_reducible rfl | with_reducible assumption | omega) (fun q => by first | with_reducible rfl | with_reducible assumption | omega) (fun q => by first | with_reducible rfl | with_reducible assumption | omega)) (by first | with_reducible rfl | with_reducible assumption | omega) rfl
                have hkt := hkt.cg hcl_e65 (by first | with_reducible rfl | with_reducible assumption | omega)
                have hks := hks.cg hcl_e65 (by first | with_reducible rfl | with_reducible assumption | omega) (by first | with_reducible rfl | with_reducible assumption | omega) (n2 := (cf39 48).toInt) (by first | with_reducible rfl | with_reducible assumption | omega)
                have hcg := hcg.tr hcl_e65 (by first | with_reducible rfl | with_reducible assumption | omega) (by first | with_reducible rfl | with_reducible assumption | omega)
                have hft := hft.cg hcl_e65
                have hfp := hfp.cg hcl_e65
                have hzts : ZTs cf39 ta ca40 na ma0 (cf39 48).toInt ys nf ma_7 lo mid_7 (na 17 p0.toNatClampNeg) x7_3 tv := ZTs.tr hzts (fun q => by first | with_reducible rfl | with_reducible assumption | omega) (FrC.rf (lo := 0) (hi := 0)) (by first | with_reducible rfl | with_reducible assumption | omega) hcl_e65 (by first | with_reducible rfl | with_reducible assumption | omega) (by first | with_reducible rfl | with_reducible assumption | omega)
                have hs49 : (ca40 49 (cf6 48).toNatClampNeg).toInt = (0 : Int) := (by rw [hlu.2.1 (by first | with_reducible rfl | with_reducible assumption | omega) (by first | with_reducible rfl | with_reducible assumption | omega)]; rfl)
                have hs52 : (ca40 52 (cf6 48).toNatClampNeg).toInt = (1 : Int) := (by rw [hlu.2.2.2.1]; rfl)
                have hsy : SyV ca40 (cf39 48).toInt ys (cf6 48) := hlu.sv (by first | with_reducible rfl | with_reducible assumption | omega) (by first | with_reducible rfl | with_reducible assumption | omega) ⟨by first | with_reducible rfl | with_reducible assumption | omega, by first | with_reducible rfl | with_reducible assumption | omega⟩ (by first | with_reducible rfl | with_reducible assumption | omega)
                have hs3 : Sy3 ca40 (cf 48).toInt (cf39 48).toInt := Sy3.eq (Sy3.ly (Sy3.eq hs3 (b' := (cf6 48).toInt) (by first | with_reducible rfl | with_reducible assumption | omega)) hlu rfl (by first | with_reducible rfl | with_reducible assumption | omega) (by first | with_reducible rfl | with_reducible assumption | omega)) (by first | with_reducible rfl | with_reducible assumption | omega)
                have hwr : WrV cf39 (tf 6).toInt := WrV.eq hwr (by first | with_reducible rfl | with_reducible assumption | omega) (by first | with_reducible rfl | with_reducible assumption | omega)
                replace hw : pw D A s.heap H locs [wdP cs h r g tf ta pf na ma_7 wa cf39 ca40 ef ea xf xa] := hw
                have lv42 := Int32.le_toInt v42
                have uv42 := Int32.toInt_lt v42
                have hyv : (cf6 48) = v42 := i_eq.mpr (by first | with_reducible rfl | with_reducible assumption | omega); rw [hyv] at hsy hs49 hs52
                refine px_iast S hT hw 0 16 (n := 2100) (f := (ma_7 20)) (x := x7_3) (y := v42) rfl gp_20 (vp_in_iff.mpr (by constructor <;> omega)) d_Mpg_declare_208 (w' := wdP cs h r g tf ta pf na (va_up ma_7 20 (upd (ma_7 20) x7_3.toNatClampNeg v42)) wa cf39 ca40 ef ea xf xa) (ps' := [wdP cs h r g tf ta pf na (va_up ma_7 20 (upd (ma_7 20) x7_3.toNatClampNeg v42)) wa cf39 ca40 ef ea xf xa]) sp_20 rfl (fun H locs hw => ?_)
                obtain ⟨ma66, hu_ma66⟩ : ∃ y : Nat → Nat → Int32, y = va_up ma_7 20 (upd (ma_7 20) x7_3.toNatClampNeg v42) := ⟨_, rfl⟩
                have hw : pw D A s.heap _ _ [wdP cs h r g tf ta pf na ma66 wa cf39 ca40 ef ea xf xa] := (by rw [hu_ma66]; exact hw)
                have hf1_ma66 : FrC x7_3.toInt (x7_3.toInt + 1) ma_7 ma66 := (by rw [hu_ma66]; exact FrC.w FrC.rf (by first | with_reducible rfl | with_reducible assumption | omega) (by first | with_reducible rfl | with_reducible assumption | omega) (by first | with_reducible rfl | with_reducible assumption | omega))
                have han : Ann na ma0 ma66 := (by rw [hu_ma66]; exact Ann.w20 han (by first | with_reducible rfl | with_reducible assumption | omega))
                have hfc := hfc.tr hf1_ma66 (by first | with_reducible rfl | with_reducible assumption | omega) (by first | with_reducible rfl | with_reducible assumption | omega)
                have hzts : ZTs cf39 ta ca40 na ma0 (cf39 48).toInt ys nf ma66 lo mid_7 (na 17 p0.toNatClampNeg) x7_3 tv := ZTs.tr hzts (fun q => by first | with_reducible rfl | with_reducible assumption | omega) hf1_ma66 (by first | with_reducible rfl | with_reducible assumption | omega) (CaG.rf (kn := 0) (ns := 5000)) (by first | with_reducible rfl | with_reducible assumption | omega) (by first | with_reducible rfl | with_reducible assumption | omega)
                have hv_20_x7_3 : ma66 20 x7_3.toNatClampNeg = v42 := (by rw [hu_ma66, va_up_s, pk_us])
                have hnhv_20_x7_3 : (ma66 20 x7_3.toNatClampNeg).toInt = v42.toInt := (by rw [hv_20_x7_3])
                refine lv_aload_n S.x S.b d_Mpg_declare_209 rfl (lv_at hl 1 rfl) ?_
                refine lv_iload S.x S.b d_Mpg_declare_210 (lv_at hl 0 rfl) ?_
                refine lv_iconst (v := 1) S.x S.b d_Mpg_declare_212 (by decide) ?_
                refine lv_iconst (v := 0) S.x S.b d_Mpg_declare_213 (by decide) ?_
                refine lv_aload_n S.x S.b d_Mpg_declare_214 rfl (lv_at hl 1 rfl) ?_
                refine px_get S k_Mpg hT hw 0 0 20 (v := .ref (r 20)) rfl rfl rfl (by decide) m10_6 d_Mpg_declare_215 ?_
                refine lv_iload_n S.x S.b d_Mpg_declare_218 rfl (lv_at hl 4 rfl) ?_
                refine px_iald S hT hw 0 16 (n := 2100) (f := (ma66 20)) rfl gp_20 (x := x7_3) (vp_in_iff.mpr (by constructor <;> omega)) d_Mpg_declare_219 ?_
                refine lv_topi (fun z67 ez67 => ?_)
                have lz67 := Int32.le_toInt z67
                have uz67 := Int32.toInt_lt z67
                have hsz67 : v42 = z67 := (ez67.trans hv_20_x7_3).symm; subst hsz67
                refine px_callv (pr := []) (px_runV (As := [.int z4, .int 1, .int 0, .int v42]) (rest := []) S (c_mp_know l D cs h r g tf ta pf na ma66 wa ef ea xf xa cf39 ca40 z4 1 0 v42  (show 0 ≤ (cf39 33).toInt from by first | exact oz_9bcc310e9c e51 e11 k7_12 g4 | omega) (show (cf39 33).toInt < 1100 from by first | exact oz_75b62dc8f3 e51 e11 k7_13 g6 k7_31 | omega) htk _) hT (pr := []) (pcs := [wdP cs h r g tf ta pf na ma66 wa cf39 ca40 ef ea xf xa]) hw px_X.tt (px_recv hT hw 0 0 rfl rfl rfl) m12_193 m12_190 m12_192 ms_12_1 m1_21 q_Mpg_know ⟨show 0 + 1 ≤ (4 * d + 22) from by first | with_reducible rfl | with_reducible assumption | omega, show 8 + (5 + 11) + 0 ≤ (200 * d + 780) from by first | with_reducible rfl | with_reducible assumption | omega⟩ hl.1 rfl (Nat.le_of_ble_eq_true rfl) d_Mpg_declare_220 ⟨Nat.le_of_ble_eq_true rfl, Nat.le_of_ble_eq_true rfl⟩) hw hA (fun p72 H locs hp72 hw => ?_)
                obtain ⟨cf70, ca71, rfl, e74, e75, e76, e77, e78, e79, e80, e81, e82, e83, e84, e85, e86, e87, e88, e89, e90, e91, e92⟩ := hp72
                replace e74 : (cf70 33).toInt = (cf39 33).toInt + 1 := e74
                replace e75 : (cf70 30).toInt = (cf39 30).toInt := e75
                replace e76 : (cf70 31).toInt = (cf39 31).toInt := e76
                replace e77 : (cf70 37).toInt = (cf39 37).toInt := e77
                replace e78 : (cf70 38).toInt = (cf39 38).toInt := e78
                replace e79 : (cf70 41).toInt = (cf39 41).toInt := e79
                replace e80 : (cf70 42).toInt = (cf39 42).toInt := e80
                replace e81 : (cf70 43).toInt = (cf39 43).toInt := e81
                replace e82 : (cf70 44).toInt = (cf39 44).toInt := e82
                replace e83 : (cf70 45).toInt = (cf39 45).toInt := e83
                replace e84 : (cf70 46).toInt = (cf39 46).toInt := e84
                replace e85 : (cf70 47).toInt = (cf39 47).toInt := e85
                replace e86 : (cf70 48).toInt = (cf39 48).toInt := e86
                replace e87 : (cf70 54).toInt = (cf39 54).toInt := e87
                replace e88 : (cf70 55).toInt = (cf39 55).toInt := e88
                replace e89 : (cf70 57).toInt = (cf39 57).toInt := e89
                replace e90 : (cf70 58).toInt = (cf39 58).toInt := e90
                replace e91 : (cf70 59).toInt = (cf39 59).toInt := e91
                replace e92 : KwU ca40 ca71 (cf39 33) z4 (1 : Int32) (0 : Int32) v42 := e92
                have hcw_e92 : CaG ca40 ca71 (cf39 33).toInt (cf70 48).toInt := cag_kw e92 (by first | with_reducible rfl | with_reducible assumption | omega) (by first | with_reducible rfl | with_reducible assumption | omega)
                have hkt : KnT (tf 6).toInt ca71 (cf70 33).toInt := KnT.eq (KnT.kw (KnT.eq hkt (n' := (cf39 33).toInt) (by first | with_reducible rfl | with_reducible assumption | omega)) e92 rfl (by first | with_reducible rfl | with_reducible assumption | omega) (by first | with_reducible rfl | with_reducible assumption | omega) ⟨by first | with_reducible rfl | with_reducible assumption | omega, by first | with_reducible rfl | with_reducible assumption | omega⟩) (by first | with_reducible rfl | with_reducible assumption | omega)
                have hks : KnS ca71 (cf70 33).toInt (cf70 48).toInt ys := KnS.eq (KnS.kw (KnS.eq hks (n' := (cf39 33).toInt) (by first | with_reducible rfl | with_reducible assumption | omega) rfl) e92 rfl (by first | with_reducible rfl | with_reducible assumption | omega) (Or.inl ⟨by first | with_reducible rfl | with_reducible assumption | omega, hsy⟩)) (by first | with_reducible rfl | with_reducible assumption | omega) (by first | with_reducible rfl | with_reducible assumption | omega)
                have hcg := hcg.tr hcw_e92 (by first | with_reducible rfl | with_reducible assumption | omega) (by first | with_reducible rfl | with_reducible assumption | omega)
                have hft := hft.cg hcw_e92
                have hfp := hfp.cg hcw_e92
                have hsr := hsr.cg hcw_e92 (by first | with_reducible rfl | with_reducible assumption | omega)
                have hzts : ZTs cf70 ta ca71 na ma0 (cf70 48).toInt ys nf ma66 lo mid_7 (na 17 p0.toNatClampNeg) x7_3 tv := ZTs.tr hzts (fun q => by first | with_reducible rfl | with_reducible assumption | omega) (FrC.rf (lo := 0) (hi := 0)) (by first | with_reducible rfl | with_reducible assumption | omega) hcw_e92 (by first | with_reducible rfl | with_reducible assumption | omega) (by first | with_reducible rfl | with_reducible assumption | omega)
                have hs3 : Sy3 ca71 (cf 48).toInt (cf70 48).toInt := Sy3.eq (hs3.cg hcw_e92 (by first | with_reducible rfl | with_reducible assumption | omega)) (by first | with_reducible rfl | with_reducible assumption | omega)
                have hsb_e92 := hsy.1.1
                have hcy_e92 := cl_nat (x := v42) (by first | exact oz_016f458179 hcy_e92 | omega)
                have hs49 : (ca71 49 v42.toNatClampNeg).toInt = _ := (congrArg Int32.toInt (hcw_e92.2.2 _ (by first | with_reducible rfl | with_reducible assumption | omega)).1).trans hs49
                have hs52 : (ca71 52 v42.toNatClampNeg).toInt = _ := (congrArg Int32.toInt (hcw_e92.2.2 _ (by first | with_reducible rfl | with_reducible assumption | omega)).2.2.2).trans hs52
                have hsy : SyV ca71 (cf70 48).toInt ys v42 := hsy.cg hcw_e92 (by first | with_reducible rfl | with_reducible assumption | omega) (by first | with_reducible rfl | with_reducible assumption | omega)
                have hwr : WrV cf70 (tf 6).toInt := WrV.eq hwr (by first | with_reducible rfl | with_reducible assumption | omega) (by first | with_reducible rfl | with_reducible assumption | omega)
                replace hw : pw D A s.heap H locs [wdP cs h r g tf ta pf na ma66 wa cf70 ca71 ef ea xf xa] := hw
                refine lv_aload_n S.x S.b d_Mpg_declare_223 rfl (lv_at hl 1 rfl) ?_
                refine px_get S k_Mpg hT hw 0 0 21 (v := .ref (r 21)) rfl rfl rfl (by decide) m10_7 d_Mpg_declare_224 ?_
                refine lv_iload_n S.x S.b d_Mpg_declare_227 rfl (lv_at hl 4 rfl) ?_
                refine px_iald S hT hw 0 17 (n := 2100) (f := (na 21)) rfl gp_21 (x := x7_3) (vp_in_iff.mpr (by constructor <;> omega)) d_Mpg_declare_228 ?_
                refine lv_topi (fun z93 ez93 => ?_)
                have lz93 := Int32.le_toInt z93
                have uz93 := Int32.toInt_lt z93
                refine lv_istore_n (lv' := [(3, .int z93), (4, .int z4), (0, .ref h), (1, .int p0), (2, .int p1)]) S.x S.b d_Mpg_declare_229 rfl hl (by decide) rfl (fun ls hl => ?_)
                refine lv_goto (tgt := 7) S.x S.b d_Mpg_declare_230 (by decide) ?_
                exact ih7 ma66 cf70 ca71 md2 (wr_7 - wv3) z93 _ _ ls (show (cf70 30).toInt = 0 → (cf 30).toInt = 0 from by first | with_reducible rfl | with_reducible assumption | omega) (show WrV cf70 (tf 6).toInt from hwr) (show (cf70 37).toInt = (cf 37).toInt from by first | exact oz_ff3084e3c1 k7_2 e77 e17 e52 | omega) (show (cf70 38).toInt = (cf 38).toInt from by first | exact oz_ff3084e3c1 k7_3 e78 e12 e53 | omega) (show (cf70 43).toInt = (cf 43).toInt from by first | exact oz_ff3084e3c1 k7_4 e81 e19 e56 | omega) (show (cf70 44).toInt = (cf 44).toInt from by first | exact oz_ff3084e3c1 k7_5 e82 e20 e57 | omega) (show (cf70 45).toInt = (cf 45).toInt from by first | exact oz_ff3084e3c1 k7_6 e83 e21 e58 | omega) (show (cf70 46).toInt = (cf 46).toInt from by first | exact oz_ff3084e3c1 k7_7 e84 e14 e59 | omega) (show (cf70 47).toInt = (cf 47).toInt from by first | exact oz_ff3084e3c1 k7_8 e85 e15 e60 | omega) (show (cf70 41).toInt = (cf 41).toInt from by first | exact oz_ff3084e3c1 k7_9 e79 e26 e54 | omega) (show (cf70 55).toInt = (cf 55).toInt from by first | exact oz_ff3084e3c1 k7_10 e88 e23 e61 | omega) (show (cf70 59).toInt = (cf 59).toInt from by first | exact oz_ff3084e3c1 k7_11 e91 e25 e64 | omega) (show (cf 33).toInt ≤ (cf70 33).toInt from by first | exact oz_6e66b3a32a k7_12 e74 e11 e51 | omega) (show 6 * (cf70 33).toInt ≤ 6 * (cf 33).toInt + (w - (wr_7 - wv3)) from by first | with_reducible rfl | with_reducible assumption | omega) (show (cf 48).toInt ≤ (cf70 48).toInt from by first | exact oz_c39670368a k7_20 e86 k7_16 k7_18 e13 hsb_e92.2 | omega) (show 6 * (cf70 48).toInt ≤ 6 * (cf 48).toInt + (w - (wr_7 - wv3)) from by first | with_reducible rfl | with_reducible assumption | omega) (show (cf 54).toInt ≤ (cf70 54).toInt from by first | exact oz_72984fb0b0 k7_16 e87 e22 e45 | omega) (show (cf 42).toInt ≤ (cf70 42).toInt from by first | exact oz_3cace5bd24 k7_17 e80 e18 e55 tz34 | omega) (show (cf70 54).toInt - (cf 54).toInt ≤ 4 * ((cf70 42).toInt - (cf 42).toInt) from by first | exact oz_8ad522f9ea k7_18 e80 e87 e18 e22 e55 e47 tz34 | omega) (show (cf70 54).toInt - (cf 54).toInt ≤ 4096 * ((cf70 48).toInt - (cf 48).toInt) from by first | exact oz_fe11ac0579 k7_19 e86 e87 e13 e22 e46 hsb_e92.2 | omega) (show (cf70 42).toInt - (cf 42).toInt ≤ 4096 * ((cf70 48).toInt - (cf 48).toInt) from by first | exact oz_db48280d0f k7_20 e80 e86 e13 e18 e55 hsb_e92.2 tz34 | omega) (show KnT (tf 6).toInt ca71 (cf70 33).toInt from (KnT.eq hkt (by first | with_reducible rfl | with_reducible assumption | omega))) (show KnS ca71 (cf70 33).toInt (cf70 48).toInt ys from (KnS.eq hks (by first | with_reducible rfl | with_reducible assumption | omega) (by first | with_reducible rfl | with_reducible assumption | omega))) (show CaG ca ca71 (cf 33).toInt (cf 48).toInt from (hcg.le (by first | with_reducible rfl | with_reducible assumption | omega) (by first | with_reducible rfl | with_reducible assumption | omega))) (show SyR ca71 ys (cf70 48).toInt (cf70 54).toInt tx from (SyR.eq hsr (by first | with_reducible rfl | with_reducible assumption | omega) (by first | with_reducible rfl | with_reducible assumption | omega))) (show Ann na ma0 ma66 from han) (show FrC lo hi ma ma66 from hfc) (show Sy3 ca71 (cf 48).toInt (cf70 48).toInt from (Sy3.eq hs3 (by first | with_reducible rfl | with_reducible assumption | omega))) (show lo ≤ md2 from by first | exact hm1_md2 | omega) (show p0.toInt + 1 ≤ md2 from by first | with_reducible rfl | with_reducible assumption | omega) (show md2 ≤ hi from by first | exact hm2_md2 | omega) (show 0 ≤ (wr_7 - wv3) from by first | with_reducible rfl | with_reducible assumption | omega) (show (wr_7 - wv3) ≤ w from by first | with_reducible rfl | with_reducible assumption | omega) (show RvV ta (tf 6).toInt na ma0 d md2 hi (wr_7 - wv3) z93 from (by rw [ez93]; exact hrv2)) (show ZTs cf70 ta ca71 na ma0 (cf70 48).toInt ys nf ma66 lo md2 (na 17 p0.toNatClampNeg) z93 tv from (ZTs.nx (ZTs.to hzts (fun q => by first | with_reducible rfl | with_reducible assumption | omega) (by first | with_reducible rfl | with_reducible assumption | omega) (Int.le_refl _) (by first | with_reducible rfl | with_reducible assumption | omega) rfl) (show ZTe cf70 ta ca71 na ma0 (cf70 48).toInt ys nf ma66 lo md2 x7_3 tv from (fun zz => tyv_1 ⟨by first | with_reducible rfl | with_reducible assumption | omega, by first | with_reducible rfl | with_reducible assumption | omega, by first | with_reducible rfl | with_reducible assumption | omega⟩ (by first | with_reducible rfl | with_reducible assumption | omega) (by first | with_reducible rfl | with_reducible assumption | omega) (by rw [hv_20_x7_3]; exact hsy) rfl (Or.inl (by rw [Ann.v22 han (by first | with_reducible rfl | with_reducible assumption | omega)]; have q9 := VcV.v10 hvc_x7_3 (by first | with_reducible rfl | with_reducible assumption | omega); omega)))) (by first | with_reducible rfl | with_reducible assumption | omega) ez93)) (show hi - md2 < (n_7 : Int) from by first | with_reducible rfl | with_reducible assumption | omega) hw (lv_sub hl [2, 3, 4, 0] rfl)
              · have nc36 : z35.toInt = (1 : Int) := (i_eq (x := z35) (y := 1)).mp c36
                refine lv_iconst (v := 1) S.x S.b d_Mpg_declare_199 (by decide) ?_
                refine lv_goto (tgt := 204) S.x S.b d_Mpg_declare_200 (by decide) ?_
                refine lv_iconst (v := 1) S.x S.b d_Mpg_declare_204 (by decide) ?_
                refine px_calli (pr := []) (px_runV (As := [.int 1, .int 1]) (rest := [.int x7_3, .ref (r 20)]) S (c_mp_lay l D cs h r g tf ta pf na ma_7 wa ef ea xf xa (upd cf6 42 z34) ca_7 1 1  (show 0 ≤ (cf6 48).toInt from by first | exact oz_cfab8a20ba e13 k7_20 g14 g15 k7_16 k7_18 | omega) (show (cf6 48).toInt < 1100 from by first | exact oz_b0b3c00e64 e13 k7_15 g8 k7_31 | omega) (show 0 ≤ (1 : Int) from by first | decide | omega) (show (1 : Int) ≤ 5 from by first | decide | omega) (show 0 ≤ (1 : Int) from by first | decide | omega) (show (1 : Int) ≤ 4096 from by first | decide | omega) (show 0 ≤ (cf6 54).toInt from by first | exact oz_9921a0d148 e22 k7_16 g12 | omega) (show (cf6 54).toInt ≤ 40000000 from by first | exact oz_8fa6d0de1e e22 k7_19 g8 g13 k7_15 k7_31 | omega) htk _) hT (pr := []) (pcs := [wdP cs h r g tf ta pf na ma_7 wa (upd cf6 42 z34) ca_7 ef ea xf xa]) hw px_X.tt (px_recv hT hw 0 0 rfl rfl rfl) m12_189 m12_186 m12_188 ms_12_0 m1_21 q_Mpg_lay ⟨show 0 + 1 ≤ (4 * d + 22) from by first | with_reducible rfl | with_reducible assumption | omega, show 8 + (3 + 11) + 0 ≤ (200 * d + 780) from by first | with_reducible rfl | with_reducible assumption | omega⟩ hl.1 rfl (Nat.le_of_ble_eq_true rfl) d_Mpg_declare_205 ⟨Nat.le_of_ble_eq_true rfl, Nat.le_of_ble_eq_true rfl⟩) hw hA (fun v99 p98 H locs hp98 hw => ?_)
                obtain ⟨cf96, ca97, rfl, e100, e101, e102, e103, e104, e105, e106, e107, e108, e109, e110, e111, e112, e113, e114, e115, e116, e117, e118, e119, e120, e121, e122⟩ := hp98
                replace e100 : v99.toInt = (cf6 48).toInt := e100
                replace e101 : (cf96 48).toInt = (cf6 48).toInt + 1 := e101
                replace e102 : (cf6 54).toInt ≤ (cf96 54).toInt := e102
                replace e103 : (cf96 54).toInt ≤ (cf6 54).toInt + 4096 := e103
                replace e104 : (1 : Int) ≤ 3 → (cf96 54).toInt = (cf6 54).toInt + (1 : Int) := e104
                replace e105 : 4 ≤ (1 : Int) → (cf96 54).toInt = (cf6 54).toInt + 2 := e105
                replace e106 : (cf96 30).toInt = (cf6 30).toInt := e106
                replace e107 : (cf96 31).toInt = (cf6 31).toInt := e107
                replace e108 : (cf96 33).toInt = (cf6 33).toInt := e108
                replace e109 : (cf96 37).toInt = (cf6 37).toInt := e109
                replace e110 : (cf96 38).toInt = (cf6 38).toInt := e110
                replace e111 : (cf96 41).toInt = (cf6 41).toInt := e111
                replace e112 : (cf96 42).toInt = z34.toInt := e112
                replace e113 : (cf96 43).toInt = (cf6 43).toInt := e113
                replace e114 : (cf96 44).toInt = (cf6 44).toInt := e114
                replace e115 : (cf96 45).toInt = (cf6 45).toInt := e115
                replace e116 : (cf96 46).toInt = (cf6 46).toInt := e116
                replace e117 : (cf96 47).toInt = (cf6 47).toInt := e117
                replace e118 : (cf96 55).toInt = (cf6 55).toInt := e118
                replace e119 : (cf96 57).toInt = (cf6 57).toInt := e119
                replace e120 : (cf96 58).toInt = (cf6 58).toInt := e120
                replace e121 : (cf96 59).toInt = (cf6 59).toInt := e121
                replace e122 : LyU ca_7 ca97 (cf6 48) (1 : Int32) (cf6 54) (1 : Int32) (txo (cf6 43).toInt) := e122
                have hlu : LyU ca_7 ca97 (cf6 48) (1 : Int32) (cf6 54) (1 : Int32) tx := (by rw [← htx]; exact (by rw [show (cf 43).toInt = (cf6 43).toInt by omega]; exact e122))
                have hcl_e122 : CaG ca_7 ca97 (cf96 33).toInt (cf6 48).toInt := cag_ly hlu (by first | with_reducible rfl | with_reducible assumption | omega) (by first | with_reducible rfl | with_reducible assumption | omega)
                have hsr : SyR ca97 ys (cf96 48).toInt (cf96 54).toInt tx := SyR.eq (SyR.ly (cells' := (cf96 54).toInt) (SyR.eq hsr (ns' := (cf6 48).toInt) (by first | with_reducible rfl | with_reducible assumption | omega) rfl) hlu rfl (by first | with_reducible rfl | with_reducible assumption | omega) (by first | with_reducible rfl | with_reducible assumption | omega) (by first | with_reducible rfl | with_reducible assumption | omega) ⟨by first | with_reducible rfl | with_reducible assumption | omega, by first | with_reducible rfl | with_reducible assumption | omega⟩ ⟨by first | with_reducible rfl | with_reducible assumption | omega, by first | with_reducible rfl | with_reducible assumption | omega⟩ (fun q => by first | with_reducible rfl | with_reducible assumption | omega) (fun q => by first | with_reducible rfl | with_reducible assumption | omega) (fun q => by first | with_reducible rfl | with_reducible assumption | omega)) (by first | with_reducible rfl | with_reducible assumption | omega) rfl
                have hkt := hkt.cg hcl_e122 (by first | with_reducible rfl | with_reducible assumption | omega)
                have hks := hks.cg hcl_e122 (by first | with_reducible rfl | with_reducible assumption | omega) (by first | with_reducible rfl | with_reducible assumption | omega) (n2 := (cf96 48).toInt) (by first | with_reducible rfl | with_reducible assumption | omega)
                have hcg := hcg.tr hcl_e122 (by first | with_reducible rfl | with_reducible assumption | omega) (by first | with_reducible rfl | with_reducible assumption | omega)
                have hft := hft.cg hcl_e122
                have hfp := hfp.cg hcl_e122
                have hzts : ZTs cf96 ta ca97 na ma0 (cf96 48).toInt ys nf ma_7 lo mid_7 (na 17 p0.toNatClampNeg) x7_3 tv := ZTs.tr hzts (fun q => by first | with_reducible rfl | with_reducible assumption | omega) (FrC.rf (lo := 0) (hi := 0)) (by first | with_reducible rfl | with_reducible assumption | omega) hcl_e122 (by first | with_reducible rfl | with_reducible assumption | omega) (by first | with_reducible rfl | with_reducible assumption | omega)
                have hs49 : (ca97 49 (cf6 48).toNatClampNeg).toInt = (1 : Int) := (by rw [hlu.2.1 (by first | with_reducible rfl | with_reducible assumption | omega) (by first | with_reducible rfl | with_reducible assumption | omega)]; rfl)
                have hs52 : (ca97 52 (cf6 48).toNatClampNeg).toInt = (1 : Int) := (by rw [hlu.2.2.2.1]; rfl)
                have hsy : SyV ca97 (cf96 48).toInt ys (cf6 48) := hlu.sv (by first | with_reducible rfl | with_reducible assumption | omega) (by first | with_reducible rfl | with_reducible assumption | omega) ⟨by first | with_reducible rfl | with_reducible assumption | omega, by first | with_reducible rfl | with_reducible assumption | omega⟩ (by first | with_reducible rfl | with_reducible assumption | omega)
                have hs3 : Sy3 ca97 (cf 48).toInt (cf96 48).toInt := Sy3.eq (Sy3.ly (Sy3.eq hs3 (b' := (cf6 48).toInt) (by first | with_reducible rfl | with_reducible assumption | omega)) hlu rfl (by first | with_reducible rfl | with_reducible assumption | omega) (by first | with_reducible rfl | with_reducible assumption | omega)) (by first | with_reducible rfl | with_reducible assumption | omega)
                have hwr : WrV cf96 (tf 6).toInt := WrV.eq hwr (by first | with_reducible rfl | with_reducible assumption | omega) (by first | with_reducible rfl | with_reducible assumption | omega)
                replace hw : pw D A s.heap H locs [wdP cs h r g tf ta pf na ma_7 wa cf96 ca97 ef ea xf xa] := hw
                have lv99 := Int32.le_toInt v99
                have uv99 := Int32.toInt_lt v99
                have hyv : (cf6 48) = v99 := i_eq.mpr (by first | with_reducible rfl | with_reducible assumption | omega); rw [hyv] at hsy hs49 hs52
                refine px_iast S hT hw 0 16 (n := 2100) (f := (ma_7 20)) (x := x7_3) (y := v99) rfl gp_20 (vp_in_iff.mpr (by constructor <;> omega)) d_Mpg_declare_208 (w' := wdP cs h r g tf ta pf na (va_up ma_7 20 (upd (ma_7 20) x7_3.toNatClampNeg v99)) wa cf96 ca97 ef ea xf xa) (ps' := [wdP cs h r g tf ta pf na (va_up ma_7 20 (upd (ma_7 20) x7_3.toNatClampNeg v99)) wa cf96 ca97 ef ea xf xa]) sp_20 rfl (fun H locs hw => ?_)
                obtain ⟨ma123, hu_ma123⟩ : ∃ y : Nat → Nat → Int32, y = va_up ma_7 20 (upd (ma_7 20) x7_3.toNatClampNeg v99) := ⟨_, rfl⟩
                have hw : pw D A s.heap _ _ [wdP cs h r g tf ta pf na ma123 wa cf96 ca97 ef ea xf xa] := (by rw [hu_ma123]; exact hw)
                have hf1_ma123 : FrC x7_3.toInt (x7_3.toInt + 1) ma_7 ma123 := (by rw [hu_ma123]; exact FrC.w FrC.rf (by first | with_reducible rfl | with_reducible assumption | omega) (by first | with_reducible rfl | with_reducible assumption | omega) (by first | with_reducible rfl | with_reducible assumption | omega))
                have han : Ann na ma0 ma123 := (by rw [hu_ma123]; exact Ann.w20 han (by first | with_reducible rfl | with_reducible assumption | omega))
                have hfc := hfc.tr hf1_ma123 (by first | with_reducible rfl | with_reducible assumption | omega) (by first | with_reducible rfl | with_reducible assumption | omega)
                have hzts : ZTs cf96 ta ca97 na ma0 (cf96 48).toInt ys nf ma123 lo mid_7 (na 17 p0.toNatClampNeg) x7_3 tv := ZTs.tr hzts (fun q => by first | with_reducible rfl | with_reducible assumption | omega) hf1_ma123 (by first | with_reducible rfl | with_reducible assumption | omega) (CaG.rf (kn := 0) (ns := 5000)) (by first | with_reducible rfl | with_reducible assumption | omega) (by first | with_reducible rfl | with_reducible assumption | omega)
                have hv_20_x7_3 : ma123 20 x7_3.toNatClampNeg = v99 := (by rw [hu_ma123, va_up_s, pk_us])
                have hnhv_20_x7_3 : (ma123 20 x7_3.toNatClampNeg).toInt = v99.toInt := (by rw [hv_20_x7_3])
                refine lv_aload_n S.x S.b d_Mpg_declare_209 rfl (lv_at hl 1 rfl) ?_
                refine lv_iload S.x S.b d_Mpg_declare_210 (lv_at hl 0 rfl) ?_
                refine lv_iconst (v := 1) S.x S.b d_Mpg_declare_212 (by decide) ?_
                refine lv_iconst (v := 0) S.x S.b d_Mpg_declare_213 (by decide) ?_
                refine lv_aload_n S.x S.b d_Mpg_declare_214 rfl (lv_at hl 1 rfl) ?_
                refine px_get S k_Mpg hT hw 0 0 20 (v := .ref (r 20)) rfl rfl rfl (by decide) m10_6 d_Mpg_declare_215 ?_
                refine lv_iload_n S.x S.b d_Mpg_declare_218 rfl (lv_at hl 4 rfl) ?_
                refine px_iald S hT hw 0 16 (n := 2100) (f := (ma123 20)) rfl gp_20 (x := x7_3) (vp_in_iff.mpr (by constructor <;> omega)) d_Mpg_declare_219 ?_
                refine lv_topi (fun z124 ez124 => ?_)
                have lz124 := Int32.le_toInt z124
                have uz124 := Int32.toInt_lt z124
                have hsz124 : v99 = z124 := (ez124.trans hv_20_x7_3).symm; subst hsz124
                refine px_callv (pr := []) (px_runV (As := [.int z4, .int 1, .int 0, .int v99]) (rest := []) S (c_mp_know l D cs h r g tf ta pf na ma123 wa ef ea xf xa cf96 ca97 z4 1 0 v99  (show 0 ≤ (cf96 33).toInt from by first | exact oz_9bcc310e9c e108 e11 k7_12 g4 | omega) (show (cf96 33).toInt < 1100 from by first | exact oz_75b62dc8f3 e108 e11 k7_13 g6 k7_31 | omega) htk _) hT (pr := []) (pcs := [wdP cs h r g tf ta pf na ma123 wa cf96 ca97 ef ea xf xa]) hw px_X.tt (px_recv hT hw 0 0 rfl rfl rfl) m12_193 m12_190 m12_192 ms_12_1 m1_21 q_Mpg_know ⟨show 0 + 1 ≤ (4 * d + 22) from by first | with_reducible rfl | with_reducible assumption | omega, show 8 + (5 + 11) + 0 ≤ (200 * d + 780) from by first | with_reducible rfl | with_reducible assumption | omega⟩ hl.1 rfl (Nat.le_of_ble_eq_true rfl) d_Mpg_declare_220 ⟨Nat.le_of_ble_eq_true rfl, Nat.le_of_ble_eq_true rfl⟩) hw hA (fun p129 H locs hp129 hw => ?_)
                obtain ⟨cf127, ca128, rfl, e131, e132, e133, e134, e135, e136, e137, e138, e139, e140, e141, e142, e143, e144, e145, e146, e147, e148, e149⟩ := hp129
                replace e131 : (cf127 33).toInt = (cf96 33).toInt + 1 := e131
                replace e132 : (cf127 30).toInt = (cf96 30).toInt := e132
                replace e133 : (cf127 31).toInt = (cf96 31).toInt := e133
                replace e134 : (cf127 37).toInt = (cf96 37).toInt := e134
                replace e135 : (cf127 38).toInt = (cf96 38).toInt := e135
                replace e136 : (cf127 41).toInt = (cf96 41).toInt := e136
                replace e137 : (cf127 42).toInt = (cf96 42).toInt := e137
                replace e138 : (cf127 43).toInt = (cf96 43).toInt := e138
                replace e139 : (cf127 44).toInt = (cf96 44).toInt := e139
                replace e140 : (cf127 45).toInt = (cf96 45).toInt := e140
                replace e141 : (cf127 46).toInt = (cf96 46).toInt := e141
                replace e142 : (cf127 47).toInt = (cf96 47).toInt := e142
                replace e143 : (cf127 48).toInt = (cf96 48).toInt := e143
                replace e144 : (cf127 54).toInt = (cf96 54).toInt := e144
                replace e145 : (cf127 55).toInt = (cf96 55).toInt := e145
                replace e146 : (cf127 57).toInt = (cf96 57).toInt := e146
                replace e147 : (cf127 58).toInt = (cf96 58).toInt := e147
                replace e148 : (cf127 59).toInt = (cf96 59).toInt := e148
                replace e149 : KwU ca97 ca128 (cf96 33) z4 (1 : Int32) (0 : Int32) v99 := e149
                have hcw_e149 : CaG ca97 ca128 (cf96 33).toInt (cf127 48).toInt := cag_kw e149 (by first | with_reducible rfl | with_reducible assumption | omega) (by first | with_reducible rfl | with_reducible assumption | omega)
                have hkt : KnT (tf 6).toInt ca128 (cf127 33).toInt := KnT.eq (KnT.kw (KnT.eq hkt (n' := (cf96 33).toInt) (by first | with_reducible rfl | with_reducible assumption | omega)) e149 rfl (by first | with_reducible rfl | with_reducible assumption | omega) (by first | with_reducible rfl | with_reducible assumption | omega) ⟨by first | with_reducible rfl | with_reducible assumption | omega, by first | with_reducible rfl | with_reducible assumption | omega⟩) (by first | with_reducible rfl | with_reducible assumption | omega)
                have hks : KnS ca128 (cf127 33).toInt (cf127 48).toInt ys := KnS.eq (KnS.kw (KnS.eq hks (n' := (cf96 33).toInt) (by first | with_reducible rfl | with_reducible assumption | omega) rfl) e149 rfl (by first | with_reducible rfl | with_reducible assumption | omega) (Or.inl ⟨by first | with_reducible rfl | with_reducible assumption | omega, hsy⟩)) (by first | with_reducible rfl | with_reducible assumption | omega) (by first | with_reducible rfl | with_reducible assumption | omega)
                have hcg := hcg.tr hcw_e149 (by first | with_reducible rfl | with_reducible assumption | omega) (by first | with_reducible rfl | with_reducible assumption | omega)
                have hft := hft.cg hcw_e149
                have hfp := hfp.cg hcw_e149
                have hsr := hsr.cg hcw_e149 (by first | with_reducible rfl | with_reducible assumption | omega)
                have hzts : ZTs cf127 ta ca128 na ma0 (cf127 48).toInt ys nf ma123 lo mid_7 (na 17 p0.toNatClampNeg) x7_3 tv := ZTs.tr hzts (fun q => by first | with_reducible rfl | with_reducible assumption | omega) (FrC.rf (lo := 0) (hi := 0)) (by first | with_reducible rfl | with_reducible assumption | omega) hcw_e149 (by first | with_reducible rfl | with_reducible assumption | omega) (by first | with_reducible rfl | with_reducible assumption | omega)
                have hs3 : Sy3 ca128 (cf 48).toInt (cf127 48).toInt := Sy3.eq (hs3.cg hcw_e149 (by first | with_reducible rfl | with_reducible assumption | omega)) (by first | with_reducible rfl | with_reducible assumption | omega)
                have hsb_e149 := hsy.1.1
                have hcy_e149 := cl_nat (x := v99) (by first | exact oz_f3ebed1ad0 e100 hsb_e149.1 | omega)
                have hs49 : (ca128 49 v99.toNatClampNeg).toInt = _ := (congrArg Int32.toInt (hcw_e149.2.2 _ (by first | with_reducible rfl | with_reducible assumption | omega)).1).trans hs49
                have hs52 : (ca128 52 v99.toNatClampNeg).toInt = _ := (congrArg Int32.toInt (hcw_e149.2.2 _ (by first | with_reducible rfl | with_reducible assumption | omega)).2.2.2).trans hs52
                have hsy : SyV ca128 (cf127 48).toInt ys v99 := hsy.cg hcw_e149 (by first | with_reducible rfl | with_reducible assumption | omega) (by first | with_reducible rfl | with_reducible assumption | omega)
                have hwr : WrV cf127 (tf 6).toInt := WrV.eq hwr (by first | with_reducible rfl | with_reducible assumption | omega) (by first | with_reducible rfl | with_reducible assumption | omega)
                replace hw : pw D A s.heap H locs [wdP cs h r g tf ta pf na ma123 wa cf127 ca128 ef ea xf xa] := hw
                refine lv_aload_n S.x S.b d_Mpg_declare_223 rfl (lv_at hl 1 rfl) ?_
                refine px_get S k_Mpg hT hw 0 0 21 (v := .ref (r 21)) rfl rfl rfl (by decide) m10_7 d_Mpg_declare_224 ?_
                refine lv_iload_n S.x S.b d_Mpg_declare_227 rfl (lv_at hl 4 rfl) ?_
                refine px_iald S hT hw 0 17 (n := 2100) (f := (na 21)) rfl gp_21 (x := x7_3) (vp_in_iff.mpr (by constructor <;> omega)) d_Mpg_declare_228 ?_
                refine lv_topi (fun z150 ez150 => ?_)
                have lz150 := Int32.le_toInt z150
                have uz150 := Int32.toInt_lt z150
                refine lv_istore_n (lv' := [(3, .int z150), (4, .int z4), (0, .ref h), (1, .int p0), (2, .int p1)]) S.x S.b d_Mpg_declare_229 rfl hl (by decide) rfl (fun ls hl => ?_)
                refine lv_goto (tgt := 7) S.x S.b d_Mpg_declare_230 (by decide) ?_
                exact ih7 ma123 cf127 ca128 md2 (wr_7 - wv3) z150 _ _ ls (show (cf127 30).toInt = 0 → (cf 30).toInt = 0 from by first | with_reducible rfl | with_reducible assumption | omega) (show WrV cf127 (tf 6).toInt from hwr) (show (cf127 37).toInt = (cf 37).toInt from by first | exact oz_ff3084e3c1 k7_2 e134 e17 e109 | omega) (show (cf127 38).toInt = (cf 38).toInt from by first | exact oz_ff3084e3c1 k7_3 e135 e12 e110 | omega) (show (cf127 43).toInt = (cf 43).toInt from by first | exact oz_ff3084e3c1 k7_4 e138 e19 e113 | omega) (show (cf127 44).toInt = (cf 44).toInt from by first | exact oz_ff3084e3c1 k7_5 e139 e20 e114 | omega) (show (cf127 45).toInt = (cf 45).toInt from by first | exact oz_ff3084e3c1 k7_6 e140 e21 e115 | omega) (show (cf127 46).toInt = (cf 46).toInt from by first | exact oz_ff3084e3c1 k7_7 e141 e14 e116 | omega) (show (cf127 47).toInt = (cf 47).toInt from by first | exact oz_ff3084e3c1 k7_8 e142 e15 e117 | omega) (show (cf127 41).toInt = (cf 41).toInt from by first | exact oz_ff3084e3c1 k7_9 e136 e26 e111 | omega) (show (cf127 55).toInt = (cf 55).toInt from by first | exact oz_ff3084e3c1 k7_10 e145 e23 e118 | omega) (show (cf127 59).toInt = (cf 59).toInt from by first | exact oz_ff3084e3c1 k7_11 e148 e25 e121 | omega) (show (cf 33).toInt ≤ (cf127 33).toInt from by first | exact oz_6e66b3a32a k7_12 e131 e11 e108 | omega) (show 6 * (cf127 33).toInt ≤ 6 * (cf 33).toInt + (w - (wr_7 - wv3)) from by first | with_reducible rfl | with_reducible assumption | omega) (show (cf 48).toInt ≤ (cf127 48).toInt from by first | exact oz_c39670368a k7_20 e143 k7_16 k7_18 e13 hsb_e149.2 | omega) (show 6 * (cf127 48).toInt ≤ 6 * (cf 48).toInt + (w - (wr_7 - wv3)) from by first | with_reducible rfl | with_reducible assumption | omega) (show (cf 54).toInt ≤ (cf127 54).toInt from by first | exact oz_72984fb0b0 k7_16 e144 e22 e102 | omega) (show (cf 42).toInt ≤ (cf127 42).toInt from by first | exact oz_3cace5bd24 k7_17 e137 e18 e112 tz34 | omega) (show (cf127 54).toInt - (cf 54).toInt ≤ 4 * ((cf127 42).toInt - (cf 42).toInt) from by first | exact oz_e0d0c81028 k7_18 e137 e144 e18 e22 e112 e104 tz34 | omega) (show (cf127 54).toInt - (cf 54).toInt ≤ 4096 * ((cf127 48).toInt - (cf 48).toInt) from by first | exact oz_fe11ac0579 k7_19 e143 e144 e13 e22 e103 hsb_e149.2 | omega) (show (cf127 42).toInt - (cf 42).toInt ≤ 4096 * ((cf127 48).toInt - (cf 48).toInt) from by first | exact oz_db48280d0f k7_20 e137 e143 e13 e18 e112 hsb_e149.2 tz34 | omega) (show KnT (tf 6).toInt ca128 (cf127 33).toInt from (KnT.eq hkt (by first | with_reducible rfl | with_reducible assumption | omega))) (show KnS ca128 (cf127 33).toInt (cf127 48).toInt ys from (KnS.eq hks (by first | with_reducible rfl | with_reducible assumption | omega) (by first | with_reducible rfl | with_reducible assumption | omega))) (show CaG ca ca128 (cf 33).toInt (cf 48).toInt from (hcg.le (by first | with_reducible rfl | with_reducible assumption | omega) (by first | with_reducible rfl | with_reducible assumption | omega))) (show SyR ca128 ys (cf127 48).toInt (cf127 54).toInt tx from (SyR.eq hsr (by first | with_reducible rfl | with_reducible assumption | omega) (by first | with_reducible rfl | with_reducible assumption | omega))) (show Ann na ma0 ma123 from han) (show FrC lo hi ma ma123 from hfc) (show Sy3 ca128 (cf 48).toInt (cf127 48).toInt from (Sy3.eq hs3 (by first | with_reducible rfl | with_reducible assumption | omega))) (show lo ≤ md2 from by first | exact hm1_md2 | omega) (show p0.toInt + 1 ≤ md2 from by first | with_reducible rfl | with_reducible assumption | omega) (show md2 ≤ hi from by first | exact hm2_md2 | omega) (show 0 ≤ (wr_7 - wv3) from by first | with_reducible rfl | with_reducible assumption | omega) (show (wr_7 - wv3) ≤ w from by first | with_reducible rfl | with_reducible assumption | omega) (show RvV ta (tf 6).toInt na ma0 d md2 hi (wr_7 - wv3) z150 from (by rw [ez150]; exact hrv2)) (show ZTs cf127 ta ca128 na ma0 (cf127 48).toInt ys nf ma123 lo md2 (na 17 p0.toNatClampNeg) z150 tv from (ZTs.nx (ZTs.to hzts (fun q => by first | with_reducible rfl | with_reducible assumption | omega) (by first | with_reducible rfl | with_reducible assumption | omega) (Int.le_refl _) (by first | with_reducible rfl | with_reducible assumption | omega) rfl) (show ZTe cf127 ta ca128 na ma0 (cf127 48).toInt ys nf ma123 lo md2 x7_3 tv from (fun zz => tyv_1 ⟨by first | with_reducible rfl | with_reducible assumption | omega, by first | with_reducible rfl | with_reducible assumption | omega, by first | with_reducible rfl | with_reducible assumption | omega⟩ (by first | with_reducible rfl | with_reducible assumption | omega) (by first | with_reducible rfl | with_reducible assumption | omega) (by rw [hv_20_x7_3]; exact hsy) rfl (Or.inl (by rw [Ann.v22 han (by first | with_reducible rfl | with_reducible assumption | omega)]; have q9 := VcV.v10 hvc_x7_3 (by first | with_reducible rfl | with_reducible assumption | omega); omega)))) (by first | with_reducible rfl | with_reducible assumption | omega) ez150)) (show hi - md2 < (n_7 : Int) from by first | with_reducible rfl | with_reducible assumption | omega) hw (lv_sub hl [2, 3, 4, 0] rfl)
            · have nc32 : z31.toInt = (1 : Int) := (i_eq (x := z31) (y := 1)).mp c32
              exfalso
              omega
          · have nc30 : z29.toInt = (1 : Int) := (i_eq (x := z29) (y := 1)).mp c30
            refine lv_iload_n S.x S.b d_Mpg_declare_133 rfl (lv_at hl 3 rfl) ?_
            refine lv_if_eq (tgt := 151) S.x S.b d_Mpg_declare_134 (by decide) (fun c151 => ?_) (fun c151 => ?_)
            · have nc151 : p1.toInt = (0 : Int) := (i_eq (x := p1) (y := 0)).mp c151
              refine lv_aload_n S.x S.b d_Mpg_declare_151 rfl (lv_at hl 1 rfl) ?_
              refine px_get S k_Mpg hT hw 0 0 22 (v := .ref (r 22)) rfl rfl rfl (by decide) m10_9 d_Mpg_declare_152 ?_
              refine lv_iload_n S.x S.b d_Mpg_declare_155 rfl (lv_at hl 4 rfl) ?_
              refine px_iald S hT hw 0 18 (n := 2100) (f := (ma_7 22)) rfl gp_22 (x := x7_3) (vp_in_iff.mpr (by constructor <;> omega)) d_Mpg_declare_156 ?_
              refine lv_topi (fun z152 ez152 => ?_)
              have lz152 := Int32.le_toInt z152
              have uz152 := Int32.toInt_lt z152
              have rz152 : z152.toInt = (ma0 22 x7_3.toNatClampNeg).toInt := (by rw [ez152, Ann.v22 han (by first | with_reducible rfl | with_reducible assumption | omega)])
              refine lv_iconst (v := 1) S.x S.b d_Mpg_declare_157 (by decide) ?_
              refine lv_icmp_ne (tgt := 173) S.x S.b d_Mpg_declare_158 (by decide) (fun c153 => ?_) (fun c153 => ?_)
              · have nc153 : ¬ z152.toInt = (1 : Int) := mt (i_eq (x := z152) (y := 1)).mpr c153
                exfalso
                omega
              · have nc153 : z152.toInt = (1 : Int) := (i_eq (x := z152) (y := 1)).mp c153
                refine lv_aload_n S.x S.b d_Mpg_declare_161 rfl (lv_at hl 1 rfl) ?_
                refine lv_aload_n S.x S.b d_Mpg_declare_162 rfl (lv_at hl 1 rfl) ?_
                refine px_get S k_Mpg hT hw 0 0 18 (v := .ref (r 18)) rfl rfl rfl (by decide) m10_3 d_Mpg_declare_163 ?_
                refine lv_iload_n S.x S.b d_Mpg_declare_166 rfl (lv_at hl 4 rfl) ?_
                refine px_iald S hT hw 0 14 (n := 2100) (f := (ma_7 18)) rfl gp_18 (x := x7_3) (vp_in_iff.mpr (by constructor <;> omega)) d_Mpg_declare_167 ?_
                refine lv_topi (fun z154 ez154 => ?_)
                have lz154 := Int32.le_toInt z154
                have uz154 := Int32.toInt_lt z154
                have ha_z154 : z154 = ma0 18 x7_3.toNatClampNeg := ez154.trans (Ann.v18 han (by first | with_reducible rfl | with_reducible assumption | omega)); have hev_z154 := VcV.v11 hvc_x7_3 (by first | with_reducible rfl | with_reducible assumption | omega) (by first | with_reducible rfl | with_reducible assumption | omega) ha_z154; obtain ⟨hec_z154, h20_z154, hw_z154⟩ := hev_z154.ec; have hrg_z154 := EcV.rng hec_z154
                refine lv_iconst (v := 1) S.x S.b d_Mpg_declare_168 (by decide) ?_
                refine px_calli (pr := []) (px_runV (As := [.int z154, .int 1]) (rest := []) S (c_S_check l D cs ma0 ys (cf6 48).toInt nf (cf6 33).toInt d (x7_3.toInt + 1) md2 h r g tf ta pf na wa ca_7 ef ea xf xa ma_7 cf6 z154 1  (show 0 ≤ (x7_3.toInt + 1) from by first | exact oz_0073e084eb nc1 | omega) (show md2 ≤ (pf 13).toInt from by first | exact oz_bbb5b20c1a g1 hm2_md2 | omega) (show (pf 13).toInt ≤ 2100 from by first | exact g2 | omega) (show (tf 6).toInt ≤ 2049 from by first | exact g3 | omega) (show (cf6 33).toInt = (cf6 33).toInt from rfl) (show 0 ≤ (cf6 33).toInt from by first | exact oz_9921a0d148 e11 k7_12 g4 | omega) (show (cf6 48).toInt = (cf6 48).toInt from rfl) (show (cf6 38).toInt = nf from by first | exact oz_e13fc83238 g9 e12 k7_3 | omega) (show 0 ≤ nf from by first | exact g10 | omega) (show 0 ≤ (1 : Int) from by first | decide | omega) (show (1 : Int) ≤ 1 from by first | decide | omega) htk (FsI.le (N' := (pf 13).toInt) hfs (by first | with_reducible rfl | with_reducible assumption | omega)) hwr (KnT.eq hkt (by first | with_reducible rfl | with_reducible assumption | omega)) (FnT.eq hft (by first | with_reducible rfl | with_reducible assumption | omega)) (KnS.eq hks (by first | with_reducible rfl | with_reducible assumption | omega) (by first | with_reducible rfl | with_reducible assumption | omega)) hfp han hec_z154 _) hT (pr := []) (pcs := [wdP cs h r g tf ta pf na ma_7 wa cf6 ca_7 ef ea xf xa]) hw (oX_call (P := (fun A U H => (oP A g U H))) (pr := []) oG_P hw hA hP) (px_recv hT hw 0 0 rfl rfl rfl) m12_217 m12_214 m12_216 ms_12_7 m1_21 q_Mpg_check ⟨show (4 * d + 12) + 1 ≤ (4 * d + 22) from by first | with_reducible rfl | with_reducible assumption | omega, show 8 + (8 + 11) + (200 * d + 420) ≤ (200 * d + 780) from by first | with_reducible rfl | with_reducible assumption | omega⟩ hl.1 rfl (Nat.le_of_ble_eq_true rfl) d_Mpg_declare_169 ⟨Nat.le_of_ble_eq_true rfl, Nat.le_of_ble_eq_true rfl⟩) hw hA (fun v160 p159 H locs hp159 hw => ?_)
                obtain ⟨ma157, cf158, rfl, e161, e162, e163, e164, e165, e166, e167, e168, e169, e170, e171, e172, e173, e174, e175⟩ := hp159
                replace e161 : KpE cf6 cf158 := e161
                have hkz_e161 := e161.2
                have hkk37_e161 : (cf158 37).toInt = (cf6 37).toInt := (by rw [e161.1 37 (by decide) (by decide) (by decide) (by decide) (by decide)] <;> rfl)
                have hkk43_e161 : (cf158 43).toInt = (cf6 43).toInt := (by rw [e161.1 43 (by decide) (by decide) (by decide) (by decide) (by decide)] <;> rfl)
                have hkk44_e161 : (cf158 44).toInt = (cf6 44).toInt := (by rw [e161.1 44 (by decide) (by decide) (by decide) (by decide) (by decide)] <;> rfl)
                have hkk45_e161 : (cf158 45).toInt = (cf6 45).toInt := (by rw [e161.1 45 (by decide) (by decide) (by decide) (by decide) (by decide)] <;> rfl)
                have hkk41_e161 : (cf158 41).toInt = (cf6 41).toInt := (by rw [e161.1 41 (by decide) (by decide) (by decide) (by decide) (by decide)] <;> rfl)
                have hkk55_e161 : (cf158 55).toInt = (cf6 55).toInt := (by rw [e161.1 55 (by decide) (by decide) (by decide) (by decide) (by decide)] <;> rfl)
                have hkk59_e161 : (cf158 59).toInt = (cf6 59).toInt := (by rw [e161.1 59 (by decide) (by decide) (by decide) (by decide) (by decide)] <;> rfl)
                have hkk42_e161 : (cf158 42).toInt = (cf6 42).toInt := (by rw [e161.1 42 (by decide) (by decide) (by decide) (by decide) (by decide)] <;> rfl)
                have hkk54_e161 : (cf158 54).toInt = (cf6 54).toInt := (by rw [e161.1 54 (by decide) (by decide) (by decide) (by decide) (by decide)] <;> rfl)
                have hkk58_e161 : (cf158 58).toInt = (cf6 58).toInt := (by rw [e161.1 58 (by decide) (by decide) (by decide) (by decide) (by decide)] <;> rfl)
                replace e162 : WrV cf158 (tf 6).toInt := e162
                have hwr := e162
                have hw0_e162 := hwr.1
                replace e163 : (cf158 33).toInt = (cf6 33).toInt := e163
                replace e164 : (cf158 38).toInt = (cf6 38).toInt := e164
                replace e165 : (cf158 48).toInt = (cf6 48).toInt := e165
                replace e166 : (cf158 46).toInt = (cf6 46).toInt := e166
                replace e167 : (cf158 47).toInt = (cf6 47).toInt := e167
                replace e168 : (cf158 57).toInt = (cf6 57).toInt := e168
                replace e169 : Ann na ma0 ma157 := e169
                have han := e169
                replace e170 : FrC (x7_3.toInt + 1) md2 ma_7 ma157 := e170
                have hfc := hfc.tr e170 (by first | with_reducible rfl | with_reducible assumption | omega) (by first | with_reducible rfl | with_reducible assumption | omega)
                have hzts : ZTs cf158 ta ca_7 na ma0 (cf158 48).toInt ys nf ma157 lo mid_7 (na 17 p0.toNatClampNeg) x7_3 tv := ZTs.tr hzts (fun q => by first | with_reducible rfl | with_reducible assumption | omega) e170 (by first | with_reducible rfl | with_reducible assumption | omega) (CaG.rf (kn := 0) (ns := 5000)) (by first | with_reducible rfl | with_reducible assumption | omega) (by first | with_reducible rfl | with_reducible assumption | omega)
                replace e171 : 0 ≤ v160.toInt := e171
                replace e172 : v160.toInt ≤ 4 := e172
                replace e173 : NmJ ta ca_7 na ma157 (cf6 33).toInt z154 v160.toInt := e173
                replace e174 : ZTy cf158 (Gk ta ca_7 na ma0 (cf6 48).toInt ys nf) na ma157 (x7_3.toInt + 1) md2 z154 v160.toInt := e174
                replace e175 : ZNm cf158 (1 : Int) v160.toInt := e175
                have hty_z154 : ZTe cf158 ta ca_7 na ma0 (cf158 48).toInt ys nf ma157 (x7_3.toInt + 1) md2 z154 0 := ZTe.to (t := 0) (ZTy.num e174 e175) (fun q => by first | with_reducible rfl | with_reducible assumption | omega) (by first | with_reducible rfl | with_reducible assumption | omega) (Int.le_refl _) (Int.le_refl _) rfl
                replace hw : pw D A s.heap H locs [wdP cs h r g tf ta pf na ma157 wa cf158 ca_7 ef ea xf xa] := hw
                have lv160 := Int32.le_toInt v160
                have uv160 := Int32.toInt_lt v160
                refine lv_pop S.x S.b d_Mpg_declare_172 rfl ?_
                refine lv_aload_n S.x S.b d_Mpg_declare_173 rfl (lv_at hl 1 rfl) ?_
                refine lv_dup S.x S.b d_Mpg_declare_174 rfl ?_
                refine px_get S k_Mpg hT hw 0 0 42 (v := .int (cf158 42)) rfl rfl rfl (by decide) m10_33 d_Mpg_declare_175 ?_
                refine lv_iconst (v := 1) S.x S.b d_Mpg_declare_178 (by decide) ?_
                refine lv_iadd S.x S.b d_Mpg_declare_179 ?_
                have lr176 := Int32.le_toInt (cf158 42)
                have ur176 := Int32.toInt_lt (cf158 42)
                refine lv_topi (fun z177 ez177 => ?_)
                have tz177 : z177.toInt = ((cf158 42).toInt + (1 : Int) + 2147483648) % 4294967296 - 2147483648 := by rw [ez177]; exact i_add (cf158 42) 1
                have lz177 := Int32.le_toInt z177
                have uz177 := Int32.toInt_lt z177
                try replace tz177 : z177.toInt = (cf158 42).toInt + (1 : Int) := by omega
                refine px_put S k_Mpg hT hw 0 0 42 rfl rfl (by decide) m10_33 rfl rfl rfl (Nat.le_of_ble_eq_true rfl) d_Mpg_declare_180 (w' := wdP cs h r g tf ta pf na ma157 wa (upd cf158 42 z177) ca_7 ef ea xf xa) (ps' := [wdP cs h r g tf ta pf na ma157 wa (upd cf158 42 z177) ca_7 ef ea xf xa]) rfl rfl (fun H locs hw => ?_)
                refine lv_aload_n S.x S.b d_Mpg_declare_183 rfl (lv_at hl 1 rfl) ?_
                refine px_get S k_Mpg hT hw 0 0 20 (v := .ref (r 20)) rfl rfl rfl (by decide) m10_6 d_Mpg_declare_184 ?_
                refine lv_iload_n S.x S.b d_Mpg_declare_187 rfl (lv_at hl 4 rfl) ?_
                refine lv_aload_n S.x S.b d_Mpg_declare_188 rfl (lv_at hl 1 rfl) ?_
                refine lv_aload_n S.x S.b d_Mpg_declare_189 rfl (lv_at hl 1 rfl) ?_
                refine px_get S k_Mpg hT hw 0 0 22 (v := .ref (r 22)) rfl rfl rfl (by decide) m10_9 d_Mpg_declare_190 ?_
                refine lv_iload_n S.x S.b d_Mpg_declare_193 rfl (lv_at hl 2 rfl) ?_
                refine px_iald S hT hw 0 18 (n := 2100) (f := (ma157 22)) rfl gp_22 (x := p0) (vp_in_iff.mpr (by first | exact oz_a7e05de1cd g23 g25 g1 g2 | (constructor <;> omega))) d_Mpg_declare_194 ?_
                refine lv_topi (fun z178 ez178 => ?_)
                have lz178 := Int32.le_toInt z178
                have uz178 := Int32.toInt_lt z178
                have rz178 : z178.toInt = (ma0 22 p0.toNatClampNeg).toInt := (by rw [ez178, Ann.v22 han (by first | with_reducible rfl | with_reducible assumption | omega)])
                refine lv_iconst (v := 1) S.x S.b d_Mpg_declare_195 (by decide) ?_
                refine lv_icmp_ne (tgt := 203) S.x S.b d_Mpg_declare_196 (by decide) (fun c179 => ?_) (fun c179 => ?_)
                · have nc179 : ¬ z178.toInt = (1 : Int) := mt (i_eq (x := z178) (y := 1)).mpr c179
                  refine lv_iconst (v := 0) S.x S.b d_Mpg_declare_203 (by decide) ?_
                  refine lv_iconst (v := 1) S.x S.b d_Mpg_declare_204 (by decide) ?_
                  refine px_calli (pr := []) (px_runV (As := [.int 0, .int 1]) (rest := [.int x7_3, .ref (r 20)]) S (c_mp_lay l D cs h r g tf ta pf na ma157 wa ef ea xf xa (upd cf158 42 z177) ca_7 0 1  (show 0 ≤ (cf158 48).toInt from by first | exact oz_34de85669e e165 e13 k7_20 g14 g15 k7_16 k7_18 | omega) (show (cf158 48).toInt < 1100 from by first | exact oz_75b62dc8f3 e165 e13 k7_15 g8 k7_31 | omega) (show 0 ≤ (0 : Int) from by first | decide | omega) (show (0 : Int) ≤ 5 from by first | decide | omega) (show 0 ≤ (1 : Int) from by first | decide | omega) (show (1 : Int) ≤ 4096 from by first | decide | omega) (show 0 ≤ (cf158 54).toInt from by first | exact oz_9bcc310e9c hkk54_e161 e22 k7_16 g12 | omega) (show (cf158 54).toInt ≤ 40000000 from by first | exact oz_17a0157d43 hkk54_e161 e22 k7_19 g8 g13 k7_15 k7_31 | omega) htk _) hT (pr := []) (pcs := [wdP cs h r g tf ta pf na ma157 wa (upd cf158 42 z177) ca_7 ef ea xf xa]) hw px_X.tt (px_recv hT hw 0 0 rfl rfl rfl) m12_189 m12_186 m12_188 ms_12_0 m1_21 q_Mpg_lay ⟨show 0 + 1 ≤ (4 * d + 22) from by first | with_reducible rfl | with_reducible assumption | omega, show 8 + (3 + 11) + 0 ≤ (200 * d + 780) from by first | with_reducible rfl | with_reducible assumption | omega⟩ hl.1 rfl (Nat.le_of_ble_eq_true rfl) d_Mpg_declare_205 ⟨Nat.le_of_ble_eq_true rfl, Nat.le_of_ble_eq_true rfl⟩) hw hA (fun v185 p184 H locs hp184 hw => ?_)
                  obtain ⟨cf182, ca183, rfl, e186, e187, e188, e189, e190, e191, e192, e193, e194, e195, e196, e197, e198, e199, e200, e201, e202, e203, e204, e205, e206, e207, e208⟩ := hp184
                  replace e186 : v185.toInt = (cf158 48).toInt := e186
                  replace e187 : (cf182 48).toInt = (cf158 48).toInt + 1 := e187
                  replace e188 : (cf158 54).toInt ≤ (cf182 54).toInt := e188
                  replace e189 : (cf182 54).toInt ≤ (cf158 54).toInt + 4096 := e189
                  replace e190 : (0 : Int) ≤ 3 → (cf182 54).toInt = (cf158 54).toInt + (1 : Int) := e190
                  replace e191 : 4 ≤ (0 : Int) → (cf182 54).toInt = (cf158 54).toInt + 2 := e191
                  replace e192 : (cf182 30).toInt = (cf158 30).toInt := e192
                  replace e193 : (cf182 31).toInt = (cf158 31).toInt := e193
                  replace e194 : (cf182 33).toInt = (cf158 33).toInt := e194
                  replace e195 : (cf182 37).toInt = (cf158 37).toInt := e195
                  replace e196 : (cf182 38).toInt = (cf158 38).toInt := e196
                  replace e197 : (cf182 41).toInt = (cf158 41).toInt := e197
                  replace e198 : (cf182 42).toInt = z177.toInt := e198
                  replace e199 : (cf182 43).toInt = (cf158 43).toInt := e199
                  replace e200 : (cf182 44).toInt = (cf158 44).toInt := e200
                  replace e201 : (cf182 45).toInt = (cf158 45).toInt := e201
                  replace e202 : (cf182 46).toInt = (cf158 46).toInt := e202
                  replace e203 : (cf182 47).toInt = (cf158 47).toInt := e203
                  replace e204 : (cf182 55).toInt = (cf158 55).toInt := e204
                  replace e205 : (cf182 57).toInt = (cf158 57).toInt := e205
                  replace e206 : (cf182 58).toInt = (cf158 58).toInt := e206
                  replace e207 : (cf182 59).toInt = (cf158 59).toInt := e207
                  replace e208 : LyU ca_7 ca183 (cf158 48) (0 : Int32) (cf158 54) (1 : Int32) (txo (cf158 43).toInt) := e208
                  have hlu : LyU ca_7 ca183 (cf158 48) (0 : Int32) (cf158 54) (1 : Int32) tx := (by rw [← htx]; exact (by rw [show (cf 43).toInt = (cf158 43).toInt by omega]; exact e208))
                  have hcl_e208 : CaG ca_7 ca183 (cf182 33).toInt (cf158 48).toInt := cag_ly hlu (by first | with_reducible rfl | with_reducible assumption | omega) (by first | with_reducible rfl | with_reducible assumption | omega)
                  have hsr : SyR ca183 ys (cf182 48).toInt (cf182 54).toInt tx := SyR.eq (SyR.ly (cells' := (cf182 54).toInt) (SyR.eq hsr (ns' := (cf158 48).toInt) (by first | with_reducible rfl | with_reducible assumption | omega) rfl) hlu rfl (by first | with_reducible rfl | with_reducible assumption | omega) (by first | with_reducible rfl | with_reducible assumption | omega) (by first | with_reducible rfl | with_reducible assumption | omega) ⟨by first | with_reducible rfl | with_reducible assumption | omega, by first | with_reducible rfl | with_reducible assumption | omega⟩ ⟨by first | with_reducible rfl | with_reducible assumption | omega, by first | with_reducible rfl | with_reducible assumption | omega⟩ (fun q => by first | with_reducible rfl | with_reducible assumption | omega) (fun q => by first | with_reducible rfl | with_reducible assumption | omega) (fun q => by first | with_reducible rfl | with_reducible assumption | omega)) (by first | with_reducible rfl | with_reducible assumption | omega) rfl
                  have hkt := hkt.cg hcl_e208 (by first | with_reducible rfl | with_reducible assumption | omega)
                  have hks := hks.cg hcl_e208 (by first | with_reducible rfl | with_reducible assumption | omega) (by first | with_reducible rfl | with_reducible assumption | omega) (n2 := (cf182 48).toInt) (by first | with_reducible rfl | with_reducible assumption | omega)
                  have hcg := hcg.tr hcl_e208 (by first | with_reducible rfl | with_reducible assumption | omega) (by first | with_reducible rfl | with_reducible assumption | omega)
                  have hft := hft.cg hcl_e208
                  have hfp := hfp.cg hcl_e208
                  have hzts : ZTs cf182 ta ca183 na ma0 (cf182 48).toInt ys nf ma157 lo mid_7 (na 17 p0.toNatClampNeg) x7_3 tv := ZTs.tr hzts (fun q => by first | with_reducible rfl | with_reducible assumption | omega) (FrC.rf (lo := 0) (hi := 0)) (by first | with_reducible rfl | with_reducible assumption | omega) hcl_e208 (by first | with_reducible rfl | with_reducible assumption | omega) (by first | with_reducible rfl | with_reducible assumption | omega)
                  have hty_z154 : ZTe cf182 ta ca183 na ma0 (cf182 48).toInt ys nf ma157 (x7_3.toInt + 1) md2 z154 0 := ZTe.tr hty_z154 (fun q => by first | with_reducible rfl | with_reducible assumption | omega) (FrC.rf (lo := 0) (hi := 0)) (by first | with_reducible rfl | with_reducible assumption | omega) hcl_e208 (by first | with_reducible rfl | with_reducible assumption | omega) (by first | with_reducible rfl | with_reducible assumption | omega)
                  have hs49 : (ca183 49 (cf158 48).toNatClampNeg).toInt = (0 : Int) := (by rw [hlu.2.1 (by first | with_reducible rfl | with_reducible assumption | omega) (by first | with_reducible rfl | with_reducible assumption | omega)]; rfl)
                  have hs52 : (ca183 52 (cf158 48).toNatClampNeg).toInt = (1 : Int) := (by rw [hlu.2.2.2.1]; rfl)
                  have hsy : SyV ca183 (cf182 48).toInt ys (cf158 48) := hlu.sv (by first | with_reducible rfl | with_reducible assumption | omega) (by first | with_reducible rfl | with_reducible assumption | omega) ⟨by first | with_reducible rfl | with_reducible assumption | omega, by first | with_reducible rfl | with_reducible assumption | omega⟩ (by first | with_reducible rfl | with_reducible assumption | omega)
                  have hs3 : Sy3 ca183 (cf 48).toInt (cf182 48).toInt := Sy3.eq (Sy3.ly (Sy3.eq hs3 (b' := (cf158 48).toInt) (by first | with_reducible rfl | with_reducible assumption | omega)) hlu rfl (by first | with_reducible rfl | with_reducible assumption | omega) (by first | with_reducible rfl | with_reducible assumption | omega)) (by first | with_reducible rfl | with_reducible assumption | omega)
                  have hwr : WrV cf182 (tf 6).toInt := WrV.eq hwr (by first | with_reducible rfl | with_reducible assumption | omega) (by first | with_reducible rfl | with_reducible assumption | omega)
                  replace hw : pw D A s.heap H locs [wdP cs h r g tf ta pf na ma157 wa cf182 ca183 ef ea xf xa] := hw
                  have lv185 := Int32.le_toInt v185
                  have uv185 := Int32.toInt_lt v185
                  have hyv : (cf158 48) = v185 := i_eq.mpr (by first | with_reducible rfl | with_reducible assumption | omega); rw [hyv] at hsy hs49 hs52
                  refine px_iast S hT hw 0 16 (n := 2100) (f := (ma157 20)) (x := x7_3) (y := v185) rfl gp_20 (vp_in_iff.mpr (by constructor <;> omega)) d_Mpg_declare_208 (w' := wdP cs h r g tf ta pf na (va_up ma157 20 (upd (ma157 20) x7_3.toNatClampNeg v185)) wa cf182 ca183 ef ea xf xa) (ps' := [wdP cs h r g tf ta pf na (va_up ma157 20 (upd (ma157 20) x7_3.toNatClampNeg v185)) wa cf182 ca183 ef ea xf xa]) sp_20 rfl (fun H locs hw => ?_)
                  obtain ⟨ma209, hu_ma209⟩ : ∃ y : Nat → Nat → Int32, y = va_up ma157 20 (upd (ma157 20) x7_3.toNatClampNeg v185) := ⟨_, rfl⟩
                  have hw : pw D A s.heap _ _ [wdP cs h r g tf ta pf na ma209 wa cf182 ca183 ef ea xf xa] := (by rw [hu_ma209]; exact hw)
                  have hf1_ma209 : FrC x7_3.toInt (x7_3.toInt + 1) ma157 ma209 := (by rw [hu_ma209]; exact FrC.w FrC.rf (by first | with_reducible rfl | with_reducible assumption | omega) (by first | with_reducible rfl | with_reducible assumption | omega) (by first | with_reducible rfl | with_reducible assumption | omega))
                  have han : Ann na ma0 ma209 := (by rw [hu_ma209]; exact Ann.w20 han (by first | with_reducible rfl | with_reducible assumption | omega))
                  have hfc := hfc.tr hf1_ma209 (by first | with_reducible rfl | with_reducible assumption | omega) (by first | with_reducible rfl | with_reducible assumption | omega)
                  have hzts : ZTs cf182 ta ca183 na ma0 (cf182 48).toInt ys nf ma209 lo mid_7 (na 17 p0.toNatClampNeg) x7_3 tv := ZTs.tr hzts (fun q => by first | with_reducible rfl | with_reducible assumption | omega) hf1_ma209 (by first | with_reducible rfl | with_reducible assumption | omega) (CaG.rf (kn := 0) (ns := 5000)) (by first | with_reducible rfl | with_reducible assumption | omega) (by first | with_reducible rfl | with_reducible assumption | omega)
                  have hty_z154 : ZTe cf182 ta ca183 na ma0 (cf182 48).toInt ys nf ma209 (x7_3.toInt + 1) md2 z154 0 := ZTe.tr hty_z154 (fun q => by first | with_reducible rfl | with_reducible assumption | omega) hf1_ma209 (by first | with_reducible rfl | with_reducible assumption | omega) (CaG.rf (kn := 0) (ns := 5000)) (by first | with_reducible rfl | with_reducible assumption | omega) (by first | with_reducible rfl | with_reducible assumption | omega)
                  have hv_20_x7_3 : ma209 20 x7_3.toNatClampNeg = v185 := (by rw [hu_ma209, va_up_s, pk_us])
                  have hnhv_20_x7_3 : (ma209 20 x7_3.toNatClampNeg).toInt = v185.toInt := (by rw [hv_20_x7_3])
                  refine lv_aload_n S.x S.b d_Mpg_declare_209 rfl (lv_at hl 1 rfl) ?_
                  refine lv_iload S.x S.b d_Mpg_declare_210 (lv_at hl 0 rfl) ?_
                  refine lv_iconst (v := 1) S.x S.b d_Mpg_declare_212 (by decide) ?_
                  refine lv_iconst (v := 0) S.x S.b d_Mpg_declare_213 (by decide) ?_
                  refine lv_aload_n S.x S.b d_Mpg_declare_214 rfl (lv_at hl 1 rfl) ?_
                  refine px_get S k_Mpg hT hw 0 0 20 (v := .ref (r 20)) rfl rfl rfl (by decide) m10_6 d_Mpg_declare_215 ?_
                  refine lv_iload_n S.x S.b d_Mpg_declare_218 rfl (lv_at hl 4 rfl) ?_
                  refine px_iald S hT hw 0 16 (n := 2100) (f := (ma209 20)) rfl gp_20 (x := x7_3) (vp_in_iff.mpr (by constructor <;> omega)) d_Mpg_declare_219 ?_
                  refine lv_topi (fun z210 ez210 => ?_)
                  have lz210 := Int32.le_toInt z210
                  have uz210 := Int32.toInt_lt z210
                  have hsz210 : v185 = z210 := (ez210.trans hv_20_x7_3).symm; subst hsz210
                  refine px_callv (pr := []) (px_runV (As := [.int z4, .int 1, .int 0, .int v185]) (rest := []) S (c_mp_know l D cs h r g tf ta pf na ma209 wa ef ea xf xa cf182 ca183 z4 1 0 v185  (show 0 ≤ (cf182 33).toInt from by first | exact oz_eb53d9d016 e194 e163 e11 k7_12 g4 | omega) (show (cf182 33).toInt < 1100 from by first | exact oz_3ef51c39d5 e194 e163 e11 k7_13 g6 k7_31 | omega) htk _) hT (pr := []) (pcs := [wdP cs h r g tf ta pf na ma209 wa cf182 ca183 ef ea xf xa]) hw px_X.tt (px_recv hT hw 0 0 rfl rfl rfl) m12_193 m12_190 m12_192 ms_12_1 m1_21 q_Mpg_know ⟨show 0 + 1 ≤ (4 * d + 22) from by first | with_reducible rfl | with_reducible assumption | omega, show 8 + (5 + 11) + 0 ≤ (200 * d + 780) from by first | with_reducible rfl | with_reducible assumption | omega⟩ hl.1 rfl (Nat.le_of_ble_eq_true rfl) d_Mpg_declare_220 ⟨Nat.le_of_ble_eq_true rfl, Nat.le_of_ble_eq_true rfl⟩) hw hA (fun p215 H locs hp215 hw => ?_)
                  obtain ⟨cf213, ca214, rfl, e217, e218, e219, e220, e221, e222, e223, e224, e225, e226, e227, e228, e229, e230, e231, e232, e233, e234, e235⟩ := hp215
                  replace e217 : (cf213 33).toInt = (cf182 33).toInt + 1 := e217
                  replace e218 : (cf213 30).toInt = (cf182 30).toInt := e218
                  replace e219 : (cf213 31).toInt = (cf182 31).toInt := e219
                  replace e220 : (cf213 37).toInt = (cf182 37).toInt := e220
                  replace e221 : (cf213 38).toInt = (cf182 38).toInt := e221
                  replace e222 : (cf213 41).toInt = (cf182 41).toInt := e222
                  replace e223 : (cf213 42).toInt = (cf182 42).toInt := e223
                  replace e224 : (cf213 43).toInt = (cf182 43).toInt := e224
                  replace e225 : (cf213 44).toInt = (cf182 44).toInt := e225
                  replace e226 : (cf213 45).toInt = (cf182 45).toInt := e226
                  replace e227 : (cf213 46).toInt = (cf182 46).toInt := e227
                  replace e228 : (cf213 47).toInt = (cf182 47).toInt := e228
                  replace e229 : (cf213 48).toInt = (cf182 48).toInt := e229
                  replace e230 : (cf213 54).toInt = (cf182 54).toInt := e230
                  replace e231 : (cf213 55).toInt = (cf182 55).toInt := e231
                  replace e232 : (cf213 57).toInt = (cf182 57).toInt := e232
                  replace e233 : (cf213 58).toInt = (cf182 58).toInt := e233
                  replace e234 : (cf213 59).toInt = (cf182 59).toInt := e234
                  replace e235 : KwU ca183 ca214 (cf182 33) z4 (1 : Int32) (0 : Int32) v185 := e235
                  have hcw_e235 : CaG ca183 ca214 (cf182 33).toInt (cf213 48).toInt := cag_kw e235 (by first | with_reducible rfl | with_reducible assumption | omega) (by first | with_reducible rfl | with_reducible assumption | omega)
                  have hkt : KnT (tf 6).toInt ca214 (cf213 33).toInt := KnT.eq (KnT.kw (KnT.eq hkt (n' := (cf182 33).toInt) (by first | with_reducible rfl | with_reducible assumption | omega)) e235 rfl (by first | with_reducible rfl | with_reducible assumption | omega) (by first | with_reducible rfl | with_reducible assumption | omega) ⟨by first | with_reducible rfl | with_reducible assumption | omega, by first | with_reducible rfl | with_reducible assumption | omega⟩) (by first | with_reducible rfl | with_reducible assumption | omega)
                  have hks : KnS ca214 (cf213 33).toInt (cf213 48).toInt ys := KnS.eq (KnS.kw (KnS.eq hks (n' := (cf182 33).toInt) (by first | with_reducible rfl | with_reducible assumption | omega) rfl) e235 rfl (by first | with_reducible rfl | with_reducible assumption | omega) (Or.inl ⟨by first | with_reducible rfl | with_reducible assumption | omega, hsy⟩)) (by first | with_reducible rfl | with_reducible assumption | omega) (by first | with_reducible rfl | with_reducible assumption | omega)
                  have hcg := hcg.tr hcw_e235 (by first | with_reducible rfl | with_reducible assumption | omega) (by first | with_reducible rfl | with_reducible assumption | omega)
                  have hft := hft.cg hcw_e235
                  have hfp := hfp.cg hcw_e235
                  have hsr := hsr.cg hcw_e235 (by first | with_reducible rfl | with_reducible assumption | omega)
                  have hzts : ZTs cf213 ta ca214 na ma0 (cf213 48).toInt ys nf ma209 lo mid_7 (na 17 p0.toNatClampNeg) x7_3 tv := ZTs.tr hzts (fun q => by first | with_reducible rfl | with_reducible assumption | omega) (FrC.rf (lo := 0) (hi := 0)) (by first | with_reducible rfl | with_reducible assumption | omega) hcw_e235 (by first | with_reducible rfl | with_reducible assumption | omega) (by first | with_reducible rfl | with_reducible assumption | omega)
                  have hty_z154 : ZTe cf213 ta ca214 na ma0 (cf213 48).toInt ys nf ma209 (x7_3.toInt + 1) md2 z154 0 := ZTe.tr hty_z154 (fun q => by first | with_reducible rfl | with_reducible assumption | omega) (FrC.rf (lo := 0) (hi := 0)) (by first | with_reducible rfl | with_reducible assumption | omega) hcw_e235 (by first | with_reducible rfl | with_reducible assumption | omega) (by first | with_reducible rfl | with_reducible assumption | omega)
                  have hs3 : Sy3 ca214 (cf 48).toInt (cf213 48).toInt := Sy3.eq (hs3.cg hcw_e235 (by first | with_reducible rfl | with_reducible assumption | omega)) (by first | with_reducible rfl | with_reducible assumption | omega)
                  have hsb_e235 := hsy.1.1
                  have hcy_e235 := cl_nat (x := v185) (by first | exact oz_f3ebed1ad0 e186 hsb_e235.1 | omega)
                  have hs49 : (ca214 49 v185.toNatClampNeg).toInt = _ := (congrArg Int32.toInt (hcw_e235.2.2 _ (by first | with_reducible rfl | with_reducible assumption | omega)).1).trans hs49
                  have hs52 : (ca214 52 v185.toNatClampNeg).toInt = _ := (congrArg Int32.toInt (hcw_e235.2.2 _ (by first | with_reducible rfl | with_reducible assumption | omega)).2.2.2).trans hs52
                  have hsy : SyV ca214 (cf213 48).toInt ys v185 := hsy.cg hcw_e235 (by first | with_reducible rfl | with_reducible assumption | omega) (by first | with_reducible rfl | with_reducible assumption | omega)
                  have hwr : WrV cf213 (tf 6).toInt := WrV.eq hwr (by first | with_reducible rfl | with_reducible assumption | omega) (by first | with_reducible rfl | with_reducible assumption | omega)
                  replace hw : pw D A s.heap H locs [wdP cs h r g tf ta pf na ma209 wa cf213 ca214 ef ea xf xa] := hw
                  refine lv_aload_n S.x S.b d_Mpg_declare_223 rfl (lv_at hl 1 rfl) ?_
                  refine px_get S k_Mpg hT hw 0 0 21 (v := .ref (r 21)) rfl rfl rfl (by decide) m10_7 d_Mpg_declare_224 ?_
                  refine lv_iload_n S.x S.b d_Mpg_declare_227 rfl (lv_at hl 4 rfl) ?_
                  refine px_iald S hT hw 0 17 (n := 2100) (f := (na 21)) rfl gp_21 (x := x7_3) (vp_in_iff.mpr (by constructor <;> omega)) d_Mpg_declare_228 ?_
                  refine lv_topi (fun z236 ez236 => ?_)
                  have lz236 := Int32.le_toInt z236
                  have uz236 := Int32.toInt_lt z236
                  refine lv_istore_n (lv' := [(3, .int z236), (4, .int z4), (0, .ref h), (1, .int p0), (2, .int p1)]) S.x S.b d_Mpg_declare_229 rfl hl (by decide) rfl (fun ls hl => ?_)
                  refine lv_goto (tgt := 7) S.x S.b d_Mpg_declare_230 (by decide) ?_
                  exact ih7 ma209 cf213 ca214 md2 (wr_7 - wv3) z236 _ _ ls (show (cf213 30).toInt = 0 → (cf 30).toInt = 0 from by first | with_reducible rfl | with_reducible assumption | omega) (show WrV cf213 (tf 6).toInt from hwr) (show (cf213 37).toInt = (cf 37).toInt from by first | exact oz_0867352dd7 k7_2 e220 e17 e195 hkk37_e161 | omega) (show (cf213 38).toInt = (cf 38).toInt from by first | exact oz_0867352dd7 k7_3 e221 e12 e196 e164 | omega) (show (cf213 43).toInt = (cf 43).toInt from by first | exact oz_0867352dd7 k7_4 e224 e19 e199 hkk43_e161 | omega) (show (cf213 44).toInt = (cf 44).toInt from by first | exact oz_0867352dd7 k7_5 e225 e20 e200 hkk44_e161 | omega) (show (cf213 45).toInt = (cf 45).toInt from by first | exact oz_0867352dd7 k7_6 e226 e21 e201 hkk45_e161 | omega) (show (cf213 46).toInt = (cf 46).toInt from by first | exact oz_0867352dd7 k7_7 e227 e14 e202 e166 | omega) (show (cf213 47).toInt = (cf 47).toInt from by first | exact oz_0867352dd7 k7_8 e228 e15 e203 e167 | omega) (show (cf213 41).toInt = (cf 41).toInt from by first | exact oz_0867352dd7 k7_9 e222 e26 e197 hkk41_e161 | omega) (show (cf213 55).toInt = (cf 55).toInt from by first | exact oz_0867352dd7 k7_10 e231 e23 e204 hkk55_e161 | omega) (show (cf213 59).toInt = (cf 59).toInt from by first | exact oz_0867352dd7 k7_11 e234 e25 e207 hkk59_e161 | omega) (show (cf 33).toInt ≤ (cf213 33).toInt from by first | exact oz_a101ed4aa6 k7_12 e217 e11 e194 e163 | omega) (show 6 * (cf213 33).toInt ≤ 6 * (cf 33).toInt + (w - (wr_7 - wv3)) from by first | with_reducible rfl | with_reducible assumption | omega) (show (cf 48).toInt ≤ (cf213 48).toInt from by first | exact oz_788511b878 k7_20 e229 k7_16 k7_18 e13 hsb_e235.2 e165 | omega) (show 6 * (cf213 48).toInt ≤ 6 * (cf 48).toInt + (w - (wr_7 - wv3)) from by first | with_reducible rfl | with_reducible assumption | omega) (show (cf 54).toInt ≤ (cf213 54).toInt from by first | exact oz_39bc41608f k7_16 e230 e22 e188 hkk54_e161 | omega) (show (cf 42).toInt ≤ (cf213 42).toInt from by first | exact oz_47ce8e110c k7_18 e223 k7_16 e18 e198 hkk42_e161 tz177 | omega) (show (cf213 54).toInt - (cf 54).toInt ≤ 4 * ((cf213 42).toInt - (cf 42).toInt) from by first | exact oz_0159125df4 k7_18 e223 e230 e18 e22 e198 e190 hkk42_e161 hkk54_e161 tz177 | omega) (show (cf213 54).toInt - (cf 54).toInt ≤ 4096 * ((cf213 48).toInt - (cf 48).toInt) from by first | exact oz_0e3be830c4 k7_19 e229 e230 e13 e22 e189 hsb_e235.2 e165 hkk54_e161 | omega) (show (cf213 42).toInt - (cf 42).toInt ≤ 4096 * ((cf213 48).toInt - (cf 48).toInt) from by first | exact oz_f6b9fff360 k7_20 e223 e229 e13 e18 e198 hsb_e235.2 e165 hkk42_e161 tz177 | omega) (show KnT (tf 6).toInt ca214 (cf213 33).toInt from (KnT.eq hkt (by first | with_reducible rfl | with_reducible assumption | omega))) (show KnS ca214 (cf213 33).toInt (cf213 48).toInt ys from (KnS.eq hks (by first | with_reducible rfl | with_reducible assumption | omega) (by first | with_reducible rfl | with_reducible assumption | omega))) (show CaG ca ca214 (cf 33).toInt (cf 48).toInt from (hcg.le (by first | with_reducible rfl | with_reducible assumption | omega) (by first | with_reducible rfl | with_reducible assumption | omega))) (show SyR ca214 ys (cf213 48).toInt (cf213 54).toInt tx from (SyR.eq hsr (by first | with_reducible rfl | with_reducible assumption | omega) (by first | with_reducible rfl | with_reducible assumption | omega))) (show Ann na ma0 ma209 from han) (show FrC lo hi ma ma209 from hfc) (show Sy3 ca214 (cf 48).toInt (cf213 48).toInt from (Sy3.eq hs3 (by first | with_reducible rfl | with_reducible assumption | omega))) (show lo ≤ md2 from by first | exact hm1_md2 | omega) (show p0.toInt + 1 ≤ md2 from by first | with_reducible rfl | with_reducible assumption | omega) (show md2 ≤ hi from by first | exact hm2_md2 | omega) (show 0 ≤ (wr_7 - wv3) from by first | with_reducible rfl | with_reducible assumption | omega) (show (wr_7 - wv3) ≤ w from by first | with_reducible rfl | with_reducible assumption | omega) (show RvV ta (tf 6).toInt na ma0 d md2 hi (wr_7 - wv3) z236 from (by rw [ez236]; exact hrv2)) (show ZTs cf213 ta ca214 na ma0 (cf213 48).toInt ys nf ma209 lo md2 (na 17 p0.toNatClampNeg) z236 tv from (ZTs.nx (ZTs.to hzts (fun q => by first | with_reducible rfl | with_reducible assumption | omega) (by first | with_reducible rfl | with_reducible assumption | omega) (Int.le_refl _) (by first | with_reducible rfl | with_reducible assumption | omega) rfl) (show ZTe cf213 ta ca214 na ma0 (cf213 48).toInt ys nf ma209 lo md2 x7_3 tv from (fun zz => tyv_1 ⟨by first | with_reducible rfl | with_reducible assumption | omega, by first | with_reducible rfl | with_reducible assumption | omega, by first | with_reducible rfl | with_reducible assumption | omega⟩ (by first | with_reducible rfl | with_reducible assumption | omega) (by first | with_reducible rfl | with_reducible assumption | omega) (by rw [hv_20_x7_3]; exact hsy) (ha_z154.trans (Ann.v18 han (by first | with_reducible rfl | with_reducible assumption | omega)).symm) (Or.inr ⟨(by rw [Ann.v22 han (by first | with_reducible rfl | with_reducible assumption | omega)]; omega), (fun r9 => ((hty_z154 zz).le (by first | with_reducible rfl | with_reducible assumption | omega) (by first | with_reducible rfl | with_reducible assumption | omega)))⟩))) (by first | with_reducible rfl | with_reducible assumption | omega) ez236)) (show hi - md2 < (n_7 : Int) from by first | with_reducible rfl | with_reducible assumption | omega) hw (lv_sub hl [2, 3, 4, 0] rfl)
                · have nc179 : z178.toInt = (1 : Int) := (i_eq (x := z178) (y := 1)).mp c179
                  refine lv_iconst (v := 1) S.x S.b d_Mpg_declare_199 (by decide) ?_
                  refine lv_goto (tgt := 204) S.x S.b d_Mpg_declare_200 (by decide) ?_
                  refine lv_iconst (v := 1) S.x S.b d_Mpg_declare_204 (by decide) ?_
                  refine px_calli (pr := []) (px_runV (As := [.int 1, .int 1]) (rest := [.int x7_3, .ref (r 20)]) S (c_mp_lay l D cs h r g tf ta pf na ma157 wa ef ea xf xa (upd cf158 42 z177) ca_7 1 1  (show 0 ≤ (cf158 48).toInt from by first | exact oz_34de85669e e165 e13 k7_20 g14 g15 k7_16 k7_18 | omega) (show (cf158 48).toInt < 1100 from by first | exact oz_75b62dc8f3 e165 e13 k7_15 g8 k7_31 | omega) (show 0 ≤ (1 : Int) from by first | decide | omega) (show (1 : Int) ≤ 5 from by first | decide | omega) (show 0 ≤ (1 : Int) from by first | decide | omega) (show (1 : Int) ≤ 4096 from by first | decide | omega) (show 0 ≤ (cf158 54).toInt from by first | exact oz_9bcc310e9c hkk54_e161 e22 k7_16 g12 | omega) (show (cf158 54).toInt ≤ 40000000 from by first | exact oz_17a0157d43 hkk54_e161 e22 k7_19 g8 g13 k7_15 k7_31 | omega) htk _) hT (pr := []) (pcs := [wdP cs h r g tf ta pf na ma157 wa (upd cf158 42 z177) ca_7 ef ea xf xa]) hw px_X.tt (px_recv hT hw 0 0 rfl rfl rfl) m12_189 m12_186 m12_188 ms_12_0 m1_21 q_Mpg_lay ⟨show 0 + 1 ≤ (4 * d + 22) from by first | with_reducible rfl | with_reducible assumption | omega, show 8 + (3 + 11) + 0 ≤ (200 * d + 780) from by first | with_reducible rfl | with_reducible assumption | omega⟩ hl.1 rfl (Nat.le_of_ble_eq_true rfl) d_Mpg_declare_205 ⟨Nat.le_of_ble_eq_true rfl, Nat.le_of_ble_eq_true rfl⟩) hw hA (fun v242 p241 H locs hp241 hw => ?_)
                  obtain ⟨cf239, ca240, rfl, e243, e244, e245, e246, e247, e248, e249, e250, e251, e252, e253, e254, e255, e256, e257, e258, e259, e260, e261, e262, e263, e264, e265⟩ := hp241
                  replace e243 : v242.toInt = (cf158 48).toInt := e243
                  replace e244 : (cf239 48).toInt = (cf158 48).toInt + 1 := e244
                  replace e245 : (cf158 54).toInt ≤ (cf239 54).toInt := e245
                  replace e246 : (cf239 54).toInt ≤ (cf158 54).toInt + 4096 := e246
                  replace e247 : (1 : Int) ≤ 3 → (cf239 54).toInt = (cf158 54).toInt + (1 : Int) := e247
                  replace e248 : 4 ≤ (1 : Int) → (cf239 54).toInt = (cf158 54).toInt + 2 := e248
                  replace e249 : (cf239 30).toInt = (cf158 30).toInt := e249
                  replace e250 : (cf239 31).toInt = (cf158 31).toInt := e250
                  replace e251 : (cf239 33).toInt = (cf158 33).toInt := e251
                  replace e252 : (cf239 37).toInt = (cf158 37).toInt := e252
                  replace e253 : (cf239 38).toInt = (cf158 38).toInt := e253
                  replace e254 : (cf239 41).toInt = (cf158 41).toInt := e254
                  replace e255 : (cf239 42).toInt = z177.toInt := e255
                  replace e256 : (cf239 43).toInt = (cf158 43).toInt := e256
                  replace e257 : (cf239 44).toInt = (cf158 44).toInt := e257
                  replace e258 : (cf239 45).toInt = (cf158 45).toInt := e258
                  replace e259 : (cf239 46).toInt = (cf158 46).toInt := e259
                  replace e260 : (cf239 47).toInt = (cf158 47).toInt := e260
                  replace e261 : (cf239 55).toInt = (cf158 55).toInt := e261
                  replace e262 : (cf239 57).toInt = (cf158 57).toInt := e262
                  replace e263 : (cf239 58).toInt = (cf158 58).toInt := e263
                  replace e264 : (cf239 59).toInt = (cf158 59).toInt := e264
                  replace e265 : LyU ca_7 ca240 (cf158 48) (1 : Int32) (cf158 54) (1 : Int32) (txo (cf158 43).toInt) := e265
                  have hlu : LyU ca_7 ca240 (cf158 48) (1 : Int32) (cf158 54) (1 : Int32) tx := (by rw [← htx]; exact (by rw [show (cf 43).toInt = (cf158 43).toInt by omega]; exact e265))
                  have hcl_e265 : CaG ca_7 ca240 (cf239 33).toInt (cf158 48).toInt := cag_ly hlu (by first | with_reducible rfl | with_reducible assumption | omega) (by first | with_reducible rfl | with_reducible assumption | omega)
                  have hsr : SyR ca240 ys (cf239 48).toInt (cf239 54).toInt tx := SyR.eq (SyR.ly (cells' := (cf239 54).toInt) (SyR.eq hsr (ns' := (cf158 48).toInt) (by first | with_reducible rfl | with_reducible assumption | omega) rfl) hlu rfl (by first | with_reducible rfl | with_reducible assumption | omega) (by first | with_reducible rfl | with_reducible assumption | omega) (by first | with_reducible rfl | with_reducible assumption | omega) ⟨by first | with_reducible rfl | with_reducible assumption | omega, by first | with_reducible rfl | with_reducible assumption | omega⟩ ⟨by first | with_reducible rfl | with_reducible assumption | omega, by first | with_reducible rfl | with_reducible assumption | omega⟩ (fun q => by first | with_reducible rfl | with_reducible assumption | omega) (fun q => by first | with_reducible rfl | with_reducible assumption | omega) (fun q => by first | with_reducible rfl | with_reducible assumption | omega)) (by first | with_reducible rfl | with_reducible assumption | omega) rfl
                  have hkt := hkt.cg hcl_e265 (by first | with_reducible rfl | with_reducible assumption | omega)
                  have hks := hks.cg hcl_e265 (by first | with_reducible rfl | with_reducible assumption | omega) (by first | with_reducible rfl | with_reducible assumption | omega) (n2 := (cf239 48).toInt) (by first | with_reducible rfl | with_reducible assumption | omega)
                  have hcg := hcg.tr hcl_e265 (by first | with_reducible rfl | with_reducible assumption | omega) (by first | with_reducible rfl | with_reducible assumption | omega)
                  have hft := hft.cg hcl_e265
                  have hfp := hfp.cg hcl_e265
                  have hzts : ZTs cf239 ta ca240 na ma0 (cf239 48).toInt ys nf ma157 lo mid_7 (na 17 p0.toNatClampNeg) x7_3 tv := ZTs.tr hzts (fun q => by first | with_reducible rfl | with_reducible assumption | omega) (FrC.rf (lo := 0) (hi := 0)) (by first | with_reducible rfl | with_reducible assumption | omega) hcl_e265 (by first | with_reducible rfl | with_reducible assumption | omega) (by first | with_reducible rfl | with_reducible assumption | omega)
                  have hty_z154 : ZTe cf239 ta ca240 na ma0 (cf239 48).toInt ys nf ma157 (x7_3.toInt + 1) md2 z154 0 := ZTe.tr hty_z154 (fun q => by first | with_reducible rfl | with_reducible assumption | omega) (FrC.rf (lo := 0) (hi := 0)) (by first | with_reducible rfl | with_reducible assumption | omega) hcl_e265 (by first | with_reducible rfl | with_reducible assumption | omega) (by first | with_reducible rfl | with_reducible assumption | omega)
                  have hs49 : (ca240 49 (cf158 48).toNatClampNeg).toInt = (1 : Int) := (by rw [hlu.2.1 (by first | with_reducible rfl | with_reducible assumption | omega) (by first | with_reducible rfl | with_reducible assumption | omega)]; rfl)
                  have hs52 : (ca240 52 (cf158 48).toNatClampNeg).toInt = (1 : Int) := (by rw [hlu.2.2.2.1]; rfl)
                  have hsy : SyV ca240 (cf239 48).toInt ys (cf158 48) := hlu.sv (by first | with_reducible rfl | with_reducible assumption | omega) (by first | with_reducible rfl | with_reducible assumption | omega) ⟨by first | with_reducible rfl | with_reducible assumption | omega, by first | with_reducible rfl | with_reducible assumption | omega⟩ (by first | with_reducible rfl | with_reducible assumption | omega)
                  have hs3 : Sy3 ca240 (cf 48).toInt (cf239 48).toInt := Sy3.eq (Sy3.ly (Sy3.eq hs3 (b' := (cf158 48).toInt) (by first | with_reducible rfl | with_reducible assumption | omega)) hlu rfl (by first | with_reducible rfl | with_reducible assumption | omega) (by first | with_reducible rfl | with_reducible assumption | omega)) (by first | with_reducible rfl | with_reducible assumption | omega)
                  have hwr : WrV cf239 (tf 6).toInt := WrV.eq hwr (by first | with_reducible rfl | with_reducible assumption | omega) (by first | with_reducible rfl | with_reducible assumption | omega)
                  replace hw : pw D A s.heap H locs [wdP cs h r g tf ta pf na ma157 wa cf239 ca240 ef ea xf xa] := hw
                  have lv242 := Int32.le_toInt v242
                  have uv242 := Int32.toInt_lt v242
                  have hyv : (cf158 48) = v242 := i_eq.mpr (by first | with_reducible rfl | with_reducible assumption | omega); rw [hyv] at hsy hs49 hs52
                  refine px_iast S hT hw 0 16 (n := 2100) (f := (ma157 20)) (x := x7_3) (y := v242) rfl gp_20 (vp_in_iff.mpr (by constructor <;> omega)) d_Mpg_declare_208 (w' := wdP cs h r g tf ta pf na (va_up ma157 20 (upd (ma157 20) x7_3.toNatClampNeg v242)) wa cf239 ca240 ef ea xf xa) (ps' := [wdP cs h r g tf ta pf na (va_up ma157 20 (upd (ma157 20) x7_3.toNatClampNeg v242)) wa cf239 ca240 ef ea xf xa]) sp_20 rfl (fun H locs hw => ?_)
                  obtain ⟨ma266, hu_ma266⟩ : ∃ y : Nat → Nat → Int32, y = va_up ma157 20 (upd (ma157 20) x7_3.toNatClampNeg v242) := ⟨_, rfl⟩
                  have hw : pw D A s.heap _ _ [wdP cs h r g tf ta pf na ma266 wa cf239 ca240 ef ea xf xa] := (by rw [hu_ma266]; exact hw)
                  have hf1_ma266 : FrC x7_3.toInt (x7_3.toInt + 1) ma157 ma266 := (by rw [hu_ma266]; exact FrC.w FrC.rf (by first | with_reducible rfl | with_reducible assumption | omega) (by first | with_reducible rfl | with_reducible assumption | omega) (by first | with_reducible rfl | with_reducible assumption | omega))
                  have han : Ann na ma0 ma266 := (by rw [hu_ma266]; exact Ann.w20 han (by first | with_reducible rfl | with_reducible assumption | omega))
                  have hfc := hfc.tr hf1_ma266 (by first | with_reducible rfl | with_reducible assumption | omega) (by first | with_reducible rfl | with_reducible assumption | omega)
                  have hzts : ZTs cf239 ta ca240 na ma0 (cf239 48).toInt ys nf ma266 lo mid_7 (na 17 p0.toNatClampNeg) x7_3 tv := ZTs.tr hzts (fun q => by first | with_reducible rfl | with_reducible assumption | omega) hf1_ma266 (by first | with_reducible rfl | with_reducible assumption | omega) (CaG.rf (kn := 0) (ns := 5000)) (by first | with_reducible rfl | with_reducible assumption | omega) (by first | with_reducible rfl | with_reducible assumption | omega)
                  have hty_z154 : ZTe cf239 ta ca240 na ma0 (cf239 48).toInt ys nf ma266 (x7_3.toInt + 1) md2 z154 0 := ZTe.tr hty_z154 (fun q => by first | with_reducible rfl | with_reducible assumption | omega) hf1_ma266 (by first | with_reducible rfl | with_reducible assumption | omega) (CaG.rf (kn := 0) (ns := 5000)) (by first | with_reducible rfl | with_reducible assumption | omega) (by first | with_reducible rfl | with_reducible assumption | omega)
                  have hv_20_x7_3 : ma266 20 x7_3.toNatClampNeg = v242 := (by rw [hu_ma266, va_up_s, pk_us])
                  have hnhv_20_x7_3 : (ma266 20 x7_3.toNatClampNeg).toInt = v242.toInt := (by rw [hv_20_x7_3])
                  refine lv_aload_n S.x S.b d_Mpg_declare_209 rfl (lv_at hl 1 rfl) ?_
                  refine lv_iload S.x S.b d_Mpg_declare_210 (lv_at hl 0 rfl) ?_
                  refine lv_iconst (v := 1) S.x S.b d_Mpg_declare_212 (by decide) ?_
                  refine lv_iconst (v := 0) S.x S.b d_Mpg_declare_213 (by decide) ?_
                  refine lv_aload_n S.x S.b d_Mpg_declare_214 rfl (lv_at hl 1 rfl) ?_
                  refine px_get S k_Mpg hT hw 0 0 20 (v := .ref (r 20)) rfl rfl rfl (by decide) m10_6 d_Mpg_declare_215 ?_
                  refine lv_iload_n S.x S.b d_Mpg_declare_218 rfl (lv_at hl 4 rfl) ?_
                  refine px_iald S hT hw 0 16 (n := 2100) (f := (ma266 20)) rfl gp_20 (x := x7_3) (vp_in_iff.mpr (by constructor <;> omega)) d_Mpg_declare_219 ?_
                  refine lv_topi (fun z267 ez267 => ?_)
                  have lz267 := Int32.le_toInt z267
                  have uz267 := Int32.toInt_lt z267
                  have hsz267 : v242 = z267 := (ez267.trans hv_20_x7_3).symm; subst hsz267
                  refine px_callv (pr := []) (px_runV (As := [.int z4, .int 1, .int 0, .int v242]) (rest := []) S (c_mp_know l D cs h r g tf ta pf na ma266 wa ef ea xf xa cf239 ca240 z4 1 0 v242  (show 0 ≤ (cf239 33).toInt from by first | exact oz_eb53d9d016 e251 e163 e11 k7_12 g4 | omega) (show (cf239 33).toInt < 1100 from by first | exact oz_3ef51c39d5 e251 e163 e11 k7_13 g6 k7_31 | omega) htk _) hT (pr := []) (pcs := [wdP cs h r g tf ta pf na ma266 wa cf239 ca240 ef ea xf xa]) hw px_X.tt (px_recv hT hw 0 0 rfl rfl rfl) m12_193 m12_190 m12_192 ms_12_1 m1_21 q_Mpg_know ⟨show 0 + 1 ≤ (4 * d + 22) from by first | with_reducible rfl | with_reducible assumption | omega, show 8 + (5 + 11) + 0 ≤ (200 * d + 780) from by first | with_reducible rfl | with_reducible assumption | omega⟩ hl.1 rfl (Nat.le_of_ble_eq_true rfl) d_Mpg_declare_220 ⟨Nat.le_of_ble_eq_true rfl, Nat.le_of_ble_eq_true rfl⟩) hw hA (fun p272 H locs hp272 hw => ?_)
                  obtain ⟨cf270, ca271, rfl, e274, e275, e276, e277, e278, e279, e280, e281, e282, e283, e284, e285, e286, e287, e288, e289, e290, e291, e292⟩ := hp272
                  replace e274 : (cf270 33).toInt = (cf239 33).toInt + 1 := e274
                  replace e275 : (cf270 30).toInt = (cf239 30).toInt := e275
                  replace e276 : (cf270 31).toInt = (cf239 31).toInt := e276
                  replace e277 : (cf270 37).toInt = (cf239 37).toInt := e277
                  replace e278 : (cf270 38).toInt = (cf239 38).toInt := e278
                  replace e279 : (cf270 41).toInt = (cf239 41).toInt := e279
                  replace e280 : (cf270 42).toInt = (cf239 42).toInt := e280
                  replace e281 : (cf270 43).toInt = (cf239 43).toInt := e281
                  replace e282 : (cf270 44).toInt = (cf239 44).toInt := e282
                  replace e283 : (cf270 45).toInt = (cf239 45).toInt := e283
                  replace e284 : (cf270 46).toInt = (cf239 46).toInt := e284
                  replace e285 : (cf270 47).toInt = (cf239 47).toInt := e285
                  replace e286 : (cf270 48).toInt = (cf239 48).toInt := e286
                  replace e287 : (cf270 54).toInt = (cf239 54).toInt := e287
                  replace e288 : (cf270 55).toInt = (cf239 55).toInt := e288
                  replace e289 : (cf270 57).toInt = (cf239 57).toInt := e289
                  replace e290 : (cf270 58).toInt = (cf239 58).toInt := e290
                  replace e291 : (cf270 59).toInt = (cf239 59).toInt := e291
                  replace e292 : KwU ca240 ca271 (cf239 33) z4 (1 : Int32) (0 : Int32) v242 := e292
                  have hcw_e292 : CaG ca240 ca271 (cf239 33).toInt (cf270 48).toInt := cag_kw e292 (by first | with_reducible rfl | with_reducible assumption | omega) (by first | with_reducible rfl | with_reducible assumption | omega)
                  have hkt : KnT (tf 6).toInt ca271 (cf270 33).toInt := KnT.eq (KnT.kw (KnT.eq hkt (n' := (cf239 33).toInt) (by first | with_reducible rfl | with_reducible assumption | omega)) e292 rfl (by first | with_reducible rfl | with_reducible assumption | omega) (by first | with_reducible rfl | with_reducible assumption | omega) ⟨by first | with_reducible rfl | with_reducible assumption | omega, by first | with_reducible rfl | with_reducible assumption | omega⟩) (by first | with_reducible rfl | with_reducible assumption | omega)
                  have hks : KnS ca271 (cf270 33).toInt (cf270 48).toInt ys := KnS.eq (KnS.kw (KnS.eq hks (n' := (cf239 33).toInt) (by first | with_reducible rfl | with_reducible assumption | omega) rfl) e292 rfl (by first | with_reducible rfl | with_reducible assumption | omega) (Or.inl ⟨by first | with_reducible rfl | with_reducible assumption | omega, hsy⟩)) (by first | with_reducible rfl | with_reducible assumption | omega) (by first | with_reducible rfl | with_reducible assumption | omega)
                  have hcg := hcg.tr hcw_e292 (by first | with_reducible rfl | with_reducible assumption | omega) (by first | with_reducible rfl | with_reducible assumption | omega)
                  have hft := hft.cg hcw_e292
                  have hfp := hfp.cg hcw_e292
                  have hsr := hsr.cg hcw_e292 (by first | with_reducible rfl | with_reducible assumption | omega)
                  have hzts : ZTs cf270 ta ca271 na ma0 (cf270 48).toInt ys nf ma266 lo mid_7 (na 17 p0.toNatClampNeg) x7_3 tv := ZTs.tr hzts (fun q => by first | with_reducible rfl | with_reducible assumption | omega) (FrC.rf (lo := 0) (hi := 0)) (by first | with_reducible rfl | with_reducible assumption | omega) hcw_e292 (by first | with_reducible rfl | with_reducible assumption | omega) (by first | with_reducible rfl | with_reducible assumption | omega)
                  have hty_z154 : ZTe cf270 ta ca271 na ma0 (cf270 48).toInt ys nf ma266 (x7_3.toInt + 1) md2 z154 0 := ZTe.tr hty_z154 (fun q => by first | with_reducible rfl | with_reducible assumption | omega) (FrC.rf (lo := 0) (hi := 0)) (by first | with_reducible rfl | with_reducible assumption | omega) hcw_e292 (by first | with_reducible rfl | with_reducible assumption | omega) (by first | with_reducible rfl | with_reducible assumption | omega)
                  have hs3 : Sy3 ca271 (cf 48).toInt (cf270 48).toInt := Sy3.eq (hs3.cg hcw_e292 (by first | with_reducible rfl | with_reducible assumption | omega)) (by first | with_reducible rfl | with_reducible assumption | omega)
                  have hsb_e292 := hsy.1.1
                  have hcy_e292 := cl_nat (x := v242) (by first | exact oz_f3ebed1ad0 e243 hsb_e292.1 | omega)
                  have hs49 : (ca271 49 v242.toNatClampNeg).toInt = _ := (congrArg Int32.toInt (hcw_e292.2.2 _ (by first | with_reducible rfl | with_reducible assumption | omega)).1).trans hs49
                  have hs52 : (ca271 52 v242.toNatClampNeg).toInt = _ := (congrArg Int32.toInt (hcw_e292.2.2 _ (by first | with_reducible rfl | with_reducible assumption | omega)).2.2.2).trans hs52
                  have hsy : SyV ca271 (cf270 48).toInt ys v242 := hsy.cg hcw_e292 (by first | with_reducible rfl | with_reducible assumption | omega) (by first | with_reducible rfl | with_reducible assumption | omega)
                  have hwr : WrV cf270 (tf 6).toInt := WrV.eq hwr (by first | with_reducible rfl | with_reducible assumption | omega) (by first | with_reducible rfl | with_reducible assumption | omega)
                  replace hw : pw D A s.heap H locs [wdP cs h r g tf ta pf na ma266 wa cf270 ca271 ef ea xf xa] := hw
                  refine lv_aload_n S.x S.b d_Mpg_declare_223 rfl (lv_at hl 1 rfl) ?_
                  refine px_get S k_Mpg hT hw 0 0 21 (v := .ref (r 21)) rfl rfl rfl (by decide) m10_7 d_Mpg_declare_224 ?_
                  refine lv_iload_n S.x S.b d_Mpg_declare_227 rfl (lv_at hl 4 rfl) ?_
                  refine px_iald S hT hw 0 17 (n := 2100) (f := (na 21)) rfl gp_21 (x := x7_3) (vp_in_iff.mpr (by constructor <;> omega)) d_Mpg_declare_228 ?_
                  refine lv_topi (fun z293 ez293 => ?_)
                  have lz293 := Int32.le_toInt z293
                  have uz293 := Int32.toInt_lt z293
                  refine lv_istore_n (lv' := [(3, .int z293), (4, .int z4), (0, .ref h), (1, .int p0), (2, .int p1)]) S.x S.b d_Mpg_declare_229 rfl hl (by decide) rfl (fun ls hl => ?_)
                  refine lv_goto (tgt := 7) S.x S.b d_Mpg_declare_230 (by decide) ?_
                  exact ih7 ma266 cf270 ca271 md2 (wr_7 - wv3) z293 _ _ ls (show (cf270 30).toInt = 0 → (cf 30).toInt = 0 from by first | with_reducible rfl | with_reducible assumption | omega) (show WrV cf270 (tf 6).toInt from hwr) (show (cf270 37).toInt = (cf 37).toInt from by first | exact oz_0867352dd7 k7_2 e277 e17 e252 hkk37_e161 | omega) (show (cf270 38).toInt = (cf 38).toInt from by first | exact oz_0867352dd7 k7_3 e278 e12 e253 e164 | omega) (show (cf270 43).toInt = (cf 43).toInt from by first | exact oz_0867352dd7 k7_4 e281 e19 e256 hkk43_e161 | omega) (show (cf270 44).toInt = (cf 44).toInt from by first | exact oz_0867352dd7 k7_5 e282 e20 e257 hkk44_e161 | omega) (show (cf270 45).toInt = (cf 45).toInt from by first | exact oz_0867352dd7 k7_6 e283 e21 e258 hkk45_e161 | omega) (show (cf270 46).toInt = (cf 46).toInt from by first | exact oz_0867352dd7 k7_7 e284 e14 e259 e166 | omega) (show (cf270 47).toInt = (cf 47).toInt from by first | exact oz_0867352dd7 k7_8 e285 e15 e260 e167 | omega) (show (cf270 41).toInt = (cf 41).toInt from by first | exact oz_0867352dd7 k7_9 e279 e26 e254 hkk41_e161 | omega) (show (cf270 55).toInt = (cf 55).toInt from by first | exact oz_0867352dd7 k7_10 e288 e23 e261 hkk55_e161 | omega) (show (cf270 59).toInt = (cf 59).toInt from by first | exact oz_0867352dd7 k7_11 e291 e25 e264 hkk59_e161 | omega) (show (cf 33).toInt ≤ (cf270 33).toInt from by first | exact oz_a101ed4aa6 k7_12 e274 e11 e251 e163 | omega) (show 6 * (cf270 33).toInt ≤ 6 * (cf 33).toInt + (w - (wr_7 - wv3)) from by first | with_reducible rfl | with_reducible assumption | omega) (show (cf 48).toInt ≤ (cf270 48).toInt from by first | exact oz_788511b878 k7_20 e286 k7_16 k7_18 e13 hsb_e292.2 e165 | omega) (show 6 * (cf270 48).toInt ≤ 6 * (cf 48).toInt + (w - (wr_7 - wv3)) from by first | with_reducible rfl | with_reducible assumption | omega) (show (cf 54).toInt ≤ (cf270 54).toInt from by first | exact oz_39bc41608f k7_16 e287 e22 e245 hkk54_e161 | omega) (show (cf 42).toInt ≤ (cf270 42).toInt from by first | exact oz_47ce8e110c k7_18 e280 k7_16 e18 e255 hkk42_e161 tz177 | omega) (show (cf270 54).toInt - (cf 54).toInt ≤ 4 * ((cf270 42).toInt - (cf 42).toInt) from by first | exact oz_217fccdeec k7_18 e280 e287 e18 e22 e255 e247 hkk42_e161 hkk54_e161 tz177 | omega) (show (cf270 54).toInt - (cf 54).toInt ≤ 4096 * ((cf270 48).toInt - (cf 48).toInt) from by first | exact oz_0e3be830c4 k7_19 e286 e287 e13 e22 e246 hsb_e292.2 e165 hkk54_e161 | omega) (show (cf270 42).toInt - (cf 42).toInt ≤ 4096 * ((cf270 48).toInt - (cf 48).toInt) from by first | exact oz_f6b9fff360 k7_20 e280 e286 e13 e18 e255 hsb_e292.2 e165 hkk42_e161 tz177 | omega) (show KnT (tf 6).toInt ca271 (cf270 33).toInt from (KnT.eq hkt (by first | with_reducible rfl | with_reducible assumption | omega))) (show KnS ca271 (cf270 33).toInt (cf270 48).toInt ys from (KnS.eq hks (by first | with_reducible rfl | with_reducible assumption | omega) (by first | with_reducible rfl | with_reducible assumption | omega))) (show CaG ca ca271 (cf 33).toInt (cf 48).toInt from (hcg.le (by first | with_reducible rfl | with_reducible assumption | omega) (by first | with_reducible rfl | with_reducible assumption | omega))) (show SyR ca271 ys (cf270 48).toInt (cf270 54).toInt tx from (SyR.eq hsr (by first | with_reducible rfl | with_reducible assumption | omega) (by first | with_reducible rfl | with_reducible assumption | omega))) (show Ann na ma0 ma266 from han) (show FrC lo hi ma ma266 from hfc) (show Sy3 ca271 (cf 48).toInt (cf270 48).toInt from (Sy3.eq hs3 (by first | with_reducible rfl | with_reducible assumption | omega))) (show lo ≤ md2 from by first | exact hm1_md2 | omega) (show p0.toInt + 1 ≤ md2 from by first | with_reducible rfl | with_reducible assumption | omega) (show md2 ≤ hi from by first | exact hm2_md2 | omega) (show 0 ≤ (wr_7 - wv3) from by first | with_reducible rfl | with_reducible assumption | omega) (show (wr_7 - wv3) ≤ w from by first | with_reducible rfl | with_reducible assumption | omega) (show RvV ta (tf 6).toInt na ma0 d md2 hi (wr_7 - wv3) z293 from (by rw [ez293]; exact hrv2)) (show ZTs cf270 ta ca271 na ma0 (cf270 48).toInt ys nf ma266 lo md2 (na 17 p0.toNatClampNeg) z293 tv from (ZTs.nx (ZTs.to hzts (fun q => by first | with_reducible rfl | with_reducible assumption | omega) (by first | with_reducible rfl | with_reducible assumption | omega) (Int.le_refl _) (by first | with_reducible rfl | with_reducible assumption | omega) rfl) (show ZTe cf270 ta ca271 na ma0 (cf270 48).toInt ys nf ma266 lo md2 x7_3 tv from (fun zz => tyv_1 ⟨by first | with_reducible rfl | with_reducible assumption | omega, by first | with_reducible rfl | with_reducible assumption | omega, by first | with_reducible rfl | with_reducible assumption | omega⟩ (by first | with_reducible rfl | with_reducible assumption | omega) (by first | with_reducible rfl | with_reducible assumption | omega) (by rw [hv_20_x7_3]; exact hsy) (ha_z154.trans (Ann.v18 han (by first | with_reducible rfl | with_reducible assumption | omega)).symm) (Or.inr ⟨(by rw [Ann.v22 han (by first | with_reducible rfl | with_reducible assumption | omega)]; omega), (fun r9 => ((hty_z154 zz).le (by first | with_reducible rfl | with_reducible assumption | omega) (by first | with_reducible rfl | with_reducible assumption | omega)))⟩))) (by first | with_reducible rfl | with_reducible assumption | omega) ez293)) (show hi - md2 < (n_7 : Int) from by first | with_reducible rfl | with_reducible assumption | omega) hw (lv_sub hl [2, 3, 4, 0] rfl)
            · have nc151 : ¬ p1.toInt = (0 : Int) := mt (i_eq (x := p1) (y := 0)).mpr c151
              refine lv_aload_n S.x S.b d_Mpg_declare_137 rfl (lv_at hl 1 rfl) ?_
              refine lv_aload_n S.x S.b d_Mpg_declare_138 rfl (lv_at hl 1 rfl) ?_
              refine px_get S k_Mpg hT hw 0 0 18 (v := .ref (r 18)) rfl rfl rfl (by decide) m10_3 d_Mpg_declare_139 ?_
              refine lv_iload_n S.x S.b d_Mpg_declare_142 rfl (lv_at hl 4 rfl) ?_
              refine px_iald S hT hw 0 14 (n := 2100) (f := (ma_7 18)) rfl gp_18 (x := x7_3) (vp_in_iff.mpr (by constructor <;> omega)) d_Mpg_declare_143 ?_
              refine lv_topi (fun z294 ez294 => ?_)
              have lz294 := Int32.le_toInt z294
              have uz294 := Int32.toInt_lt z294
              have ha_z294 : z294 = ma0 18 x7_3.toNatClampNeg := ez294.trans (Ann.v18 han (by first | with_reducible rfl | with_reducible assumption | omega)); have hev_z294 := VcV.v11 hvc_x7_3 (by first | with_reducible rfl | with_reducible assumption | omega) (by first | with_reducible rfl | with_reducible assumption | omega) ha_z294; obtain ⟨hec_z294, h20_z294, hw_z294⟩ := hev_z294.ec; have hrg_z294 := EcV.rng hec_z294
              refine px_calli (pr := []) (px_runV (As := [.int z294]) (rest := []) S (c_mp_checkConstant l D cs ma0 ys (cf6 48).toInt nf (cf6 33).toInt d (x7_3.toInt + 1) md2 h r g tf ta pf na wa ca_7 ef ea xf xa ma_7 cf6 z294  (show 0 ≤ (x7_3.toInt + 1) from by first | exact oz_0073e084eb nc1 | omega) (show md2 ≤ (pf 13).toInt from by first | exact oz_bbb5b20c1a g1 hm2_md2 | omega) (show (pf 13).toInt ≤ 2100 from by first | exact g2 | omega) (show (tf 6).toInt ≤ 2049 from by first | exact g3 | omega) (show (cf6 33).toInt = (cf6 33).toInt from rfl) (show 0 ≤ (cf6 33).toInt from by first | exact oz_9921a0d148 e11 k7_12 g4 | omega) (show (cf6 48).toInt = (cf6 48).toInt from rfl) (show (cf6 38).toInt = nf from by first | exact oz_e13fc83238 g9 e12 k7_3 | omega) (show 0 ≤ nf from by first | exact g10 | omega) (show 0 ≤ (cf6 46).toInt from by first | exact oz_e2fef14871 e14 k7_7 g19 | omega) (show (cf6 46).toInt ≤ 1 from by first | exact oz_916d756328 e14 k7_7 g20 | omega) (show 0 ≤ (cf6 47).toInt from by first | exact oz_e2fef14871 e15 k7_8 g21 | omega) (show (cf6 47).toInt ≤ 1 from by first | exact oz_916d756328 e15 k7_8 g22 | omega) htk (FsI.le (N' := (pf 13).toInt) hfs (by first | with_reducible rfl | with_reducible assumption | omega)) hwr (KnT.eq hkt (by first | with_reducible rfl | with_reducible assumption | omega)) (FnT.eq hft (by first | with_reducible rfl | with_reducible assumption | omega)) (KnS.eq hks (by first | with_reducible rfl | with_reducible assumption | omega) (by first | with_reducible rfl | with_reducible assumption | omega)) hfp han hec_z294 (by first | assumption | omega) _) hT (pr := []) (pcs := [wdP cs h r g tf ta pf na ma_7 wa cf6 ca_7 ef ea xf xa]) hw (oX_call (P := (fun A U H => (oP A g U H))) (pr := []) oG_P hw hA hP) (px_recv hT hw 0 0 rfl rfl rfl) m12_237 m12_234 m12_236 ms_12_12 m1_21 q_Mpg_checkConstant ⟨show (4 * d + 18) + 1 ≤ (4 * d + 22) from by first | with_reducible rfl | with_reducible assumption | omega, show 8 + (5 + 11) + (200 * d + 640) ≤ (200 * d + 780) from by first | with_reducible rfl | with_reducible assumption | omega⟩ hl.1 rfl (Nat.le_of_ble_eq_true rfl) d_Mpg_declare_144 ⟨Nat.le_of_ble_eq_true rfl, Nat.le_of_ble_eq_true rfl⟩) hw hA (fun v300 p299 H locs hp299 hw => ?_)
              obtain ⟨ma297, cf298, rfl, e301, e302, e303, e304, e305, e306, e307, e308, e309, e310, e311⟩ := hp299
              replace e301 : KpE cf6 cf298 := e301
              have hkz_e301 := e301.2
              have hkk37_e301 : (cf298 37).toInt = (cf6 37).toInt := (by rw [e301.1 37 (by decide) (by decide) (by decide) (by decide) (by decide)] <;> rfl)
              have hkk43_e301 : (cf298 43).toInt = (cf6 43).toInt := (by rw [e301.1 43 (by decide) (by decide) (by decide) (by decide) (by decide)] <;> rfl)
              have hkk44_e301 : (cf298 44).toInt = (cf6 44).toInt := (by rw [e301.1 44 (by decide) (by decide) (by decide) (by decide) (by decide)] <;> rfl)
              have hkk45_e301 : (cf298 45).toInt = (cf6 45).toInt := (by rw [e301.1 45 (by decide) (by decide) (by decide) (by decide) (by decide)] <;> rfl)
              have hkk41_e301 : (cf298 41).toInt = (cf6 41).toInt := (by rw [e301.1 41 (by decide) (by decide) (by decide) (by decide) (by decide)] <;> rfl)
              have hkk55_e301 : (cf298 55).toInt = (cf6 55).toInt := (by rw [e301.1 55 (by decide) (by decide) (by decide) (by decide) (by decide)] <;> rfl)
              have hkk59_e301 : (cf298 59).toInt = (cf6 59).toInt := (by rw [e301.1 59 (by decide) (by decide) (by decide) (by decide) (by decide)] <;> rfl)
              have hkk42_e301 : (cf298 42).toInt = (cf6 42).toInt := (by rw [e301.1 42 (by decide) (by decide) (by decide) (by decide) (by decide)] <;> rfl)
              have hkk54_e301 : (cf298 54).toInt = (cf6 54).toInt := (by rw [e301.1 54 (by decide) (by decide) (by decide) (by decide) (by decide)] <;> rfl)
              have hkk58_e301 : (cf298 58).toInt = (cf6 58).toInt := (by rw [e301.1 58 (by decide) (by decide) (by decide) (by decide) (by decide)] <;> rfl)
              replace e302 : WrV cf298 (tf 6).toInt := e302
              have hwr := e302
              have hw0_e302 := hwr.1
              replace e303 : (cf298 33).toInt = (cf6 33).toInt := e303
              replace e304 : (cf298 38).toInt = (cf6 38).toInt := e304
              replace e305 : (cf298 48).toInt = (cf6 48).toInt := e305
              replace e306 : (cf298 46).toInt = (cf6 46).toInt := e306
              replace e307 : (cf298 47).toInt = (cf6 47).toInt := e307
              replace e308 : Ann na ma0 ma297 := e308
              have han := e308
              replace e309 : FrC (x7_3.toInt + 1) md2 ma_7 ma297 := e309
              have hfc := hfc.tr e309 (by first | with_reducible rfl | with_reducible assumption | omega) (by first | with_reducible rfl | with_reducible assumption | omega)
              have hzts : ZTs cf298 ta ca_7 na ma0 (cf298 48).toInt ys nf ma297 lo mid_7 (na 17 p0.toNatClampNeg) x7_3 tv := ZTs.tr hzts (fun q => by first | with_reducible rfl | with_reducible assumption | omega) e309 (by first | with_reducible rfl | with_reducible assumption | omega) (CaG.rf (kn := 0) (ns := 5000)) (by first | with_reducible rfl | with_reducible assumption | omega) (by first | with_reducible rfl | with_reducible assumption | omega)
              have e310 := z_rng e310
              replace e311 : v300.toInt = 0 → 1 ≤ (cf298 30).toInt := e311
              replace hw : pw D A s.heap H locs [wdP cs h r g tf ta pf na ma297 wa cf298 ca_7 ef ea xf xa] := hw
              have lv300 := Int32.le_toInt v300
              have uv300 := Int32.toInt_lt v300
              refine lv_pop S.x S.b d_Mpg_declare_147 rfl ?_
              refine lv_goto (tgt := 173) S.x S.b d_Mpg_declare_148 (by decide) ?_
              refine lv_aload_n S.x S.b d_Mpg_declare_173 rfl (lv_at hl 1 rfl) ?_
              refine lv_dup S.x S.b d_Mpg_declare_174 rfl ?_
              refine px_get S k_Mpg hT hw 0 0 42 (v := .int (cf298 42)) rfl rfl rfl (by decide) m10_33 d_Mpg_declare_175 ?_
              refine lv_iconst (v := 1) S.x S.b d_Mpg_declare_178 (by decide) ?_
              refine lv_iadd S.x S.b d_Mpg_declare_179 ?_
              have lr312 := Int32.le_toInt (cf298 42)
              have ur312 := Int32.toInt_lt (cf298 42)
              refine lv_topi (fun z313 ez313 => ?_)
              have tz313 : z313.toInt = ((cf298 42).toInt + (1 : Int) + 2147483648) % 4294967296 - 2147483648 := by rw [ez313]; exact i_add (cf298 42) 1
              have lz313 := Int32.le_toInt z313
              have uz313 := Int32.toInt_lt z313
              try replace tz313 : z313.toInt = (cf298 42).toInt + (1 : Int) := by omega
              refine px_put S k_Mpg hT hw 0 0 42 rfl rfl (by decide) m10_33 rfl rfl rfl (Nat.le_of_ble_eq_true rfl) d_Mpg_declare_180 (w' := wdP cs h r g tf ta pf na ma297 wa (upd cf298 42 z313) ca_7 ef ea xf xa) (ps' := [wdP cs h r g tf ta pf na ma297 wa (upd cf298 42 z313) ca_7 ef ea xf xa]) rfl rfl (fun H locs hw => ?_)
              refine lv_aload_n S.x S.b d_Mpg_declare_183 rfl (lv_at hl 1 rfl) ?_
              refine px_get S k_Mpg hT hw 0 0 20 (v := .ref (r 20)) rfl rfl rfl (by decide) m10_6 d_Mpg_declare_184 ?_
              refine lv_iload_n S.x S.b d_Mpg_declare_187 rfl (lv_at hl 4 rfl) ?_
              refine lv_aload_n S.x S.b d_Mpg_declare_188 rfl (lv_at hl 1 rfl) ?_
              refine lv_aload_n S.x S.b d_Mpg_declare_189 rfl (lv_at hl 1 rfl) ?_
              refine px_get S k_Mpg hT hw 0 0 22 (v := .ref (r 22)) rfl rfl rfl (by decide) m10_9 d_Mpg_declare_190 ?_
              refine lv_iload_n S.x S.b d_Mpg_declare_193 rfl (lv_at hl 2 rfl) ?_
              refine px_iald S hT hw 0 18 (n := 2100) (f := (ma297 22)) rfl gp_22 (x := p0) (vp_in_iff.mpr (by first | exact oz_a7e05de1cd g23 g25 g1 g2 | (constructor <;> omega))) d_Mpg_declare_194 ?_
              refine lv_topi (fun z314 ez314 => ?_)
              have lz314 := Int32.le_toInt z314
              have uz314 := Int32.toInt_lt z314
              have rz314 : z314.toInt = (ma0 22 p0.toNatClampNeg).toInt := (by rw [ez314, Ann.v22 han (by first | with_reducible rfl | with_reducible assumption | omega)])
              refine lv_iconst (v := 1) S.x S.b d_Mpg_declare_195 (by decide) ?_
              refine lv_icmp_ne (tgt := 203) S.x S.b d_Mpg_declare_196 (by decide) (fun c315 => ?_) (fun c315 => ?_)
              · have nc315 : ¬ z314.toInt = (1 : Int) := mt (i_eq (x := z314) (y := 1)).mpr c315
                refine lv_iconst (v := 0) S.x S.b d_Mpg_declare_203 (by decide) ?_
                refine lv_iconst (v := 1) S.x S.b d_Mpg_declare_204 (by decide) ?_
                refine px_calli (pr := []) (px_runV (As := [.int 0, .int 1]) (rest := [.int x7_3, .ref (r 20)]) S (c_mp_lay l D cs h r g tf ta pf na ma297 wa ef ea xf xa (upd cf298 42 z313) ca_7 0 1  (show 0 ≤ (cf298 48).toInt from by first | exact oz_34de85669e e305 e13 k7_20 g14 g15 k7_16 k7_18 | omega) (show (cf298 48).toInt < 1100 from by first | exact oz_75b62dc8f3 e305 e13 k7_15 g8 k7_31 | omega) (show 0 ≤ (0 : Int) from by first | decide | omega) (show (0 : Int) ≤ 5 from by first | decide | omega) (show 0 ≤ (1 : Int) from by first | decide | omega) (show (1 : Int) ≤ 4096 from by first | decide | omega) (show 0 ≤ (cf298 54).toInt from by first | exact oz_9bcc310e9c hkk54_e301 e22 k7_16 g12 | omega) (show (cf298 54).toInt ≤ 40000000 from by first | exact oz_17a0157d43 hkk54_e301 e22 k7_19 g8 g13 k7_15 k7_31 | omega) htk _) hT (pr := []) (pcs := [wdP cs h r g tf ta pf na ma297 wa (upd cf298 42 z313) ca_7 ef ea xf xa]) hw px_X.tt (px_recv hT hw 0 0 rfl rfl rfl) m12_189 m12_186 m12_188 ms_12_0 m1_21 q_Mpg_lay ⟨show 0 + 1 ≤ (4 * d + 22) from by first | with_reducible rfl | with_reducible assumption | omega, show 8 + (3 + 11) + 0 ≤ (200 * d + 780) from by first | with_reducible rfl | with_reducible assumption | omega⟩ hl.1 rfl (Nat.le_of_ble_eq_true rfl) d_Mpg_declare_205 ⟨Nat.le_of_ble_eq_true rfl, Nat.le_of_ble_eq_true rfl⟩) hw hA (fun v321 p320 H locs hp320 hw => ?_)
                obtain ⟨cf318, ca319, rfl, e322, e323, e324, e325, e326, e327, e328, e329, e330, e331, e332, e333, e334, e335, e336, e337, e338, e339, e340, e341, e342, e343, e344⟩ := hp320
                replace e322 : v321.toInt = (cf298 48).toInt := e322
                replace e323 : (cf318 48).toInt = (cf298 48).toInt + 1 := e323
                replace e324 : (cf298 54).toInt ≤ (cf318 54).toInt := e324
                replace e325 : (cf318 54).toInt ≤ (cf298 54).toInt + 4096 := e325
                replace e326 : (0 : Int) ≤ 3 → (cf318 54).toInt = (cf298 54).toInt + (1 : Int) := e326
                replace e327 : 4 ≤ (0 : Int) → (cf318 54).toInt = (cf298 54).toInt + 2 := e327
                replace e328 : (cf318 30).toInt = (cf298 30).toInt := e328
                replace e329 : (cf318 31).toInt = (cf298 31).toInt := e329
                replace e330 : (cf318 33).toInt = (cf298 33).toInt := e330
                replace e331 : (cf318 37).toInt = (cf298 37).toInt := e331
                replace e332 : (cf318 38).toInt = (cf298 38).toInt := e332
                replace e333 : (cf318 41).toInt = (cf298 41).toInt := e333
                replace e334 : (cf318 42).toInt = z313.toInt := e334
                replace e335 : (cf318 43).toInt = (cf298 43).toInt := e335
                replace e336 : (cf318 44).toInt = (cf298 44).toInt := e336
                replace e337 : (cf318 45).toInt = (cf298 45).toInt := e337
                replace e338 : (cf318 46).toInt = (cf298 46).toInt := e338
                replace e339 : (cf318 47).toInt = (cf298 47).toInt := e339
                replace e340 : (cf318 55).toInt = (cf298 55).toInt := e340
                replace e341 : (cf318 57).toInt = (cf298 57).toInt := e341
                replace e342 : (cf318 58).toInt = (cf298 58).toInt := e342
                replace e343 : (cf318 59).toInt = (cf298 59).toInt := e343
                replace e344 : LyU ca_7 ca319 (cf298 48) (0 : Int32) (cf298 54) (1 : Int32) (txo (cf298 43).toInt) := e344
                have hlu : LyU ca_7 ca319 (cf298 48) (0 : Int32) (cf298 54) (1 : Int32) tx := (by rw [← htx]; exact (by rw [show (cf 43).toInt = (cf298 43).toInt by omega]; exact e344))
                have hcl_e344 : CaG ca_7 ca319 (cf318 33).toInt (cf298 48).toInt := cag_ly hlu (by first | with_reducible rfl | with_reducible assumption | omega) (by first | with_reducible rfl | with_reducible assumption | omega)
                have hsr : SyR ca319 ys (cf318 48).toInt (cf318 54).toInt tx := SyR.eq (SyR.ly (cells' := (cf318 54).toInt) (SyR.eq hsr (ns' := (cf298 48).toInt) (by first | with_reducible rfl | with_reducible assumption | omega) rfl) hlu rfl (by first | with_reducible rfl | with_reducible assumption | omega) (by first | with_reducible rfl | with_reducible assumption | omega) (by first | with_reducible rfl | with_reducible assumption | omega) ⟨by first | with_reducible rfl | with_reducible assumption | omega, by first | with_reducible rfl | with_reducible assumption | omega⟩ ⟨by first | with_reducible rfl | with_reducible assumption | omega, by first | with_reducible rfl | with_reducible assumption | omega⟩ (fun q => by first | with_reducible rfl | with_reducible assumption | omega) (fun q => by first | with_reducible rfl | with_reducible assumption | omega) (fun q => by first | with_reducible rfl | with_reducible assumption | omega)) (by first | with_reducible rfl | with_reducible assumption | omega) rfl
                have hkt := hkt.cg hcl_e344 (by first | with_reducible rfl | with_reducible assumption | omega)
                have hks := hks.cg hcl_e344 (by first | with_reducible rfl | with_reducible assumption | omega) (by first | with_reducible rfl | with_reducible assumption | omega) (n2 := (cf318 48).toInt) (by first | with_reducible rfl | with_reducible assumption | omega)
                have hcg := hcg.tr hcl_e344 (by first | with_reducible rfl | with_reducible assumption | omega) (by first | with_reducible rfl | with_reducible assumption | omega)
                have hft := hft.cg hcl_e344
                have hfp := hfp.cg hcl_e344
                have hzts : ZTs cf318 ta ca319 na ma0 (cf318 48).toInt ys nf ma297 lo mid_7 (na 17 p0.toNatClampNeg) x7_3 tv := ZTs.tr hzts (fun q => by first | with_reducible rfl | with_reducible assumption | omega) (FrC.rf (lo := 0) (hi := 0)) (by first | with_reducible rfl | with_reducible assumption | omega) hcl_e344 (by first | with_reducible rfl | with_reducible assumption | omega) (by first | with_reducible rfl | with_reducible assumption | omega)
                have hs49 : (ca319 49 (cf298 48).toNatClampNeg).toInt = (0 : Int) := (by rw [hlu.2.1 (by first | with_reducible rfl | with_reducible assumption | omega) (by first | with_reducible rfl | with_reducible assumption | omega)]; rfl)
                have hs52 : (ca319 52 (cf298 48).toNatClampNeg).toInt = (1 : Int) := (by rw [hlu.2.2.2.1]; rfl)
                have hsy : SyV ca319 (cf318 48).toInt ys (cf298 48) := hlu.sv (by first | with_reducible rfl | with_reducible assumption | omega) (by first | with_reducible rfl | with_reducible assumption | omega) ⟨by first | with_reducible rfl | with_reducible assumption | omega, by first | with_reducible rfl | with_reducible assumption | omega⟩ (by first | with_reducible rfl | with_reducible assumption | omega)
                have hs3 : Sy3 ca319 (cf 48).toInt (cf318 48).toInt := Sy3.eq (Sy3.ly (Sy3.eq hs3 (b' := (cf298 48).toInt) (by first | with_reducible rfl | with_reducible assumption | omega)) hlu rfl (by first | with_reducible rfl | with_reducible assumption | omega) (by first | with_reducible rfl | with_reducible assumption | omega)) (by first | with_reducible rfl | with_reducible assumption | omega)
                have hwr : WrV cf318 (tf 6).toInt := WrV.eq hwr (by first | with_reducible rfl | with_reducible assumption | omega) (by first | with_reducible rfl | with_reducible assumption | omega)
                replace hw : pw D A s.heap H locs [wdP cs h r g tf ta pf na ma297 wa cf318 ca319 ef ea xf xa] := hw
                have lv321 := Int32.le_toInt v321
                have uv321 := Int32.toInt_lt v321
                have hyv : (cf298 48) = v321 := i_eq.mpr (by first | with_reducible rfl | with_reducible assumption | omega); rw [hyv] at hsy hs49 hs52
                refine px_iast S hT hw 0 16 (n := 2100) (f := (ma297 20)) (x := x7_3) (y := v321) rfl gp_20 (vp_in_iff.mpr (by constructor <;> omega)) d_Mpg_declare_208 (w' := wdP cs h r g tf ta pf na (va_up ma297 20 (upd (ma297 20) x7_3.toNatClampNeg v321)) wa cf318 ca319 ef ea xf xa) (ps' := [wdP cs h r g tf ta pf na (va_up ma297 20 (upd (ma297 20) x7_3.toNatClampNeg v321)) wa cf318 ca319 ef ea xf xa]) sp_20 rfl (fun H locs hw => ?_)
                obtain ⟨ma345, hu_ma345⟩ : ∃ y : Nat → Nat → Int32, y = va_up ma297 20 (upd (ma297 20) x7_3.toNatClampNeg v321) := ⟨_, rfl⟩
                have hw : pw D A s.heap _ _ [wdP cs h r g tf ta pf na ma345 wa cf318 ca319 ef ea xf xa] := (by rw [hu_ma345]; exact hw)
                have hf1_ma345 : FrC x7_3.toInt (x7_3.toInt + 1) ma297 ma345 := (by rw [hu_ma345]; exact FrC.w FrC.rf (by first | with_reducible rfl | with_reducible assumption | omega) (by first | with_reducible rfl | with_reducible assumption | omega) (by first | with_reducible rfl | with_reducible assumption | omega))
                have han : Ann na ma0 ma345 := (by rw [hu_ma345]; exact Ann.w20 han (by first | with_reducible rfl | with_reducible assumption | omega))
                have hfc := hfc.tr hf1_ma345 (by first | with_reducible rfl | with_reducible assumption | omega) (by first | with_reducible rfl | with_reducible assumption | omega)
                have hzts : ZTs cf318 ta ca319 na ma0 (cf318 48).toInt ys nf ma345 lo mid_7 (na 17 p0.toNatClampNeg) x7_3 tv := ZTs.tr hzts (fun q => by first | with_reducible rfl | with_reducible assumption | omega) hf1_ma345 (by first | with_reducible rfl | with_reducible assumption | omega) (CaG.rf (kn := 0) (ns := 5000)) (by first | with_reducible rfl | with_reducible assumption | omega) (by first | with_reducible rfl | with_reducible assumption | omega)
                have hv_20_x7_3 : ma345 20 x7_3.toNatClampNeg = v321 := (by rw [hu_ma345, va_up_s, pk_us])
                have hnhv_20_x7_3 : (ma345 20 x7_3.toNatClampNeg).toInt = v321.toInt := (by rw [hv_20_x7_3])
                refine lv_aload_n S.x S.b d_Mpg_declare_209 rfl (lv_at hl 1 rfl) ?_
                refine lv_iload S.x S.b d_Mpg_declare_210 (lv_at hl 0 rfl) ?_
                refine lv_iconst (v := 1) S.x S.b d_Mpg_declare_212 (by decide) ?_
                refine lv_iconst (v := 0) S.x S.b d_Mpg_declare_213 (by decide) ?_
                refine lv_aload_n S.x S.b d_Mpg_declare_214 rfl (lv_at hl 1 rfl) ?_
                refine px_get S k_Mpg hT hw 0 0 20 (v := .ref (r 20)) rfl rfl rfl (by decide) m10_6 d_Mpg_declare_215 ?_
                refine lv_iload_n S.x S.b d_Mpg_declare_218 rfl (lv_at hl 4 rfl) ?_
                refine px_iald S hT hw 0 16 (n := 2100) (f := (ma345 20)) rfl gp_20 (x := x7_3) (vp_in_iff.mpr (by constructor <;> omega)) d_Mpg_declare_219 ?_
                refine lv_topi (fun z346 ez346 => ?_)
                have lz346 := Int32.le_toInt z346
                have uz346 := Int32.toInt_lt z346
                have hsz346 : v321 = z346 := (ez346.trans hv_20_x7_3).symm; subst hsz346
                refine px_callv (pr := []) (px_runV (As := [.int z4, .int 1, .int 0, .int v321]) (rest := []) S (c_mp_know l D cs h r g tf ta pf na ma345 wa ef ea xf xa cf318 ca319 z4 1 0 v321  (show 0 ≤ (cf318 33).toInt from by first | exact oz_eb53d9d016 e330 e303 e11 k7_12 g4 | omega) (show (cf318 33).toInt < 1100 from by first | exact oz_3ef51c39d5 e330 e303 e11 k7_13 g6 k7_31 | omega) htk _) hT (pr := []) (pcs := [wdP cs h r g tf ta pf na ma345 wa cf318 ca319 ef ea xf xa]) hw px_X.tt (px_recv hT hw 0 0 rfl rfl rfl) m12_193 m12_190 m12_192 ms_12_1 m1_21 q_Mpg_know ⟨show 0 + 1 ≤ (4 * d + 22) from by first | with_reducible rfl | with_reducible assumption | omega, show 8 + (5 + 11) + 0 ≤ (200 * d + 780) from by first | with_reducible rfl | with_reducible assumption | omega⟩ hl.1 rfl (Nat.le_of_ble_eq_true rfl) d_Mpg_declare_220 ⟨Nat.le_of_ble_eq_true rfl, Nat.le_of_ble_eq_true rfl⟩) hw hA (fun p351 H locs hp351 hw => ?_)
                obtain ⟨cf349, ca350, rfl, e353, e354, e355, e356, e357, e358, e359, e360, e361, e362, e363, e364, e365, e366, e367, e368, e369, e370, e371⟩ := hp351
                replace e353 : (cf349 33).toInt = (cf318 33).toInt + 1 := e353
                replace e354 : (cf349 30).toInt = (cf318 30).toInt := e354
                replace e355 : (cf349 31).toInt = (cf318 31).toInt := e355
                replace e356 : (cf349 37).toInt = (cf318 37).toInt := e356
                replace e357 : (cf349 38).toInt = (cf318 38).toInt := e357
                replace e358 : (cf349 41).toInt = (cf318 41).toInt := e358
                replace e359 : (cf349 42).toInt = (cf318 42).toInt := e359
                replace e360 : (cf349 43).toInt = (cf318 43).toInt := e360
                replace e361 : (cf349 44).toInt = (cf318 44).toInt := e361
                replace e362 : (cf349 45).toInt = (cf318 45).toInt := e362
                replace e363 : (cf349 46).toInt = (cf318 46).toInt := e363
                replace e364 : (cf349 47).toInt = (cf318 47).toInt := e364
                replace e365 : (cf349 48).toInt = (cf318 48).toInt := e365
                replace e366 : (cf349 54).toInt = (cf318 54).toInt := e366
                replace e367 : (cf349 55).toInt = (cf318 55).toInt := e367
                replace e368 : (cf349 57).toInt = (cf318 57).toInt := e368
                replace e369 : (cf349 58).toInt = (cf318 58).toInt := e369
                replace e370 : (cf349 59).toInt = (cf318 59).toInt := e370
                replace e371 : KwU ca319 ca350 (cf318 33) z4 (1 : Int32) (0 : Int32) v321 := e371
                have hcw_e371 : CaG ca319 ca350 (cf318 33).toInt (cf349 48).toInt := cag_kw e371 (by first | with_reducible rfl | with_reducible assumption | omega) (by first | with_reducible rfl | with_reducible assumption | omega)
                have hkt : KnT (tf 6).toInt ca350 (cf349 33).toInt := KnT.eq (KnT.kw (KnT.eq hkt (n' := (cf318 33).toInt) (by first | with_reducible rfl | with_reducible assumption | omega)) e371 rfl (by first | with_reducible rfl | with_reducible assumption | omega) (by first | with_reducible rfl | with_reducible assumption | omega) ⟨by first | with_reducible rfl | with_reducible assumption | omega, by first | with_reducible rfl | with_reducible assumption | omega⟩) (by first | with_reducible rfl | with_reducible assumption | omega)
                have hks : KnS ca350 (cf349 33).toInt (cf349 48).toInt ys := KnS.eq (KnS.kw (KnS.eq hks (n' := (cf318 33).toInt) (by first | with_reducible rfl | with_reducible assumption | omega) rfl) e371 rfl (by first | with_reducible rfl | with_reducible assumption | omega) (Or.inl ⟨by first | with_reducible rfl | with_reducible assumption | omega, hsy⟩)) (by first | with_reducible rfl | with_reducible assumption | omega) (by first | with_reducible rfl | with_reducible assumption | omega)
                have hcg := hcg.tr hcw_e371 (by first | with_reducible rfl | with_reducible assumption | omega) (by first | with_reducible rfl | with_reducible assumption | omega)
                have hft := hft.cg hcw_e371
                have hfp := hfp.cg hcw_e371
                have hsr := hsr.cg hcw_e371 (by first | with_reducible rfl | with_reducible assumption | omega)
                have hzts : ZTs cf349 ta ca350 na ma0 (cf349 48).toInt ys nf ma345 lo mid_7 (na 17 p0.toNatClampNeg) x7_3 tv := ZTs.tr hzts (fun q => by first | with_reducible rfl | with_reducible assumption | omega) (FrC.rf (lo := 0) (hi := 0)) (by first | with_reducible rfl | with_reducible assumption | omega) hcw_e371 (by first | with_reducible rfl | with_reducible assumption | omega) (by first | with_reducible rfl | with_reducible assumption | omega)
                have hs3 : Sy3 ca350 (cf 48).toInt (cf349 48).toInt := Sy3.eq (hs3.cg hcw_e371 (by first | with_reducible rfl | with_reducible assumption | omega)) (by first | with_reducible rfl | with_reducible assumption | omega)
                have hsb_e371 := hsy.1.1
                have hcy_e371 := cl_nat (x := v321) (by first | exact oz_f3ebed1ad0 e322 hsb_e371.1 | omega)
                have hs49 : (ca350 49 v321.toNatClampNeg).toInt = _ := (congrArg Int32.toInt (hcw_e371.2.2 _ (by first | with_reducible rfl | with_reducible assumption | omega)).1).trans hs49
                have hs52 : (ca350 52 v321.toNatClampNeg).toInt = _ := (congrArg Int32.toInt (hcw_e371.2.2 _ (by first | with_reducible rfl | with_reducible assumption | omega)).2.2.2).trans hs52
                have hsy : SyV ca350 (cf349 48).toInt ys v321 := hsy.cg hcw_e371 (by first | with_reducible rfl | with_reducible assumption | omega) (by first | with_reducible rfl | with_reducible assumption | omega)
                have hwr : WrV cf349 (tf 6).toInt := WrV.eq hwr (by first | with_reducible rfl | with_reducible assumption | omega) (by first | with_reducible rfl | with_reducible assumption | omega)
                replace hw : pw D A s.heap H locs [wdP cs h r g tf ta pf na ma345 wa cf349 ca350 ef ea xf xa] := hw
                refine lv_aload_n S.x S.b d_Mpg_declare_223 rfl (lv_at hl 1 rfl) ?_
                refine px_get S k_Mpg hT hw 0 0 21 (v := .ref (r 21)) rfl rfl rfl (by decide) m10_7 d_Mpg_declare_224 ?_
                refine lv_iload_n S.x S.b d_Mpg_declare_227 rfl (lv_at hl 4 rfl) ?_
                refine px_iald S hT hw 0 17 (n := 2100) (f := (na 21)) rfl gp_21 (x := x7_3) (vp_in_iff.mpr (by constructor <;> omega)) d_Mpg_declare_228 ?_
                refine lv_topi (fun z372 ez372 => ?_)
                have lz372 := Int32.le_toInt z372
                have uz372 := Int32.toInt_lt z372
                refine lv_istore_n (lv' := [(3, .int z372), (4, .int z4), (0, .ref h), (1, .int p0), (2, .int p1)]) S.x S.b d_Mpg_declare_229 rfl hl (by decide) rfl (fun ls hl => ?_)
                refine lv_goto (tgt := 7) S.x S.b d_Mpg_declare_230 (by decide) ?_
                exact ih7 ma345 cf349 ca350 md2 (wr_7 - wv3) z372 _ _ ls (show (cf349 30).toInt = 0 → (cf 30).toInt = 0 from by first | with_reducible rfl | with_reducible assumption | omega) (show WrV cf349 (tf 6).toInt from hwr) (show (cf349 37).toInt = (cf 37).toInt from by first | exact oz_0867352dd7 k7_2 e356 e17 e331 hkk37_e301 | omega) (show (cf349 38).toInt = (cf 38).toInt from by first | exact oz_0867352dd7 k7_3 e357 e12 e332 e304 | omega) (show (cf349 43).toInt = (cf 43).toInt from by first | exact oz_0867352dd7 k7_4 e360 e19 e335 hkk43_e301 | omega) (show (cf349 44).toInt = (cf 44).toInt from by first | exact oz_0867352dd7 k7_5 e361 e20 e336 hkk44_e301 | omega) (show (cf349 45).toInt = (cf 45).toInt from by first | exact oz_0867352dd7 k7_6 e362 e21 e337 hkk45_e301 | omega) (show (cf349 46).toInt = (cf 46).toInt from by first | exact oz_0867352dd7 k7_7 e363 e14 e338 e306 | omega) (show (cf349 47).toInt = (cf 47).toInt from by first | exact oz_0867352dd7 k7_8 e364 e15 e339 e307 | omega) (show (cf349 41).toInt = (cf 41).toInt from by first | exact oz_0867352dd7 k7_9 e358 e26 e333 hkk41_e301 | omega) (show (cf349 55).toInt = (cf 55).toInt from by first | exact oz_0867352dd7 k7_10 e367 e23 e340 hkk55_e301 | omega) (show (cf349 59).toInt = (cf 59).toInt from by first | exact oz_0867352dd7 k7_11 e370 e25 e343 hkk59_e301 | omega) (show (cf 33).toInt ≤ (cf349 33).toInt from by first | exact oz_a101ed4aa6 k7_12 e353 e11 e330 e303 | omega) (show 6 * (cf349 33).toInt ≤ 6 * (cf 33).toInt + (w - (wr_7 - wv3)) from by first | with_reducible rfl | with_reducible assumption | omega) (show (cf 48).toInt ≤ (cf349 48).toInt from by first | exact oz_788511b878 k7_20 e365 k7_16 k7_18 e13 hsb_e371.2 e305 | omega) (show 6 * (cf349 48).toInt ≤ 6 * (cf 48).toInt + (w - (wr_7 - wv3)) from by first | with_reducible rfl | with_reducible assumption | omega) (show (cf 54).toInt ≤ (cf349 54).toInt from by first | exact oz_39bc41608f k7_16 e366 e22 e324 hkk54_e301 | omega) (show (cf 42).toInt ≤ (cf349 42).toInt from by first | exact oz_47ce8e110c k7_18 e359 k7_16 e18 e334 hkk42_e301 tz313 | omega) (show (cf349 54).toInt - (cf 54).toInt ≤ 4 * ((cf349 42).toInt - (cf 42).toInt) from by first | exact oz_0159125df4 k7_18 e359 e366 e18 e22 e334 e326 hkk42_e301 hkk54_e301 tz313 | omega) (show (cf349 54).toInt - (cf 54).toInt ≤ 4096 * ((cf349 48).toInt - (cf 48).toInt) from by first | exact oz_0e3be830c4 k7_19 e365 e366 e13 e22 e325 hsb_e371.2 e305 hkk54_e301 | omega) (show (cf349 42).toInt - (cf 42).toInt ≤ 4096 * ((cf349 48).toInt - (cf 48).toInt) from by first | exact oz_f6b9fff360 k7_20 e359 e365 e13 e18 e334 hsb_e371.2 e305 hkk42_e301 tz313 | omega) (show KnT (tf 6).toInt ca350 (cf349 33).toInt from (KnT.eq hkt (by first | with_reducible rfl | with_reducible assumption | omega))) (show KnS ca350 (cf349 33).toInt (cf349 48).toInt ys from (KnS.eq hks (by first | with_reducible rfl | with_reducible assumption | omega) (by first | with_reducible rfl | with_reducible assumption | omega))) (show CaG ca ca350 (cf 33).toInt (cf 48).toInt from (hcg.le (by first | with_reducible rfl | with_reducible assumption | omega) (by first | with_reducible rfl | with_reducible assumption | omega))) (show SyR ca350 ys (cf349 48).toInt (cf349 54).toInt tx from (SyR.eq hsr (by first | with_reducible rfl | with_reducible assumption | omega) (by first | with_reducible rfl | with_reducible assumption | omega))) (show Ann na ma0 ma345 from han) (show FrC lo hi ma ma345 from hfc) (show Sy3 ca350 (cf 48).toInt (cf349 48).toInt from (Sy3.eq hs3 (by first | with_reducible rfl | with_reducible assumption | omega))) (show lo ≤ md2 from by first | exact hm1_md2 | omega) (show p0.toInt + 1 ≤ md2 from by first | with_reducible rfl | with_reducible assumption | omega) (show md2 ≤ hi from by first | exact hm2_md2 | omega) (show 0 ≤ (wr_7 - wv3) from by first | with_reducible rfl | with_reducible assumption | omega) (show (wr_7 - wv3) ≤ w from by first | with_reducible rfl | with_reducible assumption | omega) (show RvV ta (tf 6).toInt na ma0 d md2 hi (wr_7 - wv3) z372 from (by rw [ez372]; exact hrv2)) (show ZTs cf349 ta ca350 na ma0 (cf349 48).toInt ys nf ma345 lo md2 (na 17 p0.toNatClampNeg) z372 tv from (ZTs.nx (ZTs.to hzts (fun q => by first | with_reducible rfl | with_reducible assumption | omega) (by first | with_reducible rfl | with_reducible assumption | omega) (Int.le_refl _) (by first | with_reducible rfl | with_reducible assumption | omega) rfl) (show ZTe cf349 ta ca350 na ma0 (cf349 48).toInt ys nf ma345 lo md2 x7_3 tv from (fun zz => tyv_1 ⟨by first | with_reducible rfl | with_reducible assumption | omega, by first | with_reducible rfl | with_reducible assumption | omega, by first | with_reducible rfl | with_reducible assumption | omega⟩ (by first | with_reducible rfl | with_reducible assumption | omega) (by first | with_reducible rfl | with_reducible assumption | omega) (by rw [hv_20_x7_3]; exact hsy) (ha_z294.trans (Ann.v18 han (by first | with_reducible rfl | with_reducible assumption | omega)).symm) (Or.inr ⟨(by rw [Ann.v22 han (by first | with_reducible rfl | with_reducible assumption | omega)]; omega), (fun r9 => absurd r9 (by first | with_reducible rfl | with_reducible assumption | omega))⟩))) (by first | with_reducible rfl | with_reducible assumption | omega) ez372)) (show hi - md2 < (n_7 : Int) from by first | with_reducible rfl | with_reducible assumption | omega) hw (lv_sub hl [2, 3, 4, 0] rfl)
              · have nc315 : z314.toInt = (1 : Int) := (i_eq (x := z314) (y := 1)).mp c315
                refine lv_iconst (v := 1) S.x S.b d_Mpg_declare_199 (by decide) ?_
                refine lv_goto (tgt := 204) S.x S.b d_Mpg_declare_200 (by decide) ?_
                refine lv_iconst (v := 1) S.x S.b d_Mpg_declare_204 (by decide) ?_
                refine px_calli (pr := []) (px_runV (As := [.int 1, .int 1]) (rest := [.int x7_3, .ref (r 20)]) S (c_mp_lay l D cs h r g tf ta pf na ma297 wa ef ea xf xa (upd cf298 42 z313) ca_7 1 1  (show 0 ≤ (cf298 48).toInt from by first | exact oz_34de85669e e305 e13 k7_20 g14 g15 k7_16 k7_18 | omega) (show (cf298 48).toInt < 1100 from by first | exact oz_75b62dc8f3 e305 e13 k7_15 g8 k7_31 | omega) (show 0 ≤ (1 : Int) from by first | decide | omega) (show (1 : Int) ≤ 5 from by first | decide | omega) (show 0 ≤ (1 : Int) from by first | decide | omega) (show (1 : Int) ≤ 4096 from by first | decide | omega) (show 0 ≤ (cf298 54).toInt from by first | exact oz_9bcc310e9c hkk54_e301 e22 k7_16 g12 | omega) (show (cf298 54).toInt ≤ 40000000 from by first | exact oz_17a0157d43 hkk54_e301 e22 k7_19 g8 g13 k7_15 k7_31 | omega) htk _) hT (pr := []) (pcs := [wdP cs h r g tf ta pf na ma297 wa (upd cf298 42 z313) ca_7 ef ea xf xa]) hw px_X.tt (px_recv hT hw 0 0 rfl rfl rfl) m12_189 m12_186 m12_188 ms_12_0 m1_21 q_Mpg_lay ⟨show 0 + 1 ≤ (4 * d + 22) from by first | with_reducible rfl | with_reducible assumption | omega, show 8 + (3 + 11) + 0 ≤ (200 * d + 780) from by first | with_reducible rfl | with_reducible assumption | omega⟩ hl.1 rfl (Nat.le_of_ble_eq_true rfl) d_Mpg_declare_205 ⟨Nat.le_of_ble_eq_true rfl, Nat.le_of_ble_eq_true rfl⟩) hw hA (fun v378 p377 H locs hp377 hw => ?_)
                obtain ⟨cf375, ca376, rfl, e379, e380, e381, e382, e383, e384, e385, e386, e387, e388, e389, e390, e391, e392, e393, e394, e395, e396, e397, e398, e399, e400, e401⟩ := hp377
                replace e379 : v378.toInt = (cf298 48).toInt := e379
                replace e380 : (cf375 48).toInt = (cf298 48).toInt + 1 := e380
                replace e381 : (cf298 54).toInt ≤ (cf375 54).toInt := e381
                replace e382 : (cf375 54).toInt ≤ (cf298 54).toInt + 4096 := e382
                replace e383 : (1 : Int) ≤ 3 → (cf375 54).toInt = (cf298 54).toInt + (1 : Int) := e383
                replace e384 : 4 ≤ (1 : Int) → (cf375 54).toInt = (cf298 54).toInt + 2 := e384
                replace e385 : (cf375 30).toInt = (cf298 30).toInt := e385
                replace e386 : (cf375 31).toInt = (cf298 31).toInt := e386
                replace e387 : (cf375 33).toInt = (cf298 33).toInt := e387
                replace e388 : (cf375 37).toInt = (cf298 37).toInt := e388
                replace e389 : (cf375 38).toInt = (cf298 38).toInt := e389
                replace e390 : (cf375 41).toInt = (cf298 41).toInt := e390
                replace e391 : (cf375 42).toInt = z313.toInt := e391
                replace e392 : (cf375 43).toInt = (cf298 43).toInt := e392
                replace e393 : (cf375 44).toInt = (cf298 44).toInt := e393
                replace e394 : (cf375 45).toInt = (cf298 45).toInt := e394
                replace e395 : (cf375 46).toInt = (cf298 46).toInt := e395
                replace e396 : (cf375 47).toInt = (cf298 47).toInt := e396
                replace e397 : (cf375 55).toInt = (cf298 55).toInt := e397
                replace e398 : (cf375 57).toInt = (cf298 57).toInt := e398
                replace e399 : (cf375 58).toInt = (cf298 58).toInt := e399
                replace e400 : (cf375 59).toInt = (cf298 59).toInt := e400
                replace e401 : LyU ca_7 ca376 (cf298 48) (1 : Int32) (cf298 54) (1 : Int32) (txo (cf298 43).toInt) := e401
                have hlu : LyU ca_7 ca376 (cf298 48) (1 : Int32) (cf298 54) (1 : Int32) tx := (by rw [← htx]; exact (by rw [show (cf 43).toInt = (cf298 43).toInt by omega]; exact e401))
                have hcl_e401 : CaG ca_7 ca376 (cf375 33).toInt (cf298 48).toInt := cag_ly hlu (by first | with_reducible rfl | with_reducible assumption | omega) (by first | with_reducible rfl | with_reducible assumption | omega)
                have hsr : SyR ca376 ys (cf375 48).toInt (cf375 54).toInt tx := SyR.eq (SyR.ly (cells' := (cf375 54).toInt) (SyR.eq hsr (ns' := (cf298 48).toInt) (by first | with_reducible rfl | with_reducible assumption | omega) rfl) hlu rfl (by first | with_reducible rfl | with_reducible assumption | omega) (by first | with_reducible rfl | with_reducible assumption | omega) (by first | with_reducible rfl | with_reducible assumption | omega) ⟨by first | with_reducible rfl | with_reducible assumption | omega, by first | with_reducible rfl | with_reducible assumption | omega⟩ ⟨by first | with_reducible rfl | with_reducible assumption | omega, by first | with_reducible rfl | with_reducible assumption | omega⟩ (fun q => by first | with_reducible rfl | with_reducible assumption | omega) (fun q => by first | with_reducible rfl | with_reducible assumption | omega) (fun q => by first | with_reducible rfl | with_reducible assumption | omega)) (by first | with_reducible rfl | with_reducible assumption | omega) rfl
                have hkt := hkt.cg hcl_e401 (by first | with_reducible rfl | with_reducible assumption | omega)
                have hks := hks.cg hcl_e401 (by first | with_reducible rfl | with_reducible assumption | omega) (by first | with_reducible rfl | with_reducible assumption | omega) (n2 := (cf375 48).toInt) (by first | with_reducible rfl | with_reducible assumption | omega)
                have hcg := hcg.tr hcl_e401 (by first | with_reducible rfl | with_reducible assumption | omega) (by first | with_reducible rfl | with_reducible assumption | omega)
                have hft := hft.cg hcl_e401
                have hfp := hfp.cg hcl_e401
                have hzts : ZTs cf375 ta ca376 na ma0 (cf375 48).toInt ys nf ma297 lo mid_7 (na 17 p0.toNatClampNeg) x7_3 tv := ZTs.tr hzts (fun q => by first | with_reducible rfl | with_reducible assumption | omega) (FrC.rf (lo := 0) (hi := 0)) (by first | with_reducible rfl | with_reducible assumption | omega) hcl_e401 (by first | with_reducible rfl | with_reducible assumption | omega) (by first | with_reducible rfl | with_reducible assumption | omega)
                have hs49 : (ca376 49 (cf298 48).toNatClampNeg).toInt = (1 : Int) := (by rw [hlu.2.1 (by first | with_reducible rfl | with_reducible assumption | omega) (by first | with_reducible rfl | with_reducible assumption | omega)]; rfl)
                have hs52 : (ca376 52 (cf298 48).toNatClampNeg).toInt = (1 : Int) := (by rw [hlu.2.2.2.1]; rfl)
                have hsy : SyV ca376 (cf375 48).toInt ys (cf298 48) := hlu.sv (by first | with_reducible rfl | with_reducible assumption | omega) (by first | with_reducible rfl | with_reducible assumption | omega) ⟨by first | with_reducible rfl | with_reducible assumption | omega, by first | with_reducible rfl | with_reducible assumption | omega⟩ (by first | with_reducible rfl | with_reducible assumption | omega)
                have hs3 : Sy3 ca376 (cf 48).toInt (cf375 48).toInt := Sy3.eq (Sy3.ly (Sy3.eq hs3 (b' := (cf298 48).toInt) (by first | with_reducible rfl | with_reducible assumption | omega)) hlu rfl (by first | with_reducible rfl | with_reducible assumption | omega) (by first | with_reducible rfl | with_reducible assumption | omega)) (by first | with_reducible rfl | with_reducible assumption | omega)
                have hwr : WrV cf375 (tf 6).toInt := WrV.eq hwr (by first | with_reducible rfl | with_reducible assumption | omega) (by first | with_reducible rfl | with_reducible assumption | omega)
                replace hw : pw D A s.heap H locs [wdP cs h r g tf ta pf na ma297 wa cf375 ca376 ef ea xf xa] := hw
                have lv378 := Int32.le_toInt v378
                have uv378 := Int32.toInt_lt v378
                have hyv : (cf298 48) = v378 := i_eq.mpr (by first | with_reducible rfl | with_reducible assumption | omega); rw [hyv] at hsy hs49 hs52
                refine px_iast S hT hw 0 16 (n := 2100) (f := (ma297 20)) (x := x7_3) (y := v378) rfl gp_20 (vp_in_iff.mpr (by constructor <;> omega)) d_Mpg_declare_208 (w' := wdP cs h r g tf ta pf na (va_up ma297 20 (upd (ma297 20) x7_3.toNatClampNeg v378)) wa cf375 ca376 ef ea xf xa) (ps' := [wdP cs h r g tf ta pf na (va_up ma297 20 (upd (ma297 20) x7_3.toNatClampNeg v378)) wa cf375 ca376 ef ea xf xa]) sp_20 rfl (fun H locs hw => ?_)
                obtain ⟨ma402, hu_ma402⟩ : ∃ y : Nat → Nat → Int32, y = va_up ma297 20 (upd (ma297 20) x7_3.toNatClampNeg v378) := ⟨_, rfl⟩
                have hw : pw D A s.heap _ _ [wdP cs h r g tf ta pf na ma402 wa cf375 ca376 ef ea xf xa] := (by rw [hu_ma402]; exact hw)
                have hf1_ma402 : FrC x7_3.toInt (x7_3.toInt + 1) ma297 ma402 := (by rw [hu_ma402]; exact FrC.w FrC.rf (by first | with_reducible rfl | with_reducible assumption | omega) (by first | with_reducible rfl | with_reducible assumption | omega) (by first | with_reducible rfl | with_reducible assumption | omega))
                have han : Ann na ma0 ma402 := (by rw [hu_ma402]; exact Ann.w20 han (by first | with_reducible rfl | with_reducible assumption | omega))
                have hfc := hfc.tr hf1_ma402 (by first | with_reducible rfl | with_reducible assumption | omega) (by first | with_reducible rfl | with_reducible assumption | omega)
                have hzts : ZTs cf375 ta ca376 na ma0 (cf375 48).toInt ys nf ma402 lo mid_7 (na 17 p0.toNatClampNeg) x7_3 tv := ZTs.tr hzts (fun q => by first | with_reducible rfl | with_reducible assumption | omega) hf1_ma402 (by first | with_reducible rfl | with_reducible assumption | omega) (CaG.rf (kn := 0) (ns := 5000)) (by first | with_reducible rfl | with_reducible assumption | omega) (by first | with_reducible rfl | with_reducible assumption | omega)
                have hv_20_x7_3 : ma402 20 x7_3.toNatClampNeg = v378 := (by rw [hu_ma402, va_up_s, pk_us])
                have hnhv_20_x7_3 : (ma402 20 x7_3.toNatClampNeg).toInt = v378.toInt := (by rw [hv_20_x7_3])
                refine lv_aload_n S.x S.b d_Mpg_declare_209 rfl (lv_at hl 1 rfl) ?_
                refine lv_iload S.x S.b d_Mpg_declare_210 (lv_at hl 0 rfl) ?_
                refine lv_iconst (v := 1) S.x S.b d_Mpg_declare_212 (by decide) ?_
                refine lv_iconst (v := 0) S.x S.b d_Mpg_declare_213 (by decide) ?_
                refine lv_aload_n S.x S.b d_Mpg_declare_214 rfl (lv_at hl 1 rfl) ?_
                refine px_get S k_Mpg hT hw 0 0 20 (v := .ref (r 20)) rfl rfl rfl (by decide) m10_6 d_Mpg_declare_215 ?_
                refine lv_iload_n S.x S.b d_Mpg_declare_218 rfl (lv_at hl 4 rfl) ?_
                refine px_iald S hT hw 0 16 (n := 2100) (f := (ma402 20)) rfl gp_20 (x := x7_3) (vp_in_iff.mpr (by constructor <;> omega)) d_Mpg_declare_219 ?_
                refine lv_topi (fun z403 ez403 => ?_)
                have lz403 := Int32.le_toInt z403
                have uz403 := Int32.toInt_lt z403
                have hsz403 : v378 = z403 := (ez403.trans hv_20_x7_3).symm; subst hsz403
                refine px_callv (pr := []) (px_runV (As := [.int z4, .int 1, .int 0, .int v378]) (rest := []) S (c_mp_know l D cs h r g tf ta pf na ma402 wa ef ea xf xa cf375 ca376 z4 1 0 v378  (show 0 ≤ (cf375 33).toInt from by first | exact oz_eb53d9d016 e387 e303 e11 k7_12 g4 | omega) (show (cf375 33).toInt < 1100 from by first | exact oz_3ef51c39d5 e387 e303 e11 k7_13 g6 k7_31 | omega) htk _) hT (pr := []) (pcs := [wdP cs h r g tf ta pf na ma402 wa cf375 ca376 ef ea xf xa]) hw px_X.tt (px_recv hT hw 0 0 rfl rfl rfl) m12_193 m12_190 m12_192 ms_12_1 m1_21 q_Mpg_know ⟨show 0 + 1 ≤ (4 * d + 22) from by first | with_reducible rfl | with_reducible assumption | omega, show 8 + (5 + 11) + 0 ≤ (200 * d + 780) from by first | with_reducible rfl | with_reducible assumption | omega⟩ hl.1 rfl (Nat.le_of_ble_eq_true rfl) d_Mpg_declare_220 ⟨Nat.le_of_ble_eq_true rfl, Nat.le_of_ble_eq_true rfl⟩) hw hA (fun p408 H locs hp408 hw => ?_)
                obtain ⟨cf406, ca407, rfl, e410, e411, e412, e413, e414, e415, e416, e417, e418, e419, e420, e421, e422, e423, e424, e425, e426, e427, e428⟩ := hp408
                replace e410 : (cf406 33).toInt = (cf375 33).toInt + 1 := e410
                replace e411 : (cf406 30).toInt = (cf375 30).toInt := e411
                replace e412 : (cf406 31).toInt = (cf375 31).toInt := e412
                replace e413 : (cf406 37).toInt = (cf375 37).toInt := e413
                replace e414 : (cf406 38).toInt = (cf375 38).toInt := e414
                replace e415 : (cf406 41).toInt = (cf375 41).toInt := e415
                replace e416 : (cf406 42).toInt = (cf375 42).toInt := e416
                replace e417 : (cf406 43).toInt = (cf375 43).toInt := e417
                replace e418 : (cf406 44).toInt = (cf375 44).toInt := e418
                replace e419 : (cf406 45).toInt = (cf375 45).toInt := e419
                replace e420 : (cf406 46).toInt = (cf375 46).toInt := e420
                replace e421 : (cf406 47).toInt = (cf375 47).toInt := e421
                replace e422 : (cf406 48).toInt = (cf375 48).toInt := e422
                replace e423 : (cf406 54).toInt = (cf375 54).toInt := e423
                replace e424 : (cf406 55).toInt = (cf375 55).toInt := e424
                replace e425 : (cf406 57).toInt = (cf375 57).toInt := e425
                replace e426 : (cf406 58).toInt = (cf375 58).toInt := e426
                replace e427 : (cf406 59).toInt = (cf375 59).toInt := e427
                replace e428 : KwU ca376 ca407 (cf375 33) z4 (1 : Int32) (0 : Int32) v378 := e428
                have hcw_e428 : CaG ca376 ca407 (cf375 33).toInt (cf406 48).toInt := cag_kw e428 (by first | with_reducible rfl | with_reducible assumption | omega) (by first | with_reducible rfl | with_reducible assumption | omega)
                have hkt : KnT (tf 6).toInt ca407 (cf406 33).toInt := KnT.eq (KnT.kw (KnT.eq hkt (n' := (cf375 33).toInt) (by first | with_reducible rfl | with_reducible assumption | omega)) e428 rfl (by first | with_reducible rfl | with_reducible assumption | omega) (by first | with_reducible rfl | with_reducible assumption | omega) ⟨by first | with_reducible rfl | with_reducible assumption | omega, by first | with_reducible rfl | with_reducible assumption | omega⟩) (by first | with_reducible rfl | with_reducible assumption | omega)
                have hks : KnS ca407 (cf406 33).toInt (cf406 48).toInt ys := KnS.eq (KnS.kw (KnS.eq hks (n' := (cf375 33).toInt) (by first | with_reducible rfl | with_reducible assumption | omega) rfl) e428 rfl (by first | with_reducible rfl | with_reducible assumption | omega) (Or.inl ⟨by first | with_reducible rfl | with_reducible assumption | omega, hsy⟩)) (by first | with_reducible rfl | with_reducible assumption | omega) (by first | with_reducible rfl | with_reducible assumption | omega)
                have hcg := hcg.tr hcw_e428 (by first | with_reducible rfl | with_reducible assumption | omega) (by first | with_reducible rfl | with_reducible assumption | omega)
                have hft := hft.cg hcw_e428
                have hfp := hfp.cg hcw_e428
                have hsr := hsr.cg hcw_e428 (by first | with_reducible rfl | with_reducible assumption | omega)
                have hzts : ZTs cf406 ta ca407 na ma0 (cf406 48).toInt ys nf ma402 lo mid_7 (na 17 p0.toNatClampNeg) x7_3 tv := ZTs.tr hzts (fun q => by first | with_reducible rfl | with_reducible assumption | omega) (FrC.rf (lo := 0) (hi := 0)) (by first | with_reducible rfl | with_reducible assumption | omega) hcw_e428 (by first | with_reducible rfl | with_reducible assumption | omega) (by first | with_reducible rfl | with_reducible assumption | omega)
                have hs3 : Sy3 ca407 (cf 48).toInt (cf406 48).toInt := Sy3.eq (hs3.cg hcw_e428 (by first | with_reducible rfl | with_reducible assumption | omega)) (by first | with_reducible rfl | with_reducible assumption | omega)
                have hsb_e428 := hsy.1.1
                have hcy_e428 := cl_nat (x := v378) (by first | exact oz_f3ebed1ad0 e379 hsb_e428.1 | omega)
                have hs49 : (ca407 49 v378.toNatClampNeg).toInt = _ := (congrArg Int32.toInt (hcw_e428.2.2 _ (by first | with_reducible rfl | with_reducible assumption | omega)).1).trans hs49
                have hs52 : (ca407 52 v378.toNatClampNeg).toInt = _ := (congrArg Int32.toInt (hcw_e428.2.2 _ (by first | with_reducible rfl | with_reducible assumption | omega)).2.2.2).trans hs52
                have hsy : SyV ca407 (cf406 48).toInt ys v378 := hsy.cg hcw_e428 (by first | with_reducible rfl | with_reducible assumption | omega) (by first | with_reducible rfl | with_reducible assumption | omega)
                have hwr : WrV cf406 (tf 6).toInt := WrV.eq hwr (by first | with_reducible rfl | with_reducible assumption | omega) (by first | with_reducible rfl | with_reducible assumption | omega)
                replace hw : pw D A s.heap H locs [wdP cs h r g tf ta pf na ma402 wa cf406 ca407 ef ea xf xa] := hw
                refine lv_aload_n S.x S.b d_Mpg_declare_223 rfl (lv_at hl 1 rfl) ?_
                refine px_get S k_Mpg hT hw 0 0 21 (v := .ref (r 21)) rfl rfl rfl (by decide) m10_7 d_Mpg_declare_224 ?_
                refine lv_iload_n S.x S.b d_Mpg_declare_227 rfl (lv_at hl 4 rfl) ?_
                refine px_iald S hT hw 0 17 (n := 2100) (f := (na 21)) rfl gp_21 (x := x7_3) (vp_in_iff.mpr (by constructor <;> omega)) d_Mpg_declare_228 ?_
                refine lv_topi (fun z429 ez429 => ?_)
                have lz429 := Int32.le_toInt z429
                have uz429 := Int32.toInt_lt z429
                refine lv_istore_n (lv' := [(3, .int z429), (4, .int z4), (0, .ref h), (1, .int p0), (2, .int p1)]) S.x S.b d_Mpg_declare_229 rfl hl (by decide) rfl (fun ls hl => ?_)
                refine lv_goto (tgt := 7) S.x S.b d_Mpg_declare_230 (by decide) ?_
                exact ih7 ma402 cf406 ca407 md2 (wr_7 - wv3) z429 _ _ ls (show (cf406 30).toInt = 0 → (cf 30).toInt = 0 from by first | with_reducible rfl | with_reducible assumption | omega) (show WrV cf406 (tf 6).toInt from hwr) (show (cf406 37).toInt = (cf 37).toInt from by first | exact oz_0867352dd7 k7_2 e413 e17 e388 hkk37_e301 | omega) (show (cf406 38).toInt = (cf 38).toInt from by first | exact oz_0867352dd7 k7_3 e414 e12 e389 e304 | omega) (show (cf406 43).toInt = (cf 43).toInt from by first | exact oz_0867352dd7 k7_4 e417 e19 e392 hkk43_e301 | omega) (show (cf406 44).toInt = (cf 44).toInt from by first | exact oz_0867352dd7 k7_5 e418 e20 e393 hkk44_e301 | omega) (show (cf406 45).toInt = (cf 45).toInt from by first | exact oz_0867352dd7 k7_6 e419 e21 e394 hkk45_e301 | omega) (show (cf406 46).toInt = (cf 46).toInt from by first | exact oz_0867352dd7 k7_7 e420 e14 e395 e306 | omega) (show (cf406 47).toInt = (cf 47).toInt from by first | exact oz_0867352dd7 k7_8 e421 e15 e396 e307 | omega) (show (cf406 41).toInt = (cf 41).toInt from by first | exact oz_0867352dd7 k7_9 e415 e26 e390 hkk41_e301 | omega) (show (cf406 55).toInt = (cf 55).toInt from by first | exact oz_0867352dd7 k7_10 e424 e23 e397 hkk55_e301 | omega) (show (cf406 59).toInt = (cf 59).toInt from by first | exact oz_0867352dd7 k7_11 e427 e25 e400 hkk59_e301 | omega) (show (cf 33).toInt ≤ (cf406 33).toInt from by first | exact oz_a101ed4aa6 k7_12 e410 e11 e387 e303 | omega) (show 6 * (cf406 33).toInt ≤ 6 * (cf 33).toInt + (w - (wr_7 - wv3)) from by first | with_reducible rfl | with_reducible assumption | omega) (show (cf 48).toInt ≤ (cf406 48).toInt from by first | exact oz_788511b878 k7_20 e422 k7_16 k7_18 e13 hsb_e428.2 e305 | omega) (show 6 * (cf406 48).toInt ≤ 6 * (cf 48).toInt + (w - (wr_7 - wv3)) from by first | with_reducible rfl | with_reducible assumption | omega) (show (cf 54).toInt ≤ (cf406 54).toInt from by first | exact oz_39bc41608f k7_16 e423 e22 e381 hkk54_e301 | omega) (show (cf 42).toInt ≤ (cf406 42).toInt from by first | exact oz_47ce8e110c k7_18 e416 k7_16 e18 e391 hkk42_e301 tz313 | omega) (show (cf406 54).toInt - (cf 54).toInt ≤ 4 * ((cf406 42).toInt - (cf 42).toInt) from by first | exact oz_217fccdeec k7_18 e416 e423 e18 e22 e391 e383 hkk42_e301 hkk54_e301 tz313 | omega) (show (cf406 54).toInt - (cf 54).toInt ≤ 4096 * ((cf406 48).toInt - (cf 48).toInt) from by first | exact oz_0e3be830c4 k7_19 e422 e423 e13 e22 e382 hsb_e428.2 e305 hkk54_e301 | omega) (show (cf406 42).toInt - (cf 42).toInt ≤ 4096 * ((cf406 48).toInt - (cf 48).toInt) from by first | exact oz_f6b9fff360 k7_20 e416 e422 e13 e18 e391 hsb_e428.2 e305 hkk42_e301 tz313 | omega) (show KnT (tf 6).toInt ca407 (cf406 33).toInt from (KnT.eq hkt (by first | with_reducible rfl | with_reducible assumption | omega))) (show KnS ca407 (cf406 33).toInt (cf406 48).toInt ys from (KnS.eq hks (by first | with_reducible rfl | with_reducible assumption | omega) (by first | with_reducible rfl | with_reducible assumption | omega))) (show CaG ca ca407 (cf 33).toInt (cf 48).toInt from (hcg.le (by first | with_reducible rfl | with_reducible assumption | omega) (by first | with_reducible rfl | with_reducible assumption | omega))) (show SyR ca407 ys (cf406 48).toInt (cf406 54).toInt tx from (SyR.eq hsr (by first | with_reducible rfl | with_reducible assumption | omega) (by first | with_reducible rfl | with_reducible assumption | omega))) (show Ann na ma0 ma402 from han) (show FrC lo hi ma ma402 from hfc) (show Sy3 ca407 (cf 48).toInt (cf406 48).toInt from (Sy3.eq hs3 (by first | with_reducible rfl | with_reducible assumption | omega))) (show lo ≤ md2 from by first | exact hm1_md2 | omega) (show p0.toInt + 1 ≤ md2 from by first | with_reducible rfl | with_reducible assumption | omega) (show md2 ≤ hi from by first | exact hm2_md2 | omega) (show 0 ≤ (wr_7 - wv3) from by first | with_reducible rfl | with_reducible assumption | omega) (show (wr_7 - wv3) ≤ w from by first | with_reducible rfl | with_reducible assumption | omega) (show RvV ta (tf 6).toInt na ma0 d md2 hi (wr_7 - wv3) z429 from (by rw [ez429]; exact hrv2)) (show ZTs cf406 ta ca407 na ma0 (cf406 48).toInt ys nf ma402 lo md2 (na 17 p0.toNatClampNeg) z429 tv from (ZTs.nx (ZTs.to hzts (fun q => by first | with_reducible rfl | with_reducible assumption | omega) (by first | with_reducible rfl | with_reducible assumption | omega) (Int.le_refl _) (by first | with_reducible rfl | with_reducible assumption | omega) rfl) (show ZTe cf406 ta ca407 na ma0 (cf406 48).toInt ys nf ma402 lo md2 x7_3 tv from (fun zz => tyv_1 ⟨by first | with_reducible rfl | with_reducible assumption | omega, by first | with_reducible rfl | with_reducible assumption | omega, by first | with_reducible rfl | with_reducible assumption | omega⟩ (by first | with_reducible rfl | with_reducible assumption | omega) (by first | with_reducible rfl | with_reducible assumption | omega) (by rw [hv_20_x7_3]; exact hsy) (ha_z294.trans (Ann.v18 han (by first | with_reducible rfl | with_reducible assumption | omega)).symm) (Or.inr ⟨(by rw [Ann.v22 han (by first | with_reducible rfl | with_reducible assumption | omega)]; omega), (fun r9 => absurd r9 (by first | with_reducible rfl | with_reducible assumption | omega))⟩))) (by first | with_reducible rfl | with_reducible assumption | omega) ez429)) (show hi - md2 < (n_7 : Int) from by first | with_reducible rfl | with_reducible assumption | omega) hw (lv_sub hl [2, 3, 4, 0] rfl)
        · have nc28 : ¬ z27.toInt < (0 : Int) := mt (i_lt (x := z27) (y := 0)).mpr c28
          refine lv_aload_n S.x S.b d_Mpg_declare_34 rfl (lv_at hl 1 rfl) ?_
          refine lv_aload_n S.x S.b d_Mpg_declare_35 rfl (lv_at hl 1 rfl) ?_
          refine px_get S k_Mpg hT hw 0 0 42 (v := .int (cf6 42)) rfl rfl rfl (by decide) m10_33 d_Mpg_declare_36 ?_
          refine lv_aload_n S.x S.b d_Mpg_declare_39 rfl (lv_at hl 1 rfl) ?_
          refine lv_iload_n S.x S.b d_Mpg_declare_40 rfl (lv_at hl 4 rfl) ?_
          refine lv_aload_n S.x S.b d_Mpg_declare_41 rfl (lv_at hl 1 rfl) ?_
          refine px_get S k_Mpg hT hw 0 0 22 (v := .ref (r 22)) rfl rfl rfl (by decide) m10_9 d_Mpg_declare_42 ?_
          refine lv_iload_n S.x S.b d_Mpg_declare_45 rfl (lv_at hl 2 rfl) ?_
          refine px_iald S hT hw 0 18 (n := 2100) (f := (ma_7 22)) rfl gp_22 (x := p0) (vp_in_iff.mpr (by first | exact oz_a7e05de1cd g23 g25 g1 g2 | (constructor <;> omega))) d_Mpg_declare_46 ?_
          refine lv_topi (fun z430 ez430 => ?_)
          have lz430 := Int32.le_toInt z430
          have uz430 := Int32.toInt_lt z430
          have rz430 : z430.toInt = (ma0 22 p0.toNatClampNeg).toInt := (by rw [ez430, Ann.v22 han (by first | with_reducible rfl | with_reducible assumption | omega)])
          refine lv_iconst (v := 1) S.x S.b d_Mpg_declare_47 (by decide) ?_
          refine lv_icmp_ne (tgt := 55) S.x S.b d_Mpg_declare_48 (by decide) (fun c431 => ?_) (fun c431 => ?_)
          · have nc431 : ¬ z430.toInt = (1 : Int) := mt (i_eq (x := z430) (y := 1)).mpr c431
            refine lv_iconst (v := 0) S.x S.b d_Mpg_declare_55 (by decide) ?_
            refine px_calli (pr := []) (px_runV (As := [.int x7_3, .int 0]) (rest := [.int (cf6 42), .ref h]) S (c_mp_declareArray l D cs ma0 ys nf tx d mid_7 md2 wv3 h r g tf ta pf na wa ca_7 ef ea xf xa ma_7 cf6 x7_3 0  (show 0 ≤ mid_7 from by first | exact oz_06d7f15a5c k7_29 g23 | omega) (show md2 ≤ (pf 13).toInt from by first | exact oz_bbb5b20c1a g1 hm2_md2 | omega) (show (pf 13).toInt ≤ 2100 from by first | exact g2 | omega) (show (tf 6).toInt ≤ 2049 from by first | exact g3 | omega) (show 0 ≤ (cf6 33).toInt from by first | exact oz_9921a0d148 e11 k7_12 g4 | omega) (show 0 ≤ wv3 from by first | exact hm3_md2 | omega) (show 6 * (cf6 33).toInt + wv3 ≤ 6540 from by first | with_reducible rfl | with_reducible assumption | omega) (show 0 ≤ (cf6 48).toInt from by first | exact oz_cfab8a20ba e13 k7_20 g14 g15 k7_16 k7_18 | omega) (show 6 * (cf6 48).toInt + wv3 ≤ 6540 from by first | with_reducible rfl | with_reducible assumption | omega) (show (cf6 38).toInt = nf from by first | exact oz_e13fc83238 g9 e12 k7_3 | omega) (show 0 ≤ nf from by first | exact g10 | omega) (show 0 ≤ (cf6 37).toInt from by first | exact oz_e2fef14871 e17 k7_2 g11 | omega) (show 0 ≤ (cf6 54).toInt from by first | exact oz_9921a0d148 e22 k7_16 g12 | omega) (show (cf6 54).toInt ≤ 4096 * (cf6 48).toInt from by first | exact oz_591883cc22 e13 e22 k7_19 g13 | omega) (show 0 ≤ (cf6 42).toInt from by first | exact oz_4d7634dc29 e18 k7_18 g14 k7_16 | omega) (show (cf6 42).toInt ≤ 4 + 4096 * (cf6 48).toInt from by first | exact oz_28f1d15c37 e13 e18 k7_20 g15 | omega) (show 0 ≤ (cf6 44).toInt from by first | exact oz_e2fef14871 e20 k7_5 g16 | omega) (show 0 ≤ (cf6 45).toInt from by first | exact oz_e2fef14871 e21 k7_6 g17 | omega) (show ys ≤ (cf6 48).toInt ∨ tx = 1 from by first | with_reducible rfl | with_reducible assumption | omega) (show 0 ≤ (cf6 46).toInt from by first | exact oz_e2fef14871 e14 k7_7 g19 | omega) (show (cf6 46).toInt ≤ 1 from by first | exact oz_916d756328 e14 k7_7 g20 | omega) (show 0 ≤ (cf6 47).toInt from by first | exact oz_e2fef14871 e15 k7_8 g21 | omega) (show (cf6 47).toInt ≤ 1 from by first | exact oz_916d756328 e15 k7_8 g22 | omega) (show 0 ≤ (na 17 x7_3.toNatClampNeg).toInt from by first | exact oz_df71656335 rz27 nc28 | omega) (show 0 ≤ (0 : Int) from by first | decide | omega) (show (0 : Int) ≤ 1 from by first | decide | omega) htk (FsI.le (N' := (pf 13).toInt) hfs (by first | with_reducible rfl | with_reducible assumption | omega)) hwr (KnT.eq hkt (by first | with_reducible rfl | with_reducible assumption | omega)) (FnT.eq hft (by first | with_reducible rfl | with_reducible assumption | omega)) (KnS.eq hks (by first | with_reducible rfl | with_reducible assumption | omega) (by first | with_reducible rfl | with_reducible assumption | omega)) hfp (SyR.eq hsr (by first | with_reducible rfl | with_reducible assumption | omega) (by first | with_reducible rfl | with_reducible assumption | omega)) han hvc_x7_3 _) hT (pr := []) (pcs := [wdP cs h r g tf ta pf na ma_7 wa cf6 ca_7 ef ea xf xa]) hw (oX_call (P := (fun A U H => (oP A g U H))) (pr := []) oG_P hw hA hP) (px_recv hT hw 0 0 rfl rfl rfl) m13_33 m13_30 m13_32 ms_13_5 m1_21 q_Mpg_declareArray ⟨show (4 * d + 20) + 1 ≤ (4 * d + 22) from by first | with_reducible rfl | with_reducible assumption | omega, show 8 + (6 + 11) + (200 * d + 700) ≤ (200 * d + 780) from by first | with_reducible rfl | with_reducible assumption | omega⟩ hl.1 rfl (Nat.le_of_ble_eq_true rfl) d_Mpg_declare_56 ⟨Nat.le_of_ble_eq_true rfl, Nat.le_of_ble_eq_true rfl⟩) hw hA (fun v437 p436 H locs hp436 hw => ?_)
            obtain ⟨ma434, cf435, rfl, e438, e439, e440, e441, e442, e443, e444, e445, e446, e447, e448, e449, e450, e451, e452, e453, e454, e455, e456, e457, e458, e459, e460, e461⟩ := hp436
            replace e438 : (cf435 30).toInt = 0 → (cf6 30).toInt = 0 := e438
            replace e439 : WrV cf435 (tf 6).toInt := e439
            have hwr := e439
            have hw0_e439 := hwr.1
            replace e440 : (cf435 33).toInt = (cf6 33).toInt := e440
            replace e441 : (cf435 37).toInt = (cf6 37).toInt := e441
            replace e442 : (cf435 38).toInt = (cf6 38).toInt := e442
            replace e443 : (cf435 41).toInt = (cf6 41).toInt := e443
            replace e444 : (cf435 42).toInt = (cf6 42).toInt := e444
            replace e445 : (cf435 43).toInt = (cf6 43).toInt := e445
            replace e446 : (cf435 44).toInt = (cf6 44).toInt := e446
            replace e447 : (cf435 45).toInt = (cf6 45).toInt := e447
            replace e448 : (cf435 46).toInt = (cf6 46).toInt := e448
            replace e449 : (cf435 47).toInt = (cf6 47).toInt := e449
            replace e450 : (cf435 48).toInt = (cf6 48).toInt := e450
            replace e451 : (cf435 54).toInt = (cf6 54).toInt := e451
            replace e452 : (cf435 55).toInt = (cf6 55).toInt := e452
            replace e453 : (cf435 59).toInt = (cf6 59).toInt := e453
            replace e454 : Ann na ma0 ma434 := e454
            have han := e454
            replace e455 : FrC mid_7 md2 ma_7 ma434 := e455
            have hfc := hfc.tr e455 (by first | with_reducible rfl | with_reducible assumption | omega) (by first | with_reducible rfl | with_reducible assumption | omega)
            have hzts : ZTs cf435 ta ca_7 na ma0 (cf435 48).toInt ys nf ma434 lo mid_7 (na 17 p0.toNatClampNeg) x7_3 tv := ZTs.tr hzts (fun q => by first | with_reducible rfl | with_reducible assumption | omega) e455 (by first | with_reducible rfl | with_reducible assumption | omega) (CaG.rf (kn := 0) (ns := 5000)) (by first | with_reducible rfl | with_reducible assumption | omega) (by first | with_reducible rfl | with_reducible assumption | omega)
            replace e456 : 0 ≤ (cf435 58).toInt := e456
            replace e457 : (cf435 58).toInt ≤ 4096 := e457
            replace e458 : 0 ≤ v437.toInt := e458
            replace e459 : v437.toInt ≤ 4096 := e459
            replace e460 : (cf435 58).toInt ≤ 4 * v437.toInt := e460
            replace e461 : ZAv cf435 ta na ma434 x7_3 (cf435 58).toInt := e461
            have hanv := han
            replace hw : pw D A s.heap H locs [wdP cs h r g tf ta pf na ma434 wa cf435 ca_7 ef ea xf xa] := hw
            have lv437 := Int32.le_toInt v437
            have uv437 := Int32.toInt_lt v437
            refine lv_iadd S.x S.b d_Mpg_declare_59 ?_
            have lr462 := Int32.le_toInt (cf6 42)
            have ur462 := Int32.toInt_lt (cf6 42)
            refine lv_topi (fun z463 ez463 => ?_)
            have tz463 : z463.toInt = ((cf6 42).toInt + v437.toInt + 2147483648) % 4294967296 - 2147483648 := by rw [ez463]; exact i_add (cf6 42) v437
            have lz463 := Int32.le_toInt z463
            have uz463 := Int32.toInt_lt z463
            try replace tz463 : z463.toInt = (cf6 42).toInt + v437.toInt := by omega
            refine px_put S k_Mpg hT hw 0 0 42 rfl rfl (by decide) m10_33 rfl rfl rfl (Nat.le_of_ble_eq_true rfl) d_Mpg_declare_60 (w' := wdP cs h r g tf ta pf na ma434 wa (upd cf435 42 z463) ca_7 ef ea xf xa) (ps' := [wdP cs h r g tf ta pf na ma434 wa (upd cf435 42 z463) ca_7 ef ea xf xa]) rfl rfl (fun H locs hw => ?_)
            refine lv_aload_n S.x S.b d_Mpg_declare_63 rfl (lv_at hl 1 rfl) ?_
            refine px_get S k_Mpg hT hw 0 0 20 (v := .ref (r 20)) rfl rfl rfl (by decide) m10_6 d_Mpg_declare_64 ?_
            refine lv_iload_n S.x S.b d_Mpg_declare_67 rfl (lv_at hl 4 rfl) ?_
            refine lv_aload_n S.x S.b d_Mpg_declare_68 rfl (lv_at hl 1 rfl) ?_
            refine lv_aload_n S.x S.b d_Mpg_declare_69 rfl (lv_at hl 1 rfl) ?_
            refine px_get S k_Mpg hT hw 0 0 22 (v := .ref (r 22)) rfl rfl rfl (by decide) m10_9 d_Mpg_declare_70 ?_
            refine lv_iload_n S.x S.b d_Mpg_declare_73 rfl (lv_at hl 2 rfl) ?_
            refine px_iald S hT hw 0 18 (n := 2100) (f := (ma434 22)) rfl gp_22 (x := p0) (vp_in_iff.mpr (by first | exact oz_a7e05de1cd g23 g25 g1 g2 | (constructor <;> omega))) d_Mpg_declare_74 ?_
            refine lv_topi (fun z464 ez464 => ?_)
            have lz464 := Int32.le_toInt z464
            have uz464 := Int32.toInt_lt z464
            have rz464 : z464.toInt = (ma0 22 p0.toNatClampNeg).toInt := (by rw [ez464, Ann.v22 han (by first | with_reducible rfl | with_reducible assumption | omega)])
            refine lv_iconst (v := 1) S.x S.b d_Mpg_declare_75 (by decide) ?_
            refine lv_icmp_ne (tgt := 83) S.x S.b d_Mpg_declare_76 (by decide) (fun c465 => ?_) (fun c465 => ?_)
            · have nc465 : ¬ z464.toInt = (1 : Int) := mt (i_eq (x := z464) (y := 1)).mpr c465
              refine lv_iconst (v := 2) S.x S.b d_Mpg_declare_83 (by decide) ?_
              refine lv_aload_n S.x S.b d_Mpg_declare_84 rfl (lv_at hl 1 rfl) ?_
              refine px_get S k_Mpg hT hw 0 0 58 (v := .int (cf435 58)) rfl rfl rfl (by decide) m10_55 d_Mpg_declare_85 ?_
              refine px_calli (pr := []) (px_runV (As := [.int 2, .int (cf435 58)]) (rest := [.int x7_3, .ref (r 20)]) S (c_mp_lay l D cs h r g tf ta pf na ma434 wa ef ea xf xa (upd cf435 42 z463) ca_7 2 (cf435 58)  (show 0 ≤ (cf435 48).toInt from by first | exact oz_34de85669e e450 e13 k7_20 g14 g15 k7_16 k7_18 | omega) (show (cf435 48).toInt < 1100 from by first | exact oz_75b62dc8f3 e450 e13 k7_15 g8 k7_31 | omega) (show 0 ≤ (2 : Int) from by first | decide | omega) (show (2 : Int) ≤ 5 from by first | decide | omega) (show 0 ≤ (cf435 58).toInt from by first | exact e456 | omega) (show (cf435 58).toInt ≤ 4096 from by first | exact e457 | omega) (show 0 ≤ (cf435 54).toInt from by first | exact oz_9bcc310e9c e451 e22 k7_16 g12 | omega) (show (cf435 54).toInt ≤ 40000000 from by first | exact oz_17a0157d43 e451 e22 k7_19 g8 g13 k7_15 k7_31 | omega) htk _) hT (pr := []) (pcs := [wdP cs h r g tf ta pf na ma434 wa (upd cf435 42 z463) ca_7 ef ea xf xa]) hw px_X.tt (px_recv hT hw 0 0 rfl rfl rfl) m12_189 m12_186 m12_188 ms_12_0 m1_21 q_Mpg_lay ⟨show 0 + 1 ≤ (4 * d + 22) from by first | with_reducible rfl | with_reducible assumption | omega, show 8 + (3 + 11) + 0 ≤ (200 * d + 780) from by first | with_reducible rfl | with_reducible assumption | omega⟩ hl.1 rfl (Nat.le_of_ble_eq_true rfl) d_Mpg_declare_88 ⟨Nat.le_of_ble_eq_true rfl, Nat.le_of_ble_eq_true rfl⟩) hw hA (fun v471 p470 H locs hp470 hw => ?_)
              obtain ⟨cf468, ca469, rfl, e472, e473, e474, e475, e476, e477, e478, e479, e480, e481, e482, e483, e484, e485, e486, e487, e488, e489, e490, e491, e492, e493, e494⟩ := hp470
              replace e472 : v471.toInt = (cf435 48).toInt := e472
              replace e473 : (cf468 48).toInt = (cf435 48).toInt + 1 := e473
              replace e474 : (cf435 54).toInt ≤ (cf468 54).toInt := e474
              replace e475 : (cf468 54).toInt ≤ (cf435 54).toInt + 4096 := e475
              replace e476 : (2 : Int) ≤ 3 → (cf468 54).toInt = (cf435 54).toInt + (cf435 58).toInt := e476
              replace e477 : 4 ≤ (2 : Int) → (cf468 54).toInt = (cf435 54).toInt + 2 := e477
              replace e478 : (cf468 30).toInt = (cf435 30).toInt := e478
              replace e479 : (cf468 31).toInt = (cf435 31).toInt := e479
              replace e480 : (cf468 33).toInt = (cf435 33).toInt := e480
              replace e481 : (cf468 37).toInt = (cf435 37).toInt := e481
              replace e482 : (cf468 38).toInt = (cf435 38).toInt := e482
              replace e483 : (cf468 41).toInt = (cf435 41).toInt := e483
              replace e484 : (cf468 42).toInt = z463.toInt := e484
              replace e485 : (cf468 43).toInt = (cf435 43).toInt := e485
              replace e486 : (cf468 44).toInt = (cf435 44).toInt := e486
              replace e487 : (cf468 45).toInt = (cf435 45).toInt := e487
              replace e488 : (cf468 46).toInt = (cf435 46).toInt := e488
              replace e489 : (cf468 47).toInt = (cf435 47).toInt := e489
              replace e490 : (cf468 55).toInt = (cf435 55).toInt := e490
              replace e491 : (cf468 57).toInt = (cf435 57).toInt := e491
              replace e492 : (cf468 58).toInt = (cf435 58).toInt := e492
              replace e493 : (cf468 59).toInt = (cf435 59).toInt := e493
              replace e494 : LyU ca_7 ca469 (cf435 48) (2 : Int32) (cf435 54) (cf435 58) (txo (cf435 43).toInt) := e494
              have hlu : LyU ca_7 ca469 (cf435 48) (2 : Int32) (cf435 54) (cf435 58) tx := (by rw [← htx]; exact (by rw [show (cf 43).toInt = (cf435 43).toInt by omega]; exact e494))
              have hcl_e494 : CaG ca_7 ca469 (cf468 33).toInt (cf435 48).toInt := cag_ly hlu (by first | with_reducible rfl | with_reducible assumption | omega) (by first | with_reducible rfl | with_reducible assumption | omega)
              have hsr : SyR ca469 ys (cf468 48).toInt (cf468 54).toInt tx := SyR.eq (SyR.ly (cells' := (cf468 54).toInt) (SyR.eq hsr (ns' := (cf435 48).toInt) (by first | with_reducible rfl | with_reducible assumption | omega) rfl) hlu rfl (by first | with_reducible rfl | with_reducible assumption | omega) (by first | with_reducible rfl | with_reducible assumption | omega) (by first | with_reducible rfl | with_reducible assumption | omega) ⟨by first | with_reducible rfl | with_reducible assumption | omega, by first | with_reducible rfl | with_reducible assumption | omega⟩ ⟨by first | with_reducible rfl | with_reducible assumption | omega, by first | with_reducible rfl | with_reducible assumption | omega⟩ (fun q => by first | with_reducible rfl | with_reducible assumption | omega) (fun q => by first | with_reducible rfl | with_reducible assumption | omega) (fun q => by first | with_reducible rfl | with_reducible assumption | omega)) (by first | with_reducible rfl | with_reducible assumption | omega) rfl
              have hkt := hkt.cg hcl_e494 (by first | with_reducible rfl | with_reducible assumption | omega)
              have hks := hks.cg hcl_e494 (by first | with_reducible rfl | with_reducible assumption | omega) (by first | with_reducible rfl | with_reducible assumption | omega) (n2 := (cf468 48).toInt) (by first | with_reducible rfl | with_reducible assumption | omega)
              have hcg := hcg.tr hcl_e494 (by first | with_reducible rfl | with_reducible assumption | omega) (by first | with_reducible rfl | with_reducible assumption | omega)
              have hft := hft.cg hcl_e494
              have hfp := hfp.cg hcl_e494
              have hzts : ZTs cf468 ta ca469 na ma0 (cf468 48).toInt ys nf ma434 lo mid_7 (na 17 p0.toNatClampNeg) x7_3 tv := ZTs.tr hzts (fun q => by first | with_reducible rfl | with_reducible assumption | omega) (FrC.rf (lo := 0) (hi := 0)) (by first | with_reducible rfl | with_reducible assumption | omega) hcl_e494 (by first | with_reducible rfl | with_reducible assumption | omega) (by first | with_reducible rfl | with_reducible assumption | omega)
              have hs49 : (ca469 49 (cf435 48).toNatClampNeg).toInt = (2 : Int) := (by rw [hlu.2.1 (by first | with_reducible rfl | with_reducible assumption | omega) (by first | with_reducible rfl | with_reducible assumption | omega)]; rfl)
              have hs52 : (ca469 52 (cf435 48).toNatClampNeg).toInt = (cf435 58).toInt := (by rw [hlu.2.2.2.1])
              have hsy : SyA ca469 (cf468 48).toInt ys (cf435 48) := hlu.sa (by first | with_reducible rfl | with_reducible assumption | omega) (by first | with_reducible rfl | with_reducible assumption | omega) ⟨by first | with_reducible rfl | with_reducible assumption | omega, by first | with_reducible rfl | with_reducible assumption | omega⟩ (by first | with_reducible rfl | with_reducible assumption | omega)
              have hs3 : Sy3 ca469 (cf 48).toInt (cf468 48).toInt := Sy3.eq (Sy3.ly (Sy3.eq hs3 (b' := (cf435 48).toInt) (by first | with_reducible rfl | with_reducible assumption | omega)) hlu rfl (by first | with_reducible rfl | with_reducible assumption | omega) (by first | with_reducible rfl | with_reducible assumption | omega)) (by first | with_reducible rfl | with_reducible assumption | omega)
              have hwr : WrV cf468 (tf 6).toInt := WrV.eq hwr (by first | with_reducible rfl | with_reducible assumption | omega) (by first | with_reducible rfl | with_reducible assumption | omega)
              replace hw : pw D A s.heap H locs [wdP cs h r g tf ta pf na ma434 wa cf468 ca469 ef ea xf xa] := hw
              have lv471 := Int32.le_toInt v471
              have uv471 := Int32.toInt_lt v471
              have hyv : (cf435 48) = v471 := i_eq.mpr (by first | with_reducible rfl | with_reducible assumption | omega); rw [hyv] at hsy hs49 hs52
              refine px_iast S hT hw 0 16 (n := 2100) (f := (ma434 20)) (x := x7_3) (y := v471) rfl gp_20 (vp_in_iff.mpr (by constructor <;> omega)) d_Mpg_declare_91 (w' := wdP cs h r g tf ta pf na (va_up ma434 20 (upd (ma434 20) x7_3.toNatClampNeg v471)) wa cf468 ca469 ef ea xf xa) (ps' := [wdP cs h r g tf ta pf na (va_up ma434 20 (upd (ma434 20) x7_3.toNatClampNeg v471)) wa cf468 ca469 ef ea xf xa]) sp_20 rfl (fun H locs hw => ?_)
              obtain ⟨ma495, hu_ma495⟩ : ∃ y : Nat → Nat → Int32, y = va_up ma434 20 (upd (ma434 20) x7_3.toNatClampNeg v471) := ⟨_, rfl⟩
              have hw : pw D A s.heap _ _ [wdP cs h r g tf ta pf na ma495 wa cf468 ca469 ef ea xf xa] := (by rw [hu_ma495]; exact hw)
              have hf1_ma495 : FrC x7_3.toInt (x7_3.toInt + 1) ma434 ma495 := (by rw [hu_ma495]; exact FrC.w FrC.rf (by first | with_reducible rfl | with_reducible assumption | omega) (by first | with_reducible rfl | with_reducible assumption | omega) (by first | with_reducible rfl | with_reducible assumption | omega))
              have han : Ann na ma0 ma495 := (by rw [hu_ma495]; exact Ann.w20 han (by first | with_reducible rfl | with_reducible assumption | omega))
              have hfc := hfc.tr hf1_ma495 (by first | with_reducible rfl | with_reducible assumption | omega) (by first | with_reducible rfl | with_reducible assumption | omega)
              have hzts : ZTs cf468 ta ca469 na ma0 (cf468 48).toInt ys nf ma495 lo mid_7 (na 17 p0.toNatClampNeg) x7_3 tv := ZTs.tr hzts (fun q => by first | with_reducible rfl | with_reducible assumption | omega) hf1_ma495 (by first | with_reducible rfl | with_reducible assumption | omega) (CaG.rf (kn := 0) (ns := 5000)) (by first | with_reducible rfl | with_reducible assumption | omega) (by first | with_reducible rfl | with_reducible assumption | omega)
              have hv_20_x7_3 : ma495 20 x7_3.toNatClampNeg = v471 := (by rw [hu_ma495, va_up_s, pk_us])
              have hnhv_20_x7_3 : (ma495 20 x7_3.toNatClampNeg).toInt = v471.toInt := (by rw [hv_20_x7_3])
              refine lv_aload_n S.x S.b d_Mpg_declare_92 rfl (lv_at hl 1 rfl) ?_
              refine lv_iload S.x S.b d_Mpg_declare_93 (lv_at hl 0 rfl) ?_
              refine lv_aload_n S.x S.b d_Mpg_declare_95 rfl (lv_at hl 1 rfl) ?_
              refine px_get S k_Mpg hT hw 0 0 22 (v := .ref (r 22)) rfl rfl rfl (by decide) m10_9 d_Mpg_declare_96 ?_
              refine lv_iload_n S.x S.b d_Mpg_declare_99 rfl (lv_at hl 2 rfl) ?_
              refine px_iald S hT hw 0 18 (n := 2100) (f := (ma495 22)) rfl gp_22 (x := p0) (vp_in_iff.mpr (by first | exact oz_a7e05de1cd g23 g25 g1 g2 | (constructor <;> omega))) d_Mpg_declare_100 ?_
              refine lv_topi (fun z496 ez496 => ?_)
              have lz496 := Int32.le_toInt z496
              have uz496 := Int32.toInt_lt z496
              have rz496 : z496.toInt = (ma0 22 p0.toNatClampNeg).toInt := (by rw [ez496, Ann.v22 han (by first | with_reducible rfl | with_reducible assumption | omega)])
              refine lv_iconst (v := 1) S.x S.b d_Mpg_declare_101 (by decide) ?_
              refine lv_icmp_ne (tgt := 109) S.x S.b d_Mpg_declare_102 (by decide) (fun c497 => ?_) (fun c497 => ?_)
              · have nc497 : ¬ z496.toInt = (1 : Int) := mt (i_eq (x := z496) (y := 1)).mpr c497
                refine lv_iconst (v := 2) S.x S.b d_Mpg_declare_109 (by decide) ?_
                refine lv_iconst (v := 0) S.x S.b d_Mpg_declare_110 (by decide) ?_
                refine lv_aload_n S.x S.b d_Mpg_declare_111 rfl (lv_at hl 1 rfl) ?_
                refine px_get S k_Mpg hT hw 0 0 20 (v := .ref (r 20)) rfl rfl rfl (by decide) m10_6 d_Mpg_declare_112 ?_
                refine lv_iload_n S.x S.b d_Mpg_declare_115 rfl (lv_at hl 4 rfl) ?_
                refine px_iald S hT hw 0 16 (n := 2100) (f := (ma495 20)) rfl gp_20 (x := x7_3) (vp_in_iff.mpr (by constructor <;> omega)) d_Mpg_declare_116 ?_
                refine lv_topi (fun z498 ez498 => ?_)
                have lz498 := Int32.le_toInt z498
                have uz498 := Int32.toInt_lt z498
                have hsz498 : v471 = z498 := (ez498.trans hv_20_x7_3).symm; subst hsz498
                refine px_callv (pr := []) (px_runV (As := [.int z4, .int 2, .int 0, .int v471]) (rest := []) S (c_mp_know l D cs h r g tf ta pf na ma495 wa ef ea xf xa cf468 ca469 z4 2 0 v471  (show 0 ≤ (cf468 33).toInt from by first | exact oz_eb53d9d016 e480 e440 e11 k7_12 g4 | omega) (show (cf468 33).toInt < 1100 from by first | exact oz_3ef51c39d5 e480 e440 e11 k7_13 g6 k7_31 | omega) htk _) hT (pr := []) (pcs := [wdP cs h r g tf ta pf na ma495 wa cf468 ca469 ef ea xf xa]) hw px_X.tt (px_recv hT hw 0 0 rfl rfl rfl) m12_193 m12_190 m12_192 ms_12_1 m1_21 q_Mpg_know ⟨show 0 + 1 ≤ (4 * d + 22) from by first | with_reducible rfl | with_reducible assumption | omega, show 8 + (5 + 11) + 0 ≤ (200 * d + 780) from by first | with_reducible rfl | with_reducible assumption | omega⟩ hl.1 rfl (Nat.le_of_ble_eq_true rfl) d_Mpg_declare_117 ⟨Nat.le_of_ble_eq_true rfl, Nat.le_of_ble_eq_true rfl⟩) hw hA (fun p503 H locs hp503 hw => ?_)
                obtain ⟨cf501, ca502, rfl, e505, e506, e507, e508, e509, e510, e511, e512, e513, e514, e515, e516, e517, e518, e519, e520, e521, e522, e523⟩ := hp503
                replace e505 : (cf501 33).toInt = (cf468 33).toInt + 1 := e505
                replace e506 : (cf501 30).toInt = (cf468 30).toInt := e506
                replace e507 : (cf501 31).toInt = (cf468 31).toInt := e507
                replace e508 : (cf501 37).toInt = (cf468 37).toInt := e508
                replace e509 : (cf501 38).toInt = (cf468 38).toInt := e509
                replace e510 : (cf501 41).toInt = (cf468 41).toInt := e510
                replace e511 : (cf501 42).toInt = (cf468 42).toInt := e511
                replace e512 : (cf501 43).toInt = (cf468 43).toInt := e512
                replace e513 : (cf501 44).toInt = (cf468 44).toInt := e513
                replace e514 : (cf501 45).toInt = (cf468 45).toInt := e514
                replace e515 : (cf501 46).toInt = (cf468 46).toInt := e515
                replace e516 : (cf501 47).toInt = (cf468 47).toInt := e516
                replace e517 : (cf501 48).toInt = (cf468 48).toInt := e517
                replace e518 : (cf501 54).toInt = (cf468 54).toInt := e518
                replace e519 : (cf501 55).toInt = (cf468 55).toInt := e519
                replace e520 : (cf501 57).toInt = (cf468 57).toInt := e520
                replace e521 : (cf501 58).toInt = (cf468 58).toInt := e521
                replace e522 : (cf501 59).toInt = (cf468 59).toInt := e522
                replace e523 : KwU ca469 ca502 (cf468 33) z4 (2 : Int32) (0 : Int32) v471 := e523
                have hcw_e523 : CaG ca469 ca502 (cf468 33).toInt (cf501 48).toInt := cag_kw e523 (by first | with_reducible rfl | with_reducible assumption | omega) (by first | with_reducible rfl | with_reducible assumption | omega)
                have hkt : KnT (tf 6).toInt ca502 (cf501 33).toInt := KnT.eq (KnT.kw (KnT.eq hkt (n' := (cf468 33).toInt) (by first | with_reducible rfl | with_reducible assumption | omega)) e523 rfl (by first | with_reducible rfl | with_reducible assumption | omega) (by first | with_reducible rfl | with_reducible assumption | omega) ⟨by first | with_reducible rfl | with_reducible assumption | omega, by first | with_reducible rfl | with_reducible assumption | omega⟩) (by first | with_reducible rfl | with_reducible assumption | omega)
                have hks : KnS ca502 (cf501 33).toInt (cf501 48).toInt ys := KnS.eq (KnS.kw (KnS.eq hks (n' := (cf468 33).toInt) (by first | with_reducible rfl | with_reducible assumption | omega) rfl) e523 rfl (by first | with_reducible rfl | with_reducible assumption | omega) (Or.inr (Or.inl ⟨by first | with_reducible rfl | with_reducible assumption | omega, hsy⟩))) (by first | with_reducible rfl | with_reducible assumption | omega) (by first | with_reducible rfl | with_reducible assumption | omega)
                have hcg := hcg.tr hcw_e523 (by first | with_reducible rfl | with_reducible assumption | omega) (by first | with_reducible rfl | with_reducible assumption | omega)
                have hft := hft.cg hcw_e523
                have hfp := hfp.cg hcw_e523
                have hsr := hsr.cg hcw_e523 (by first | with_reducible rfl | with_reducible assumption | omega)
                have hzts : ZTs cf501 ta ca502 na ma0 (cf501 48).toInt ys nf ma495 lo mid_7 (na 17 p0.toNatClampNeg) x7_3 tv := ZTs.tr hzts (fun q => by first | with_reducible rfl | with_reducible assumption | omega) (FrC.rf (lo := 0) (hi := 0)) (by first | with_reducible rfl | with_reducible assumption | omega) hcw_e523 (by first | with_reducible rfl | with_reducible assumption | omega) (by first | with_reducible rfl | with_reducible assumption | omega)
                have hs3 : Sy3 ca502 (cf 48).toInt (cf501 48).toInt := Sy3.eq (hs3.cg hcw_e523 (by first | with_reducible rfl | with_reducible assumption | omega)) (by first | with_reducible rfl | with_reducible assumption | omega)
                have hsb_e523 := hsy.1.1
                have hcy_e523 := cl_nat (x := v471) (by first | exact oz_f3ebed1ad0 e472 hsb_e523.1 | omega)
                have hs49 : (ca502 49 v471.toNatClampNeg).toInt = _ := (congrArg Int32.toInt (hcw_e523.2.2 _ (by first | with_reducible rfl | with_reducible assumption | omega)).1).trans hs49
                have hs52 : (ca502 52 v471.toNatClampNeg).toInt = _ := (congrArg Int32.toInt (hcw_e523.2.2 _ (by first | with_reducible rfl | with_reducible assumption | omega)).2.2.2).trans hs52
                have hsy : SyA ca502 (cf501 48).toInt ys v471 := hsy.cg hcw_e523 (by first | with_reducible rfl | with_reducible assumption | omega) (by first | with_reducible rfl | with_reducible assumption | omega)
                have hwr : WrV cf501 (tf 6).toInt := WrV.eq hwr (by first | with_reducible rfl | with_reducible assumption | omega) (by first | with_reducible rfl | with_reducible assumption | omega)
                replace hw : pw D A s.heap H locs [wdP cs h r g tf ta pf na ma495 wa cf501 ca502 ef ea xf xa] := hw
                refine lv_goto (tgt := 223) S.x S.b d_Mpg_declare_120 (by decide) ?_
                refine lv_aload_n S.x S.b d_Mpg_declare_223 rfl (lv_at hl 1 rfl) ?_
                refine px_get S k_Mpg hT hw 0 0 21 (v := .ref (r 21)) rfl rfl rfl (by decide) m10_7 d_Mpg_declare_224 ?_
                refine lv_iload_n S.x S.b d_Mpg_declare_227 rfl (lv_at hl 4 rfl) ?_
                refine px_iald S hT hw 0 17 (n := 2100) (f := (na 21)) rfl gp_21 (x := x7_3) (vp_in_iff.mpr (by constructor <;> omega)) d_Mpg_declare_228 ?_
                refine lv_topi (fun z524 ez524 => ?_)
                have lz524 := Int32.le_toInt z524
                have uz524 := Int32.toInt_lt z524
                refine lv_istore_n (lv' := [(3, .int z524), (4, .int z4), (0, .ref h), (1, .int p0), (2, .int p1)]) S.x S.b d_Mpg_declare_229 rfl hl (by decide) rfl (fun ls hl => ?_)
                refine lv_goto (tgt := 7) S.x S.b d_Mpg_declare_230 (by decide) ?_
                exact ih7 ma495 cf501 ca502 md2 (wr_7 - wv3) z524 _ _ ls (show (cf501 30).toInt = 0 → (cf 30).toInt = 0 from by first | with_reducible rfl | with_reducible assumption | omega) (show WrV cf501 (tf 6).toInt from hwr) (show (cf501 37).toInt = (cf 37).toInt from by first | exact oz_0867352dd7 k7_2 e508 e17 e481 e441 | omega) (show (cf501 38).toInt = (cf 38).toInt from by first | exact oz_0867352dd7 k7_3 e509 e12 e482 e442 | omega) (show (cf501 43).toInt = (cf 43).toInt from by first | exact oz_0867352dd7 k7_4 e512 e19 e485 e445 | omega) (show (cf501 44).toInt = (cf 44).toInt from by first | exact oz_0867352dd7 k7_5 e513 e20 e486 e446 | omega) (show (cf501 45).toInt = (cf 45).toInt from by first | exact oz_0867352dd7 k7_6 e514 e21 e487 e447 | omega) (show (cf501 46).toInt = (cf 46).toInt from by first | exact oz_0867352dd7 k7_7 e515 e14 e488 e448 | omega) (show (cf501 47).toInt = (cf 47).toInt from by first | exact oz_0867352dd7 k7_8 e516 e15 e489 e449 | omega) (show (cf501 41).toInt = (cf 41).toInt from by first | exact oz_0867352dd7 k7_9 e510 e26 e483 e443 | omega) (show (cf501 55).toInt = (cf 55).toInt from by first | exact oz_0867352dd7 k7_10 e519 e23 e490 e452 | omega) (show (cf501 59).toInt = (cf 59).toInt from by first | exact oz_0867352dd7 k7_11 e522 e25 e493 e453 | omega) (show (cf 33).toInt ≤ (cf501 33).toInt from by first | exact oz_a101ed4aa6 k7_12 e505 e11 e480 e440 | omega) (show 6 * (cf501 33).toInt ≤ 6 * (cf 33).toInt + (w - (wr_7 - wv3)) from by first | with_reducible rfl | with_reducible assumption | omega) (show (cf 48).toInt ≤ (cf501 48).toInt from by first | exact oz_788511b878 k7_20 e517 k7_16 k7_18 e13 hsb_e523.2 e450 | omega) (show 6 * (cf501 48).toInt ≤ 6 * (cf 48).toInt + (w - (wr_7 - wv3)) from by first | with_reducible rfl | with_reducible assumption | omega) (show (cf 54).toInt ≤ (cf501 54).toInt from by first | exact oz_39bc41608f k7_16 e518 e22 e474 e451 | omega) (show (cf 42).toInt ≤ (cf501 42).toInt from by first | exact oz_a38eb904f0 k7_18 e511 k7_16 e18 e484 tz463 e458 | omega) (show (cf501 54).toInt - (cf 54).toInt ≤ 4 * ((cf501 42).toInt - (cf 42).toInt) from by first | exact oz_23efd63b06 k7_18 e511 e518 e18 e22 e484 e476 e451 e460 tz463 | omega) (show (cf501 54).toInt - (cf 54).toInt ≤ 4096 * ((cf501 48).toInt - (cf 48).toInt) from by first | exact oz_0e3be830c4 k7_19 e517 e518 e13 e22 e475 hsb_e523.2 e450 e451 | omega) (show (cf501 42).toInt - (cf 42).toInt ≤ 4096 * ((cf501 48).toInt - (cf 48).toInt) from by first | exact oz_7cb314f517 k7_20 e511 e517 e13 e18 e484 hsb_e523.2 e450 tz463 e459 | omega) (show KnT (tf 6).toInt ca502 (cf501 33).toInt from (KnT.eq hkt (by first | with_reducible rfl | with_reducible assumption | omega))) (show KnS ca502 (cf501 33).toInt (cf501 48).toInt ys from (KnS.eq hks (by first | with_reducible rfl | with_reducible assumption | omega) (by first | with_reducible rfl | with_reducible assumption | omega))) (show CaG ca ca502 (cf 33).toInt (cf 48).toInt from (hcg.le (by first | with_reducible rfl | with_reducible assumption | omega) (by first | with_reducible rfl | with_reducible assumption | omega))) (show SyR ca502 ys (cf501 48).toInt (cf501 54).toInt tx from (SyR.eq hsr (by first | with_reducible rfl | with_reducible assumption | omega) (by first | with_reducible rfl | with_reducible assumption | omega))) (show Ann na ma0 ma495 from han) (show FrC lo hi ma ma495 from hfc) (show Sy3 ca502 (cf 48).toInt (cf501 48).toInt from (Sy3.eq hs3 (by first | with_reducible rfl | with_reducible assumption | omega))) (show lo ≤ md2 from by first | exact hm1_md2 | omega) (show p0.toInt + 1 ≤ md2 from by first | with_reducible rfl | with_reducible assumption | omega) (show md2 ≤ hi from by first | exact hm2_md2 | omega) (show 0 ≤ (wr_7 - wv3) from by first | with_reducible rfl | with_reducible assumption | omega) (show (wr_7 - wv3) ≤ w from by first | with_reducible rfl | with_reducible assumption | omega) (show RvV ta (tf 6).toInt na ma0 d md2 hi (wr_7 - wv3) z524 from (by rw [ez524]; exact hrv2)) (show ZTs cf501 ta ca502 na ma0 (cf501 48).toInt ys nf ma495 lo md2 (na 17 p0.toNatClampNeg) z524 tv from (ZTs.nx (ZTs.to hzts (fun q => by first | with_reducible rfl | with_reducible assumption | omega) (by first | with_reducible rfl | with_reducible assumption | omega) (Int.le_refl _) (by first | with_reducible rfl | with_reducible assumption | omega) rfl) (show ZTe cf501 ta ca502 na ma0 (cf501 48).toInt ys nf ma495 lo md2 x7_3 tv from (fun zz => tyv_2 ⟨by first | with_reducible rfl | with_reducible assumption | omega, by first | with_reducible rfl | with_reducible assumption | omega, by first | with_reducible rfl | with_reducible assumption | omega⟩ (by first | with_reducible rfl | with_reducible assumption | omega) (by first | with_reducible rfl | with_reducible assumption | omega) (by rw [hv_20_x7_3]; exact hsy) (by show (ca502 49 (ma495 20 x7_3.toNatClampNeg).toNatClampNeg).toInt ≤ 3; rw [hv_20_x7_3]; omega) (by show AvC ta na _ x7_3 (ca502 52 (ma495 20 x7_3.toNatClampNeg).toNatClampNeg).toInt; rw [hv_20_x7_3, hs52]; exact ZAv.to e461 (fun q => by first | with_reducible rfl | with_reducible assumption | omega) hanv han (by first | with_reducible rfl | with_reducible assumption | omega) zz))) (by first | with_reducible rfl | with_reducible assumption | omega) ez524)) (show hi - md2 < (n_7 : Int) from by first | with_reducible rfl | with_reducible assumption | omega) hw (lv_sub hl [2, 3, 4, 0] rfl)
              · have nc497 : z496.toInt = (1 : Int) := (i_eq (x := z496) (y := 1)).mp c497
                exfalso
                omega
            · have nc465 : z464.toInt = (1 : Int) := (i_eq (x := z464) (y := 1)).mp c465
              exfalso
              omega
          · have nc431 : z430.toInt = (1 : Int) := (i_eq (x := z430) (y := 1)).mp c431
            refine lv_iconst (v := 1) S.x S.b d_Mpg_declare_51 (by decide) ?_
            refine lv_goto (tgt := 56) S.x S.b d_Mpg_declare_52 (by decide) ?_
            refine px_calli (pr := []) (px_runV (As := [.int x7_3, .int 1]) (rest := [.int (cf6 42), .ref h]) S (c_mp_declareArray l D cs ma0 ys nf tx d mid_7 md2 wv3 h r g tf ta pf na wa ca_7 ef ea xf xa ma_7 cf6 x7_3 1  (show 0 ≤ mid_7 from by first | exact oz_06d7f15a5c k7_29 g23 | omega) (show md2 ≤ (pf 13).toInt from by first | exact oz_bbb5b20c1a g1 hm2_md2 | omega) (show (pf 13).toInt ≤ 2100 from by first | exact g2 | omega) (show (tf 6).toInt ≤ 2049 from by first | exact g3 | omega) (show 0 ≤ (cf6 33).toInt from by first | exact oz_9921a0d148 e11 k7_12 g4 | omega) (show 0 ≤ wv3 from by first | exact hm3_md2 | omega) (show 6 * (cf6 33).toInt + wv3 ≤ 6540 from by first | with_reducible rfl | with_reducible assumption | omega) (show 0 ≤ (cf6 48).toInt from by first | exact oz_cfab8a20ba e13 k7_20 g14 g15 k7_16 k7_18 | omega) (show 6 * (cf6 48).toInt + wv3 ≤ 6540 from by first | with_reducible rfl | with_reducible assumption | omega) (show (cf6 38).toInt = nf from by first | exact oz_e13fc83238 g9 e12 k7_3 | omega) (show 0 ≤ nf from by first | exact g10 | omega) (show 0 ≤ (cf6 37).toInt from by first | exact oz_e2fef14871 e17 k7_2 g11 | omega) (show 0 ≤ (cf6 54).toInt from by first | exact oz_9921a0d148 e22 k7_16 g12 | omega) (show (cf6 54).toInt ≤ 4096 * (cf6 48).toInt from by first | exact oz_591883cc22 e13 e22 k7_19 g13 | omega) (show 0 ≤ (cf6 42).toInt from by first | exact oz_4d7634dc29 e18 k7_18 g14 k7_16 | omega) (show (cf6 42).toInt ≤ 4 + 4096 * (cf6 48).toInt from by first | exact oz_28f1d15c37 e13 e18 k7_20 g15 | omega) (show 0 ≤ (cf6 44).toInt from by first | exact oz_e2fef14871 e20 k7_5 g16 | omega) (show 0 ≤ (cf6 45).toInt from by first | exact oz_e2fef14871 e21 k7_6 g17 | omega) (show ys ≤ (cf6 48).toInt ∨ tx = 1 from by first | with_reducible rfl | with_reducible assumption | omega) (show 0 ≤ (cf6 46).toInt from by first | exact oz_e2fef14871 e14 k7_7 g19 | omega) (show (cf6 46).toInt ≤ 1 from by first | exact oz_916d756328 e14 k7_7 g20 | omega) (show 0 ≤ (cf6 47).toInt from by first | exact oz_e2fef14871 e15 k7_8 g21 | omega) (show (cf6 47).toInt ≤ 1 from by first | exact oz_916d756328 e15 k7_8 g22 | omega) (show 0 ≤ (na 17 x7_3.toNatClampNeg).toInt from by first | exact oz_df71656335 rz27 nc28 | omega) (show 0 ≤ (1 : Int) from by first | decide | omega) (show (1 : Int) ≤ 1 from by first | decide | omega) htk (FsI.le (N' := (pf 13).toInt) hfs (by first | with_reducible rfl | with_reducible assumption | omega)) hwr (KnT.eq hkt (by first | with_reducible rfl | with_reducible assumption | omega)) (FnT.eq hft (by first | with_reducible rfl | with_reducible assumption | omega)) (KnS.eq hks (by first | with_reducible rfl | with_reducible assumption | omega) (by first | with_reducible rfl | with_reducible assumption | omega)) hfp (SyR.eq hsr (by first | with_reducible rfl | with_reducible assumption | omega) (by first | with_reducible rfl | with_reducible assumption | omega)) han hvc_x7_3 _) hT (pr := []) (pcs := [wdP cs h r g tf ta pf na ma_7 wa cf6 ca_7 ef ea xf xa]) hw (oX_call (P := (fun A U H => (oP A g U H))) (pr := []) oG_P hw hA hP) (px_recv hT hw 0 0 rfl rfl rfl) m13_33 m13_30 m13_32 ms_13_5 m1_21 q_Mpg_declareArray ⟨show (4 * d + 20) + 1 ≤ (4 * d + 22) from by first | with_reducible rfl | with_reducible assumption | omega, show 8 + (6 + 11) + (200 * d + 700) ≤ (200 * d + 780) from by first | with_reducible rfl | with_reducible assumption | omega⟩ hl.1 rfl (Nat.le_of_ble_eq_true rfl) d_Mpg_declare_56 ⟨Nat.le_of_ble_eq_true rfl, Nat.le_of_ble_eq_true rfl⟩) hw hA (fun v530 p529 H locs hp529 hw => ?_)
            obtain ⟨ma527, cf528, rfl, e531, e532, e533, e534, e535, e536, e537, e538, e539, e540, e541, e542, e543, e544, e545, e546, e547, e548, e549, e550, e551, e552, e553, e554⟩ := hp529
            replace e531 : (cf528 30).toInt = 0 → (cf6 30).toInt = 0 := e531
            replace e532 : WrV cf528 (tf 6).toInt := e532
            have hwr := e532
            have hw0_e532 := hwr.1
            replace e533 : (cf528 33).toInt = (cf6 33).toInt := e533
            replace e534 : (cf528 37).toInt = (cf6 37).toInt := e534
            replace e535 : (cf528 38).toInt = (cf6 38).toInt := e535
            replace e536 : (cf528 41).toInt = (cf6 41).toInt := e536
            replace e537 : (cf528 42).toInt = (cf6 42).toInt := e537
            replace e538 : (cf528 43).toInt = (cf6 43).toInt := e538
            replace e539 : (cf528 44).toInt = (cf6 44).toInt := e539
            replace e540 : (cf528 45).toInt = (cf6 45).toInt := e540
            replace e541 : (cf528 46).toInt = (cf6 46).toInt := e541
            replace e542 : (cf528 47).toInt = (cf6 47).toInt := e542
            replace e543 : (cf528 48).toInt = (cf6 48).toInt := e543
            replace e544 : (cf528 54).toInt = (cf6 54).toInt := e544
            replace e545 : (cf528 55).toInt = (cf6 55).toInt := e545
            replace e546 : (cf528 59).toInt = (cf6 59).toInt := e546
            replace e547 : Ann na ma0 ma527 := e547
            have han := e547
            replace e548 : FrC mid_7 md2 ma_7 ma527 := e548
            have hfc := hfc.tr e548 (by first | with_reducible rfl | with_reducible assumption | omega) (by first | with_reducible rfl | with_reducible assumption | omega)
            have hzts : ZTs cf528 ta ca_7 na ma0 (cf528 48).toInt ys nf ma527 lo mid_7 (na 17 p0.toNatClampNeg) x7_3 tv := ZTs.tr hzts (fun q => by first | with_reducible rfl | with_reducible assumption | omega) e548 (by first | with_reducible rfl | with_reducible assumption | omega) (CaG.rf (kn := 0) (ns := 5000)) (by first | with_reducible rfl | with_reducible assumption | omega) (by first | with_reducible rfl | with_reducible assumption | omega)
            replace e549 : 0 ≤ (cf528 58).toInt := e549
            replace e550 : (cf528 58).toInt ≤ 4096 := e550
            replace e551 : 0 ≤ v530.toInt := e551
            replace e552 : v530.toInt ≤ 4096 := e552
            replace e553 : (cf528 58).toInt ≤ 4 * v530.toInt := e553
            replace e554 : ZAv cf528 ta na ma527 x7_3 (cf528 58).toInt := e554
            have hanv := han
            replace hw : pw D A s.heap H locs [wdP cs h r g tf ta pf na ma527 wa cf528 ca_7 ef ea xf xa] := hw
            have lv530 := Int32.le_toInt v530
            have uv530 := Int32.toInt_lt v530
            refine lv_iadd S.x S.b d_Mpg_declare_59 ?_
            have lr555 := Int32.le_toInt (cf6 42)
            have ur555 := Int32.toInt_lt (cf6 42)
            refine lv_topi (fun z556 ez556 => ?_)
            have tz556 : z556.toInt = ((cf6 42).toInt + v530.toInt + 2147483648) % 4294967296 - 2147483648 := by rw [ez556]; exact i_add (cf6 42) v530
            have lz556 := Int32.le_toInt z556
            have uz556 := Int32.toInt_lt z556
            try replace tz556 : z556.toInt = (cf6 42).toInt + v530.toInt := by omega
            refine px_put S k_Mpg hT hw 0 0 42 rfl rfl (by decide) m10_33 rfl rfl rfl (Nat.le_of_ble_eq_true rfl) d_Mpg_declare_60 (w' := wdP cs h r g tf ta pf na ma527 wa (upd cf528 42 z556) ca_7 ef ea xf xa) (ps' := [wdP cs h r g tf ta pf na ma527 wa (upd cf528 42 z556) ca_7 ef ea xf xa]) rfl rfl (fun H locs hw => ?_)
            refine lv_aload_n S.x S.b d_Mpg_declare_63 rfl (lv_at hl 1 rfl) ?_
            refine px_get S k_Mpg hT hw 0 0 20 (v := .ref (r 20)) rfl rfl rfl (by decide) m10_6 d_Mpg_declare_64 ?_
            refine lv_iload_n S.x S.b d_Mpg_declare_67 rfl (lv_at hl 4 rfl) ?_
            refine lv_aload_n S.x S.b d_Mpg_declare_68 rfl (lv_at hl 1 rfl) ?_
            refine lv_aload_n S.x S.b d_Mpg_declare_69 rfl (lv_at hl 1 rfl) ?_
            refine px_get S k_Mpg hT hw 0 0 22 (v := .ref (r 22)) rfl rfl rfl (by decide) m10_9 d_Mpg_declare_70 ?_
            refine lv_iload_n S.x S.b d_Mpg_declare_73 rfl (lv_at hl 2 rfl) ?_
            refine px_iald S hT hw 0 18 (n := 2100) (f := (ma527 22)) rfl gp_22 (x := p0) (vp_in_iff.mpr (by first | exact oz_a7e05de1cd g23 g25 g1 g2 | (constructor <;> omega))) d_Mpg_declare_74 ?_
            refine lv_topi (fun z557 ez557 => ?_)
            have lz557 := Int32.le_toInt z557
            have uz557 := Int32.toInt_lt z557
            have rz557 : z557.toInt = (ma0 22 p0.toNatClampNeg).toInt := (by rw [ez557, Ann.v22 han (by first | with_reducible rfl | with_reducible assumption | omega)])
            refine lv_iconst (v := 1) S.x S.b d_Mpg_declare_75 (by decide) ?_
            refine lv_icmp_ne (tgt := 83) S.x S.b d_Mpg_declare_76 (by decide) (fun c558 => ?_) (fun c558 => ?_)
            · have nc558 : ¬ z557.toInt = (1 : Int) := mt (i_eq (x := z557) (y := 1)).mpr c558
              exfalso
              omega
            · have nc558 : z557.toInt = (1 : Int) := (i_eq (x := z557) (y := 1)).mp c558
              refine lv_iconst (v := 3) S.x S.b d_Mpg_declare_79 (by decide) ?_
              refine lv_goto (tgt := 84) S.x S.b d_Mpg_declare_80 (by decide) ?_
              refine lv_aload_n S.x S.b d_Mpg_declare_84 rfl (lv_at hl 1 rfl) ?_
              refine px_get S k_Mpg hT hw 0 0 58 (v := .int (cf528 58)) rfl rfl rfl (by decide) m10_55 d_Mpg_declare_85 ?_
              refine px_calli (pr := []) (px_runV (As := [.int 3, .int (cf528 58)]) (rest := [.int x7_3, .ref (r 20)]) S (c_mp_lay l D cs h r g tf ta pf na ma527 wa ef ea xf xa (upd cf528 42 z556) ca_7 3 (cf528 58)  (show 0 ≤ (cf528 48).toInt from by first | exact oz_34de85669e e543 e13 k7_20 g14 g15 k7_16 k7_18 | omega) (show (cf528 48).toInt < 1100 from by first | exact oz_75b62dc8f3 e543 e13 k7_15 g8 k7_31 | omega) (show 0 ≤ (3 : Int) from by first | decide | omega) (show (3 : Int) ≤ 5 from by first | decide | omega) (show 0 ≤ (cf528 58).toInt from by first | exact e549 | omega) (show (cf528 58).toInt ≤ 4096 from by first | exact e550 | omega) (show 0 ≤ (cf528 54).toInt from by first | exact oz_9bcc310e9c e544 e22 k7_16 g12 | omega) (show (cf528 54).toInt ≤ 40000000 from by first | exact oz_17a0157d43 e544 e22 k7_19 g8 g13 k7_15 k7_31 | omega) htk _) hT (pr := []) (pcs := [wdP cs h r g tf ta pf na ma527 wa (upd cf528 42 z556) ca_7 ef ea xf xa]) hw px_X.tt (px_recv hT hw 0 0 rfl rfl rfl) m12_189 m12_186 m12_188 ms_12_0 m1_21 q_Mpg_lay ⟨show 0 + 1 ≤ (4 * d + 22) from by first | with_reducible rfl | with_reducible assumption | omega, show 8 + (3 + 11) + 0 ≤ (200 * d + 780) from by first | with_reducible rfl | with_reducible assumption | omega⟩ hl.1 rfl (Nat.le_of_ble_eq_true rfl) d_Mpg_declare_88 ⟨Nat.le_of_ble_eq_true rfl, Nat.le_of_ble_eq_true rfl⟩) hw hA (fun v564 p563 H locs hp563 hw => ?_)
              obtain ⟨cf561, ca562, rfl, e565, e566, e567, e568, e569, e570, e571, e572, e573, e574, e575, e576, e577, e578, e579, e580, e581, e582, e583, e584, e585, e586, e587⟩ := hp563
              replace e565 : v564.toInt = (cf528 48).toInt := e565
              replace e566 : (cf561 48).toInt = (cf528 48).toInt + 1 := e566
              replace e567 : (cf528 54).toInt ≤ (cf561 54).toInt := e567
              replace e568 : (cf561 54).toInt ≤ (cf528 54).toInt + 4096 := e568
              replace e569 : (3 : Int) ≤ 3 → (cf561 54).toInt = (cf528 54).toInt + (cf528 58).toInt := e569
              replace e570 : 4 ≤ (3 : Int) → (cf561 54).toInt = (cf528 54).toInt + 2 := e570
              replace e571 : (cf561 30).toInt = (cf528 30).toInt := e571
              replace e572 : (cf561 31).toInt = (cf528 31).toInt := e572
              replace e573 : (cf561 33).toInt = (cf528 33).toInt := e573
              replace e574 : (cf561 37).toInt = (cf528 37).toInt := e574
              replace e575 : (cf561 38).toInt = (cf528 38).toInt := e575
              replace e576 : (cf561 41).toInt = (cf528 41).toInt := e576
              replace e577 : (cf561 42).toInt = z556.toInt := e577
              replace e578 : (cf561 43).toInt = (cf528 43).toInt := e578
              replace e579 : (cf561 44).toInt = (cf528 44).toInt := e579
              replace e580 : (cf561 45).toInt = (cf528 45).toInt := e580
              replace e581 : (cf561 46).toInt = (cf528 46).toInt := e581
              replace e582 : (cf561 47).toInt = (cf528 47).toInt := e582
              replace e583 : (cf561 55).toInt = (cf528 55).toInt := e583
              replace e584 : (cf561 57).toInt = (cf528 57).toInt := e584
              replace e585 : (cf561 58).toInt = (cf528 58).toInt := e585
              replace e586 : (cf561 59).toInt = (cf528 59).toInt := e586
              replace e587 : LyU ca_7 ca562 (cf528 48) (3 : Int32) (cf528 54) (cf528 58) (txo (cf528 43).toInt) := e587
              have hlu : LyU ca_7 ca562 (cf528 48) (3 : Int32) (cf528 54) (cf528 58) tx := (by rw [← htx]; exact (by rw [show (cf 43).toInt = (cf528 43).toInt by omega]; exact e587))
              have hcl_e587 : CaG ca_7 ca562 (cf561 33).toInt (cf528 48).toInt := cag_ly hlu (by first | with_reducible rfl | with_reducible assumption | omega) (by first | with_reducible rfl | with_reducible assumption | omega)
              have hsr : SyR ca562 ys (cf561 48).toInt (cf561 54).toInt tx := SyR.eq (SyR.ly (cells' := (cf561 54).toInt) (SyR.eq hsr (ns' := (cf528 48).toInt) (by first | with_reducible rfl | with_reducible assumption | omega) rfl) hlu rfl (by first | with_reducible rfl | with_reducible assumption | omega) (by first | with_reducible rfl | with_reducible assumption | omega) (by first | with_reducible rfl | with_reducible assumption | omega) ⟨by first | with_reducible rfl | with_reducible assumption | omega, by first | with_reducible rfl | with_reducible assumption | omega⟩ ⟨by first | with_reducible rfl | with_reducible assumption | omega, by first | with_reducible rfl | with_reducible assumption | omega⟩ (fun q => by first | with_reducible rfl | with_reducible assumption | omega) (fun q => by first | with_reducible rfl | with_reducible assumption | omega) (fun q => by first | with_reducible rfl | with_reducible assumption | omega)) (by first | with_reducible rfl | with_reducible assumption | omega) rfl
              have hkt := hkt.cg hcl_e587 (by first | with_reducible rfl | with_reducible assumption | omega)
              have hks := hks.cg hcl_e587 (by first | with_reducible rfl | with_reducible assumption | omega) (by first | with_reducible rfl | with_reducible assumption | omega) (n2 := (cf561 48).toInt) (by first | with_reducible rfl | with_reducible assumption | omega)
              have hcg := hcg.tr hcl_e587 (by first | with_reducible rfl | with_reducible assumption | omega) (by first | with_reducible rfl | with_reducible assumption | omega)
              have hft := hft.cg hcl_e587
              have hfp := hfp.cg hcl_e587
              have hzts : ZTs cf561 ta ca562 na ma0 (cf561 48).toInt ys nf ma527 lo mid_7 (na 17 p0.toNatClampNeg) x7_3 tv := ZTs.tr hzts (fun q => by first | with_reducible rfl | with_reducible assumption | omega) (FrC.rf (lo := 0) (hi := 0)) (by first | with_reducible rfl | with_reducible assumption | omega) hcl_e587 (by first | with_reducible rfl | with_reducible assumption | omega) (by first | with_reducible rfl | with_reducible assumption | omega)
              have hs49 : (ca562 49 (cf528 48).toNatClampNeg).toInt = (3 : Int) := (by rw [hlu.2.1 (by first | with_reducible rfl | with_reducible assumption | omega) (by first | with_reducible rfl | with_reducible assumption | omega)]; rfl)
              have hs52 : (ca562 52 (cf528 48).toNatClampNeg).toInt = (cf528 58).toInt := (by rw [hlu.2.2.2.1])
              have hsy : SyA ca562 (cf561 48).toInt ys (cf528 48) := hlu.sa (by first | with_reducible rfl | with_reducible assumption | omega) (by first | with_reducible rfl | with_reducible assumption | omega) ⟨by first | with_reducible rfl | with_reducible assumption | omega, by first | with_reducible rfl | with_reducible assumption | omega⟩ (by first | with_reducible rfl | with_reducible assumption | omega)
              have hs3 : Sy3 ca562 (cf 48).toInt (cf561 48).toInt := Sy3.eq (Sy3.ly (Sy3.eq hs3 (b' := (cf528 48).toInt) (by first | with_reducible rfl | with_reducible assumption | omega)) hlu rfl (by first | with_reducible rfl | with_reducible assumption | omega) (by first | with_reducible rfl | with_reducible assumption | omega)) (by first | with_reducible rfl | with_reducible assumption | omega)
              have hwr : WrV cf561 (tf 6).toInt := WrV.eq hwr (by first | with_reducible rfl | with_reducible assumption | omega) (by first | with_reducible rfl | with_reducible assumption | omega)
              replace hw : pw D A s.heap H locs [wdP cs h r g tf ta pf na ma527 wa cf561 ca562 ef ea xf xa] := hw
              have lv564 := Int32.le_toInt v564
              have uv564 := Int32.toInt_lt v564
              have hyv : (cf528 48) = v564 := i_eq.mpr (by first | with_reducible rfl | with_reducible assumption | omega); rw [hyv] at hsy hs49 hs52
              refine px_iast S hT hw 0 16 (n := 2100) (f := (ma527 20)) (x := x7_3) (y := v564) rfl gp_20 (vp_in_iff.mpr (by constructor <;> omega)) d_Mpg_declare_91 (w' := wdP cs h r g tf ta pf na (va_up ma527 20 (upd (ma527 20) x7_3.toNatClampNeg v564)) wa cf561 ca562 ef ea xf xa) (ps' := [wdP cs h r g tf ta pf na (va_up ma527 20 (upd (ma527 20) x7_3.toNatClampNeg v564)) wa cf561 ca562 ef ea xf xa]) sp_20 rfl (fun H locs hw => ?_)
              obtain ⟨ma588, hu_ma588⟩ : ∃ y : Nat → Nat → Int32, y = va_up ma527 20 (upd (ma527 20) x7_3.toNatClampNeg v564) := ⟨_, rfl⟩
              have hw : pw D A s.heap _ _ [wdP cs h r g tf ta pf na ma588 wa cf561 ca562 ef ea xf xa] := (by rw [hu_ma588]; exact hw)
              have hf1_ma588 : FrC x7_3.toInt (x7_3.toInt + 1) ma527 ma588 := (by rw [hu_ma588]; exact FrC.w FrC.rf (by first | with_reducible rfl | with_reducible assumption | omega) (by first | with_reducible rfl | with_reducible assumption | omega) (by first | with_reducible rfl | with_reducible assumption | omega))
              have han : Ann na ma0 ma588 := (by rw [hu_ma588]; exact Ann.w20 han (by first | with_reducible rfl | with_reducible assumption | omega))
              have hfc := hfc.tr hf1_ma588 (by first | with_reducible rfl | with_reducible assumption | omega) (by first | with_reducible rfl | with_reducible assumption | omega)
              have hzts : ZTs cf561 ta ca562 na ma0 (cf561 48).toInt ys nf ma588 lo mid_7 (na 17 p0.toNatClampNeg) x7_3 tv := ZTs.tr hzts (fun q => by first | with_reducible rfl | with_reducible assumption | omega) hf1_ma588 (by first | with_reducible rfl | with_reducible assumption | omega) (CaG.rf (kn := 0) (ns := 5000)) (by first | with_reducible rfl | with_reducible assumption | omega) (by first | with_reducible rfl | with_reducible assumption | omega)
              have hv_20_x7_3 : ma588 20 x7_3.toNatClampNeg = v564 := (by rw [hu_ma588, va_up_s, pk_us])
              have hnhv_20_x7_3 : (ma588 20 x7_3.toNatClampNeg).toInt = v564.toInt := (by rw [hv_20_x7_3])
              refine lv_aload_n S.x S.b d_Mpg_declare_92 rfl (lv_at hl 1 rfl) ?_
              refine lv_iload S.x S.b d_Mpg_declare_93 (lv_at hl 0 rfl) ?_
              refine lv_aload_n S.x S.b d_Mpg_declare_95 rfl (lv_at hl 1 rfl) ?_
              refine px_get S k_Mpg hT hw 0 0 22 (v := .ref (r 22)) rfl rfl rfl (by decide) m10_9 d_Mpg_declare_96 ?_
              refine lv_iload_n S.x S.b d_Mpg_declare_99 rfl (lv_at hl 2 rfl) ?_
              refine px_iald S hT hw 0 18 (n := 2100) (f := (ma588 22)) rfl gp_22 (x := p0) (vp_in_iff.mpr (by first | exact oz_a7e05de1cd g23 g25 g1 g2 | (constructor <;> omega))) d_Mpg_declare_100 ?_
              refine lv_topi (fun z589 ez589 => ?_)
              have lz589 := Int32.le_toInt z589
              have uz589 := Int32.toInt_lt z589
              have rz589 : z589.toInt = (ma0 22 p0.toNatClampNeg).toInt := (by rw [ez589, Ann.v22 han (by first | with_reducible rfl | with_reducible assumption | omega)])
              refine lv_iconst (v := 1) S.x S.b d_Mpg_declare_101 (by decide) ?_
              refine lv_icmp_ne (tgt := 109) S.x S.b d_Mpg_declare_102 (by decide) (fun c590 => ?_) (fun c590 => ?_)
              · have nc590 : ¬ z589.toInt = (1 : Int) := mt (i_eq (x := z589) (y := 1)).mpr c590
                exfalso
                omega
              · have nc590 : z589.toInt = (1 : Int) := (i_eq (x := z589) (y := 1)).mp c590
                refine lv_iconst (v := 3) S.x S.b d_Mpg_declare_105 (by decide) ?_
                refine lv_goto (tgt := 110) S.x S.b d_Mpg_declare_106 (by decide) ?_
                refine lv_iconst (v := 0) S.x S.b d_Mpg_declare_110 (by decide) ?_
                refine lv_aload_n S.x S.b d_Mpg_declare_111 rfl (lv_at hl 1 rfl) ?_
                refine px_get S k_Mpg hT hw 0 0 20 (v := .ref (r 20)) rfl rfl rfl (by decide) m10_6 d_Mpg_declare_112 ?_
                refine lv_iload_n S.x S.b d_Mpg_declare_115 rfl (lv_at hl 4 rfl) ?_
                refine px_iald S hT hw 0 16 (n := 2100) (f := (ma588 20)) rfl gp_20 (x := x7_3) (vp_in_iff.mpr (by constructor <;> omega)) d_Mpg_declare_116 ?_
                refine lv_topi (fun z591 ez591 => ?_)
                have lz591 := Int32.le_toInt z591
                have uz591 := Int32.toInt_lt z591
                have hsz591 : v564 = z591 := (ez591.trans hv_20_x7_3).symm; subst hsz591
                refine px_callv (pr := []) (px_runV (As := [.int z4, .int 3, .int 0, .int v564]) (rest := []) S (c_mp_know l D cs h r g tf ta pf na ma588 wa ef ea xf xa cf561 ca562 z4 3 0 v564  (show 0 ≤ (cf561 33).toInt from by first | exact oz_eb53d9d016 e573 e533 e11 k7_12 g4 | omega) (show (cf561 33).toInt < 1100 from by first | exact oz_3ef51c39d5 e573 e533 e11 k7_13 g6 k7_31 | omega) htk _) hT (pr := []) (pcs := [wdP cs h r g tf ta pf na ma588 wa cf561 ca562 ef ea xf xa]) hw px_X.tt (px_recv hT hw 0 0 rfl rfl rfl) m12_193 m12_190 m12_192 ms_12_1 m1_21 q_Mpg_know ⟨show 0 + 1 ≤ (4 * d + 22) from by first | with_reducible rfl | with_reducible assumption | omega, show 8 + (5 + 11) + 0 ≤ (200 * d + 780) from by first | with_reducible rfl | with_reducible assumption | omega⟩ hl.1 rfl (Nat.le_of_ble_eq_true rfl) d_Mpg_declare_117 ⟨Nat.le_of_ble_eq_true rfl, Nat.le_of_ble_eq_true rfl⟩) hw hA (fun p596 H locs hp596 hw => ?_)
                obtain ⟨cf594, ca595, rfl, e598, e599, e600, e601, e602, e603, e604, e605, e606, e607, e608, e609, e610, e611, e612, e613, e614, e615, e616⟩ := hp596
                replace e598 : (cf594 33).toInt = (cf561 33).toInt + 1 := e598
                replace e599 : (cf594 30).toInt = (cf561 30).toInt := e599
                replace e600 : (cf594 31).toInt = (cf561 31).toInt := e600
                replace e601 : (cf594 37).toInt = (cf561 37).toInt := e601
                replace e602 : (cf594 38).toInt = (cf561 38).toInt := e602
                replace e603 : (cf594 41).toInt = (cf561 41).toInt := e603
                replace e604 : (cf594 42).toInt = (cf561 42).toInt := e604
                replace e605 : (cf594 43).toInt = (cf561 43).toInt := e605
                replace e606 : (cf594 44).toInt = (cf561 44).toInt := e606
                replace e607 : (cf594 45).toInt = (cf561 45).toInt := e607
                replace e608 : (cf594 46).toInt = (cf561 46).toInt := e608
                replace e609 : (cf594 47).toInt = (cf561 47).toInt := e609
                replace e610 : (cf594 48).toInt = (cf561 48).toInt := e610
                replace e611 : (cf594 54).toInt = (cf561 54).toInt := e611
                replace e612 : (cf594 55).toInt = (cf561 55).toInt := e612
                replace e613 : (cf594 57).toInt = (cf561 57).toInt := e613
                replace e614 : (cf594 58).toInt = (cf561 58).toInt := e614
                replace e615 : (cf594 59).toInt = (cf561 59).toInt := e615
                replace e616 : KwU ca562 ca595 (cf561 33) z4 (3 : Int32) (0 : Int32) v564 := e616
                have hcw_e616 : CaG ca562 ca595 (cf561 33).toInt (cf594 48).toInt := cag_kw e616 (by first | with_reducible rfl | with_reducible assumption | omega) (by first | with_reducible rfl | with_reducible assumption | omega)
                have hkt : KnT (tf 6).toInt ca595 (cf594 33).toInt := KnT.eq (KnT.kw (KnT.eq hkt (n' := (cf561 33).toInt) (by first | with_reducible rfl | with_reducible assumption | omega)) e616 rfl (by first | with_reducible rfl | with_reducible assumption | omega) (by first | with_reducible rfl | with_reducible assumption | omega) ⟨by first | with_reducible rfl | with_reducible assumption | omega, by first | with_reducible rfl | with_reducible assumption | omega⟩) (by first | with_reducible rfl | with_reducible assumption | omega)
                have hks : KnS ca595 (cf594 33).toInt (cf594 48).toInt ys := KnS.eq (KnS.kw (KnS.eq hks (n' := (cf561 33).toInt) (by first | with_reducible rfl | with_reducible assumption | omega) rfl) e616 rfl (by first | with_reducible rfl | with_reducible assumption | omega) (Or.inr (Or.inl ⟨by first | with_reducible rfl | with_reducible assumption | omega, hsy⟩))) (by first | with_reducible rfl | with_reducible assumption | omega) (by first | with_reducible rfl | with_reducible assumption | omega)
                have hcg := hcg.tr hcw_e616 (by first | with_reducible rfl | with_reducible assumption | omega) (by first | with_reducible rfl | with_reducible assumption | omega)
                have hft := hft.cg hcw_e616
                have hfp := hfp.cg hcw_e616
                have hsr := hsr.cg hcw_e616 (by first | with_reducible rfl | with_reducible assumption | omega)
                have hzts : ZTs cf594 ta ca595 na ma0 (cf594 48).toInt ys nf ma588 lo mid_7 (na 17 p0.toNatClampNeg) x7_3 tv := ZTs.tr hzts (fun q => by first | with_reducible rfl | with_reducible assumption | omega) (FrC.rf (lo := 0) (hi := 0)) (by first | with_reducible rfl | with_reducible assumption | omega) hcw_e616 (by first | with_reducible rfl | with_reducible assumption | omega) (by first | with_reducible rfl | with_reducible assumption | omega)
                have hs3 : Sy3 ca595 (cf 48).toInt (cf594 48).toInt := Sy3.eq (hs3.cg hcw_e616 (by first | with_reducible rfl | with_reducible assumption | omega)) (by first | with_reducible rfl | with_reducible assumption | omega)
                have hsb_e616 := hsy.1.1
                have hcy_e616 := cl_nat (x := v564) (by first | exact oz_f3ebed1ad0 e565 hsb_e616.1 | omega)
                have hs49 : (ca595 49 v564.toNatClampNeg).toInt = _ := (congrArg Int32.toInt (hcw_e616.2.2 _ (by first | with_reducible rfl | with_reducible assumption | omega)).1).trans hs49
                have hs52 : (ca595 52 v564.toNatClampNeg).toInt = _ := (congrArg Int32.toInt (hcw_e616.2.2 _ (by first | with_reducible rfl | with_reducible assumption | omega)).2.2.2).trans hs52
                have hsy : SyA ca595 (cf594 48).toInt ys v564 := hsy.cg hcw_e616 (by first | with_reducible rfl | with_reducible assumption | omega) (by first | with_reducible rfl | with_reducible assumption | omega)
                have hwr : WrV cf594 (tf 6).toInt := WrV.eq hwr (by first | with_reducible rfl | with_reducible assumption | omega) (by first | with_reducible rfl | with_reducible assumption | omega)
                replace hw : pw D A s.heap H locs [wdP cs h r g tf ta pf na ma588 wa cf594 ca595 ef ea xf xa] := hw
                refine lv_goto (tgt := 223) S.x S.b d_Mpg_declare_120 (by decide) ?_
                refine lv_aload_n S.x S.b d_Mpg_declare_223 rfl (lv_at hl 1 rfl) ?_
                refine px_get S k_Mpg hT hw 0 0 21 (v := .ref (r 21)) rfl rfl rfl (by decide) m10_7 d_Mpg_declare_224 ?_
                refine lv_iload_n S.x S.b d_Mpg_declare_227 rfl (lv_at hl 4 rfl) ?_
                refine px_iald S hT hw 0 17 (n := 2100) (f := (na 21)) rfl gp_21 (x := x7_3) (vp_in_iff.mpr (by constructor <;> omega)) d_Mpg_declare_228 ?_
                refine lv_topi (fun z617 ez617 => ?_)
                have lz617 := Int32.le_toInt z617
                have uz617 := Int32.toInt_lt z617
                refine lv_istore_n (lv' := [(3, .int z617), (4, .int z4), (0, .ref h), (1, .int p0), (2, .int p1)]) S.x S.b d_Mpg_declare_229 rfl hl (by decide) rfl (fun ls hl => ?_)
                refine lv_goto (tgt := 7) S.x S.b d_Mpg_declare_230 (by decide) ?_
                exact ih7 ma588 cf594 ca595 md2 (wr_7 - wv3) z617 _ _ ls (show (cf594 30).toInt = 0 → (cf 30).toInt = 0 from by first | with_reducible rfl | with_reducible assumption | omega) (show WrV cf594 (tf 6).toInt from hwr) (show (cf594 37).toInt = (cf 37).toInt from by first | exact oz_0867352dd7 k7_2 e601 e17 e574 e534 | omega) (show (cf594 38).toInt = (cf 38).toInt from by first | exact oz_0867352dd7 k7_3 e602 e12 e575 e535 | omega) (show (cf594 43).toInt = (cf 43).toInt from by first | exact oz_0867352dd7 k7_4 e605 e19 e578 e538 | omega) (show (cf594 44).toInt = (cf 44).toInt from by first | exact oz_0867352dd7 k7_5 e606 e20 e579 e539 | omega) (show (cf594 45).toInt = (cf 45).toInt from by first | exact oz_0867352dd7 k7_6 e607 e21 e580 e540 | omega) (show (cf594 46).toInt = (cf 46).toInt from by first | exact oz_0867352dd7 k7_7 e608 e14 e581 e541 | omega) (show (cf594 47).toInt = (cf 47).toInt from by first | exact oz_0867352dd7 k7_8 e609 e15 e582 e542 | omega) (show (cf594 41).toInt = (cf 41).toInt from by first | exact oz_0867352dd7 k7_9 e603 e26 e576 e536 | omega) (show (cf594 55).toInt = (cf 55).toInt from by first | exact oz_0867352dd7 k7_10 e612 e23 e583 e545 | omega) (show (cf594 59).toInt = (cf 59).toInt from by first | exact oz_0867352dd7 k7_11 e615 e25 e586 e546 | omega) (show (cf 33).toInt ≤ (cf594 33).toInt from by first | exact oz_a101ed4aa6 k7_12 e598 e11 e573 e533 | omega) (show 6 * (cf594 33).toInt ≤ 6 * (cf 33).toInt + (w - (wr_7 - wv3)) from by first | with_reducible rfl | with_reducible assumption | omega) (show (cf 48).toInt ≤ (cf594 48).toInt from by first | exact oz_788511b878 k7_20 e610 k7_16 k7_18 e13 hsb_e616.2 e543 | omega) (show 6 * (cf594 48).toInt ≤ 6 * (cf 48).toInt + (w - (wr_7 - wv3)) from by first | with_reducible rfl | with_reducible assumption | omega) (show (cf 54).toInt ≤ (cf594 54).toInt from by first | exact oz_39bc41608f k7_16 e611 e22 e567 e544 | omega) (show (cf 42).toInt ≤ (cf594 42).toInt from by first | exact oz_a38eb904f0 k7_18 e604 k7_16 e18 e577 tz556 e551 | omega) (show (cf594 54).toInt - (cf 54).toInt ≤ 4 * ((cf594 42).toInt - (cf 42).toInt) from by first | exact oz_232d3ab33c k7_18 e604 e611 e18 e22 e577 e569 e544 e553 tz556 | omega) (show (cf594 54).toInt - (cf 54).toInt ≤ 4096 * ((cf594 48).toInt - (cf 48).toInt) from by first | exact oz_0e3be830c4 k7_19 e610 e611 e13 e22 e568 hsb_e616.2 e543 e544 | omega) (show (cf594 42).toInt - (cf 42).toInt ≤ 4096 * ((cf594 48).toInt - (cf 48).toInt) from by first | exact oz_7cb314f517 k7_20 e604 e610 e13 e18 e577 hsb_e616.2 e543 tz556 e552 | omega) (show KnT (tf 6).toInt ca595 (cf594 33).toInt from (KnT.eq hkt (by first | with_reducible rfl | with_reducible assumption | omega))) (show KnS ca595 (cf594 33).toInt (cf594 48).toInt ys from (KnS.eq hks (by first | with_reducible rfl | with_reducible assumption | omega) (by first | with_reducible rfl | with_reducible assumption | omega))) (show CaG ca ca595 (cf 33).toInt (cf 48).toInt from (hcg.le (by first | with_reducible rfl | with_reducible assumption | omega) (by first | with_reducible rfl | with_reducible assumption | omega))) (show SyR ca595 ys (cf594 48).toInt (cf594 54).toInt tx from (SyR.eq hsr (by first | with_reducible rfl | with_reducible assumption | omega) (by first | with_reducible rfl | with_reducible assumption | omega))) (show Ann na ma0 ma588 from han) (show FrC lo hi ma ma588 from hfc) (show Sy3 ca595 (cf 48).toInt (cf594 48).toInt from (Sy3.eq hs3 (by first | with_reducible rfl | with_reducible assumption | omega))) (show lo ≤ md2 from by first | exact hm1_md2 | omega) (show p0.toInt + 1 ≤ md2 from by first | with_reducible rfl | with_reducible assumption | omega) (show md2 ≤ hi from by first | exact hm2_md2 | omega) (show 0 ≤ (wr_7 - wv3) from by first | with_reducible rfl | with_reducible assumption | omega) (show (wr_7 - wv3) ≤ w from by first | with_reducible rfl | with_reducible assumption | omega) (show RvV ta (tf 6).toInt na ma0 d md2 hi (wr_7 - wv3) z617 from (by rw [ez617]; exact hrv2)) (show ZTs cf594 ta ca595 na ma0 (cf594 48).toInt ys nf ma588 lo md2 (na 17 p0.toNatClampNeg) z617 tv from (ZTs.nx (ZTs.to hzts (fun q => by first | with_reducible rfl | with_reducible assumption | omega) (by first | with_reducible rfl | with_reducible assumption | omega) (Int.le_refl _) (by first | with_reducible rfl | with_reducible assumption | omega) rfl) (show ZTe cf594 ta ca595 na ma0 (cf594 48).toInt ys nf ma588 lo md2 x7_3 tv from (fun zz => tyv_2 ⟨by first | with_reducible rfl | with_reducible assumption | omega, by first | with_reducible rfl | with_reducible assumption | omega, by first | with_reducible rfl | with_reducible assumption | omega⟩ (by first | with_reducible rfl | with_reducible assumption | omega) (by first | with_reducible rfl | with_reducible assumption | omega) (by rw [hv_20_x7_3]; exact hsy) (by show (ca595 49 (ma588 20 x7_3.toNatClampNeg).toNatClampNeg).toInt ≤ 3; rw [hv_20_x7_3]; omega) (by show AvC ta na _ x7_3 (ca595 52 (ma588 20 x7_3.toNatClampNeg).toNatClampNeg).toInt; rw [hv_20_x7_3, hs52]; exact ZAv.to e554 (fun q => by first | with_reducible rfl | with_reducible assumption | omega) hanv han (by first | with_reducible rfl | with_reducible assumption | omega) zz))) (by first | with_reducible rfl | with_reducible assumption | omega) ez617)) (show hi - md2 < (n_7 : Int) from by first | with_reducible rfl | with_reducible assumption | omega) hw (lv_sub hl [2, 3, 4, 0] rfl)
  refine lv_aload_n S.x S.b d_Mpg_declare_0 rfl (lv_at hl 0 rfl) ?_
  refine px_get S k_Mpg hT hw 0 0 17 (v := .ref (r 17)) rfl rfl rfl (by decide) m10_1 d_Mpg_declare_1 ?_
  refine lv_iload_n S.x S.b d_Mpg_declare_4 rfl (lv_at hl 1 rfl) ?_
  refine px_iald S hT hw 0 13 (n := 2100) (f := (na 17)) rfl gp_17 (x := p0) (vp_in_iff.mpr (by first | exact oz_a7e05de1cd g23 g25 g1 g2 | (constructor <;> omega))) d_Mpg_declare_5 ?_
  refine lv_topi (fun z618 ez618 => ?_)
  have lz618 := Int32.le_toInt z618
  have uz618 := Int32.toInt_lt z618
  have rz618 : z618.toInt = (na 17 p0.toNatClampNeg).toInt := by rw [ez618]
  refine lv_istore_n (lv' := [(3, .int z618), (0, .ref h), (1, .int p0), (2, .int p1)]) S.x S.b d_Mpg_declare_6 rfl hl (by decide) rfl (fun ls hl => ?_)
  exact J7 ((hi - (p0.toInt + 1)).toNat + 1) ma cf ca (p0.toInt + 1) w z618 _ _ ls (show (cf 30).toInt = 0 → (cf 30).toInt = 0 from by first | exact fun q9 => q9 | omega) (show WrV cf (tf 6).toInt from hwr) (show (cf 37).toInt = (cf 37).toInt from rfl) (show (cf 38).toInt = (cf 38).toInt from rfl) (show (cf 43).toInt = (cf 43).toInt from rfl) (show (cf 44).toInt = (cf 44).toInt from rfl) (show (cf 45).toInt = (cf 45).toInt from rfl) (show (cf 46).toInt = (cf 46).toInt from rfl) (show (cf 47).toInt = (cf 47).toInt from rfl) (show (cf 41).toInt = (cf 41).toInt from rfl) (show (cf 55).toInt = (cf 55).toInt from rfl) (show (cf 59).toInt = (cf 59).toInt from rfl) (show (cf 33).toInt ≤ (cf 33).toInt from by first | exact oz_1cb5f934a5 | omega) (show 6 * (cf 33).toInt ≤ 6 * (cf 33).toInt + (w - w) from by first | exact oz_1c3b0c11f9 | omega) (show (cf 48).toInt ≤ (cf 48).toInt from by first | exact oz_1cb5f934a5 | omega) (show 6 * (cf 48).toInt ≤ 6 * (cf 48).toInt + (w - w) from by first | exact oz_1c3b0c11f9 | omega) (show (cf 54).toInt ≤ (cf 54).toInt from by first | exact oz_1cb5f934a5 | omega) (show (cf 42).toInt ≤ (cf 42).toInt from by first | exact oz_1cb5f934a5 | omega) (show (cf 54).toInt - (cf 54).toInt ≤ 4 * ((cf 42).toInt - (cf 42).toInt) from by first | exact oz_a1153f1990 | omega) (show (cf 54).toInt - (cf 54).toInt ≤ 4096 * ((cf 48).toInt - (cf 48).toInt) from by first | exact oz_f4137ca117 | omega) (show (cf 42).toInt - (cf 42).toInt ≤ 4096 * ((cf 48).toInt - (cf 48).toInt) from by first | exact oz_f4137ca117 | omega) (show KnT (tf 6).toInt ca (cf 33).toInt from (KnT.eq hkt (by first | with_reducible rfl | with_reducible assumption | omega))) (show KnS ca (cf 33).toInt (cf 48).toInt ys from (KnS.eq hks (by first | with_reducible rfl | with_reducible assumption | omega) (by first | with_reducible rfl | with_reducible assumption | omega))) (show CaG ca ca (cf 33).toInt (cf 48).toInt from (hcg.le (by first | with_reducible rfl | with_reducible assumption | omega) (by first | with_reducible rfl | with_reducible assumption | omega))) (show SyR ca ys (cf 48).toInt (cf 54).toInt tx from (SyR.eq hsr (by first | with_reducible rfl | with_reducible assumption | omega) (by first | with_reducible rfl | with_reducible assumption | omega))) (show Ann na ma0 ma from han) (show FrC lo hi ma ma from hfc) (show Sy3 ca (cf 48).toInt (cf 48).toInt from (Sy3.eq hs3 (by first | with_reducible rfl | with_reducible assumption | omega))) (show lo ≤ (p0.toInt + 1) from by first | exact oz_2b1b45a940 g24 | omega) (show p0.toInt + 1 ≤ (p0.toInt + 1) from by first | exact oz_a1bc7e1f12 | omega) (show (p0.toInt + 1) ≤ hi from by first | exact oz_8cd8185cc8 g25 | omega) (show 0 ≤ w from by first | exact g5 | omega) (show w ≤ w from by first | exact oz_1cb5f934a5 | omega) (show RvV ta (tf 6).toInt na ma0 d (p0.toInt + 1) hi w z618 from (by rw [ez618]; exact hrv)) (show ZTs cf ta ca na ma0 (cf 48).toInt ys nf ma lo (p0.toInt + 1) (na 17 p0.toNatClampNeg) z618 tv from (zts_0 ez618.symm)) (show hi - (p0.toInt + 1) < ((((hi - (p0.toInt + 1)).toNat + 1 : Nat) : Int) : Int) from by first | exact oz_natlt | omega) hw (lv_sub hl [1, 2, 3, 0] rfl)
